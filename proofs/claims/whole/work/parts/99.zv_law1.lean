/-! the law's loop: its branches -/
section
variable {X : av_X} {d : Nat} {h : av_H} {v4 x n : Int32}
theorem lw_0 (hl : av_len X h (some 1000000) = some n) (hn : ¬ n - 8 < v4) (hx : av_lI X h (some 1000000) v4 = some x) (hk : x &&& 63 = 0) : bd X d 384 13 [(0, vr (some 1000000)), (1, vr (some 0)), (2, vr (some 137)), (3, vr (some 225)), (4, vi v4)] [] h =
    ((av_lI X h (some 1000000) (v4 + (1 : Int32))).bind fun x3 =>
    (av_lI X h (some 1000000) (v4 + (2 : Int32))).bind fun x4 =>
    (av_lI X h (some 1000000) (v4 + (3 : Int32))).bind fun x5 =>
    if av_is h (some 0) 10 = true then (
    (av_cI (ev X d 127 [vr (some 0), vi x3, vi x4, vi x5] h)).bind fun q6 =>
    (av_lI X q6.2 (some 1000000) (v4 + (1 : Int32))).bind fun x7 =>
    (av_lI X q6.2 (some 1000000) (v4 + (2 : Int32))).bind fun x8 =>
    (av_lI X q6.2 (some 1000000) (v4 + (3 : Int32))).bind fun x9 =>
    if av_is q6.2 (some 137) 11 = true then (
    (av_cI (ev X d 262 [vr (some 137), vi x7, vi x8, vi x9] q6.2)).bind fun q10 =>
    if q6.1 = q10.1 then
      (bd X d 384 13 [(0, vr (some 1000000)), (1, vr (some 0)), (2, vr (some 137)), (3, vr (some 225)), (4, vi (v4 + (8 : Int32)))] [] q10.2)
    else (av_bz (0 : Int32)).bind fun w => av_rI w q10.2) else none) else none) := by
  rw [b_384_13, hl, Option.bind_some, if_neg hn, hx, Option.bind_some, hk]
  rfl
theorem lw_1 (hl : av_len X h (some 1000000) = some n) (hn : ¬ n - 8 < v4) (hx : av_lI X h (some 1000000) v4 = some x) (hk : x &&& 63 = 1) : bd X d 384 13 [(0, vr (some 1000000)), (1, vr (some 0)), (2, vr (some 137)), (3, vr (some 225)), (4, vi v4)] [] h =
    ((av_lI X h (some 1000000) (v4 + (1 : Int32))).bind fun x11 =>
    (av_lI X h (some 1000000) (v4 + (2 : Int32))).bind fun x12 =>
    (av_lI X h (some 1000000) (v4 + (3 : Int32))).bind fun x13 =>
    (av_lI X h (some 1000000) (v4 + (4 : Int32))).bind fun x14 =>
    (av_lI X h (some 1000000) (v4 + (5 : Int32))).bind fun x15 =>
    if x15 = 0 then
      (bd X d 384 92 [(0, vr (some 1000000)), (1, vr (some 0)), (2, vr (some 137)), (3, vr (some 225)), (4, vi v4)] [vi (0 : Int32), vi x14, vi x13, vi x12, vi x11, vr (some 0)] h)
    else bd X d 384 92 [(0, vr (some 1000000)), (1, vr (some 0)), (2, vr (some 137)), (3, vr (some 225)), (4, vi v4)] [vi (1 : Int32), vi x14, vi x13, vi x12, vi x11, vr (some 0)] h) := by
  rw [b_384_13, hl, Option.bind_some, if_neg hn, hx, Option.bind_some, hk]
  rfl
theorem lw_2 (hl : av_len X h (some 1000000) = some n) (hn : ¬ n - 8 < v4) (hx : av_lI X h (some 1000000) v4 = some x) (hk : x &&& 63 = 2) : bd X d 384 13 [(0, vr (some 1000000)), (1, vr (some 0)), (2, vr (some 137)), (3, vr (some 225)), (4, vi v4)] [] h =
    ((av_lI X h (some 1000000) (v4 + (1 : Int32))).bind fun x16 =>
    (av_lI X h (some 1000000) (v4 + (2 : Int32))).bind fun x17 =>
    (av_lI X h (some 1000000) (v4 + (3 : Int32))).bind fun x18 =>
    (av_lI X h (some 1000000) (v4 + (4 : Int32))).bind fun x19 =>
    (av_lI X h (some 1000000) (v4 + (5 : Int32))).bind fun x20 =>
    (av_lI X h (some 1000000) (v4 + (6 : Int32))).bind fun x21 =>
    if av_is h (some 0) 10 = true then (
    (av_cI (ev X d 129 [vr (some 0), vi x16, vi x17, vi x18, vi x19, vi x20, vi x21] h)).bind fun q22 =>
    (av_lI X q22.2 (some 1000000) (v4 + (1 : Int32))).bind fun x23 =>
    (av_lI X q22.2 (some 1000000) (v4 + (2 : Int32))).bind fun x24 =>
    (av_lI X q22.2 (some 1000000) (v4 + (3 : Int32))).bind fun x25 =>
    (av_lI X q22.2 (some 1000000) (v4 + (4 : Int32))).bind fun x26 =>
    (av_lI X q22.2 (some 1000000) (v4 + (5 : Int32))).bind fun x27 =>
    (av_lI X q22.2 (some 1000000) (v4 + (6 : Int32))).bind fun x28 =>
    if av_is q22.2 (some 137) 11 = true then (
    (av_cI (ev X d 264 [vr (some 137), vi x23, vi x24, vi x25, vi x26, vi x27, vi x28] q22.2)).bind fun q29 =>
    if q22.1 = q29.1 then
      (bd X d 384 13 [(0, vr (some 1000000)), (1, vr (some 0)), (2, vr (some 137)), (3, vr (some 225)), (4, vi (v4 + (8 : Int32)))] [] q29.2)
    else (av_bz (0 : Int32)).bind fun w => av_rI w q29.2) else none) else none) := by
  rw [b_384_13, hl, Option.bind_some, if_neg hn, hx, Option.bind_some, hk]
  rfl
theorem lw_3 (hl : av_len X h (some 1000000) = some n) (hn : ¬ n - 8 < v4) (hx : av_lI X h (some 1000000) v4 = some x) (hk : x &&& 63 = 3) : bd X d 384 13 [(0, vr (some 1000000)), (1, vr (some 0)), (2, vr (some 137)), (3, vr (some 225)), (4, vi v4)] [] h =
    ((av_lI X h (some 1000000) (v4 + (1 : Int32))).bind fun x30 =>
    (av_lI X h (some 1000000) (v4 + (2 : Int32))).bind fun x31 =>
    (av_lI X h (some 1000000) (v4 + (3 : Int32))).bind fun x32 =>
    (av_lI X h (some 1000000) (v4 + (4 : Int32))).bind fun x33 =>
    if x33 = 0 then
      (bd X d 384 219 [(0, vr (some 1000000)), (1, vr (some 0)), (2, vr (some 137)), (3, vr (some 225)), (4, vi v4)] [vi (0 : Int32), vi x32, vi x31, vi x30, vr (some 0)] h)
    else bd X d 384 219 [(0, vr (some 1000000)), (1, vr (some 0)), (2, vr (some 137)), (3, vr (some 225)), (4, vi v4)] [vi (1 : Int32), vi x32, vi x31, vi x30, vr (some 0)] h) := by
  rw [b_384_13, hl, Option.bind_some, if_neg hn, hx, Option.bind_some, hk]
  rfl
theorem lw_4 (hl : av_len X h (some 1000000) = some n) (hn : ¬ n - 8 < v4) (hx : av_lI X h (some 1000000) v4 = some x) (hk : x &&& 63 = 4) : bd X d 384 13 [(0, vr (some 1000000)), (1, vr (some 0)), (2, vr (some 137)), (3, vr (some 225)), (4, vi v4)] [] h =
    ((av_lI X h (some 1000000) (v4 + (1 : Int32))).bind fun x34 =>
    (av_lI X h (some 1000000) (v4 + (2 : Int32))).bind fun x35 =>
    (av_lI X h (some 1000000) (v4 + (3 : Int32))).bind fun x36 =>
    if av_is h (some 0) 10 = true then (
    (av_cI (ev X d 131 [vr (some 0), vi x34, vi x35, vi x36] h)).bind fun q37 =>
    (av_lI X q37.2 (some 1000000) (v4 + (1 : Int32))).bind fun x38 =>
    (av_lI X q37.2 (some 1000000) (v4 + (2 : Int32))).bind fun x39 =>
    (av_lI X q37.2 (some 1000000) (v4 + (3 : Int32))).bind fun x40 =>
    if av_is q37.2 (some 137) 11 = true then (
    (av_cI (ev X d 266 [vr (some 137), vi x38, vi x39, vi x40] q37.2)).bind fun q41 =>
    if q37.1 = q41.1 then
      (bd X d 384 13 [(0, vr (some 1000000)), (1, vr (some 0)), (2, vr (some 137)), (3, vr (some 225)), (4, vi (v4 + (8 : Int32)))] [] q41.2)
    else (av_bz (0 : Int32)).bind fun w => av_rI w q41.2) else none) else none) := by
  rw [b_384_13, hl, Option.bind_some, if_neg hn, hx, Option.bind_some, hk]
  rfl
theorem lw_5 (hl : av_len X h (some 1000000) = some n) (hn : ¬ n - 8 < v4) (hx : av_lI X h (some 1000000) v4 = some x) (hk : x &&& 63 = 5) : bd X d 384 13 [(0, vr (some 1000000)), (1, vr (some 0)), (2, vr (some 137)), (3, vr (some 225)), (4, vi v4)] [] h =
    ((av_lI X h (some 1000000) (v4 + (1 : Int32))).bind fun x42 =>
    (av_lI X h (some 1000000) (v4 + (2 : Int32))).bind fun x43 =>
    (av_lI X h (some 1000000) (v4 + (3 : Int32))).bind fun x44 =>
    (av_lI X h (some 1000000) (v4 + (4 : Int32))).bind fun x45 =>
    if av_is h (some 0) 10 = true then (
    (av_cI (ev X d 132 [vr (some 0), vi x42, vi x43, vi x44, vi x45] h)).bind fun q46 =>
    (av_lI X q46.2 (some 1000000) (v4 + (1 : Int32))).bind fun x47 =>
    (av_lI X q46.2 (some 1000000) (v4 + (2 : Int32))).bind fun x48 =>
    (av_lI X q46.2 (some 1000000) (v4 + (3 : Int32))).bind fun x49 =>
    (av_lI X q46.2 (some 1000000) (v4 + (4 : Int32))).bind fun x50 =>
    if av_is q46.2 (some 137) 11 = true then (
    (av_cI (ev X d 267 [vr (some 137), vi x47, vi x48, vi x49, vi x50] q46.2)).bind fun q51 =>
    if q46.1 = q51.1 then
      (bd X d 384 13 [(0, vr (some 1000000)), (1, vr (some 0)), (2, vr (some 137)), (3, vr (some 225)), (4, vi (v4 + (8 : Int32)))] [] q51.2)
    else (av_bz (0 : Int32)).bind fun w => av_rI w q51.2) else none) else none) := by
  rw [b_384_13, hl, Option.bind_some, if_neg hn, hx, Option.bind_some, hk]
  rfl
theorem lw_6 (hl : av_len X h (some 1000000) = some n) (hn : ¬ n - 8 < v4) (hx : av_lI X h (some 1000000) v4 = some x) (hk : x &&& 63 = 6) : bd X d 384 13 [(0, vr (some 1000000)), (1, vr (some 0)), (2, vr (some 137)), (3, vr (some 225)), (4, vi v4)] [] h =
    ((av_lI X h (some 1000000) (v4 + (1 : Int32))).bind fun x52 =>
    (av_lI X h (some 1000000) (v4 + (2 : Int32))).bind fun x53 =>
    (av_lI X h (some 1000000) (v4 + (3 : Int32))).bind fun x54 =>
    (av_lI X h (some 1000000) (v4 + (4 : Int32))).bind fun x55 =>
    if av_is h (some 0) 10 = true then (
    (av_cI (ev X d 133 [vr (some 0), vi x52, vi x53, vi x54, vi x55] h)).bind fun q56 =>
    (av_lI X q56.2 (some 1000000) (v4 + (1 : Int32))).bind fun x57 =>
    (av_lI X q56.2 (some 1000000) (v4 + (2 : Int32))).bind fun x58 =>
    (av_lI X q56.2 (some 1000000) (v4 + (3 : Int32))).bind fun x59 =>
    (av_lI X q56.2 (some 1000000) (v4 + (4 : Int32))).bind fun x60 =>
    if av_is q56.2 (some 137) 11 = true then (
    (av_cI (ev X d 268 [vr (some 137), vi x57, vi x58, vi x59, vi x60] q56.2)).bind fun q61 =>
    if q56.1 = q61.1 then
      (bd X d 384 13 [(0, vr (some 1000000)), (1, vr (some 0)), (2, vr (some 137)), (3, vr (some 225)), (4, vi (v4 + (8 : Int32)))] [] q61.2)
    else (av_bz (0 : Int32)).bind fun w => av_rI w q61.2) else none) else none) := by
  rw [b_384_13, hl, Option.bind_some, if_neg hn, hx, Option.bind_some, hk]
  rfl
theorem lw_7 (hl : av_len X h (some 1000000) = some n) (hn : ¬ n - 8 < v4) (hx : av_lI X h (some 1000000) v4 = some x) (hk : x &&& 63 = 7) : bd X d 384 13 [(0, vr (some 1000000)), (1, vr (some 0)), (2, vr (some 137)), (3, vr (some 225)), (4, vi v4)] [] h =
    ((av_lI X h (some 1000000) (v4 + (1 : Int32))).bind fun x62 =>
    (av_lI X h (some 1000000) (v4 + (2 : Int32))).bind fun x63 =>
    if x63 = 0 then
      (bd X d 384 395 [(0, vr (some 1000000)), (1, vr (some 0)), (2, vr (some 137)), (3, vr (some 225)), (4, vi v4)] [vi (0 : Int32), vi x62, vr (some 0)] h)
    else bd X d 384 395 [(0, vr (some 1000000)), (1, vr (some 0)), (2, vr (some 137)), (3, vr (some 225)), (4, vi v4)] [vi (1 : Int32), vi x62, vr (some 0)] h) := by
  rw [b_384_13, hl, Option.bind_some, if_neg hn, hx, Option.bind_some, hk]
  rfl
theorem lw_8 (hl : av_len X h (some 1000000) = some n) (hn : ¬ n - 8 < v4) (hx : av_lI X h (some 1000000) v4 = some x) (hk : x &&& 63 = 8) : bd X d 384 13 [(0, vr (some 1000000)), (1, vr (some 0)), (2, vr (some 137)), (3, vr (some 225)), (4, vi v4)] [] h =
    ((av_lI X h (some 1000000) (v4 + (1 : Int32))).bind fun x64 =>
    (av_lI X h (some 1000000) (v4 + (2 : Int32))).bind fun x65 =>
    if av_is h (some 0) 10 = true then (
    (av_cI (ev X d 135 [vr (some 0), vi x64, vi x65] h)).bind fun q66 =>
    (av_lI X q66.2 (some 1000000) (v4 + (1 : Int32))).bind fun x67 =>
    (av_lI X q66.2 (some 1000000) (v4 + (2 : Int32))).bind fun x68 =>
    if av_is q66.2 (some 137) 11 = true then (
    (av_cI (ev X d 271 [vr (some 137), vi x67, vi x68] q66.2)).bind fun q69 =>
    if q66.1 = q69.1 then
      (bd X d 384 13 [(0, vr (some 1000000)), (1, vr (some 0)), (2, vr (some 137)), (3, vr (some 225)), (4, vi (v4 + (8 : Int32)))] [] q69.2)
    else (av_bz (0 : Int32)).bind fun w => av_rI w q69.2) else none) else none) := by
  rw [b_384_13, hl, Option.bind_some, if_neg hn, hx, Option.bind_some, hk]
  rfl
theorem lw_9 (hl : av_len X h (some 1000000) = some n) (hn : ¬ n - 8 < v4) (hx : av_lI X h (some 1000000) v4 = some x) (hk : x &&& 63 = 9) : bd X d 384 13 [(0, vr (some 1000000)), (1, vr (some 0)), (2, vr (some 137)), (3, vr (some 225)), (4, vi v4)] [] h =
    ((av_lI X h (some 1000000) (v4 + (1 : Int32))).bind fun x70 =>
    (av_lI X h (some 1000000) (v4 + (2 : Int32))).bind fun x71 =>
    (av_lI X h (some 1000000) (v4 + (3 : Int32))).bind fun x72 =>
    (av_lI X h (some 1000000) (v4 + (4 : Int32))).bind fun x73 =>
    (av_lI X h (some 1000000) (v4 + (5 : Int32))).bind fun x74 =>
    (av_lI X h (some 1000000) (v4 + (6 : Int32))).bind fun x75 =>
    if av_is h (some 0) 10 = true then (
    (av_cI (ev X d 136 [vr (some 0), vl (((x70.toInt64) <<< ((32 : Int32).toInt64 &&& 63)) ||| ((x71.toInt64) &&& (4294967295 : Int64))), vl (((x72.toInt64) <<< ((32 : Int32).toInt64 &&& 63)) ||| ((x73.toInt64) &&& (4294967295 : Int64))), vl (((x74.toInt64) <<< ((32 : Int32).toInt64 &&& 63)) ||| ((x75.toInt64) &&& (4294967295 : Int64)))] h)).bind fun q76 =>
    (av_lI X q76.2 (some 1000000) (v4 + (1 : Int32))).bind fun x77 =>
    (av_lI X q76.2 (some 1000000) (v4 + (2 : Int32))).bind fun x78 =>
    (av_lI X q76.2 (some 1000000) (v4 + (3 : Int32))).bind fun x79 =>
    (av_lI X q76.2 (some 1000000) (v4 + (4 : Int32))).bind fun x80 =>
    (av_lI X q76.2 (some 1000000) (v4 + (5 : Int32))).bind fun x81 =>
    (av_lI X q76.2 (some 1000000) (v4 + (6 : Int32))).bind fun x82 =>
    if av_is q76.2 (some 137) 11 = true then (
    (av_cI (ev X d 237 [vr (some 137), vl (((x77.toInt64) <<< ((32 : Int32).toInt64 &&& 63)) ||| ((x78.toInt64) &&& (4294967295 : Int64))), vl (((x79.toInt64) <<< ((32 : Int32).toInt64 &&& 63)) ||| ((x80.toInt64) &&& (4294967295 : Int64))), vl (((x81.toInt64) <<< ((32 : Int32).toInt64 &&& 63)) ||| ((x82.toInt64) &&& (4294967295 : Int64)))] q76.2)).bind fun q83 =>
    if q76.1 = q83.1 then
      (bd X d 384 13 [(0, vr (some 1000000)), (1, vr (some 0)), (2, vr (some 137)), (3, vr (some 225)), (4, vi (v4 + (8 : Int32)))] [] q83.2)
    else (av_bz (0 : Int32)).bind fun w => av_rI w q83.2) else none) else none) := by
  rw [b_384_13, hl, Option.bind_some, if_neg hn, hx, Option.bind_some, hk]
  rfl
theorem lw_10 (hl : av_len X h (some 1000000) = some n) (hn : ¬ n - 8 < v4) (hx : av_lI X h (some 1000000) v4 = some x) (hk : x &&& 63 = 10) : bd X d 384 13 [(0, vr (some 1000000)), (1, vr (some 0)), (2, vr (some 137)), (3, vr (some 225)), (4, vi v4)] [] h =
    (if av_is h (some 0) 10 = true then (
    (av_cI (ev X d 137 [vr (some 0)] h)).bind fun q84 =>
    if av_is q84.2 (some 137) 11 = true then (
    (av_cI (ev X d 274 [vr (some 137)] q84.2)).bind fun q85 =>
    if q84.1 = q85.1 then
      (bd X d 384 13 [(0, vr (some 1000000)), (1, vr (some 0)), (2, vr (some 137)), (3, vr (some 225)), (4, vi (v4 + (8 : Int32)))] [] q85.2)
    else (av_bz (0 : Int32)).bind fun w => av_rI w q85.2) else none) else none) := by
  rw [b_384_13, hl, Option.bind_some, if_neg hn, hx, Option.bind_some, hk]
  rfl
theorem lw_11 (hl : av_len X h (some 1000000) = some n) (hn : ¬ n - 8 < v4) (hx : av_lI X h (some 1000000) v4 = some x) (hk : x &&& 63 = 11) : bd X d 384 13 [(0, vr (some 1000000)), (1, vr (some 0)), (2, vr (some 137)), (3, vr (some 225)), (4, vi v4)] [] h =
    ((av_lI X h (some 1000000) (v4 + (1 : Int32))).bind fun x86 =>
    (av_lI X h (some 1000000) (v4 + (2 : Int32))).bind fun x87 =>
    (av_lI X h (some 1000000) (v4 + (3 : Int32))).bind fun x88 =>
    (av_lI X h (some 1000000) (v4 + (4 : Int32))).bind fun x89 =>
    if av_is h (some 0) 10 = true then (
    (av_cI (ev X d 138 [vr (some 0), vi x86, vi x87, vi x88, vi x89] h)).bind fun q90 =>
    (av_lI X q90.2 (some 1000000) (v4 + (1 : Int32))).bind fun x91 =>
    (av_lI X q90.2 (some 1000000) (v4 + (2 : Int32))).bind fun x92 =>
    (av_lI X q90.2 (some 1000000) (v4 + (3 : Int32))).bind fun x93 =>
    (av_lI X q90.2 (some 1000000) (v4 + (4 : Int32))).bind fun x94 =>
    if av_is q90.2 (some 137) 11 = true then (
    (av_cI (ev X d 291 [vr (some 137), vi x91, vi x92, vi x93, vi x94] q90.2)).bind fun q95 =>
    if q90.1 = q95.1 then
      (bd X d 384 13 [(0, vr (some 1000000)), (1, vr (some 0)), (2, vr (some 137)), (3, vr (some 225)), (4, vi (v4 + (8 : Int32)))] [] q95.2)
    else (av_bz (0 : Int32)).bind fun w => av_rI w q95.2) else none) else none) := by
  rw [b_384_13, hl, Option.bind_some, if_neg hn, hx, Option.bind_some, hk]
  rfl
theorem lw_12 (hl : av_len X h (some 1000000) = some n) (hn : ¬ n - 8 < v4) (hx : av_lI X h (some 1000000) v4 = some x) (hk : x &&& 63 = 12) : bd X d 384 13 [(0, vr (some 1000000)), (1, vr (some 0)), (2, vr (some 137)), (3, vr (some 225)), (4, vi v4)] [] h =
    ((av_lI X h (some 1000000) (v4 + (1 : Int32))).bind fun x96 =>
    (av_lI X h (some 1000000) (v4 + (2 : Int32))).bind fun x97 =>
    (av_lI X h (some 1000000) (v4 + (3 : Int32))).bind fun x98 =>
    (av_lI X h (some 1000000) (v4 + (4 : Int32))).bind fun x99 =>
    (av_lI X h (some 1000000) (v4 + (5 : Int32))).bind fun x100 =>
    (av_lI X h (some 1000000) (v4 + (6 : Int32))).bind fun x101 =>
    (av_lI X h (some 1000000) (v4 + (7 : Int32))).bind fun x102 =>
    if av_is h (some 0) 10 = true then (
    (av_cI (ev X d 139 [vr (some 0), vi x96, vi x97, vi x98, vi x99, vi x100, vi x101, vi x102] h)).bind fun q103 =>
    (av_lI X q103.2 (some 1000000) (v4 + (1 : Int32))).bind fun x104 =>
    (av_lI X q103.2 (some 1000000) (v4 + (2 : Int32))).bind fun x105 =>
    (av_lI X q103.2 (some 1000000) (v4 + (3 : Int32))).bind fun x106 =>
    (av_lI X q103.2 (some 1000000) (v4 + (4 : Int32))).bind fun x107 =>
    (av_lI X q103.2 (some 1000000) (v4 + (5 : Int32))).bind fun x108 =>
    (av_lI X q103.2 (some 1000000) (v4 + (6 : Int32))).bind fun x109 =>
    (av_lI X q103.2 (some 1000000) (v4 + (7 : Int32))).bind fun x110 =>
    if av_is q103.2 (some 137) 11 = true then (
    (av_cI (ev X d 298 [vr (some 137), vi x104, vi x105, vi x106, vi x107, vi x108, vi x109, vi x110] q103.2)).bind fun q111 =>
    if q103.1 = q111.1 then
      (bd X d 384 13 [(0, vr (some 1000000)), (1, vr (some 0)), (2, vr (some 137)), (3, vr (some 225)), (4, vi (v4 + (8 : Int32)))] [] q111.2)
    else (av_bz (0 : Int32)).bind fun w => av_rI w q111.2) else none) else none) := by
  rw [b_384_13, hl, Option.bind_some, if_neg hn, hx, Option.bind_some, hk]
  rfl
theorem lw_13 (hl : av_len X h (some 1000000) = some n) (hn : ¬ n - 8 < v4) (hx : av_lI X h (some 1000000) v4 = some x) (hk : x &&& 63 = 13) : bd X d 384 13 [(0, vr (some 1000000)), (1, vr (some 0)), (2, vr (some 137)), (3, vr (some 225)), (4, vi v4)] [] h =
    ((av_lI X h (some 1000000) (v4 + (1 : Int32))).bind fun x112 =>
    (av_lI X h (some 1000000) (v4 + (2 : Int32))).bind fun x113 =>
    (av_lI X h (some 1000000) (v4 + (3 : Int32))).bind fun x114 =>
    (av_lI X h (some 1000000) (v4 + (4 : Int32))).bind fun x115 =>
    (av_lI X h (some 1000000) (v4 + (5 : Int32))).bind fun x116 =>
    (av_lI X h (some 1000000) (v4 + (6 : Int32))).bind fun x117 =>
    (av_lI X h (some 1000000) (v4 + (7 : Int32))).bind fun x118 =>
    if av_is h (some 0) 10 = true then (
    (av_cI (ev X d 140 [vr (some 0), vi x112, vi x113, vi x114, vi x115, vi x116, vi x117, vi x118] h)).bind fun q119 =>
    (av_lI X q119.2 (some 1000000) (v4 + (1 : Int32))).bind fun x120 =>
    (av_lI X q119.2 (some 1000000) (v4 + (2 : Int32))).bind fun x121 =>
    (av_lI X q119.2 (some 1000000) (v4 + (3 : Int32))).bind fun x122 =>
    (av_lI X q119.2 (some 1000000) (v4 + (4 : Int32))).bind fun x123 =>
    (av_lI X q119.2 (some 1000000) (v4 + (5 : Int32))).bind fun x124 =>
    (av_lI X q119.2 (some 1000000) (v4 + (6 : Int32))).bind fun x125 =>
    (av_lI X q119.2 (some 1000000) (v4 + (7 : Int32))).bind fun x126 =>
    if av_is q119.2 (some 137) 11 = true then (
    (av_cI (ev X d 299 [vr (some 137), vi x120, vi x121, vi x122, vi x123, vi x124, vi x125, vi x126] q119.2)).bind fun q127 =>
    if q119.1 = q127.1 then
      (bd X d 384 13 [(0, vr (some 1000000)), (1, vr (some 0)), (2, vr (some 137)), (3, vr (some 225)), (4, vi (v4 + (8 : Int32)))] [] q127.2)
    else (av_bz (0 : Int32)).bind fun w => av_rI w q127.2) else none) else none) := by
  rw [b_384_13, hl, Option.bind_some, if_neg hn, hx, Option.bind_some, hk]
  rfl
theorem lw_14 (hl : av_len X h (some 1000000) = some n) (hn : ¬ n - 8 < v4) (hx : av_lI X h (some 1000000) v4 = some x) (hk : x &&& 63 = 14) : bd X d 384 13 [(0, vr (some 1000000)), (1, vr (some 0)), (2, vr (some 137)), (3, vr (some 225)), (4, vi v4)] [] h =
    ((av_lI X h (some 1000000) (v4 + (1 : Int32))).bind fun x128 =>
    (av_lI X h (some 1000000) (v4 + (2 : Int32))).bind fun x129 =>
    (av_cI (ev X d 9100 [vr (some 0), vi x128, vi x129, vr (some 225)] h)).bind fun q130 =>
    (av_lI X q130.2 (some 1000000) (v4 + (1 : Int32))).bind fun x131 =>
    (av_lI X q130.2 (some 1000000) (v4 + (2 : Int32))).bind fun x132 =>
    if av_is q130.2 (some 137) 11 = true then (
    (av_cI (ev X d 302 [vr (some 137), vi x131, vi x132] q130.2)).bind fun q133 =>
    if av_is q133.2 (some 137) 11 = true then (
    (av_cI (ev X d 236 [vr (some 137)] q133.2)).bind fun q134 =>
    if q134.1 = q130.1 then
      (if q130.1 = 0 then
        ((av_lL q134.2 (some 225) (0 : Int32)).bind fun x135 =>
        if (lg_cmp x135 (q133.1.toInt64)) = 0 then
          (bd X d 384 13 [(0, vr (some 1000000)), (1, vr (some 0)), (2, vr (some 137)), (3, vr (some 225)), (4, vi (v4 + (8 : Int32)))] [] q134.2)
        else (av_bz (0 : Int32)).bind fun w => av_rI w q134.2)
      else bd X d 384 13 [(0, vr (some 1000000)), (1, vr (some 0)), (2, vr (some 137)), (3, vr (some 225)), (4, vi (v4 + (8 : Int32)))] [] q134.2)
    else (av_bz (0 : Int32)).bind fun w => av_rI w q134.2) else none) else none) := by
  rw [b_384_13, hl, Option.bind_some, if_neg hn, hx, Option.bind_some, hk]
  rfl
theorem lw_15 (hl : av_len X h (some 1000000) = some n) (hn : ¬ n - 8 < v4) (hx : av_lI X h (some 1000000) v4 = some x) (hk : x &&& 63 = 15) : bd X d 384 13 [(0, vr (some 1000000)), (1, vr (some 0)), (2, vr (some 137)), (3, vr (some 225)), (4, vi v4)] [] h =
    ((av_lI X h (some 1000000) (v4 + (1 : Int32))).bind fun x136 =>
    (av_lI X h (some 1000000) (v4 + (2 : Int32))).bind fun x137 =>
    (av_lI X h (some 1000000) (v4 + (3 : Int32))).bind fun x138 =>
    (av_lI X h (some 1000000) (v4 + (4 : Int32))).bind fun x139 =>
    if av_is h (some 0) 10 = true then (
    (av_cI (ev X d 142 [vr (some 0), vi x136, vi x137, vi x138, vi x139] h)).bind fun q140 =>
    (av_lI X q140.2 (some 1000000) (v4 + (1 : Int32))).bind fun x141 =>
    (av_lI X q140.2 (some 1000000) (v4 + (2 : Int32))).bind fun x142 =>
    (av_lI X q140.2 (some 1000000) (v4 + (3 : Int32))).bind fun x143 =>
    (av_lI X q140.2 (some 1000000) (v4 + (4 : Int32))).bind fun x144 =>
    if av_is q140.2 (some 137) 11 = true then (
    (av_cI (ev X d 303 [vr (some 137), vi x141, vi x142, vi x143, vi x144] q140.2)).bind fun q145 =>
    if q140.1 = q145.1 then
      (bd X d 384 13 [(0, vr (some 1000000)), (1, vr (some 0)), (2, vr (some 137)), (3, vr (some 225)), (4, vi (v4 + (8 : Int32)))] [] q145.2)
    else (av_bz (0 : Int32)).bind fun w => av_rI w q145.2) else none) else none) := by
  rw [b_384_13, hl, Option.bind_some, if_neg hn, hx, Option.bind_some, hk]
  rfl
theorem lw_16 (hl : av_len X h (some 1000000) = some n) (hn : ¬ n - 8 < v4) (hx : av_lI X h (some 1000000) v4 = some x) (hk : x &&& 63 = 16) : bd X d 384 13 [(0, vr (some 1000000)), (1, vr (some 0)), (2, vr (some 137)), (3, vr (some 225)), (4, vi v4)] [] h =
    ((av_lI X h (some 1000000) (v4 + (1 : Int32))).bind fun x146 =>
    if av_is h (some 0) 10 = true then (
    (av_cI (ev X d 143 [vr (some 0), vi x146] h)).bind fun q147 =>
    (av_lI X q147.2 (some 1000000) (v4 + (1 : Int32))).bind fun x148 =>
    if av_is q147.2 (some 137) 11 = true then (
    (av_cI (ev X d 304 [vr (some 137), vi x148] q147.2)).bind fun q149 =>
    if q147.1 = q149.1 then
      (bd X d 384 13 [(0, vr (some 1000000)), (1, vr (some 0)), (2, vr (some 137)), (3, vr (some 225)), (4, vi (v4 + (8 : Int32)))] [] q149.2)
    else (av_bz (0 : Int32)).bind fun w => av_rI w q149.2) else none) else none) := by
  rw [b_384_13, hl, Option.bind_some, if_neg hn, hx, Option.bind_some, hk]
  rfl
theorem lw_17 (hl : av_len X h (some 1000000) = some n) (hn : ¬ n - 8 < v4) (hx : av_lI X h (some 1000000) v4 = some x) (hk : x &&& 63 = 17) : bd X d 384 13 [(0, vr (some 1000000)), (1, vr (some 0)), (2, vr (some 137)), (3, vr (some 225)), (4, vi v4)] [] h =
    ((av_lI X h (some 1000000) (v4 + (1 : Int32))).bind fun x150 =>
    (av_lI X h (some 1000000) (v4 + (2 : Int32))).bind fun x151 =>
    (av_lI X h (some 1000000) (v4 + (3 : Int32))).bind fun x152 =>
    if av_is h (some 0) 10 = true then (
    (av_cI (ev X d 144 [vr (some 0), vi x150, vi x151, vi x152] h)).bind fun q153 =>
    (av_lI X q153.2 (some 1000000) (v4 + (1 : Int32))).bind fun x154 =>
    (av_lI X q153.2 (some 1000000) (v4 + (2 : Int32))).bind fun x155 =>
    (av_lI X q153.2 (some 1000000) (v4 + (3 : Int32))).bind fun x156 =>
    if av_is q153.2 (some 137) 11 = true then (
    (av_cI (ev X d 306 [vr (some 137), vi x154, vi x155, vi x156] q153.2)).bind fun q157 =>
    if q153.1 = q157.1 then
      (bd X d 384 13 [(0, vr (some 1000000)), (1, vr (some 0)), (2, vr (some 137)), (3, vr (some 225)), (4, vi (v4 + (8 : Int32)))] [] q157.2)
    else (av_bz (0 : Int32)).bind fun w => av_rI w q157.2) else none) else none) := by
  rw [b_384_13, hl, Option.bind_some, if_neg hn, hx, Option.bind_some, hk]
  rfl
theorem lw_18 (hl : av_len X h (some 1000000) = some n) (hn : ¬ n - 8 < v4) (hx : av_lI X h (some 1000000) v4 = some x) (hk : x &&& 63 = 18) : bd X d 384 13 [(0, vr (some 1000000)), (1, vr (some 0)), (2, vr (some 137)), (3, vr (some 225)), (4, vi v4)] [] h =
    ((av_lI X h (some 1000000) (v4 + (1 : Int32))).bind fun x158 =>
    (av_lI X h (some 1000000) (v4 + (2 : Int32))).bind fun x159 =>
    (av_lI X h (some 1000000) (v4 + (3 : Int32))).bind fun x160 =>
    (av_lI X h (some 1000000) (v4 + (4 : Int32))).bind fun x161 =>
    if av_is h (some 0) 10 = true then (
    (av_cI (ev X d 145 [vr (some 0), vi x158, vi x159, vi x160, vi x161] h)).bind fun q162 =>
    (av_lI X q162.2 (some 1000000) (v4 + (1 : Int32))).bind fun x163 =>
    (av_lI X q162.2 (some 1000000) (v4 + (2 : Int32))).bind fun x164 =>
    (av_lI X q162.2 (some 1000000) (v4 + (3 : Int32))).bind fun x165 =>
    (av_lI X q162.2 (some 1000000) (v4 + (4 : Int32))).bind fun x166 =>
    if av_is q162.2 (some 137) 11 = true then (
    (av_cI (ev X d 310 [vr (some 137), vi x163, vi x164, vi x165, vi x166] q162.2)).bind fun q167 =>
    if q162.1 = q167.1 then
      (bd X d 384 13 [(0, vr (some 1000000)), (1, vr (some 0)), (2, vr (some 137)), (3, vr (some 225)), (4, vi (v4 + (8 : Int32)))] [] q167.2)
    else (av_bz (0 : Int32)).bind fun w => av_rI w q167.2) else none) else none) := by
  rw [b_384_13, hl, Option.bind_some, if_neg hn, hx, Option.bind_some, hk]
  rfl
theorem lw_19 (hl : av_len X h (some 1000000) = some n) (hn : ¬ n - 8 < v4) (hx : av_lI X h (some 1000000) v4 = some x) (hk : x &&& 63 = 19) : bd X d 384 13 [(0, vr (some 1000000)), (1, vr (some 0)), (2, vr (some 137)), (3, vr (some 225)), (4, vi v4)] [] h =
    ((av_lI X h (some 1000000) (v4 + (1 : Int32))).bind fun x168 =>
    (av_lI X h (some 1000000) (v4 + (2 : Int32))).bind fun x169 =>
    (av_lI X h (some 1000000) (v4 + (3 : Int32))).bind fun x170 =>
    (av_lI X h (some 1000000) (v4 + (4 : Int32))).bind fun x171 =>
    (av_lI X h (some 1000000) (v4 + (5 : Int32))).bind fun x172 =>
    (av_lI X h (some 1000000) (v4 + (6 : Int32))).bind fun x173 =>
    if av_is h (some 0) 10 = true then (
    (av_cI (ev X d 146 [vr (some 0), vi x168, vi x169, vi x170, vi x171, vi x172, vi x173] h)).bind fun q174 =>
    (av_lI X q174.2 (some 1000000) (v4 + (1 : Int32))).bind fun x175 =>
    (av_lI X q174.2 (some 1000000) (v4 + (2 : Int32))).bind fun x176 =>
    (av_lI X q174.2 (some 1000000) (v4 + (3 : Int32))).bind fun x177 =>
    (av_lI X q174.2 (some 1000000) (v4 + (4 : Int32))).bind fun x178 =>
    (av_lI X q174.2 (some 1000000) (v4 + (5 : Int32))).bind fun x179 =>
    (av_lI X q174.2 (some 1000000) (v4 + (6 : Int32))).bind fun x180 =>
    if av_is q174.2 (some 137) 11 = true then (
    (av_cI (ev X d 313 [vr (some 137), vi x175, vi x176, vi x177, vi x178, vi x179, vi x180] q174.2)).bind fun q181 =>
    if q174.1 = q181.1 then
      (bd X d 384 13 [(0, vr (some 1000000)), (1, vr (some 0)), (2, vr (some 137)), (3, vr (some 225)), (4, vi (v4 + (8 : Int32)))] [] q181.2)
    else (av_bz (0 : Int32)).bind fun w => av_rI w q181.2) else none) else none) := by
  rw [b_384_13, hl, Option.bind_some, if_neg hn, hx, Option.bind_some, hk]
  rfl
theorem lw_20 (hl : av_len X h (some 1000000) = some n) (hn : ¬ n - 8 < v4) (hx : av_lI X h (some 1000000) v4 = some x) (hk : x &&& 63 = 20) : bd X d 384 13 [(0, vr (some 1000000)), (1, vr (some 0)), (2, vr (some 137)), (3, vr (some 225)), (4, vi v4)] [] h =
    ((av_lI X h (some 1000000) (v4 + (1 : Int32))).bind fun x182 =>
    (av_lI X h (some 1000000) (v4 + (2 : Int32))).bind fun x183 =>
    (av_lI X h (some 1000000) (v4 + (3 : Int32))).bind fun x184 =>
    if av_is h (some 0) 10 = true then (
    (av_cI (ev X d 147 [vr (some 0), vi x182, vi x183, vi x184] h)).bind fun q185 =>
    (av_lI X q185.2 (some 1000000) (v4 + (1 : Int32))).bind fun x186 =>
    (av_lI X q185.2 (some 1000000) (v4 + (2 : Int32))).bind fun x187 =>
    (av_lI X q185.2 (some 1000000) (v4 + (3 : Int32))).bind fun x188 =>
    if av_is q185.2 (some 137) 11 = true then (
    (av_cI (ev X d 315 [vr (some 137), vi x186, vi x187, vi x188] q185.2)).bind fun q189 =>
    if q185.1 = q189.1 then
      (bd X d 384 13 [(0, vr (some 1000000)), (1, vr (some 0)), (2, vr (some 137)), (3, vr (some 225)), (4, vi (v4 + (8 : Int32)))] [] q189.2)
    else (av_bz (0 : Int32)).bind fun w => av_rI w q189.2) else none) else none) := by
  rw [b_384_13, hl, Option.bind_some, if_neg hn, hx, Option.bind_some, hk]
  rfl
theorem lw_21 (hl : av_len X h (some 1000000) = some n) (hn : ¬ n - 8 < v4) (hx : av_lI X h (some 1000000) v4 = some x) (hk : x &&& 63 = 21) : bd X d 384 13 [(0, vr (some 1000000)), (1, vr (some 0)), (2, vr (some 137)), (3, vr (some 225)), (4, vi v4)] [] h =
    ((av_lI X h (some 1000000) (v4 + (1 : Int32))).bind fun x190 =>
    (av_lI X h (some 1000000) (v4 + (2 : Int32))).bind fun x191 =>
    (av_lI X h (some 1000000) (v4 + (3 : Int32))).bind fun x192 =>
    (av_lI X h (some 1000000) (v4 + (4 : Int32))).bind fun x193 =>
    (av_lI X h (some 1000000) (v4 + (5 : Int32))).bind fun x194 =>
    (av_lI X h (some 1000000) (v4 + (6 : Int32))).bind fun x195 =>
    (av_lI X h (some 1000000) (v4 + (7 : Int32))).bind fun x196 =>
    if av_is h (some 0) 10 = true then (
    (av_cI (ev X d 148 [vr (some 0), vi x190, vi x191, vi x192, vi x193, vi x194, vi x195, vi x196] h)).bind fun q197 =>
    (av_lI X q197.2 (some 1000000) (v4 + (1 : Int32))).bind fun x198 =>
    (av_lI X q197.2 (some 1000000) (v4 + (2 : Int32))).bind fun x199 =>
    (av_lI X q197.2 (some 1000000) (v4 + (3 : Int32))).bind fun x200 =>
    (av_lI X q197.2 (some 1000000) (v4 + (4 : Int32))).bind fun x201 =>
    (av_lI X q197.2 (some 1000000) (v4 + (5 : Int32))).bind fun x202 =>
    (av_lI X q197.2 (some 1000000) (v4 + (6 : Int32))).bind fun x203 =>
    (av_lI X q197.2 (some 1000000) (v4 + (7 : Int32))).bind fun x204 =>
    if av_is q197.2 (some 137) 11 = true then (
    (av_cI (ev X d 316 [vr (some 137), vi x198, vi x199, vi x200, vi x201, vi x202, vi x203, vi x204] q197.2)).bind fun q205 =>
    if q197.1 = q205.1 then
      (bd X d 384 13 [(0, vr (some 1000000)), (1, vr (some 0)), (2, vr (some 137)), (3, vr (some 225)), (4, vi (v4 + (8 : Int32)))] [] q205.2)
    else (av_bz (0 : Int32)).bind fun w => av_rI w q205.2) else none) else none) := by
  rw [b_384_13, hl, Option.bind_some, if_neg hn, hx, Option.bind_some, hk]
  rfl
theorem lw_22 (hl : av_len X h (some 1000000) = some n) (hn : ¬ n - 8 < v4) (hx : av_lI X h (some 1000000) v4 = some x) (hk : x &&& 63 = 22) : bd X d 384 13 [(0, vr (some 1000000)), (1, vr (some 0)), (2, vr (some 137)), (3, vr (some 225)), (4, vi v4)] [] h =
    ((av_lI X h (some 1000000) (v4 + (1 : Int32))).bind fun x206 =>
    (av_lI X h (some 1000000) (v4 + (2 : Int32))).bind fun x207 =>
    (av_lI X h (some 1000000) (v4 + (3 : Int32))).bind fun x208 =>
    (av_lI X h (some 1000000) (v4 + (4 : Int32))).bind fun x209 =>
    if av_is h (some 0) 10 = true then (
    (av_cL (ev X d 149 [vr (some 0), vi x206, vi x207, vi x208, vi x209] h)).bind fun q210 =>
    (av_lI X q210.2 (some 1000000) (v4 + (1 : Int32))).bind fun x211 =>
    (av_lI X q210.2 (some 1000000) (v4 + (2 : Int32))).bind fun x212 =>
    (av_lI X q210.2 (some 1000000) (v4 + (3 : Int32))).bind fun x213 =>
    (av_lI X q210.2 (some 1000000) (v4 + (4 : Int32))).bind fun x214 =>
    if av_is q210.2 (some 137) 11 = true then (
    (av_cL (ev X d 317 [vr (some 137), vi x211, vi x212, vi x213, vi x214] q210.2)).bind fun q215 =>
    if (lg_cmp q210.1 q215.1) = 0 then
      (bd X d 384 13 [(0, vr (some 1000000)), (1, vr (some 0)), (2, vr (some 137)), (3, vr (some 225)), (4, vi (v4 + (8 : Int32)))] [] q215.2)
    else (av_bz (0 : Int32)).bind fun w => av_rI w q215.2) else none) else none) := by
  rw [b_384_13, hl, Option.bind_some, if_neg hn, hx, Option.bind_some, hk]
  rfl
theorem lw_23 (hl : av_len X h (some 1000000) = some n) (hn : ¬ n - 8 < v4) (hx : av_lI X h (some 1000000) v4 = some x) (hk : x &&& 63 = 23) : bd X d 384 13 [(0, vr (some 1000000)), (1, vr (some 0)), (2, vr (some 137)), (3, vr (some 225)), (4, vi v4)] [] h =
    ((av_lI X h (some 1000000) (v4 + (1 : Int32))).bind fun x216 =>
    (av_lI X h (some 1000000) (v4 + (2 : Int32))).bind fun x217 =>
    if av_is h (some 0) 10 = true then (
    (av_cI (ev X d 150 [vr (some 0), vi x216, vi x217] h)).bind fun q218 =>
    (av_lI X q218.2 (some 1000000) (v4 + (1 : Int32))).bind fun x219 =>
    (av_lI X q218.2 (some 1000000) (v4 + (2 : Int32))).bind fun x220 =>
    if av_is q218.2 (some 137) 11 = true then (
    (av_cI (ev X d 318 [vr (some 137), vi x219, vi x220] q218.2)).bind fun q221 =>
    if q218.1 = q221.1 then
      (bd X d 384 13 [(0, vr (some 1000000)), (1, vr (some 0)), (2, vr (some 137)), (3, vr (some 225)), (4, vi (v4 + (8 : Int32)))] [] q221.2)
    else (av_bz (0 : Int32)).bind fun w => av_rI w q221.2) else none) else none) := by
  rw [b_384_13, hl, Option.bind_some, if_neg hn, hx, Option.bind_some, hk]
  rfl
theorem lw_24 (hl : av_len X h (some 1000000) = some n) (hn : ¬ n - 8 < v4) (hx : av_lI X h (some 1000000) v4 = some x) (hk : x &&& 63 = 24) : bd X d 384 13 [(0, vr (some 1000000)), (1, vr (some 0)), (2, vr (some 137)), (3, vr (some 225)), (4, vi v4)] [] h =
    ((av_lI X h (some 1000000) (v4 + (1 : Int32))).bind fun x222 =>
    (av_lI X h (some 1000000) (v4 + (2 : Int32))).bind fun x223 =>
    if av_is h (some 0) 10 = true then (
    (av_cI (ev X d 151 [vr (some 0), vi x222, vi x223] h)).bind fun q224 =>
    (av_lI X q224.2 (some 1000000) (v4 + (1 : Int32))).bind fun x225 =>
    (av_lI X q224.2 (some 1000000) (v4 + (2 : Int32))).bind fun x226 =>
    if av_is q224.2 (some 137) 11 = true then (
    (av_cI (ev X d 319 [vr (some 137), vi x225, vi x226] q224.2)).bind fun q227 =>
    if q224.1 = q227.1 then
      (bd X d 384 13 [(0, vr (some 1000000)), (1, vr (some 0)), (2, vr (some 137)), (3, vr (some 225)), (4, vi (v4 + (8 : Int32)))] [] q227.2)
    else (av_bz (0 : Int32)).bind fun w => av_rI w q227.2) else none) else none) := by
  rw [b_384_13, hl, Option.bind_some, if_neg hn, hx, Option.bind_some, hk]
  rfl
theorem lw_25 (hl : av_len X h (some 1000000) = some n) (hn : ¬ n - 8 < v4) (hx : av_lI X h (some 1000000) v4 = some x) (hk : x &&& 63 = 25) : bd X d 384 13 [(0, vr (some 1000000)), (1, vr (some 0)), (2, vr (some 137)), (3, vr (some 225)), (4, vi v4)] [] h =
    ((av_lI X h (some 1000000) (v4 + (1 : Int32))).bind fun x228 =>
    (av_lI X h (some 1000000) (v4 + (2 : Int32))).bind fun x229 =>
    (av_lI X h (some 1000000) (v4 + (3 : Int32))).bind fun x230 =>
    if av_is h (some 0) 10 = true then (
    (av_cI (ev X d 152 [vr (some 0), vi x228, vi x229, vi x230] h)).bind fun q231 =>
    (av_lI X q231.2 (some 1000000) (v4 + (1 : Int32))).bind fun x232 =>
    (av_lI X q231.2 (some 1000000) (v4 + (2 : Int32))).bind fun x233 =>
    (av_lI X q231.2 (some 1000000) (v4 + (3 : Int32))).bind fun x234 =>
    if av_is q231.2 (some 137) 11 = true then (
    (av_cI (ev X d 320 [vr (some 137), vi x232, vi x233, vi x234] q231.2)).bind fun q235 =>
    if q231.1 = q235.1 then
      (bd X d 384 13 [(0, vr (some 1000000)), (1, vr (some 0)), (2, vr (some 137)), (3, vr (some 225)), (4, vi (v4 + (8 : Int32)))] [] q235.2)
    else (av_bz (0 : Int32)).bind fun w => av_rI w q235.2) else none) else none) := by
  rw [b_384_13, hl, Option.bind_some, if_neg hn, hx, Option.bind_some, hk]
  rfl
theorem lw_26 (hl : av_len X h (some 1000000) = some n) (hn : ¬ n - 8 < v4) (hx : av_lI X h (some 1000000) v4 = some x) (hk : x &&& 63 = 26) : bd X d 384 13 [(0, vr (some 1000000)), (1, vr (some 0)), (2, vr (some 137)), (3, vr (some 225)), (4, vi v4)] [] h =
    ((av_lI X h (some 1000000) (v4 + (1 : Int32))).bind fun x236 =>
    if av_is h (some 0) 10 = true then (
    (av_cI (ev X d 153 [vr (some 0), vi x236] h)).bind fun q237 =>
    (av_lI X q237.2 (some 1000000) (v4 + (1 : Int32))).bind fun x238 =>
    if av_is q237.2 (some 137) 11 = true then (
    (av_cI (ev X d 321 [vr (some 137), vi x238] q237.2)).bind fun q239 =>
    if q237.1 = q239.1 then
      (bd X d 384 13 [(0, vr (some 1000000)), (1, vr (some 0)), (2, vr (some 137)), (3, vr (some 225)), (4, vi (v4 + (8 : Int32)))] [] q239.2)
    else (av_bz (0 : Int32)).bind fun w => av_rI w q239.2) else none) else none) := by
  rw [b_384_13, hl, Option.bind_some, if_neg hn, hx, Option.bind_some, hk]
  rfl
theorem lw_27 (hl : av_len X h (some 1000000) = some n) (hn : ¬ n - 8 < v4) (hx : av_lI X h (some 1000000) v4 = some x) (hk : x &&& 63 = 27) : bd X d 384 13 [(0, vr (some 1000000)), (1, vr (some 0)), (2, vr (some 137)), (3, vr (some 225)), (4, vi v4)] [] h =
    ((av_lI X h (some 1000000) (v4 + (1 : Int32))).bind fun x240 =>
    (av_lI X h (some 1000000) (v4 + (2 : Int32))).bind fun x241 =>
    (av_lI X h (some 1000000) (v4 + (3 : Int32))).bind fun x242 =>
    (av_cI (ev X d 9101 [vr (some 0), vi x240, vi x241, vi x242, vr (some 225)] h)).bind fun q243 =>
    (av_lI X q243.2 (some 1000000) (v4 + (1 : Int32))).bind fun x244 =>
    (av_lI X q243.2 (some 1000000) (v4 + (2 : Int32))).bind fun x245 =>
    (av_lI X q243.2 (some 1000000) (v4 + (3 : Int32))).bind fun x246 =>
    if av_is q243.2 (some 137) 11 = true then (
    (av_cL (ev X d 329 [vr (some 137), vi x244, vi x245, vi x246] q243.2)).bind fun q247 =>
    if av_is q247.2 (some 137) 11 = true then (
    (av_cI (ev X d 236 [vr (some 137)] q247.2)).bind fun q248 =>
    if q248.1 = q243.1 then
      (if q243.1 = 0 then
        ((av_lL q248.2 (some 225) (0 : Int32)).bind fun x249 =>
        if (lg_cmp x249 q247.1) = 0 then
          (bd X d 384 13 [(0, vr (some 1000000)), (1, vr (some 0)), (2, vr (some 137)), (3, vr (some 225)), (4, vi (v4 + (8 : Int32)))] [] q248.2)
        else (av_bz (0 : Int32)).bind fun w => av_rI w q248.2)
      else bd X d 384 13 [(0, vr (some 1000000)), (1, vr (some 0)), (2, vr (some 137)), (3, vr (some 225)), (4, vi (v4 + (8 : Int32)))] [] q248.2)
    else (av_bz (0 : Int32)).bind fun w => av_rI w q248.2) else none) else none) := by
  rw [b_384_13, hl, Option.bind_some, if_neg hn, hx, Option.bind_some, hk]
  rfl
theorem lw_28 (hl : av_len X h (some 1000000) = some n) (hn : ¬ n - 8 < v4) (hx : av_lI X h (some 1000000) v4 = some x) (hk : x &&& 63 = 28) : bd X d 384 13 [(0, vr (some 1000000)), (1, vr (some 0)), (2, vr (some 137)), (3, vr (some 225)), (4, vi v4)] [] h =
    ((av_lI X h (some 1000000) (v4 + (1 : Int32))).bind fun x250 =>
    (av_cI (ev X d 9102 [vr (some 0), vi x250, vr (some 225)] h)).bind fun q251 =>
    (av_lI X q251.2 (some 1000000) (v4 + (1 : Int32))).bind fun x252 =>
    if av_is q251.2 (some 137) 11 = true then (
    (av_cL (ev X d 332 [vr (some 137), vi x252] q251.2)).bind fun q253 =>
    if av_is q253.2 (some 137) 11 = true then (
    (av_cI (ev X d 236 [vr (some 137)] q253.2)).bind fun q254 =>
    if q254.1 = q251.1 then
      (if q251.1 = 0 then
        ((av_lL q254.2 (some 225) (0 : Int32)).bind fun x255 =>
        if (lg_cmp x255 q253.1) = 0 then
          (bd X d 384 13 [(0, vr (some 1000000)), (1, vr (some 0)), (2, vr (some 137)), (3, vr (some 225)), (4, vi (v4 + (8 : Int32)))] [] q254.2)
        else (av_bz (0 : Int32)).bind fun w => av_rI w q254.2)
      else bd X d 384 13 [(0, vr (some 1000000)), (1, vr (some 0)), (2, vr (some 137)), (3, vr (some 225)), (4, vi (v4 + (8 : Int32)))] [] q254.2)
    else (av_bz (0 : Int32)).bind fun w => av_rI w q254.2) else none) else none) := by
  rw [b_384_13, hl, Option.bind_some, if_neg hn, hx, Option.bind_some, hk]
  rfl
theorem lw_29 (hl : av_len X h (some 1000000) = some n) (hn : ¬ n - 8 < v4) (hx : av_lI X h (some 1000000) v4 = some x) (hk : x &&& 63 = 29) : bd X d 384 13 [(0, vr (some 1000000)), (1, vr (some 0)), (2, vr (some 137)), (3, vr (some 225)), (4, vi v4)] [] h =
    ((av_lI X h (some 1000000) (v4 + (1 : Int32))).bind fun x256 =>
    (av_lI X h (some 1000000) (v4 + (2 : Int32))).bind fun x257 =>
    (av_lI X h (some 1000000) (v4 + (3 : Int32))).bind fun x258 =>
    if av_is h (some 0) 10 = true then (
    (av_cI (ev X d 158 [vr (some 0), vi x256, vi x257, vi x258] h)).bind fun q259 =>
    (av_lI X q259.2 (some 1000000) (v4 + (1 : Int32))).bind fun x260 =>
    (av_lI X q259.2 (some 1000000) (v4 + (2 : Int32))).bind fun x261 =>
    (av_lI X q259.2 (some 1000000) (v4 + (3 : Int32))).bind fun x262 =>
    if av_is q259.2 (some 137) 11 = true then (
    (av_cI (ev X d 333 [vr (some 137), vi x260, vi x261, vi x262] q259.2)).bind fun q263 =>
    if q259.1 = q263.1 then
      (bd X d 384 13 [(0, vr (some 1000000)), (1, vr (some 0)), (2, vr (some 137)), (3, vr (some 225)), (4, vi (v4 + (8 : Int32)))] [] q263.2)
    else (av_bz (0 : Int32)).bind fun w => av_rI w q263.2) else none) else none) := by
  rw [b_384_13, hl, Option.bind_some, if_neg hn, hx, Option.bind_some, hk]
  rfl
theorem lw_30 (hl : av_len X h (some 1000000) = some n) (hn : ¬ n - 8 < v4) (hx : av_lI X h (some 1000000) v4 = some x) (hk : x &&& 63 = 30) : bd X d 384 13 [(0, vr (some 1000000)), (1, vr (some 0)), (2, vr (some 137)), (3, vr (some 225)), (4, vi v4)] [] h =
    ((av_lI X h (some 1000000) (v4 + (1 : Int32))).bind fun x264 =>
    if av_is h (some 0) 10 = true then (
    (av_cI (ev X d 159 [vr (some 0), vi x264] h)).bind fun q265 =>
    (av_lI X q265.2 (some 1000000) (v4 + (1 : Int32))).bind fun x266 =>
    if av_is q265.2 (some 137) 11 = true then (
    (av_cI (ev X d 336 [vr (some 137), vi x266] q265.2)).bind fun q267 =>
    if q265.1 = q267.1 then
      (bd X d 384 13 [(0, vr (some 1000000)), (1, vr (some 0)), (2, vr (some 137)), (3, vr (some 225)), (4, vi (v4 + (8 : Int32)))] [] q267.2)
    else (av_bz (0 : Int32)).bind fun w => av_rI w q267.2) else none) else none) := by
  rw [b_384_13, hl, Option.bind_some, if_neg hn, hx, Option.bind_some, hk]
  rfl
theorem lw_31 (hl : av_len X h (some 1000000) = some n) (hn : ¬ n - 8 < v4) (hx : av_lI X h (some 1000000) v4 = some x) (hk : x &&& 63 = 31) : bd X d 384 13 [(0, vr (some 1000000)), (1, vr (some 0)), (2, vr (some 137)), (3, vr (some 225)), (4, vi v4)] [] h =
    ((av_lI X h (some 1000000) (v4 + (1 : Int32))).bind fun x268 =>
    (av_lI X h (some 1000000) (v4 + (2 : Int32))).bind fun x269 =>
    (av_lI X h (some 1000000) (v4 + (3 : Int32))).bind fun x270 =>
    (av_lI X h (some 1000000) (v4 + (4 : Int32))).bind fun x271 =>
    if av_is h (some 0) 10 = true then (
    (av_cI (ev X d 160 [vr (some 0), vi x268, vi x269, vi x270, vi x271] h)).bind fun q272 =>
    (av_lI X q272.2 (some 1000000) (v4 + (1 : Int32))).bind fun x273 =>
    (av_lI X q272.2 (some 1000000) (v4 + (2 : Int32))).bind fun x274 =>
    (av_lI X q272.2 (some 1000000) (v4 + (3 : Int32))).bind fun x275 =>
    (av_lI X q272.2 (some 1000000) (v4 + (4 : Int32))).bind fun x276 =>
    if av_is q272.2 (some 137) 11 = true then (
    (av_cI (ev X d 337 [vr (some 137), vi x273, vi x274, vi x275, vi x276] q272.2)).bind fun q277 =>
    if q272.1 = q277.1 then
      (bd X d 384 13 [(0, vr (some 1000000)), (1, vr (some 0)), (2, vr (some 137)), (3, vr (some 225)), (4, vi (v4 + (8 : Int32)))] [] q277.2)
    else (av_bz (0 : Int32)).bind fun w => av_rI w q277.2) else none) else none) := by
  rw [b_384_13, hl, Option.bind_some, if_neg hn, hx, Option.bind_some, hk]
  rfl
theorem lw_32 (hl : av_len X h (some 1000000) = some n) (hn : ¬ n - 8 < v4) (hx : av_lI X h (some 1000000) v4 = some x) (hk : x &&& 63 = 32) : bd X d 384 13 [(0, vr (some 1000000)), (1, vr (some 0)), (2, vr (some 137)), (3, vr (some 225)), (4, vi v4)] [] h =
    ((av_lI X h (some 1000000) (v4 + (1 : Int32))).bind fun x278 =>
    if av_is h (some 0) 10 = true then (
    (av_cI (ev X d 161 [vr (some 0), vi x278] h)).bind fun q279 =>
    (av_lI X q279.2 (some 1000000) (v4 + (1 : Int32))).bind fun x280 =>
    if av_is q279.2 (some 137) 11 = true then (
    (av_cI (ev X d 340 [vr (some 137), vi x280] q279.2)).bind fun q281 =>
    if q279.1 = q281.1 then
      (bd X d 384 13 [(0, vr (some 1000000)), (1, vr (some 0)), (2, vr (some 137)), (3, vr (some 225)), (4, vi (v4 + (8 : Int32)))] [] q281.2)
    else (av_bz (0 : Int32)).bind fun w => av_rI w q281.2) else none) else none) := by
  rw [b_384_13, hl, Option.bind_some, if_neg hn, hx, Option.bind_some, hk]
  rfl
theorem lw_33 (hl : av_len X h (some 1000000) = some n) (hn : ¬ n - 8 < v4) (hx : av_lI X h (some 1000000) v4 = some x) (hk : x &&& 63 = 33) : bd X d 384 13 [(0, vr (some 1000000)), (1, vr (some 0)), (2, vr (some 137)), (3, vr (some 225)), (4, vi v4)] [] h =
    ((av_lI X h (some 1000000) (v4 + (1 : Int32))).bind fun x282 =>
    (av_lI X h (some 1000000) (v4 + (2 : Int32))).bind fun x283 =>
    (av_lI X h (some 1000000) (v4 + (3 : Int32))).bind fun x284 =>
    if x284 = 0 then
      (bd X d 384 1515 [(0, vr (some 1000000)), (1, vr (some 0)), (2, vr (some 137)), (3, vr (some 225)), (4, vi v4)] [vi (0 : Int32), vi x283, vi x282, vr (some 0)] h)
    else bd X d 384 1515 [(0, vr (some 1000000)), (1, vr (some 0)), (2, vr (some 137)), (3, vr (some 225)), (4, vi v4)] [vi (1 : Int32), vi x283, vi x282, vr (some 0)] h) := by
  rw [b_384_13, hl, Option.bind_some, if_neg hn, hx, Option.bind_some, hk]
  rfl
theorem lw_34 (hl : av_len X h (some 1000000) = some n) (hn : ¬ n - 8 < v4) (hx : av_lI X h (some 1000000) v4 = some x) (hk : x &&& 63 = 34) : bd X d 384 13 [(0, vr (some 1000000)), (1, vr (some 0)), (2, vr (some 137)), (3, vr (some 225)), (4, vi v4)] [] h =
    ((av_lI X h (some 1000000) (v4 + (1 : Int32))).bind fun x285 =>
    (av_lI X h (some 1000000) (v4 + (2 : Int32))).bind fun x286 =>
    if av_is h (some 0) 10 = true then (
    (av_cI (ev X d 163 [vr (some 0), vi x285, vi x286] h)).bind fun q287 =>
    (av_lI X q287.2 (some 1000000) (v4 + (1 : Int32))).bind fun x288 =>
    (av_lI X q287.2 (some 1000000) (v4 + (2 : Int32))).bind fun x289 =>
    if av_is q287.2 (some 137) 11 = true then (
    (av_cI (ev X d 343 [vr (some 137), vi x288, vi x289] q287.2)).bind fun q290 =>
    if q287.1 = q290.1 then
      (bd X d 384 13 [(0, vr (some 1000000)), (1, vr (some 0)), (2, vr (some 137)), (3, vr (some 225)), (4, vi (v4 + (8 : Int32)))] [] q290.2)
    else (av_bz (0 : Int32)).bind fun w => av_rI w q290.2) else none) else none) := by
  rw [b_384_13, hl, Option.bind_some, if_neg hn, hx, Option.bind_some, hk]
  rfl
theorem lw_35 (hl : av_len X h (some 1000000) = some n) (hn : ¬ n - 8 < v4) (hx : av_lI X h (some 1000000) v4 = some x) (hk : x &&& 63 = 35) : bd X d 384 13 [(0, vr (some 1000000)), (1, vr (some 0)), (2, vr (some 137)), (3, vr (some 225)), (4, vi v4)] [] h =
    ((av_lI X h (some 1000000) (v4 + (1 : Int32))).bind fun x291 =>
    (av_lI X h (some 1000000) (v4 + (2 : Int32))).bind fun x292 =>
    (av_lI X h (some 1000000) (v4 + (3 : Int32))).bind fun x293 =>
    (av_lI X h (some 1000000) (v4 + (4 : Int32))).bind fun x294 =>
    (av_lI X h (some 1000000) (v4 + (5 : Int32))).bind fun x295 =>
    if x295 = 0 then
      (bd X d 384 1597 [(0, vr (some 1000000)), (1, vr (some 0)), (2, vr (some 137)), (3, vr (some 225)), (4, vi v4)] [vi (0 : Int32), vi x294, vi x293, vi x292, vi x291, vr (some 0)] h)
    else bd X d 384 1597 [(0, vr (some 1000000)), (1, vr (some 0)), (2, vr (some 137)), (3, vr (some 225)), (4, vi v4)] [vi (1 : Int32), vi x294, vi x293, vi x292, vi x291, vr (some 0)] h) := by
  rw [b_384_13, hl, Option.bind_some, if_neg hn, hx, Option.bind_some, hk]
  rfl
theorem lw_36 (hl : av_len X h (some 1000000) = some n) (hn : ¬ n - 8 < v4) (hx : av_lI X h (some 1000000) v4 = some x) (hk : x &&& 63 = 36) : bd X d 384 13 [(0, vr (some 1000000)), (1, vr (some 0)), (2, vr (some 137)), (3, vr (some 225)), (4, vi v4)] [] h =
    ((av_lI X h (some 1000000) (v4 + (1 : Int32))).bind fun x296 =>
    (av_lI X h (some 1000000) (v4 + (2 : Int32))).bind fun x297 =>
    (av_lI X h (some 1000000) (v4 + (3 : Int32))).bind fun x298 =>
    if av_is h (some 0) 10 = true then (
    (av_cI (ev X d 165 [vr (some 0), vi x296, vi x297, vi x298] h)).bind fun q299 =>
    (av_lI X q299.2 (some 1000000) (v4 + (1 : Int32))).bind fun x300 =>
    (av_lI X q299.2 (some 1000000) (v4 + (2 : Int32))).bind fun x301 =>
    (av_lI X q299.2 (some 1000000) (v4 + (3 : Int32))).bind fun x302 =>
    if av_is q299.2 (some 137) 11 = true then (
    (av_cI (ev X d 346 [vr (some 137), vi x300, vi x301, vi x302] q299.2)).bind fun q303 =>
    if q299.1 = q303.1 then
      (bd X d 384 13 [(0, vr (some 1000000)), (1, vr (some 0)), (2, vr (some 137)), (3, vr (some 225)), (4, vi (v4 + (8 : Int32)))] [] q303.2)
    else (av_bz (0 : Int32)).bind fun w => av_rI w q303.2) else none) else none) := by
  rw [b_384_13, hl, Option.bind_some, if_neg hn, hx, Option.bind_some, hk]
  rfl
theorem lw_37 (hl : av_len X h (some 1000000) = some n) (hn : ¬ n - 8 < v4) (hx : av_lI X h (some 1000000) v4 = some x) (hk : x &&& 63 = 37) : bd X d 384 13 [(0, vr (some 1000000)), (1, vr (some 0)), (2, vr (some 137)), (3, vr (some 225)), (4, vi v4)] [] h =
    ((av_lI X h (some 1000000) (v4 + (1 : Int32))).bind fun x304 =>
    (av_lI X h (some 1000000) (v4 + (2 : Int32))).bind fun x305 =>
    (av_lI X h (some 1000000) (v4 + (3 : Int32))).bind fun x306 =>
    if av_is h (some 0) 10 = true then (
    (av_cI (ev X d 166 [vr (some 0), vi x304, vi x305, vi x306] h)).bind fun q307 =>
    (av_lI X q307.2 (some 1000000) (v4 + (1 : Int32))).bind fun x308 =>
    (av_lI X q307.2 (some 1000000) (v4 + (2 : Int32))).bind fun x309 =>
    (av_lI X q307.2 (some 1000000) (v4 + (3 : Int32))).bind fun x310 =>
    if av_is q307.2 (some 137) 11 = true then (
    (av_cI (ev X d 347 [vr (some 137), vi x308, vi x309, vi x310] q307.2)).bind fun q311 =>
    if q307.1 = q311.1 then
      (bd X d 384 13 [(0, vr (some 1000000)), (1, vr (some 0)), (2, vr (some 137)), (3, vr (some 225)), (4, vi (v4 + (8 : Int32)))] [] q311.2)
    else (av_bz (0 : Int32)).bind fun w => av_rI w q311.2) else none) else none) := by
  rw [b_384_13, hl, Option.bind_some, if_neg hn, hx, Option.bind_some, hk]
  rfl
theorem lw_38 (hl : av_len X h (some 1000000) = some n) (hn : ¬ n - 8 < v4) (hx : av_lI X h (some 1000000) v4 = some x) (hk : x &&& 63 = 38) : bd X d 384 13 [(0, vr (some 1000000)), (1, vr (some 0)), (2, vr (some 137)), (3, vr (some 225)), (4, vi v4)] [] h =
    ((av_lI X h (some 1000000) (v4 + (1 : Int32))).bind fun x312 =>
    (av_lI X h (some 1000000) (v4 + (2 : Int32))).bind fun x313 =>
    (av_lI X h (some 1000000) (v4 + (3 : Int32))).bind fun x314 =>
    (av_lI X h (some 1000000) (v4 + (4 : Int32))).bind fun x315 =>
    (av_lI X h (some 1000000) (v4 + (5 : Int32))).bind fun x316 =>
    (av_lI X h (some 1000000) (v4 + (6 : Int32))).bind fun x317 =>
    if av_is h (some 0) 10 = true then (
    (av_cI (ev X d 167 [vr (some 0), vi x312, vi x313, vi x314, vi x315, vi x316, vi x317] h)).bind fun q318 =>
    (av_lI X q318.2 (some 1000000) (v4 + (1 : Int32))).bind fun x319 =>
    (av_lI X q318.2 (some 1000000) (v4 + (2 : Int32))).bind fun x320 =>
    (av_lI X q318.2 (some 1000000) (v4 + (3 : Int32))).bind fun x321 =>
    (av_lI X q318.2 (some 1000000) (v4 + (4 : Int32))).bind fun x322 =>
    (av_lI X q318.2 (some 1000000) (v4 + (5 : Int32))).bind fun x323 =>
    (av_lI X q318.2 (some 1000000) (v4 + (6 : Int32))).bind fun x324 =>
    if av_is q318.2 (some 137) 11 = true then (
    (av_cI (ev X d 348 [vr (some 137), vi x319, vi x320, vi x321, vi x322, vi x323, vi x324] q318.2)).bind fun q325 =>
    if q318.1 = q325.1 then
      (bd X d 384 13 [(0, vr (some 1000000)), (1, vr (some 0)), (2, vr (some 137)), (3, vr (some 225)), (4, vi (v4 + (8 : Int32)))] [] q325.2)
    else (av_bz (0 : Int32)).bind fun w => av_rI w q325.2) else none) else none) := by
  rw [b_384_13, hl, Option.bind_some, if_neg hn, hx, Option.bind_some, hk]
  rfl
theorem lw_39 (hl : av_len X h (some 1000000) = some n) (hn : ¬ n - 8 < v4) (hx : av_lI X h (some 1000000) v4 = some x) (hk : x &&& 63 = 39) : bd X d 384 13 [(0, vr (some 1000000)), (1, vr (some 0)), (2, vr (some 137)), (3, vr (some 225)), (4, vi v4)] [] h =
    ((av_lI X h (some 1000000) (v4 + (1 : Int32))).bind fun x326 =>
    if av_is h (some 0) 10 = true then (
    (av_cI (ev X d 168 [vr (some 0), vi x326] h)).bind fun q327 =>
    (av_lI X q327.2 (some 1000000) (v4 + (1 : Int32))).bind fun x328 =>
    if av_is q327.2 (some 137) 11 = true then (
    (av_cI (ev X d 350 [vr (some 137), vi x328] q327.2)).bind fun q329 =>
    if q327.1 = q329.1 then
      (bd X d 384 13 [(0, vr (some 1000000)), (1, vr (some 0)), (2, vr (some 137)), (3, vr (some 225)), (4, vi (v4 + (8 : Int32)))] [] q329.2)
    else (av_bz (0 : Int32)).bind fun w => av_rI w q329.2) else none) else none) := by
  rw [b_384_13, hl, Option.bind_some, if_neg hn, hx, Option.bind_some, hk]
  rfl
theorem lw_40 (hl : av_len X h (some 1000000) = some n) (hn : ¬ n - 8 < v4) (hx : av_lI X h (some 1000000) v4 = some x) (hk : x &&& 63 = 40) : bd X d 384 13 [(0, vr (some 1000000)), (1, vr (some 0)), (2, vr (some 137)), (3, vr (some 225)), (4, vi v4)] [] h =
    ((av_lI X h (some 1000000) (v4 + (1 : Int32))).bind fun x330 =>
    (av_lI X h (some 1000000) (v4 + (2 : Int32))).bind fun x331 =>
    (av_lI X h (some 1000000) (v4 + (3 : Int32))).bind fun x332 =>
    (av_lI X h (some 1000000) (v4 + (4 : Int32))).bind fun x333 =>
    (av_lI X h (some 1000000) (v4 + (5 : Int32))).bind fun x334 =>
    if av_is h (some 0) 10 = true then (
    (av_cI (ev X d 169 [vr (some 0), vi x330, vi x331, vi x332, vi x333, vi x334] h)).bind fun q335 =>
    (av_lI X q335.2 (some 1000000) (v4 + (1 : Int32))).bind fun x336 =>
    (av_lI X q335.2 (some 1000000) (v4 + (2 : Int32))).bind fun x337 =>
    (av_lI X q335.2 (some 1000000) (v4 + (3 : Int32))).bind fun x338 =>
    (av_lI X q335.2 (some 1000000) (v4 + (4 : Int32))).bind fun x339 =>
    (av_lI X q335.2 (some 1000000) (v4 + (5 : Int32))).bind fun x340 =>
    if av_is q335.2 (some 137) 11 = true then (
    (av_cI (ev X d 351 [vr (some 137), vi x336, vi x337, vi x338, vi x339, vi x340] q335.2)).bind fun q341 =>
    if q335.1 = q341.1 then
      (bd X d 384 13 [(0, vr (some 1000000)), (1, vr (some 0)), (2, vr (some 137)), (3, vr (some 225)), (4, vi (v4 + (8 : Int32)))] [] q341.2)
    else (av_bz (0 : Int32)).bind fun w => av_rI w q341.2) else none) else none) := by
  rw [b_384_13, hl, Option.bind_some, if_neg hn, hx, Option.bind_some, hk]
  rfl
theorem lw_41 (hl : av_len X h (some 1000000) = some n) (hn : ¬ n - 8 < v4) (hx : av_lI X h (some 1000000) v4 = some x) (hk : x &&& 63 = 41) : bd X d 384 13 [(0, vr (some 1000000)), (1, vr (some 0)), (2, vr (some 137)), (3, vr (some 225)), (4, vi v4)] [] h =
    ((av_lI X h (some 1000000) (v4 + (1 : Int32))).bind fun x342 =>
    (av_lI X h (some 1000000) (v4 + (2 : Int32))).bind fun x343 =>
    if av_is h (some 0) 10 = true then (
    (av_cI (ev X d 170 [vr (some 0), vi x342, vi x343] h)).bind fun q344 =>
    (av_lI X q344.2 (some 1000000) (v4 + (1 : Int32))).bind fun x345 =>
    (av_lI X q344.2 (some 1000000) (v4 + (2 : Int32))).bind fun x346 =>
    if av_is q344.2 (some 137) 11 = true then (
    (av_cI (ev X d 353 [vr (some 137), vi x345, vi x346] q344.2)).bind fun q347 =>
    if q344.1 = q347.1 then
      (bd X d 384 13 [(0, vr (some 1000000)), (1, vr (some 0)), (2, vr (some 137)), (3, vr (some 225)), (4, vi (v4 + (8 : Int32)))] [] q347.2)
    else (av_bz (0 : Int32)).bind fun w => av_rI w q347.2) else none) else none) := by
  rw [b_384_13, hl, Option.bind_some, if_neg hn, hx, Option.bind_some, hk]
  rfl
theorem lw_42 (hl : av_len X h (some 1000000) = some n) (hn : ¬ n - 8 < v4) (hx : av_lI X h (some 1000000) v4 = some x) (hk : x &&& 63 = 42) : bd X d 384 13 [(0, vr (some 1000000)), (1, vr (some 0)), (2, vr (some 137)), (3, vr (some 225)), (4, vi v4)] [] h =
    ((av_lI X h (some 1000000) (v4 + (1 : Int32))).bind fun x348 =>
    (av_lI X h (some 1000000) (v4 + (2 : Int32))).bind fun x349 =>
    if av_is h (some 0) 10 = true then (
    (av_cI (ev X d 171 [vr (some 0), vi x348, vi x349] h)).bind fun q350 =>
    (av_lI X q350.2 (some 1000000) (v4 + (1 : Int32))).bind fun x351 =>
    (av_lI X q350.2 (some 1000000) (v4 + (2 : Int32))).bind fun x352 =>
    if av_is q350.2 (some 137) 11 = true then (
    (av_cI (ev X d 357 [vr (some 137), vi x351, vi x352] q350.2)).bind fun q353 =>
    if q350.1 = q353.1 then
      (bd X d 384 13 [(0, vr (some 1000000)), (1, vr (some 0)), (2, vr (some 137)), (3, vr (some 225)), (4, vi (v4 + (8 : Int32)))] [] q353.2)
    else (av_bz (0 : Int32)).bind fun w => av_rI w q353.2) else none) else none) := by
  rw [b_384_13, hl, Option.bind_some, if_neg hn, hx, Option.bind_some, hk]
  rfl
theorem lw_43 (hl : av_len X h (some 1000000) = some n) (hn : ¬ n - 8 < v4) (hx : av_lI X h (some 1000000) v4 = some x) (hk : x &&& 63 = 43) : bd X d 384 13 [(0, vr (some 1000000)), (1, vr (some 0)), (2, vr (some 137)), (3, vr (some 225)), (4, vi v4)] [] h =
    (if av_is h (some 0) 10 = true then (
    (av_cI (ev X d 172 [vr (some 0)] h)).bind fun q354 =>
    if av_is q354.2 (some 137) 11 = true then (
    (av_cI (ev X d 358 [vr (some 137)] q354.2)).bind fun q355 =>
    if q354.1 = q355.1 then
      (bd X d 384 13 [(0, vr (some 1000000)), (1, vr (some 0)), (2, vr (some 137)), (3, vr (some 225)), (4, vi (v4 + (8 : Int32)))] [] q355.2)
    else (av_bz (0 : Int32)).bind fun w => av_rI w q355.2) else none) else none) := by
  rw [b_384_13, hl, Option.bind_some, if_neg hn, hx, Option.bind_some, hk]
  rfl
theorem lw_44 (hl : av_len X h (some 1000000) = some n) (hn : ¬ n - 8 < v4) (hx : av_lI X h (some 1000000) v4 = some x) (hk : x &&& 63 = 44) : bd X d 384 13 [(0, vr (some 1000000)), (1, vr (some 0)), (2, vr (some 137)), (3, vr (some 225)), (4, vi v4)] [] h =
    ((av_lI X h (some 1000000) (v4 + (1 : Int32))).bind fun x356 =>
    (av_lI X h (some 1000000) (v4 + (2 : Int32))).bind fun x357 =>
    (av_lI X h (some 1000000) (v4 + (3 : Int32))).bind fun x358 =>
    if av_is h (some 0) 10 = true then (
    (av_cI (ev X d 173 [vr (some 0), vi x356, vi x357, vi x358] h)).bind fun q359 =>
    (av_lI X q359.2 (some 1000000) (v4 + (1 : Int32))).bind fun x360 =>
    (av_lI X q359.2 (some 1000000) (v4 + (2 : Int32))).bind fun x361 =>
    (av_lI X q359.2 (some 1000000) (v4 + (3 : Int32))).bind fun x362 =>
    if av_is q359.2 (some 137) 11 = true then (
    (av_cI (ev X d 359 [vr (some 137), vi x360, vi x361, vi x362] q359.2)).bind fun q363 =>
    if q359.1 = q363.1 then
      (bd X d 384 13 [(0, vr (some 1000000)), (1, vr (some 0)), (2, vr (some 137)), (3, vr (some 225)), (4, vi (v4 + (8 : Int32)))] [] q363.2)
    else (av_bz (0 : Int32)).bind fun w => av_rI w q363.2) else none) else none) := by
  rw [b_384_13, hl, Option.bind_some, if_neg hn, hx, Option.bind_some, hk]
  rfl
theorem lw_45 (hl : av_len X h (some 1000000) = some n) (hn : ¬ n - 8 < v4) (hx : av_lI X h (some 1000000) v4 = some x) (hk : x &&& 63 = 45) : bd X d 384 13 [(0, vr (some 1000000)), (1, vr (some 0)), (2, vr (some 137)), (3, vr (some 225)), (4, vi v4)] [] h =
    ((av_lI X h (some 1000000) (v4 + (1 : Int32))).bind fun x364 =>
    (av_lI X h (some 1000000) (v4 + (2 : Int32))).bind fun x365 =>
    (av_lI X h (some 1000000) (v4 + (3 : Int32))).bind fun x366 =>
    (av_lI X h (some 1000000) (v4 + (4 : Int32))).bind fun x367 =>
    (av_lI X h (some 1000000) (v4 + (5 : Int32))).bind fun x368 =>
    (av_lI X h (some 1000000) (v4 + (6 : Int32))).bind fun x369 =>
    if av_is h (some 0) 10 = true then (
    (av_cI (ev X d 174 [vr (some 0), vi x364, vi x365, vi x366, vi x367, vi x368, vi x369] h)).bind fun q370 =>
    (av_lI X q370.2 (some 1000000) (v4 + (1 : Int32))).bind fun x371 =>
    (av_lI X q370.2 (some 1000000) (v4 + (2 : Int32))).bind fun x372 =>
    (av_lI X q370.2 (some 1000000) (v4 + (3 : Int32))).bind fun x373 =>
    (av_lI X q370.2 (some 1000000) (v4 + (4 : Int32))).bind fun x374 =>
    (av_lI X q370.2 (some 1000000) (v4 + (5 : Int32))).bind fun x375 =>
    (av_lI X q370.2 (some 1000000) (v4 + (6 : Int32))).bind fun x376 =>
    if av_is q370.2 (some 137) 11 = true then (
    (av_cI (ev X d 361 [vr (some 137), vi x371, vi x372, vi x373, vi x374, vi x375, vi x376] q370.2)).bind fun q377 =>
    if q370.1 = q377.1 then
      (bd X d 384 13 [(0, vr (some 1000000)), (1, vr (some 0)), (2, vr (some 137)), (3, vr (some 225)), (4, vi (v4 + (8 : Int32)))] [] q377.2)
    else (av_bz (0 : Int32)).bind fun w => av_rI w q377.2) else none) else none) := by
  rw [b_384_13, hl, Option.bind_some, if_neg hn, hx, Option.bind_some, hk]
  rfl
theorem lw_46 (hl : av_len X h (some 1000000) = some n) (hn : ¬ n - 8 < v4) (hx : av_lI X h (some 1000000) v4 = some x) (hk : x &&& 63 = 46) : bd X d 384 13 [(0, vr (some 1000000)), (1, vr (some 0)), (2, vr (some 137)), (3, vr (some 225)), (4, vi v4)] [] h =
    ((av_lI X h (some 1000000) (v4 + (1 : Int32))).bind fun x378 =>
    (av_lI X h (some 1000000) (v4 + (2 : Int32))).bind fun x379 =>
    (av_lI X h (some 1000000) (v4 + (3 : Int32))).bind fun x380 =>
    if av_is h (some 0) 10 = true then (
    (av_cI (ev X d 175 [vr (some 0), vi x378, vi x379, vi x380] h)).bind fun q381 =>
    (av_lI X q381.2 (some 1000000) (v4 + (1 : Int32))).bind fun x382 =>
    (av_lI X q381.2 (some 1000000) (v4 + (2 : Int32))).bind fun x383 =>
    (av_lI X q381.2 (some 1000000) (v4 + (3 : Int32))).bind fun x384 =>
    if av_is q381.2 (some 137) 11 = true then (
    (av_cI (ev X d 363 [vr (some 137), vi x382, vi x383, vi x384] q381.2)).bind fun q385 =>
    if q381.1 = q385.1 then
      (bd X d 384 13 [(0, vr (some 1000000)), (1, vr (some 0)), (2, vr (some 137)), (3, vr (some 225)), (4, vi (v4 + (8 : Int32)))] [] q385.2)
    else (av_bz (0 : Int32)).bind fun w => av_rI w q385.2) else none) else none) := by
  rw [b_384_13, hl, Option.bind_some, if_neg hn, hx, Option.bind_some, hk]
  rfl
theorem lw_47 (hl : av_len X h (some 1000000) = some n) (hn : ¬ n - 8 < v4) (hx : av_lI X h (some 1000000) v4 = some x) (hk : x &&& 63 = 47) : bd X d 384 13 [(0, vr (some 1000000)), (1, vr (some 0)), (2, vr (some 137)), (3, vr (some 225)), (4, vi v4)] [] h =
    ((av_lI X h (some 1000000) (v4 + (1 : Int32))).bind fun x386 =>
    (av_lI X h (some 1000000) (v4 + (2 : Int32))).bind fun x387 =>
    if av_is h (some 0) 10 = true then (
    (av_cI (ev X d 176 [vr (some 0), vi x386, vi x387] h)).bind fun q388 =>
    (av_lI X q388.2 (some 1000000) (v4 + (1 : Int32))).bind fun x389 =>
    (av_lI X q388.2 (some 1000000) (v4 + (2 : Int32))).bind fun x390 =>
    if av_is q388.2 (some 137) 11 = true then (
    (av_cI (ev X d 364 [vr (some 137), vi x389, vi x390] q388.2)).bind fun q391 =>
    if q388.1 = q391.1 then
      (bd X d 384 13 [(0, vr (some 1000000)), (1, vr (some 0)), (2, vr (some 137)), (3, vr (some 225)), (4, vi (v4 + (8 : Int32)))] [] q391.2)
    else (av_bz (0 : Int32)).bind fun w => av_rI w q391.2) else none) else none) := by
  rw [b_384_13, hl, Option.bind_some, if_neg hn, hx, Option.bind_some, hk]
  rfl
theorem lw_48 (hl : av_len X h (some 1000000) = some n) (hn : ¬ n - 8 < v4) (hx : av_lI X h (some 1000000) v4 = some x) (hk : x &&& 63 = 48) : bd X d 384 13 [(0, vr (some 1000000)), (1, vr (some 0)), (2, vr (some 137)), (3, vr (some 225)), (4, vi v4)] [] h =
    ((av_lI X h (some 1000000) (v4 + (1 : Int32))).bind fun x392 =>
    if av_is h (some 0) 10 = true then (
    (av_cI (ev X d 177 [vr (some 0), vi x392] h)).bind fun q393 =>
    (av_lI X q393.2 (some 1000000) (v4 + (1 : Int32))).bind fun x394 =>
    if av_is q393.2 (some 137) 11 = true then (
    (av_cI (ev X d 365 [vr (some 137), vi x394] q393.2)).bind fun q395 =>
    if q393.1 = q395.1 then
      (bd X d 384 13 [(0, vr (some 1000000)), (1, vr (some 0)), (2, vr (some 137)), (3, vr (some 225)), (4, vi (v4 + (8 : Int32)))] [] q395.2)
    else (av_bz (0 : Int32)).bind fun w => av_rI w q395.2) else none) else none) := by
  rw [b_384_13, hl, Option.bind_some, if_neg hn, hx, Option.bind_some, hk]
  rfl
theorem lw_49 (hl : av_len X h (some 1000000) = some n) (hn : ¬ n - 8 < v4) (hx : av_lI X h (some 1000000) v4 = some x) (hk : x &&& 63 = 49) : bd X d 384 13 [(0, vr (some 1000000)), (1, vr (some 0)), (2, vr (some 137)), (3, vr (some 225)), (4, vi v4)] [] h =
    ((av_lI X h (some 1000000) (v4 + (1 : Int32))).bind fun x396 =>
    (av_lI X h (some 1000000) (v4 + (2 : Int32))).bind fun x397 =>
    (av_lI X h (some 1000000) (v4 + (3 : Int32))).bind fun x398 =>
    (av_lI X h (some 1000000) (v4 + (4 : Int32))).bind fun x399 =>
    (av_lI X h (some 1000000) (v4 + (5 : Int32))).bind fun x400 =>
    (av_lI X h (some 1000000) (v4 + (6 : Int32))).bind fun x401 =>
    (av_lI X h (some 1000000) (v4 + (7 : Int32))).bind fun x402 =>
    if av_is h (some 0) 10 = true then (
    (av_cI (ev X d 178 [vr (some 0), vi x396, vi x397, vi x398, vi x399, vi x400, vi x401, vi x402] h)).bind fun q403 =>
    (av_lI X q403.2 (some 1000000) (v4 + (1 : Int32))).bind fun x404 =>
    (av_lI X q403.2 (some 1000000) (v4 + (2 : Int32))).bind fun x405 =>
    (av_lI X q403.2 (some 1000000) (v4 + (3 : Int32))).bind fun x406 =>
    (av_lI X q403.2 (some 1000000) (v4 + (4 : Int32))).bind fun x407 =>
    (av_lI X q403.2 (some 1000000) (v4 + (5 : Int32))).bind fun x408 =>
    (av_lI X q403.2 (some 1000000) (v4 + (6 : Int32))).bind fun x409 =>
    (av_lI X q403.2 (some 1000000) (v4 + (7 : Int32))).bind fun x410 =>
    if av_is q403.2 (some 137) 11 = true then (
    (av_cI (ev X d 366 [vr (some 137), vi x404, vi x405, vi x406, vi x407, vi x408, vi x409, vi x410] q403.2)).bind fun q411 =>
    if q403.1 = q411.1 then
      (bd X d 384 13 [(0, vr (some 1000000)), (1, vr (some 0)), (2, vr (some 137)), (3, vr (some 225)), (4, vi (v4 + (8 : Int32)))] [] q411.2)
    else (av_bz (0 : Int32)).bind fun w => av_rI w q411.2) else none) else none) := by
  rw [b_384_13, hl, Option.bind_some, if_neg hn, hx, Option.bind_some, hk]
  rfl
theorem lw_50 (hl : av_len X h (some 1000000) = some n) (hn : ¬ n - 8 < v4) (hx : av_lI X h (some 1000000) v4 = some x) (hk : x &&& 63 = 50) : bd X d 384 13 [(0, vr (some 1000000)), (1, vr (some 0)), (2, vr (some 137)), (3, vr (some 225)), (4, vi v4)] [] h =
    (if av_is h (some 0) 10 = true then (
    (av_cI (ev X d 179 [vr (some 0)] h)).bind fun q412 =>
    if av_is q412.2 (some 137) 11 = true then (
    (av_cI (ev X d 367 [vr (some 137)] q412.2)).bind fun q413 =>
    if q412.1 = q413.1 then
      (bd X d 384 13 [(0, vr (some 1000000)), (1, vr (some 0)), (2, vr (some 137)), (3, vr (some 225)), (4, vi (v4 + (8 : Int32)))] [] q413.2)
    else (av_bz (0 : Int32)).bind fun w => av_rI w q413.2) else none) else none) := by
  rw [b_384_13, hl, Option.bind_some, if_neg hn, hx, Option.bind_some, hk]
  rfl
theorem lw_51 (hl : av_len X h (some 1000000) = some n) (hn : ¬ n - 8 < v4) (hx : av_lI X h (some 1000000) v4 = some x) (hk : x &&& 63 = 51) : bd X d 384 13 [(0, vr (some 1000000)), (1, vr (some 0)), (2, vr (some 137)), (3, vr (some 225)), (4, vi v4)] [] h =
    ((av_lI X h (some 1000000) (v4 + (1 : Int32))).bind fun x414 =>
    (av_cI (ev X d 9103 [vr (some 0), vi x414, vr (some 225)] h)).bind fun q415 =>
    (av_lI X q415.2 (some 1000000) (v4 + (1 : Int32))).bind fun x416 =>
    if av_is q415.2 (some 137) 11 = true then (
    (av_cL (ev X d 370 [vr (some 137), vi x416] q415.2)).bind fun q417 =>
    if av_is q417.2 (some 137) 11 = true then (
    (av_cI (ev X d 236 [vr (some 137)] q417.2)).bind fun q418 =>
    if q418.1 = q415.1 then
      (if q415.1 = 0 then
        ((av_lL q418.2 (some 225) (0 : Int32)).bind fun x419 =>
        if (lg_cmp x419 q417.1) = 0 then
          (bd X d 384 13 [(0, vr (some 1000000)), (1, vr (some 0)), (2, vr (some 137)), (3, vr (some 225)), (4, vi (v4 + (8 : Int32)))] [] q418.2)
        else (av_bz (0 : Int32)).bind fun w => av_rI w q418.2)
      else bd X d 384 13 [(0, vr (some 1000000)), (1, vr (some 0)), (2, vr (some 137)), (3, vr (some 225)), (4, vi (v4 + (8 : Int32)))] [] q418.2)
    else (av_bz (0 : Int32)).bind fun w => av_rI w q418.2) else none) else none) := by
  rw [b_384_13, hl, Option.bind_some, if_neg hn, hx, Option.bind_some, hk]
  rfl
theorem lw_52 (hl : av_len X h (some 1000000) = some n) (hn : ¬ n - 8 < v4) (hx : av_lI X h (some 1000000) v4 = some x) (hk : x &&& 63 = 52) : bd X d 384 13 [(0, vr (some 1000000)), (1, vr (some 0)), (2, vr (some 137)), (3, vr (some 225)), (4, vi v4)] [] h =
    ((av_lI X h (some 1000000) (v4 + (1 : Int32))).bind fun x420 =>
    (av_lI X h (some 1000000) (v4 + (2 : Int32))).bind fun x421 =>
    (av_lI X h (some 1000000) (v4 + (3 : Int32))).bind fun x422 =>
    if x422 = 0 then
      (bd X d 384 2231 [(0, vr (some 1000000)), (1, vr (some 0)), (2, vr (some 137)), (3, vr (some 225)), (4, vi v4)] [vi (0 : Int32), vi x421, vi x420, vr (some 0)] h)
    else bd X d 384 2231 [(0, vr (some 1000000)), (1, vr (some 0)), (2, vr (some 137)), (3, vr (some 225)), (4, vi v4)] [vi (1 : Int32), vi x421, vi x420, vr (some 0)] h) := by
  rw [b_384_13, hl, Option.bind_some, if_neg hn, hx, Option.bind_some, hk]
  rfl
theorem lw_53 (hl : av_len X h (some 1000000) = some n) (hn : ¬ n - 8 < v4) (hx : av_lI X h (some 1000000) v4 = some x) (hk : x &&& 63 = 53) : bd X d 384 13 [(0, vr (some 1000000)), (1, vr (some 0)), (2, vr (some 137)), (3, vr (some 225)), (4, vi v4)] [] h =
    ((av_lI X h (some 1000000) (v4 + (1 : Int32))).bind fun x423 =>
    if av_is h (some 0) 10 = true then (
    (av_cI (ev X d 157 [vr (some 0), vi x423] h)).bind fun q424 =>
    (av_lI X q424.2 (some 1000000) (v4 + (1 : Int32))).bind fun x425 =>
    if av_is q424.2 (some 137) 11 = true then (
    (av_cI (ev X d 374 [vr (some 137), vi x425] q424.2)).bind fun q426 =>
    if q424.1 = q426.1 then
      (bd X d 384 13 [(0, vr (some 1000000)), (1, vr (some 0)), (2, vr (some 137)), (3, vr (some 225)), (4, vi (v4 + (8 : Int32)))] [] q426.2)
    else (av_bz (0 : Int32)).bind fun w => av_rI w q426.2) else none) else none) := by
  rw [b_384_13, hl, Option.bind_some, if_neg hn, hx, Option.bind_some, hk]
  rfl
theorem lw_54 (hl : av_len X h (some 1000000) = some n) (hn : ¬ n - 8 < v4) (hx : av_lI X h (some 1000000) v4 = some x) (hk : x &&& 63 = 54) : bd X d 384 13 [(0, vr (some 1000000)), (1, vr (some 0)), (2, vr (some 137)), (3, vr (some 225)), (4, vi v4)] [] h =
    ((av_lI X h (some 1000000) (v4 + (1 : Int32))).bind fun x427 =>
    (av_lI X h (some 1000000) (v4 + (2 : Int32))).bind fun x428 =>
    if x428 = 0 then
      (bd X d 384 2288 [(0, vr (some 1000000)), (1, vr (some 0)), (2, vr (some 137)), (3, vr (some 225)), (4, vi v4)] [vi (0 : Int32), vi x427, vr (some 0)] h)
    else bd X d 384 2288 [(0, vr (some 1000000)), (1, vr (some 0)), (2, vr (some 137)), (3, vr (some 225)), (4, vi v4)] [vi (1 : Int32), vi x427, vr (some 0)] h) := by
  rw [b_384_13, hl, Option.bind_some, if_neg hn, hx, Option.bind_some, hk]
  rfl
theorem lw_55 (hl : av_len X h (some 1000000) = some n) (hn : ¬ n - 8 < v4) (hx : av_lI X h (some 1000000) v4 = some x) (hk : x &&& 63 = 55) : bd X d 384 13 [(0, vr (some 1000000)), (1, vr (some 0)), (2, vr (some 137)), (3, vr (some 225)), (4, vi v4)] [] h =
    ((av_lI X h (some 1000000) (v4 + (1 : Int32))).bind fun x429 =>
    if av_is h (some 0) 10 = true then (
    (av_cI (ev X d 182 [vr (some 0), vi x429] h)).bind fun q430 =>
    (av_lI X q430.2 (some 1000000) (v4 + (1 : Int32))).bind fun x431 =>
    if av_is q430.2 (some 137) 11 = true then (
    (av_cI (ev X d 376 [vr (some 137), vi x431] q430.2)).bind fun q432 =>
    if q430.1 = q432.1 then
      (bd X d 384 13 [(0, vr (some 1000000)), (1, vr (some 0)), (2, vr (some 137)), (3, vr (some 225)), (4, vi (v4 + (8 : Int32)))] [] q432.2)
    else (av_bz (0 : Int32)).bind fun w => av_rI w q432.2) else none) else none) := by
  rw [b_384_13, hl, Option.bind_some, if_neg hn, hx, Option.bind_some, hk]
  rfl
theorem lw_end (hl : av_len X h (some 1000000) = some n) (hn : n - 8 < v4) : bd X d 384 13 [(0, vr (some 1000000)), (1, vr (some 0)), (2, vr (some 137)), (3, vr (some 225)), (4, vi v4)] [] h = av_rI 1 h := by
  rw [b_384_13, hl, Option.bind_some, if_pos hn, zb_1]
theorem lw_no (hl : av_len X h (some 1000000) = some n) (hn : ¬ n - 8 < v4) (hx : av_lI X h (some 1000000) v4 = some x) (hk : ∀ k : Nat, k < 56 → ¬ x &&& 63 = nI k) : bd X d 384 13 [(0, vr (some 1000000)), (1, vr (some 0)), (2, vr (some 137)), (3, vr (some 225)), (4, vi v4)] [] h = bd X d 384 13 [(0, vr (some 1000000)), (1, vr (some 0)), (2, vr (some 137)), (3, vr (some 225)), (4, vi (v4 + (8 : Int32)))] [] h := by
  conv => lhs; rw [b_384_13]
  rw [hl, Option.bind_some, if_neg hn, hx, Option.bind_some, if_neg (show ¬ x &&& 63 = 0 from hk 0 (by decide)), if_neg (show ¬ x &&& 63 = 1 from hk 1 (by decide)), if_neg (show ¬ x &&& 63 = 2 from hk 2 (by decide)), if_neg (show ¬ x &&& 63 = 3 from hk 3 (by decide)), if_neg (show ¬ x &&& 63 = 4 from hk 4 (by decide)), if_neg (show ¬ x &&& 63 = 5 from hk 5 (by decide)), if_neg (show ¬ x &&& 63 = 6 from hk 6 (by decide)), if_neg (show ¬ x &&& 63 = 7 from hk 7 (by decide)), if_neg (show ¬ x &&& 63 = 8 from hk 8 (by decide)), if_neg (show ¬ x &&& 63 = 9 from hk 9 (by decide)), if_neg (show ¬ x &&& 63 = 10 from hk 10 (by decide)), if_neg (show ¬ x &&& 63 = 11 from hk 11 (by decide)), if_neg (show ¬ x &&& 63 = 12 from hk 12 (by decide)), if_neg (show ¬ x &&& 63 = 13 from hk 13 (by decide)), if_neg (show ¬ x &&& 63 = 14 from hk 14 (by decide)), if_neg (show ¬ x &&& 63 = 15 from hk 15 (by decide)), if_neg (show ¬ x &&& 63 = 16 from hk 16 (by decide)), if_neg (show ¬ x &&& 63 = 17 from hk 17 (by decide)), if_neg (show ¬ x &&& 63 = 18 from hk 18 (by decide)), if_neg (show ¬ x &&& 63 = 19 from hk 19 (by decide)), if_neg (show ¬ x &&& 63 = 20 from hk 20 (by decide)), if_neg (show ¬ x &&& 63 = 21 from hk 21 (by decide)), if_neg (show ¬ x &&& 63 = 22 from hk 22 (by decide)), if_neg (show ¬ x &&& 63 = 23 from hk 23 (by decide)), if_neg (show ¬ x &&& 63 = 24 from hk 24 (by decide)), if_neg (show ¬ x &&& 63 = 25 from hk 25 (by decide)), if_neg (show ¬ x &&& 63 = 26 from hk 26 (by decide)), if_neg (show ¬ x &&& 63 = 27 from hk 27 (by decide)), if_neg (show ¬ x &&& 63 = 28 from hk 28 (by decide)), if_neg (show ¬ x &&& 63 = 29 from hk 29 (by decide)), if_neg (show ¬ x &&& 63 = 30 from hk 30 (by decide)), if_neg (show ¬ x &&& 63 = 31 from hk 31 (by decide)), if_neg (show ¬ x &&& 63 = 32 from hk 32 (by decide)), if_neg (show ¬ x &&& 63 = 33 from hk 33 (by decide)), if_neg (show ¬ x &&& 63 = 34 from hk 34 (by decide)), if_neg (show ¬ x &&& 63 = 35 from hk 35 (by decide)), if_neg (show ¬ x &&& 63 = 36 from hk 36 (by decide)), if_neg (show ¬ x &&& 63 = 37 from hk 37 (by decide)), if_neg (show ¬ x &&& 63 = 38 from hk 38 (by decide)), if_neg (show ¬ x &&& 63 = 39 from hk 39 (by decide)), if_neg (show ¬ x &&& 63 = 40 from hk 40 (by decide)), if_neg (show ¬ x &&& 63 = 41 from hk 41 (by decide)), if_neg (show ¬ x &&& 63 = 42 from hk 42 (by decide)), if_neg (show ¬ x &&& 63 = 43 from hk 43 (by decide)), if_neg (show ¬ x &&& 63 = 44 from hk 44 (by decide)), if_neg (show ¬ x &&& 63 = 45 from hk 45 (by decide)), if_neg (show ¬ x &&& 63 = 46 from hk 46 (by decide)), if_neg (show ¬ x &&& 63 = 47 from hk 47 (by decide)), if_neg (show ¬ x &&& 63 = 48 from hk 48 (by decide)), if_neg (show ¬ x &&& 63 = 49 from hk 49 (by decide)), if_neg (show ¬ x &&& 63 = 50 from hk 50 (by decide)), if_neg (show ¬ x &&& 63 = 51 from hk 51 (by decide)), if_neg (show ¬ x &&& 63 = 52 from hk 52 (by decide)), if_neg (show ¬ x &&& 63 = 53 from hk 53 (by decide)), if_neg (show ¬ x &&& 63 = 54 from hk 54 (by decide)), if_neg (show ¬ x &&& 63 = 55 from hk 55 (by decide))]
end
