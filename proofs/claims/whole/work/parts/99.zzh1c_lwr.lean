/-! the law's rows, held against the windows (printed by lawrows2.py) -/
set_option maxRecDepth 20000 in
theorem rL_0 : kmr mt_384 in_L 0 48 = true := by decide +kernel
set_option maxRecDepth 20000 in
theorem rL_48 : kmr mt_384 in_L 48 48 = true := kmrw_ok (cw := cw_48) (k := 309) cs_48 (by decide +kernel)
set_option maxRecDepth 20000 in
theorem rL_96 : kmr mt_384 in_L 96 48 = true := kmrw_ok (cw := cw_96) (k := 375) cs_96 (by decide +kernel)
set_option maxRecDepth 20000 in
theorem rL_144 : kmr mt_384 in_L 144 48 = true := kmrw_ok (cw := cw_144) (k := 438) cs_144 (by decide +kernel)
set_option maxRecDepth 20000 in
theorem rL_192 : kmr mt_384 in_L 192 48 = true := kmrw_ok (cw := cw_192) (k := 503) cs_192 (by decide +kernel)
set_option maxRecDepth 20000 in
theorem rL_240 : kmr mt_384 in_L 240 48 = true := kmrw_ok (cw := cw_240) (k := 565) cs_240 (by decide +kernel)
set_option maxRecDepth 20000 in
theorem rL_288 : kmr mt_384 in_L 288 48 = true := kmrw_ok (cw := cw_288) (k := 633) cs_288 (by decide +kernel)
set_option maxRecDepth 20000 in
theorem rL_336 : kmr mt_384 in_L 336 48 = true := kmrw_ok (cw := cw_336) (k := 696) cs_336 (by decide +kernel)
set_option maxRecDepth 20000 in
theorem rL_384 : kmr mt_384 in_L 384 48 = true := kmrw_ok (cw := cw_384) (k := 758) cs_384 (by decide +kernel)
set_option maxRecDepth 20000 in
theorem rL_432 : kmr mt_384 in_L 432 48 = true := kmrw_ok (cw := cw_432) (k := 828) cs_432 (by decide +kernel)
set_option maxRecDepth 20000 in
theorem rL_480 : kmr mt_384 in_L 480 48 = true := kmrw_ok (cw := cw_480) (k := 892) cs_480 (by decide +kernel)
set_option maxRecDepth 20000 in
theorem rL_528 : kmr mt_384 in_L 528 48 = true := kmrw_ok (cw := cw_528) (k := 957) cs_528 (by decide +kernel)
set_option maxRecDepth 20000 in
theorem rL_576 : kmr mt_384 in_L 576 48 = true := kmrw_ok (cw := cw_576) (k := 1025) cs_576 (by decide +kernel)
set_option maxRecDepth 20000 in
theorem rL_624 : kmr mt_384 in_L 624 48 = true := kmrw_ok (cw := cw_624) (k := 1087) cs_624 (by decide +kernel)
set_option maxRecDepth 20000 in
theorem rL_672 : kmr mt_384 in_L 672 48 = true := kmrw_ok (cw := cw_672) (k := 1149) cs_672 (by decide +kernel)
set_option maxRecDepth 20000 in
theorem rL_720 : kmr mt_384 in_L 720 48 = true := kmrw_ok (cw := cw_720) (k := 1214) cs_720 (by decide +kernel)
set_option maxRecDepth 20000 in
theorem rL_768 : kmr mt_384 in_L 768 48 = true := kmrw_ok (cw := cw_768) (k := 1277) cs_768 (by decide +kernel)
set_option maxRecDepth 20000 in
theorem rL_816 : kmr mt_384 in_L 816 48 = true := kmrw_ok (cw := cw_816) (k := 1348) cs_816 (by decide +kernel)
set_option maxRecDepth 20000 in
theorem rL_864 : kmr mt_384 in_L 864 48 = true := kmrw_ok (cw := cw_864) (k := 1412) cs_864 (by decide +kernel)
set_option maxRecDepth 20000 in
theorem rL_912 : kmr mt_384 in_L 912 48 = true := kmrw_ok (cw := cw_912) (k := 1477) cs_912 (by decide +kernel)
set_option maxRecDepth 20000 in
theorem rL_960 : kmr mt_384 in_L 960 48 = true := kmrw_ok (cw := cw_960) (k := 1540) cs_960 (by decide +kernel)
set_option maxRecDepth 20000 in
theorem rL_1008 : kmr mt_384 in_L 1008 48 = true := kmrw_ok (cw := cw_1008) (k := 1600) cs_1008 (by decide +kernel)
set_option maxRecDepth 20000 in
theorem rL_1056 : kmr mt_384 in_L 1056 48 = true := kmrw_ok (cw := cw_1056) (k := 1666) cs_1056 (by decide +kernel)
set_option maxRecDepth 20000 in
theorem rL_1104 : kmr mt_384 in_L 1104 48 = true := kmrw_ok (cw := cw_1104) (k := 1727) cs_1104 (by decide +kernel)
set_option maxRecDepth 20000 in
theorem rL_1152 : kmr mt_384 in_L 1152 48 = true := kmrw_ok (cw := cw_1152) (k := 1790) cs_1152 (by decide +kernel)
set_option maxRecDepth 20000 in
theorem rL_1200 : kmr mt_384 in_L 1200 48 = true := kmrw_ok (cw := cw_1200) (k := 1853) cs_1200 (by decide +kernel)
set_option maxRecDepth 20000 in
theorem rL_1248 : kmr mt_384 in_L 1248 48 = true := kmrw_ok (cw := cw_1248) (k := 1919) cs_1248 (by decide +kernel)
set_option maxRecDepth 20000 in
theorem rL_1296 : kmr mt_384 in_L 1296 48 = true := kmrw_ok (cw := cw_1296) (k := 1985) cs_1296 (by decide +kernel)
set_option maxRecDepth 20000 in
theorem rL_1344 : kmr mt_384 in_L 1344 48 = true := kmrw_ok (cw := cw_1344) (k := 2057) cs_1344 (by decide +kernel)
set_option maxRecDepth 20000 in
theorem rL_1392 : kmr mt_384 in_L 1392 48 = true := kmrw_ok (cw := cw_1392) (k := 2129) cs_1392 (by decide +kernel)
set_option maxRecDepth 20000 in
theorem rL_1440 : kmr mt_384 in_L 1440 48 = true := kmrw_ok (cw := cw_1440) (k := 2196) cs_1440 (by decide +kernel)
set_option maxRecDepth 20000 in
theorem rL_1488 : kmr mt_384 in_L 1488 48 = true := kmrw_ok (cw := cw_1488) (k := 2260) cs_1488 (by decide +kernel)
set_option maxRecDepth 20000 in
theorem rL_1536 : kmr mt_384 in_L 1536 48 = true := kmrw_ok (cw := cw_1536) (k := 2328) cs_1536 (by decide +kernel)
set_option maxRecDepth 20000 in
theorem rL_1584 : kmr mt_384 in_L 1584 48 = true := kmrw_ok (cw := cw_1584) (k := 2393) cs_1584 (by decide +kernel)
set_option maxRecDepth 20000 in
theorem rL_1632 : kmr mt_384 in_L 1632 48 = true := kmrw_ok (cw := cw_1632) (k := 2462) cs_1632 (by decide +kernel)
set_option maxRecDepth 20000 in
theorem rL_1680 : kmr mt_384 in_L 1680 48 = true := kmrw_ok (cw := cw_1680) (k := 2524) cs_1680 (by decide +kernel)
set_option maxRecDepth 20000 in
theorem rL_1728 : kmr mt_384 in_L 1728 48 = true := kmrw_ok (cw := cw_1728) (k := 2586) cs_1728 (by decide +kernel)
set_option maxRecDepth 20000 in
theorem rL_1776 : kmr mt_384 in_L 1776 48 = true := kmrw_ok (cw := cw_1776) (k := 2651) cs_1776 (by decide +kernel)
set_option maxRecDepth 20000 in
theorem rL_1824 : kmr mt_384 in_L 1824 48 = true := kmrw_ok (cw := cw_1824) (k := 2714) cs_1824 (by decide +kernel)
set_option maxRecDepth 20000 in
theorem rL_1872 : kmr mt_384 in_L 1872 48 = true := kmrw_ok (cw := cw_1872) (k := 2780) cs_1872 (by decide +kernel)
set_option maxRecDepth 20000 in
theorem rL_1920 : kmr mt_384 in_L 1920 48 = true := kmrw_ok (cw := cw_1920) (k := 2846) cs_1920 (by decide +kernel)
set_option maxRecDepth 20000 in
theorem rL_1968 : kmr mt_384 in_L 1968 48 = true := kmrw_ok (cw := cw_1968) (k := 2909) cs_1968 (by decide +kernel)
set_option maxRecDepth 20000 in
theorem rL_2016 : kmr mt_384 in_L 2016 48 = true := kmrw_ok (cw := cw_2016) (k := 2973) cs_2016 (by decide +kernel)
set_option maxRecDepth 20000 in
theorem rL_2064 : kmr mt_384 in_L 2064 48 = true := kmrw_ok (cw := cw_2064) (k := 3037) cs_2064 (by decide +kernel)
set_option maxRecDepth 20000 in
theorem rL_2112 : kmr mt_384 in_L 2112 48 = true := kmrw_ok (cw := cw_2112) (k := 3102) cs_2112 (by decide +kernel)
set_option maxRecDepth 20000 in
theorem rL_2160 : kmr mt_384 in_L 2160 48 = true := kmrw_ok (cw := cw_2160) (k := 3164) cs_2160 (by decide +kernel)
set_option maxRecDepth 20000 in
theorem rL_2208 : kmr mt_384 in_L 2208 48 = true := kmrw_ok (cw := cw_2208) (k := 3243) cs_2208 (by decide +kernel)
set_option maxRecDepth 20000 in
theorem rL_2256 : kmr mt_384 in_L 2256 48 = true := kmrw_ok (cw := cw_2256) (k := 3313) cs_2256 (by decide +kernel)
set_option maxRecDepth 20000 in
theorem rL_2304 : kmr mt_384 in_L 2304 32 = true := kmrw_ok (cw := cw_2304) (k := 3383) cs_2304 (by decide +kernel)
theorem qL : kmr mt_384 in_L 0 (16 * mt_384.2.2.2.length) = true := kmr_as (kmr_join (kmr_join (kmr_join (kmr_join (kmr_join (kmr_join (kmr_join (kmr_join (kmr_join (kmr_join (kmr_join (kmr_join (kmr_join (kmr_join (kmr_join (kmr_join (kmr_join (kmr_join (kmr_join (kmr_join (kmr_join (kmr_join (kmr_join (kmr_join (kmr_join (kmr_join (kmr_join (kmr_join (kmr_join (kmr_join (kmr_join (kmr_join (kmr_join (kmr_join (kmr_join (kmr_join (kmr_join (kmr_join (kmr_join (kmr_join (kmr_join (kmr_join (kmr_join (kmr_join (kmr_join (kmr_join (kmr_join (kmr_join (rL_0) rL_48) rL_96) rL_144) rL_192) rL_240) rL_288) rL_336) rL_384) rL_432) rL_480) rL_528) rL_576) rL_624) rL_672) rL_720) rL_768) rL_816) rL_864) rL_912) rL_960) rL_1008) rL_1056) rL_1104) rL_1152) rL_1200) rL_1248) rL_1296) rL_1344) rL_1392) rL_1440) rL_1488) rL_1536) rL_1584) rL_1632) rL_1680) rL_1728) rL_1776) rL_1824) rL_1872) rL_1920) rL_1968) rL_2016) rL_2064) rL_2112) rL_2160) rL_2208) rL_2256) rL_2304) (by decide +kernel)
theorem kLck (i : Nat) (row : av_R) (hr : av_row mt_384.2.2.2 i = some row) : av_ck kK 16 0 mt_384.1 code 8 (av_pc mt_384) i row = true := by
  have h7 := qL
  simp only [kmr, List.all_eq_true, List.mem_range, Nat.zero_add] at h7
  have h8 : i < 16 * mt_384.2.2.2.length := by
    obtain ⟨q, h1, -⟩ := Option.bind_eq_some_iff.mp hr
    have := (List.getElem?_eq_some_iff.mp h1).1
    omega
  have h9 := h7 i h8
  simp only [krow, hr] at h9
  have e : (if in_L.1.name = "<init>" then 1 else 0) = 0 := if_neg (by decide)
  rw [e] at h9
  exact h9
