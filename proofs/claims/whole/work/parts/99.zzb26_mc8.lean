/-! the law's rows, the rest -/
set_option maxRecDepth 20000 in
theorem rL_1152 : kmr mt_384 in_L 1152 48 = true := by decide +kernel
set_option maxRecDepth 20000 in
theorem rL_1200 : kmr mt_384 in_L 1200 48 = true := by decide +kernel
set_option maxRecDepth 20000 in
theorem rL_1248 : kmr mt_384 in_L 1248 48 = true := by decide +kernel
set_option maxRecDepth 20000 in
theorem rL_1296 : kmr mt_384 in_L 1296 48 = true := by decide +kernel
set_option maxRecDepth 20000 in
theorem rL_1344 : kmr mt_384 in_L 1344 48 = true := by decide +kernel
set_option maxRecDepth 20000 in
theorem rL_1392 : kmr mt_384 in_L 1392 48 = true := by decide +kernel
set_option maxRecDepth 20000 in
theorem rL_1440 : kmr mt_384 in_L 1440 48 = true := by decide +kernel
set_option maxRecDepth 20000 in
theorem rL_1488 : kmr mt_384 in_L 1488 48 = true := by decide +kernel
set_option maxRecDepth 20000 in
theorem rL_1536 : kmr mt_384 in_L 1536 48 = true := by decide +kernel
set_option maxRecDepth 20000 in
theorem rL_1584 : kmr mt_384 in_L 1584 48 = true := by decide +kernel
set_option maxRecDepth 20000 in
theorem rL_1632 : kmr mt_384 in_L 1632 48 = true := by decide +kernel
set_option maxRecDepth 20000 in
theorem rL_1680 : kmr mt_384 in_L 1680 48 = true := by decide +kernel
set_option maxRecDepth 20000 in
theorem rL_1728 : kmr mt_384 in_L 1728 48 = true := by decide +kernel
set_option maxRecDepth 20000 in
theorem rL_1776 : kmr mt_384 in_L 1776 48 = true := by decide +kernel
set_option maxRecDepth 20000 in
theorem rL_1824 : kmr mt_384 in_L 1824 48 = true := by decide +kernel
set_option maxRecDepth 20000 in
theorem rL_1872 : kmr mt_384 in_L 1872 48 = true := by decide +kernel
set_option maxRecDepth 20000 in
theorem rL_1920 : kmr mt_384 in_L 1920 48 = true := by decide +kernel
set_option maxRecDepth 20000 in
theorem rL_1968 : kmr mt_384 in_L 1968 48 = true := by decide +kernel
set_option maxRecDepth 20000 in
theorem rL_2016 : kmr mt_384 in_L 2016 48 = true := by decide +kernel
set_option maxRecDepth 20000 in
theorem rL_2064 : kmr mt_384 in_L 2064 48 = true := by decide +kernel
set_option maxRecDepth 20000 in
theorem rL_2112 : kmr mt_384 in_L 2112 48 = true := by decide +kernel
set_option maxRecDepth 20000 in
theorem rL_2160 : kmr mt_384 in_L 2160 48 = true := by decide +kernel
set_option maxRecDepth 20000 in
theorem rL_2208 : kmr mt_384 in_L 2208 48 = true := by decide +kernel
set_option maxRecDepth 20000 in
theorem rL_2256 : kmr mt_384 in_L 2256 48 = true := by decide +kernel
set_option maxRecDepth 20000 in
theorem rL_2304 : kmr mt_384 in_L 2304 32 = true := by decide +kernel
theorem qL : kmr mt_384 in_L 0 (16 * mt_384.2.2.2.length) = true := kmr_as (kmr_join (kmr_join (kmr_join (kmr_join (kmr_join (kmr_join (kmr_join (kmr_join (kmr_join (kmr_join (kmr_join (kmr_join (kmr_join (kmr_join (kmr_join (kmr_join (kmr_join (kmr_join (kmr_join (kmr_join (kmr_join (kmr_join (kmr_join (kmr_join (kmr_join (kmr_join (kmr_join (kmr_join (kmr_join (kmr_join (kmr_join (kmr_join (kmr_join (kmr_join (kmr_join (kmr_join (kmr_join (kmr_join (kmr_join (kmr_join (kmr_join (kmr_join (kmr_join (kmr_join (kmr_join (kmr_join (kmr_join (kmr_join (rL_0) rL_48) rL_96) rL_144) rL_192) rL_240) rL_288) rL_336) rL_384) rL_432) rL_480) rL_528) rL_576) rL_624) rL_672) rL_720) rL_768) rL_816) rL_864) rL_912) rL_960) rL_1008) rL_1056) rL_1104) rL_1152) rL_1200) rL_1248) rL_1296) rL_1344) rL_1392) rL_1440) rL_1488) rL_1536) rL_1584) rL_1632) rL_1680) rL_1728) rL_1776) rL_1824) rL_1872) rL_1920) rL_1968) rL_2016) rL_2064) rL_2112) rL_2160) rL_2208) rL_2256) rL_2304) (by decide +kernel)
theorem kLck (i : Nat) (row : av_R) (hr : av_row mt_384.2.2.2 i = some row) : av_ck kK 16 0 mt_384.1 code 8 (av_pc mt_384) i row = true := by
  have h7 := qL
  simp only [kmr, List.all_eq_true, List.mem_range, Nat.zero_add] at h7
  have h8 : i < 16 * mt_384.2.2.2.length := by
    obtain ⟨q, h1, -⟩ := Option.bind_eq_some_iff.mp hr
    have := (List.getElem?_eq_some_iff.mp h1).1
    omega
  have h9 := h7 i h8
  simp only [krow, hr] at h9
  have e : (if in_L.1.name = "<init>" then 1 else 0) = 0 := if_neg (by decide)
  rw [e] at h9
  exact h9
