/-! the law's rows, held against the tables (printed by lawrows.py) -/
def in_L : kIT := (x, code, ret, 16)
set_option maxRecDepth 20000 in
theorem rL_0 : kmr mt_384 in_L 0 48 = true := by decide +kernel
set_option maxRecDepth 20000 in
theorem rL_48 : kmr mt_384 in_L 48 48 = true := by decide +kernel
set_option maxRecDepth 20000 in
theorem rL_96 : kmr mt_384 in_L 96 48 = true := by decide +kernel
set_option maxRecDepth 20000 in
theorem rL_144 : kmr mt_384 in_L 144 48 = true := by decide +kernel
set_option maxRecDepth 20000 in
theorem rL_192 : kmr mt_384 in_L 192 48 = true := by decide +kernel
set_option maxRecDepth 20000 in
theorem rL_240 : kmr mt_384 in_L 240 48 = true := by decide +kernel
set_option maxRecDepth 20000 in
theorem rL_288 : kmr mt_384 in_L 288 48 = true := by decide +kernel
set_option maxRecDepth 20000 in
theorem rL_336 : kmr mt_384 in_L 336 48 = true := by decide +kernel
set_option maxRecDepth 20000 in
theorem rL_384 : kmr mt_384 in_L 384 48 = true := by decide +kernel
set_option maxRecDepth 20000 in
theorem rL_432 : kmr mt_384 in_L 432 48 = true := by decide +kernel
set_option maxRecDepth 20000 in
theorem rL_480 : kmr mt_384 in_L 480 48 = true := by decide +kernel
set_option maxRecDepth 20000 in
theorem rL_528 : kmr mt_384 in_L 528 48 = true := by decide +kernel
set_option maxRecDepth 20000 in
theorem rL_576 : kmr mt_384 in_L 576 48 = true := by decide +kernel
set_option maxRecDepth 20000 in
theorem rL_624 : kmr mt_384 in_L 624 48 = true := by decide +kernel
set_option maxRecDepth 20000 in
theorem rL_672 : kmr mt_384 in_L 672 48 = true := by decide +kernel
set_option maxRecDepth 20000 in
theorem rL_720 : kmr mt_384 in_L 720 48 = true := by decide +kernel
set_option maxRecDepth 20000 in
theorem rL_768 : kmr mt_384 in_L 768 48 = true := by decide +kernel
set_option maxRecDepth 20000 in
theorem rL_816 : kmr mt_384 in_L 816 48 = true := by decide +kernel
set_option maxRecDepth 20000 in
theorem rL_864 : kmr mt_384 in_L 864 48 = true := by decide +kernel
set_option maxRecDepth 20000 in
theorem rL_912 : kmr mt_384 in_L 912 48 = true := by decide +kernel
set_option maxRecDepth 20000 in
theorem rL_960 : kmr mt_384 in_L 960 48 = true := by decide +kernel
set_option maxRecDepth 20000 in
theorem rL_1008 : kmr mt_384 in_L 1008 48 = true := by decide +kernel
set_option maxRecDepth 20000 in
theorem rL_1056 : kmr mt_384 in_L 1056 48 = true := by decide +kernel
set_option maxRecDepth 20000 in
theorem rL_1104 : kmr mt_384 in_L 1104 48 = true := by decide +kernel
