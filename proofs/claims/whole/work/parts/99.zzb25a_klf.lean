/-! the links, held against the tables, thirty at a time (printed by mf2.py) -/
def kLZ : List ((Nat × Nat × Nat × Nat × Nat × Nat × Nat) × (Nat × Nat × Nat)) := kML.zip kMP
theorem kLZ_len : kML.length = kMP.length := by decide +kernel
theorem kal {α : Type} {l : List α} {g : α → Bool} {a n b : Nat} (h1 : ((l.drop a).take n).all g = true) (e : a + n = b) (h2 : (l.drop b).all g = true) : (l.drop a).all g = true := by
  have h := List.take_append_drop n (l.drop a)
  rw [← h, List.all_append, h1, Bool.true_and, List.drop_drop, e]
  exact h2
set_option maxRecDepth 20000 in
theorem klf_0 : ((kLZ.drop 0).take 30).all klf = true := by decide +kernel
set_option maxRecDepth 20000 in
theorem klf_30 : ((kLZ.drop 30).take 30).all klf = true := by decide +kernel
set_option maxRecDepth 20000 in
theorem klf_60 : ((kLZ.drop 60).take 30).all klf = true := by decide +kernel
set_option maxRecDepth 20000 in
theorem klf_90 : ((kLZ.drop 90).take 30).all klf = true := by decide +kernel
set_option maxRecDepth 20000 in
theorem klf_120 : ((kLZ.drop 120).take 30).all klf = true := by decide +kernel
set_option maxRecDepth 20000 in
theorem klf_150 : ((kLZ.drop 150).take 30).all klf = true := by decide +kernel
set_option maxRecDepth 20000 in
theorem klf_180 : ((kLZ.drop 180).take 30).all klf = true := by decide +kernel
set_option maxRecDepth 20000 in
theorem klf_210 : ((kLZ.drop 210).take 30).all klf = true := by decide +kernel
set_option maxRecDepth 20000 in
theorem klf_240 : ((kLZ.drop 240).take 30).all klf = true := by decide +kernel
set_option maxRecDepth 20000 in
theorem klf_270 : ((kLZ.drop 270).take 30).all klf = true := by decide +kernel
set_option maxRecDepth 20000 in
theorem klf_300 : ((kLZ.drop 300).take 30).all klf = true := by decide +kernel
set_option maxRecDepth 20000 in
theorem klf_330 : ((kLZ.drop 330).take 30).all klf = true := by decide +kernel
set_option maxRecDepth 20000 in
theorem klf_360 : ((kLZ.drop 360).take 30).all klf = true := by decide +kernel
set_option maxRecDepth 20000 in
theorem klf_390 : ((kLZ.drop 390).take 30).all klf = true := by decide +kernel
set_option maxRecDepth 20000 in
theorem klf_420 : ((kLZ.drop 420).take 30).all klf = true := by decide +kernel
theorem klf_all : (kML.zip kMP).all klf = true := (kal klf_0 (b := 30) rfl (kal klf_30 (b := 60) rfl (kal klf_60 (b := 90) rfl (kal klf_90 (b := 120) rfl (kal klf_120 (b := 150) rfl (kal klf_150 (b := 180) rfl (kal klf_180 (b := 210) rfl (kal klf_210 (b := 240) rfl (kal klf_240 (b := 270) rfl (kal klf_270 (b := 300) rfl (kal klf_300 (b := 330) rfl (kal klf_330 (b := 360) rfl (kal klf_360 (b := 390) rfl (kal klf_390 (b := 420) rfl (kal klf_420 (b := 450) rfl (show (kLZ.drop 450).all klf = true by decide +kernel))))))))))))))))
