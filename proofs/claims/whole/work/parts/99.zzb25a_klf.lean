/-! the links, held against the tables, thirty at a time (printed by mf2.py) -/
def kLZ : List ((Nat × Nat × Nat × Nat × Nat × Nat × Nat) × (Nat × Nat × Nat)) := kML.zip kMP
theorem kLZ_len : kML.length = kMP.length := by decide +kernel
theorem kal {α : Type} {l : List α} {g : α → Bool} {a n b : Nat} (h1 : ((l.drop a).take n).all g = true) (e : a + n = b) (h2 : (l.drop b).all g = true) : (l.drop a).all g = true := by
  have h := List.take_append_drop n (l.drop a)
  rw [← h, List.all_append, h1, Bool.true_and, List.drop_drop, e]
  exact h2
set_option maxRecDepth 20000 in
theorem klf_0 : ((kLZ.drop 0).take 30).all klf = true := by decide +kernel
set_option maxRecDepth 20000 in
theorem klf_30 : ((kLZ.drop 30).take 30).all klf = true := by decide +kernel
set_option maxRecDepth 20000 in
theorem klf_60 : ((kLZ.drop 60).take 30).all klf = true := by decide +kernel
set_option maxRecDepth 20000 in
theorem klf_90 : ((kLZ.drop 90).take 30).all klf = true := by decide +kernel
set_option maxRecDepth 20000 in
theorem klf_120 : ((kLZ.drop 120).take 30).all klf = true := by decide +kernel
set_option maxRecDepth 20000 in
theorem klf_150 : ((kLZ.drop 150).take 30).all klf = true := by decide +kernel
set_option maxRecDepth 20000 in
theorem klf_180 : ((kLZ.drop 180).take 30).all klf = true := by decide +kernel
set_option maxRecDepth 20000 in
theorem klf_210 : ((kLZ.drop 210).take 30).all klf = true := by decide +kernel
set_option maxRecDepth 20000 in
theorem klf_240 : ((kLZ.drop 240).take 30).all klf = true := by decide +kernel
set_option maxRecDepth 20000 in
theorem klf_270 : ((kLZ.drop 270).take 30).all klf = true := by decide +kernel
set_option maxRecDepth 20000 in
theorem klf_300 : ((kLZ.drop 300).take 30).all klf = true := by decide +kernel
set_option maxRecDepth 20000 in
theorem klf_330 : ((kLZ.drop 330).take 30).all klf = true := by decide +kernel
set_option maxRecDepth 20000 in
theorem klf_360 : ((kLZ.drop 360).take 30).all klf = true := by decide +kernel
set_option maxRecDepth 20000 in
theorem klf_390 : ((kLZ.drop 390).take 30).all klf = true := by decide +kernel
set_option maxRecDepth 20000 in
theorem klf_420 : ((kLZ.drop 420).take 30).all klf = true := by decide +kernel
