/-! the law comes to its end with 1: out of the abstract run -/
theorem kh_traces {l : Launch} (h : l.flags = flags0) : l.stackTraces = false := by
  show (!l.flags.contains noTraceFlag) = false
  rw [h]
  decide
set_option maxRecDepth 100000 in
set_option maxHeartbeats 4000000 in
theorem whole_start {p : Program} {e : Env} {s : State} {m : MethodId} {below : List Frame} {meth : Method} {c : Code} (l : Launch) (hl : l.stackTraces = false) {b L : Nat} {xs : Nat → Int32} (hL : L ≤ 4096) (C0 : lw_At p s m meth c b L xs) : W p l e room_1 s m #[Value.ref b] below meth c s.heap [] 0 0 (lw_Z below #[Value.ref b] s) (entryFrame m ([Value.ref b] : List Value).toArray 8) := by
  obtain ⟨hx, hb, hr, hml, hown, hts, hX, hbl, hlocks, hgv⟩ := C0
  obtain ⟨f, adK, adV, hf, hfK, hfb, hE⟩ := kEX_start (NW := kNWf) hts hgv hX kNWf_on
  have hE : kE f s.heap.size (kst_X L xs) adK adV s := hE
  have hts2 : ∀ w ∈ kTB, w.before #[Value.ref b] s = true := fun w hw => hts w (List.mem_filter.mp hw).1
  obtain ⟨D, kA, hK⟩ := kh_K hts2 hE.1.2.2.2.1 hE.1.2.2.2.2
  have hLFs : kLFs f s.heap.size (kst_X L xs) adK adV := kLF (fun s h w hw => h.2.2.1 w (kNWf_N w hw))
  obtain ⟨h, K, e1, LIh, hKb⟩ := law_ok (d := 0) (X := kst_X L xs) (n := L) (f := xs) (kst_XT L xs) rfl hL
  obtain ⟨n, e2⟩ := (av_ev_iff av_Sg (some (some (.inl 1)), h)).mp e1
  obtain ⟨k, hk, e3, -⟩ := kh_cal p_384 e2
  have hk : k = 51 := by omega
  subst hk
  have hn := LIh.len
  have hz := LIh.sz
  have hle := lv_entry (([vr (some 1000000)] : List av_V).map (av_vl f)) (n := 8) (by rw [av_lg_sl]; exact Nat.le_of_ble_eq_true rfl)
  rw [av_args_lm] at hle
  have e9 : ([Value.ref b] : List Value) = ([vr (some 1000000)] : List av_V).map (av_vl f) := by
    show [Value.ref b] = [Value.ref (f 1000000)]
    rw [hfb]
  have key := kh_body (n0 := 0) (z0 := 0) (args := #[Value.ref b]) (R := room_1) (Q := lw_Z below #[Value.ref b] s) (e := e) (below := below) (meth := meth) hl kMF hLFs hf hfK hx hb hml hown hts2 hK hE rfl (d := 51) (by decide) (by decide) (v := 1) (h9 := h) ⟨by show h.1.length ≤ 0 + 601024; omega, by omega, by show av_sz kCL h ≤ 0 + 7293034; omega⟩ (fun pc hdg H locs sl n1 z1 q1 q2 hR1 hS1 => ?_) n 0 _ _ _ e3
  · have hpc0 : av_pc mt_384 0 = 0 := by decide +kernel
    have k2 := key s.heap [] _ 0 0 rfl rfl hp_RH va_S.rf hle
    rw [hpc0] at k2
    rw [← e9] at k2
    rw [lg_entry_eq]
    exact k2
  · refine va_forget (fun q hq => hS1.2.2 q hq) ?_
    refine W.widen (k := 601024) (n := 7293034) (by omega) (by omega) ?_
    exact lw_ret hx hb hr hlocks hdg
