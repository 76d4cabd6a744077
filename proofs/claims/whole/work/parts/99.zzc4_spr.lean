/-! the rule for the calls of String's methods -/
def kx_E (B : Nat) (adK adV : Nat → Nat) (U : State) : Prop :=
  vk_S 3 ks_len av_tx adK adV (fun q => B ≤ q) U U.heap ∧ va_Z "java/lang/String" "COMPACT_STRINGS" "Z" (.int 1) (fun q => B ≤ q) U U.heap ∧ va_Zq "jdk/internal/util/Preconditions" "SIOOBE_FORMATTER" "Ljava/util/function/BiFunction;" (fun q => B ≤ q) U U.heap
theorem kx_E.ks {B : Nat} {adK adV : Nat → Nat} {U : State} (h : kx_E B adK adV U) : ks_E adK adV U := ⟨h.1.narrow (fun _ z => False.elim z), h.2.1.narrow (fun _ z => False.elim z), h.2.2.narrow (fun _ z => False.elim z)⟩
theorem kx_E.to {B : Nat} {adK adV : Nat → Nat} {s U : State} {H : Heap} {locs : List Loc} (h : kx_E B adK adV s) (hS : va_S (fun q => B ≤ q) s.heap H locs) (hU : U.heap = H) (hW : s.vm.Alike U.vm) : kx_E B adK adV U := by
  obtain ⟨h1, h2, h3⟩ := h
  have hq : ∀ a : Nat, a < s.heap.size → ¬ (fun q => B ≤ q) a → U.heap[a]? = s.heap[a]? := fun a q1 q2 => by rw [hU]; exact hS.2.1 a q1 q2
  exact ⟨vk_S.moved hW (h1.kept hq), va_Z.moved hW (h2.kept hq), va_Zq.moved hW (h3.kept hq)⟩
set_option maxRecDepth 20000 in
theorem kML_S : kML.all (fun q => Nat.beq q.1 16 || !(av_P q.2.2.1).isNone || decide (q = (5, 80, 9003, 1, 1, 1, 9000)) || decide (q = (5, 94, 9001, 1, 0, 1, 9000)) || decide (q = (5, 97, 9002, 1, 1, 1, 9000))) = true := by decide +kernel
theorem av_RH.keep {D : va_G} {cl : List vw_C} {kA : Nat → ClassId} {f : Nat → Nat} {B : Nat} {h : av_H} {H H1 : Heap} (hR : av_RH D cl kA f B h H) (hz : H.size ≤ H1.size) (o1 : ∀ q : Nat, q < H.size → H1[q]? = H[q]?) : av_RH D cl kA f B h H1 := by
  obtain ⟨h1, h2, L, h3, h4, hP, hD⟩ := hR
  exact ⟨by omega, h2, L, h3, h4, hP.kept fun k x hx => o1 x.1 ((hP k x hx).lt), hD⟩
theorem ks_st {r : Nat} {t : List Int32} (h : av_st r = some t) : ∃ i, i < 3 ∧ r = 1000010 + i ∧ t = av_tx.getD i [] := by
  unfold av_st at h
  split at h
  · have hl : r - 1000010 < 3 := (List.getElem?_eq_some_iff.mp h).1
    refine ⟨r - 1000010, hl, by omega, ?_⟩
    rw [List.getD_eq_getElem?_getD, h]
    rfl
  · cases h
set_option maxHeartbeats 2000000 in
theorem ks_SPR {l : Launch} {D : va_G} {cl : List vw_C} {kA : Nat → ClassId} {f : Nat → Nat} {B : Nat} {EX : State → Prop} {adK adV : Nat → Nat} (hES : ∀ s, EX s → kx_E B adK adV s)
    (hEM : ∀ (s U : State) (H : Heap) (locs : List Loc), EX s → va_S (fun q => B ≤ q) s.heap H locs → U.heap = H → s.WarmedH U.vm → EX U) (hfK : ∀ i, i < 3 → f (1000010 + i) = adK i) : av_SPR l D cl kA f B kON EX kTB kK av_P 16 := by
  intro p e R s m args below meth cd Q nL n0 z0 cc o hx hb hml hown hts hK hE hs0 hRf hRl ho call pc ix mi nb rc op dc as rest h2 ov h3 H locs sl n1 z1 hml2 hP hcall hok a0 a1 a2 e1 e2 hR hS hsl hbd kk
  have hq := List.all_eq_true.mp kML_S _ hml2
  have hU : ∀ U : State, U.heap = H → s.WarmedH U.vm → ks_E adK adV U := fun U q1 q2 => (hES U (hEM s U H locs hE hS q1 q2)).ks
  have hE0 := hES s hE
  have hrest : ((rest.map (av_vl f)).map fun v => v.category).sum ≤ 8 := av_ok_sum hok
  simp only [Bool.or_eq_true, Bool.not_eq_true', decide_eq_true_eq] at hq
  rcases hq with (((hq | hq) | hq) | hq) | hq
  · exact absurd (Nat.eq_of_beq_eq_true hq) ho
  · rw [hP] at hq; cases hq
  · cases hq
    obtain ⟨hdg, hlen, -⟩ := a1 rfl
    have hown : s.vm.findClass "MenOnCradles$Reader" = some m.cls := hown
    simp only [av_S] at hcall
    split at hcall
    · rename_i r v
      obtain ⟨t, ht, hcall⟩ := Option.bind_eq_some_iff.mp hcall
      obtain ⟨i, hi, rfl, rfl⟩ := ks_st ht
      cases hcall
      have hM := ks_indexOf l adK adV v hi
      have hrc := vk_recv hE0.1 hi hS
      rw [← hfK i hi] at hM hrc
      refine ks_ci (ks_runV (As := [.int v]) (b := f (1000010 + i)) (rest := rest.map (av_vl f)) hx hb hml hown hts hU hM ⟨sw_indexOf_lR, sw_indexOf_k, sw_indexOf_s, sw_i_S, sw_indexOf_c⟩ hrc (n := 1) (by decide) rfl ⟨by omega, by omega⟩ hsl hrest ⟨by omega, by omega⟩ rfl hdg) hS (fun H1 locs1 q1 q2 hS1 => ?_)
      exact kk H1 locs1 n1 z1 e1 e2 (hR.keep q1 q2) hS1
    · cases hcall
  · cases hq
    obtain ⟨hdg, hlen, -⟩ := a1 rfl
    have hown : s.vm.findClass "MenOnCradles$Reader" = some m.cls := hown
    simp only [av_S] at hcall
    split at hcall
    · rename_i r
      obtain ⟨t, ht, hcall⟩ := Option.bind_eq_some_iff.mp hcall
      obtain ⟨i, hi, rfl, rfl⟩ := ks_st ht
      cases hcall
      have hM := ks_length l adK adV hi
      have hrc := vk_recv hE0.1 hi hS
      rw [← hfK i hi] at hM hrc
      rw [(ks_tab i hi).1] at hM
      refine ks_ci (ks_runV (As := []) (b := f (1000010 + i)) (rest := rest.map (av_vl f)) hx hb hml hown hts hU hM ⟨sw_length_lR, sw_length_k, sw_length_s, sw_i_S, sw_length_c⟩ hrc (n := 0) (by decide) rfl ⟨by omega, by omega⟩ hsl hrest ⟨by omega, by omega⟩ rfl hdg) hS (fun H1 locs1 q1 q2 hS1 => ?_)
      exact kk H1 locs1 n1 z1 e1 e2 (hR.keep q1 q2) hS1
    · cases hcall
  · cases hq
    obtain ⟨hdg, hlen, -⟩ := a1 rfl
    have hown : s.vm.findClass "MenOnCradles$Reader" = some m.cls := hown
    simp only [av_S] at hcall
    split at hcall
    · rename_i r x
      obtain ⟨t, ht, hcall⟩ := Option.bind_eq_some_iff.mp hcall
      obtain ⟨i, hi, rfl, rfl⟩ := ks_st ht
      split at hcall
      · cases hcall
      · rename_i hx0
        obtain ⟨v, hv, hcall⟩ := Option.bind_eq_some_iff.mp hcall
        cases hcall
        obtain ⟨j, hj, rfl⟩ := nI_of hx0
        rw [nI_clamp hj] at hv
        have hjl : j < ks_len.getD i 0 := by rw [(ks_tab i hi).1]; exact (List.getElem?_eq_some_iff.mp hv).1
        have hM := ks_charAt l adK adV hi hjl
        have hrc := vk_recv hE0.1 hi hS
        rw [← hfK i hi] at hM hrc
        rw [ks_mem hi hjl] at hv
        rw [Option.some.inj hv] at hM
        refine ks_ci (ks_runV (As := [.int (nI j)]) (b := f (1000010 + i)) (rest := rest.map (av_vl f)) hx hb hml hown hts hU hM ⟨sw_charAt_lR, sw_charAt_k, sw_charAt_s, sw_i_S, sw_charAt_c⟩ hrc (n := 1) (by decide) rfl ⟨by omega, by omega⟩ hsl hrest ⟨by omega, by omega⟩ rfl hdg) hS (fun H1 locs1 q1 q2 hS1 => ?_)
        exact kk H1 locs1 n1 z1 e1 e2 (hR.keep q1 q2) hS1
    · cases hcall
