/-! the contract of a method that throws -/
def kt_w (cc : ByteArray) (pc n : Nat) : Bool := decide (decode cc (pc + 4) = .ok (.ldc_w n, 3)) && decide (decode cc (pc + 7) = .ok (.invokespecial 214, 3)) && decide (decode cc (pc + 10) = .ok (.athrow, 1))
def kt_n (cc : ByteArray) (pc n : Nat) : Bool := decide (decode cc (pc + 4) = .ok (.ldc n, 2)) && decide (decode cc (pc + 6) = .ok (.invokespecial 214, 3)) && decide (decode cc (pc + 9) = .ok (.athrow, 1))
def kt_row (cc : ByteArray) (q : av_R) : Bool := match q with
  | (pc, _, .new ix, a, _, c, _, _, _, _) => c == 0 || (a == 12 && ix == 210 && decide (decode cc pc = .ok (.new 210, 3)) && decide (decode cc (pc + 3) = .ok (.dup, 1)) && (kt_n cc pc 212 || (kt_w cc pc 332 || kt_w cc pc 348)))
  | _ => true
def kt_rows (M : av_M) (cc : ByteArray) : Bool := M.2.2.2.all (fun L => L.all (kt_row cc))
theorem kt_r141 : kt_rows mt_141 in_141.2.1 = true := by decide +kernel
theorem kt_r154 : kt_rows mt_154 in_154.2.1 = true := by decide +kernel
theorem kt_r155 : kt_rows mt_155 in_155.2.1 = true := by decide +kernel
theorem kt_r180 : kt_rows mt_180 in_180.2.1 = true := by decide +kernel
theorem kt_row_of {M : av_M} {cc : ByteArray} (h : kt_rows M cc = true) {i : Nat} {q : av_R} (hq : av_row M.2.2.2 i = some q) : kt_row cc q = true := by
  obtain ⟨L, h1, h2⟩ := Option.bind_eq_some_iff.mp hq
  exact List.all_eq_true.mp (List.all_eq_true.mp h L (List.mem_of_getElem? h1)) q (List.mem_of_getElem? h2)
theorem av_RH.junk2 {D : va_G} {cl : List vw_C} {kA : Nat → ClassId} {f : Nat → Nat} {B : Nat} {h : av_H} {H H1 : Heap} (hR : av_RH D cl kA f B h H) (z1 : H.size < H1.size) (o1 : ∀ x : Nat, x < H.size → H1[x]? = H[x]?) (hm : h.1.length + 1 ≤ 1000000) : av_RH D cl kA f B (av_new h 12 0) H1 := by
  obtain ⟨h0, -, L, h1, h2, hP, hD⟩ := hR
  have hl : (av_new h 12 0).1.length = h.1.length + 1 := av_new_len _ _ _
  have e : av_wd cl kA f B (av_new h 12 0) L = av_wd cl kA f B h L := List.map_congr_left fun x hx => by rw [av_new_ce (h2 x hx)]
  refine ⟨by omega, by omega, L, fun a r ha hr => ?_, fun a ha => by have := h2 a ha; omega, ?_, ?_⟩
  · by_cases hal : a < h.1.length
    · have ha : (h.1 ++ [(12, 0)])[a]? = some r := ha
      rw [List.getElem?_append_left hal] at ha
      exact h1 a r ha hr
    · have h3 : a < (av_new h 12 0).1.length := (List.getElem?_eq_some_iff.mp ha).1
      have h4 : a = h.1.length := by omega
      subst h4
      have ha : (h.1 ++ [(12, 0)])[h.1.length]? = some r := ha
      simp at ha
      exact absurd (by rw [← ha]) hr
  · rw [e]
    exact hP.kept fun k x hx => o1 x.1 ((hP k x hx).lt)
  · rw [e]
    exact hD
abbrev kt_XC (D : va_G) (cl : List vw_C) (kA : Nat → ClassId) (f : Nat → Nat) (B : Nat) (h3 : av_H) : String → State → State → Prop := vx_X (S := Unit) (fun _ => True) (fun E _ t => E = kt_X ∧ av_RH D cl kA f B h3 t.heap) (fun q => B ≤ q)
section
variable {l : Launch} {D : va_G} {kA : Nat → ClassId} {f : Nat → Nat} {B : Nat} {X : av_X} {NW : List Cond} {adK adV : Nat → Nat} {EX : State → Prop}
set_option maxRecDepth 10000 in
set_option maxHeartbeats 4000000 in
theorem av_metX (hl : l.stackTraces = false) (hKF : av_KF kTB kCL kTY kON kK) (hMF : av_MF kTB kON kK av_P kI2) (hEM : ∀ (s U : State) (H : Heap) (locs : List Loc), EX s → va_S (fun q => B ≤ q) s.heap H locs → U.heap = H → s.WarmedH U.vm → EX U) (hEXF : ∀ s, EX s → av_XF kK kON f B X kTB s)
    (hEN : ∀ s, EX s → kEX NW f B X adK adV s) (hB : ∀ w ∈ kt_B, w ∈ NW) (hNT : ∀ w ∈ NW, w.onTables = true)
    (hf : ∀ a, a < 1000000 → f a = B + a) (hLF : ∀ o ix mi op nb rc dc, o ≠ 16 → (o, ix, mi, op, nb, rc, dc) ∈ kK.2.2.2.2.2.2.2.2 → av_P mi ≠ none → kI2 mi ≠ none → av_LF kTB kON EX av_P kI2 o ix mi op nb dc) (hSP : av_SPR l D kCL kA f B kON EX kTB kK av_P 16) (hoL : ∀ mi y cc ret o, kI2 mi = some (y, cc, ret, o) → o ≠ 16)
    {n d mi : Nat} {as : List av_V} {h h3 : av_H} (hrun : av_run av_P av_S X n d mi 0 (av_args 0 as) [] h = some (none, h3)) (hsm : ∀ M, av_P mi = some M → Nat.ble (av_sm as) M.2.1 = true) (hbd : h3.1.length ≤ 1000000)
    {M : av_M} {y : MethodName} {cc : ByteArray} {ret : Option FieldType} (hP : av_P mi = some M) (hI : kI2 mi = some (y, cc, ret, 10)) (hrows : kt_rows M cc = true) {mc ms : Nat} (hmc : h.1.length + mc = h3.1.length) (hms : av_sz kCL h + ms = av_sz kCL h3) :
    vx_Met l y (Cond.code y cc M.2.1 ret :: kTB) (av_rm d mc ms) (va_Pc (as.map (av_vl f)) (av_PR D kCL kA f B kON EX h)) (fun _ _ _ _ => False) (kt_XC D kCL kA f B h3) mc ms (fun q => B ≤ q) := by
  obtain ⟨hpl, hcode, hini, hON, hnl, hpc0, hck, hrt⟩ := hMF mi M y cc ret 10 hP hI
  refine vx_ofW (cc := cc) (maxL := M.2.1) (ret := ret) hpl rfl ?_
  intro p e s m args below meth c s₁ Bd hml hnt hv
  obtain ⟨rfl, hR, hz, hK, hE⟩ := hv
  have hx := Bd.exec
  have hb := Bd.bytes
  have hts0 := atoms_spec (ws := Cond.code y cc M.2.1 ret :: kTB) Bd.pre
  have hts : ∀ w ∈ kTB, w.before (as.map (av_vl f)).toArray s = true := fun w hw => hts0 w (List.mem_cons_of_mem _ hw)
  have hown : s.vm.findClass (kON 10) = some m.cls := by rw [hON]; exact findClass_of_methodNamed Bd.named
  have hlocks := Bd.notSynchronized
  have hin := (name_of_methodNamed Bd.named Bd.method).1
  have hl2 := lv_entry (as.map (av_vl f)) (n := M.2.1) (by rw [av_lg_sl]; exact Nat.le_of_ble_eq_true (hsm M hP))
  rw [av_args_lm] at hl2
  rw [lg_entry_eq]
  generalize (lg_sl (as.map (av_vl f)) ++ List.replicate (M.2.1 - (lg_sl (as.map (av_vl f))).length) Slot.unset).toArray = sl at hl2 ⊢
  have key := av_body2 (n0 := h.1.length) (z0 := av_sz kCL h) (R := (headSpec (Cond.code y cc M.2.1 ret :: kTB) (av_rm d mc ms)).room) (r := (none, h3)) (Q := vx_MQ below (fun _ _ _ _ => False) (kt_XC D kCL kA f B h3) (as.map (av_vl f)).toArray s mc ms (fun q => B ≤ q)) (e := e) (below := below) (meth := meth) (d := d) (mi0 := if y.name = "<init>" then 1 else 0) kTB_good hKF hMF hEM hEXF hf rfl hLF kSM hSP hx hb hml hown hts hK hE hz
    (fun q => by
      rw [hin]
      by_cases hy : y.name = "<init>"
      · exact hy
      · rw [if_neg hy] at q; cases q) (by decide) hP hck (Nat.le_refl _) (Nat.le_refl _) ⟨by show h3.1.length ≤ h.1.length + mc; omega, hbd, by show av_sz kCL h3 ≤ av_sz kCL h + ms; omega⟩ ?_ ?_ ?_ ?_ n (fun k hk => av_met2 kTB_good hKF hMF hEM hEXF hf rfl hLF kSM hSP hoL k) 0 (av_args 0 as) [] h hrun s.heap [] sl 0 0 rfl rfl hR va_S.rf hl2
  · rw [hpc0] at key
    exact key
  · intro v g pc er; cases er
  · intro v g pc er; cases er
  · intro g pc er; cases er
  · intro i pc len ix a b c0 d0 zi zl ts st g hrow hc hok er H locs sl n1 z1 e1 e2 hR1 hS hsl
    have hr := kt_row_of hrows hrow
    simp only [kt_row, Bool.or_eq_true, Bool.and_eq_true, beq_iff_eq, decide_eq_true_eq] at hr
    rcases hr with hr | ⟨⟨⟨⟨rfl, rfl⟩, d0⟩, d3⟩, hd⟩
    · exact absurd hr hc
    have er2 : h3 = av_new g 12 0 := (Prod.mk.inj er).2
    subst er2
    have hE9 := hEN s hE
    have hlen : (av_new g 12 0).1.length = g.1.length + 1 := av_new_len _ _ _
    have hsz : av_sz kCL (av_new g 12 0) = av_sz kCL g + 6 := by rw [av_new_sz]; rfl
    obtain ⟨k1, k2⟩ := kt_ck_ok hB kt_c5
    obtain ⟨k3, k4⟩ := kt_ck_ok hB kt_c6
    have hw : ∀ w : Cond, w ∈ kTB ∨ w ∈ NW → w.before (as.map (av_vl f)).toArray s = true := fun w h1 => by
      rcases h1 with h1 | h1
      · exact hts w h1
      · exact va_Nw.use (hNT w h1) (hE9.2.2.1 w h1)
    have hsum : ((st.map (av_vl f)).map fun v => v.category).sum ≤ 8 := av_ok_sum hok
    have hvn1 : Cond.classLink "MenOnCradles" 210 kt_X ∈ [Cond.classLink "MenOnCradles" 210 kt_X, .initialized kt_X, .classLink "MenOnCradlesLaw" 13 kt_X].filter vx_no := by decide +kernel
    have hvn2 : Cond.initialized kt_X ∈ [Cond.classLink "MenOnCradles" 210 kt_X, .initialized kt_X, .classLink "MenOnCradlesLaw" 13 kt_X].filter vx_no := by decide +kernel
    have fin : ∀ w ∈ Cond.classLink "MenOnCradles" 210 kt_X :: Cond.initialized kt_X :: (kt_atoms "MenOnCradles" 214).filter vx_no, vx_ot w = true := fun w h9 => by
      rcases List.mem_cons.mp h9 with rfl | h9
      · exact k3 _ hvn1
      · rcases List.mem_cons.mp h9 with rfl | h9
        · exact k3 _ hvn2
        · exact k1 w h9
    rcases hd with hd | hd | hd
    · simp only [kt_n, Bool.and_eq_true, decide_eq_true_eq] at hd
      obtain ⟨⟨d4, d6⟩, d9⟩ := hd
      obtain ⟨tx, hstr⟩ := hE9.1.2.1 10 212 1000013 (by decide)
      refine kt_throw (A := fun q => B ≤ q) (own := "MenOnCradles") (text := tx) (ik := 210) (is := 212) (ic := 214) (sa := f 1000013) hx hb hl hown (hw _ (k4 _ hvn1)) (hw _ (k4 _ hvn2)) hstr (fun w h9 => hw w (k2 w h9)) fin hE9.2.2.2.1 hE9.2.2.2.2.1 hS (hsl.trans hml.symm) d0 d3 d4 d6 d9 (fun x hx => (hnt x hx).elim) (by show 5 < d + 20; omega) (by show _ + 82 ≤ 100 * d + 300; omega) (by show n1 + 1 ≤ mc; omega) (by show z1 + 6 ≤ ms; omega) hlocks
        (fun t ha hz9 ho => ⟨(), trivial, ⟨rfl, hR1.junk2 hz9 ho (by omega)⟩, Nat.le_trans hS.1 (Nat.le_of_lt hz9), fun q q1 q2 => (ho q (Nat.lt_of_lt_of_le q1 hS.1)).trans (hS.2.1 q q1 q2)⟩) hS.2.2 (by omega) (by omega)
    · simp only [kt_w, Bool.and_eq_true, decide_eq_true_eq] at hd
      obtain ⟨⟨d4, d6⟩, d9⟩ := hd
      obtain ⟨tx, sa, hstr⟩ := hE9.2.2.2.2.2 332 (Or.inl rfl)
      refine kt_throwW (A := fun q => B ≤ q) (own := "MenOnCradles") (text := tx) (ik := 210) (is := 332) (ic := 214) (sa := sa) hx hb hl hown (hw _ (k4 _ hvn1)) (hw _ (k4 _ hvn2)) hstr (fun w h9 => hw w (k2 w h9)) fin hE9.2.2.2.1 hE9.2.2.2.2.1 hS (hsl.trans hml.symm) d0 d3 d4 d6 d9 (fun x hx => (hnt x hx).elim) (by show 5 < d + 20; omega) (by show _ + 82 ≤ 100 * d + 300; omega) (by show n1 + 1 ≤ mc; omega) (by show z1 + 6 ≤ ms; omega) hlocks
        (fun t ha hz9 ho => ⟨(), trivial, ⟨rfl, hR1.junk2 hz9 ho (by omega)⟩, Nat.le_trans hS.1 (Nat.le_of_lt hz9), fun q q1 q2 => (ho q (Nat.lt_of_lt_of_le q1 hS.1)).trans (hS.2.1 q q1 q2)⟩) hS.2.2 (by omega) (by omega)
    · simp only [kt_w, Bool.and_eq_true, decide_eq_true_eq] at hd
      obtain ⟨⟨d4, d6⟩, d9⟩ := hd
      obtain ⟨tx, sa, hstr⟩ := hE9.2.2.2.2.2 348 (Or.inr rfl)
      refine kt_throwW (A := fun q => B ≤ q) (own := "MenOnCradles") (text := tx) (ik := 210) (is := 348) (ic := 214) (sa := sa) hx hb hl hown (hw _ (k4 _ hvn1)) (hw _ (k4 _ hvn2)) hstr (fun w h9 => hw w (k2 w h9)) fin hE9.2.2.2.1 hE9.2.2.2.2.1 hS (hsl.trans hml.symm) d0 d3 d4 d6 d9 (fun x hx => (hnt x hx).elim) (by show 5 < d + 20; omega) (by show _ + 82 ≤ 100 * d + 300; omega) (by show n1 + 1 ≤ mc; omega) (by show z1 + 6 ≤ ms; omega) hlocks
        (fun t ha hz9 ho => ⟨(), trivial, ⟨rfl, hR1.junk2 hz9 ho (by omega)⟩, Nat.le_trans hS.1 (Nat.le_of_lt hz9), fun q q1 q2 => (ho q (Nat.lt_of_lt_of_le q1 hS.1)).trans (hS.2.1 q q1 q2)⟩) hS.2.2 (by omega) (by omega)
end
