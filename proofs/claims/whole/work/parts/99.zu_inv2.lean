/-! the steps of a tower, and of the four that may throw -/
theorem Inv.new {K : Nat} {h : av_H} (I : Inv K h) : Inv (K + 1) (av_uI (av_new h 12 0) 137 0 1) := by
  obtain ⟨w, Jtow, Jlv, Jne, Jfi, Jco, Jwi, Jel, Jdr, Jto, Jaw, Jof, Jch, Jca, Jcm, Jwa, Jro, Jke, Jtp, Jru, Jdp, Jmk, Jsv, Jwd, Jpa, Jpl⟩ := I
  exact ⟨WF_uI (WF_new w), (J_tow_new w Jtow).fr (agr.uI rfl agr.rfl), Jlv.fr (agr.uI (by decide +kernel) (agr_new w (by decide +kernel) (by decide +kernel))), Jne.fr (agr.uI (by decide +kernel) (agr_new w (by decide +kernel) (by decide +kernel))), Jfi.fr (agr.uI (by decide +kernel) (agr_new w (by decide +kernel) (by decide +kernel))), Jco.fr (agr.uI (by decide +kernel) (agr_new w (by decide +kernel) (by decide +kernel))), Jwi.fr (agr.uI (by decide +kernel) (agr_new w (by decide +kernel) (by decide +kernel))), Jel.fr (agr.uI (by decide +kernel) (agr_new w (by decide +kernel) (by decide +kernel))), Jdr.fr (agr.uI (by decide +kernel) (agr_new w (by decide +kernel) (by decide +kernel))), Jto.fr (agr.uI (by decide +kernel) (agr_new w (by decide +kernel) (by decide +kernel))), Jaw.fr (agr.uI (by decide +kernel) (agr_new w (by decide +kernel) (by decide +kernel))), Jof.fr (agr.uI (by decide +kernel) (agr_new w (by decide +kernel) (by decide +kernel))), Jch.fr (agr.uI (by decide +kernel) (agr_new w (by decide +kernel) (by decide +kernel))), Jca.fr (agr.uI (by decide +kernel) (agr_new w (by decide +kernel) (by decide +kernel))), Jcm.fr (agr.uI (by decide +kernel) (agr_new w (by decide +kernel) (by decide +kernel))), Jwa.fr (agr.uI (by decide +kernel) (agr_new w (by decide +kernel) (by decide +kernel))), Jro.fr (agr.uI (by decide +kernel) (agr_new w (by decide +kernel) (by decide +kernel))), Jke.fr (agr.uI (by decide +kernel) (agr_new w (by decide +kernel) (by decide +kernel))), Jtp.fr (agr.uI (by decide +kernel) (agr_new w (by decide +kernel) (by decide +kernel))), Jru.fr (agr.uI (by decide +kernel) (agr_new w (by decide +kernel) (by decide +kernel))), Jdp.fr (agr.uI (by decide +kernel) (agr_new w (by decide +kernel) (by decide +kernel))), (Jmk.fr (agr.uI (by decide +kernel) (agr_new w (by decide +kernel) (by decide +kernel))) (fun t ht z => by rw [uI_ne (by decide), new_I (by have := w.len; omega)] at z; exact z)).mono (Nat.le_succ K), Jsv.fr (agr.uI (by decide +kernel) (agr_new w (by decide +kernel) (by decide +kernel))), Jwd.fr (agr.uI (by decide +kernel) (agr_new w (by decide +kernel) (by decide +kernel))), Jpa.fr (agr.uI (by decide +kernel) (agr_new w (by decide +kernel) (by decide +kernel))), Jpl.fr (agr.uI (by decide +kernel) (agr_new w (by decide +kernel) (by decide +kernel)))⟩
section
variable {X : av_X} {d K : Nat} {h : av_H}
theorem cat_n {mi : Nat} {as : List av_V} {x : av_T} {o : Option Nat} {g : av_H} (e : x = av_rX g) : av_catI x o = av_rI 1 g ∧ av_catL x o = av_rI 1 g := by
  rw [e]
  exact ⟨rfl, rfl⟩
theorem sL_225 {g : av_H} (w : WF g) {v : Int64} : av_sL g (some 225) 0 v = some (av_uL g 225 0 v) := k_sL (w.k (a := 225) rfl) (j := 0) (by decide) (by decide)
theorem lL_225 {β : Type} {g : av_H} (w : WF g) (K : Int64 → Option β) : (av_lL g (some 225) 0).bind K = K (g.2.2.1 225 0) := bS (k_lL (w.k (a := 225) rfl) (j := 0) (by decide) (by decide)) K
theorem cat_I {x : av_T} {g : av_H} (w : WF g) {v : Int32} (e : x = av_rI v g) : av_catI x (some 225) = av_rI 0 (av_uL g 225 0 v.toInt64) := by
  rw [e]
  show (av_sL g (some 225) 0 v.toInt64).bind _ = _
  rw [sL_225 w]
  rfl
theorem cat_L {x : av_T} {g : av_H} (w : WF g) {v : Int64} (e : x = av_rL v g) : av_catL x (some 225) = av_rI 0 (av_uL g 225 0 v) := by
  rw [e]
  show (av_sL g (some 225) 0 v).bind _ = _
  rw [sL_225 w]
  rfl
theorem s_thrown (w : WF h) : ev X (d + 1) 236 [vr (some 137)] h = av_rI (h.2.1 137 0) h := by
  rw [e_236, b_236_0, gI_137_0 w]
theorem st_tower (I : Inv K h) (t F C : Int32) : ∃ rv h1 h2, ev X (d + 50) 127 [vr (some 0), vi t, vi F, vi C] h = av_rI rv h1 ∧ ev X (d + 50) 262 [vr (some 137), vi t, vi F, vi C] h1 = av_rI rv h2 ∧ Inv (K + 1) h2 ∧ Gr h h2 := by
  obtain ⟨w, Jtow, Jlv, Jne, Jfi, Jco, Jwi, Jel, Jdr, Jto, Jaw, Jof, Jch, Jca, Jcm, Jwa, Jro, Jke, Jtp, Jru, Jdp, Jmk, Jsv, Jwd, Jpa, Jpl⟩ := id I
  obtain ⟨rv, h1, h2, e1, e2, w2, nJtow, A, ll⟩ := tower_ok (X := X) (d := d + 48) w Jtow t F C
  have both : (∀ u, u < 6 → h.2.1 143 u ≠ 0 → h2.2.1 143 u = h.2.1 143 u) ∧ Gr h h2 := by
    cases ok : okT h t F C with
    | false =>
      have c := e1.symm.trans (C_tower0 (X := X) (d := d + 48) w Jtow t F C ok)
      obtain rfl : h1 = h := (Prod.mk.inj (Option.some.inj c)).2
      have r := e2.symm.trans (R_tower0 (X := X) (d := d + 48) w t F C ok)
      obtain rfl : h2 = th h1 := (Prod.mk.inj (Option.some.inj r)).2
      exact ⟨fun u hu _ => by rw [th_I (by decide)], Or.inl rfl⟩
    | true =>
      obtain ⟨⟨⟨hr, q1⟩, q2⟩, q3⟩ : ((rg t 0 5 = true ∧ told h t = false) ∧ rg F 1 12 = true) ∧ rg C 1 10 = true := by simpa only [okT, Bool.and_eq_true, Bool.not_eq_true'] using ok
      obtain ⟨t, h6, rfl⟩ := rg_nI (b := 5) (by decide) hr
      have h6 : t < 6 := by omega
      have hl := w.len
      have c := e1.symm.trans (C_tower1 (X := X) (d := d + 48) w Jtow F C h6 ok)
      obtain rfl : h1 = av_uR (twM h F C) 1 t (some h.1.length) := (Prod.mk.inj (Option.some.inj c)).2
      have eI : ∀ b, b < h.1.length → (av_uR (twM h F C) 1 t (some h.1.length)).2.1 b = h.2.1 b := fun b hb => twM_I hb
      have ok2 : okT (av_uR (twM h F C) 1 t (some h.1.length)) (nI t) F C = true := by
        rw [← ok]
        simp only [okT, told, eI 143 (by omega)]
      have r := e2.symm.trans (R_tower1 (X := X) (d := d + 48) (WF_uR1 (twM_wf w)) F C h6 ok2)
      obtain rfl : h2 = av_uI (av_uI (th (av_uR (twM h F C) 1 t (some h.1.length))) 143 t F) 144 t C := (Prod.mk.inj (Option.some.inj r)).2
      obtain ⟨n0, n1⟩ := told_no Jtow h6 q1
      refine ⟨fun u hu z => ?_, Or.inr (Or.inl (twM_1 (F := F) (C := C)))⟩
      by_cases y : u = t
      · rw [y] at z
        exact absurd n1.1 z
      · rw [uI_ne (by decide), uI_nk y, th_I (by decide), eI 143 (by omega)]
  obtain ⟨fl, gr⟩ := both
  refine ⟨rv, h1, h2, e1, e2, ⟨w2, nJtow, Jlv.fr (A.fr (by decide +kernel)), Jne.fr (A.fr (by decide +kernel)), Jfi.fr (A.fr (by decide +kernel)), Jco.fr (A.fr (by decide +kernel)), Jwi.fr (A.fr (by decide +kernel)), Jel.fr (A.fr (by decide +kernel)), Jdr.fr (A.fr (by decide +kernel)), Jto.fr (A.fr (by decide +kernel)), Jaw.fr (A.fr (by decide +kernel)), Jof.fr (A.fr (by decide +kernel)), Jch.fr (A.fr (by decide +kernel)), Jca.fr (A.fr (by decide +kernel)), Jcm.fr (A.fr (by decide +kernel)), Jwa.fr (A.fr (by decide +kernel)), Jro.fr (A.fr (by decide +kernel)), Jke.fr (A.fr (by decide +kernel)), Jtp.fr (A.fr (by decide +kernel)), Jru.fr (A.fr (by decide +kernel)), ?_, ?_, Jsv.fr (A.fr (by decide +kernel)), Jwd.fr (A.fr (by decide +kernel)), Jpa.fr (A.fr (by decide +kernel)), Jpl.fr (A.fr (by decide +kernel))⟩, gr⟩
  · obtain ⟨m, D, M, N, B, Dc, Dr, Dw⟩ := Jdp
    refine ⟨m, D, M, N, B, Dc.fr B.1 (A.fr (by decide +kernel)), Dr.fr (A.fr (by decide +kernel)), ⟨fun t ht s hs f hf c hc => ?_, fun i hi => ?_⟩⟩
    · rw [(A.fr (q := false) (cs := [146]) (fs := []) (by decide +kernel)).I rfl]
      exact Dw.1 t ht s hs f hf c hc
    · have b := B.2.1 i hi
      rw [fl _ b.1 (by rw [Dw.2 i hi]; exact nI_ne0 (by have := b.2.2.2.1; omega) (by have := b.2.2.2.1; omega))]
      exact Dw.2 i hi
  · refine (Jmk.fr (A.fr (by decide +kernel)) (fun u hu z => ?_)).mono (Nat.le_succ K)
    by_cases y : h.2.1 143 u = 0
    · exact y
    · rw [fl u hu y] at z
      exact z
theorem st_made (I : Inv K h) (i z : Int32) : ∃ k hh, ev X (d + 51) 9100 [vr (some 0), vi i, vi z, vr (some 225)] h = av_rI k hh ∧ WF hh ∧ ∃ rv h2, ev X (d + 51) 302 [vr (some 137), vi i, vi z] hh = av_rI rv h2 ∧ h2.2.1 137 0 = k ∧ (k = 0 → h2.2.2.1 225 0 = rv.toInt64) ∧ Inv (K + 1) h2 ∧ Gr h h2 := by
  obtain ⟨w, Jtow, Jlv, Jne, Jfi, Jco, Jwi, Jel, Jdr, Jto, Jaw, Jof, Jch, Jca, Jcm, Jwa, Jro, Jke, Jtp, Jru, Jdp, Jmk, Jsv, Jwd, Jpa, Jpl⟩ := id I
  have sp : ev X (d + 51) 9100 [vr (some 0), vi i, vi z, vr (some 225)] h = av_catI (ev X (d + 50) 141 [vr (some 0), vi i, vi z] h) (some 225) := (av_ev_sp av_Sg rfl (d + 50) _ h).trans (if_pos (av_is_k (w.k (q := (10, 0)) rfl)))
  rcases made_ok2 (X := X) (d := d + 44) w Jtow Jwi Jru Jdp i z with ⟨rv, h1, e1, w1, H⟩ | ⟨e1, e2⟩
  · have l1 := keep rfl e1
    obtain ⟨h2, e2, z0, zy, w2, A⟩ := H (rv.toInt64)
    refine ⟨0, av_uL h1 225 0 (rv.toInt64), by rw [sp]; exact cat_I w1 e1, WF_uL w1, rv, h2, ?_, z0, fun _ => zy, ?_, Or.inl ((keep rfl e2).trans l1)⟩
    · exact ev_dep e2
    · exact ⟨w2, Jtow.fr (A.fr (by decide +kernel)), Jlv.fr (A.fr (by decide +kernel)), Jne.fr (A.fr (by decide +kernel)), Jfi.fr (A.fr (by decide +kernel)), Jco.fr (A.fr (by decide +kernel)), Jwi.fr (A.fr (by decide +kernel)), Jel.fr (A.fr (by decide +kernel)), Jdr.fr (A.fr (by decide +kernel)), Jto.fr (A.fr (by decide +kernel)), Jaw.fr (A.fr (by decide +kernel)), Jof.fr (A.fr (by decide +kernel)), Jch.fr (A.fr (by decide +kernel)), Jca.fr (A.fr (by decide +kernel)), Jcm.fr (A.fr (by decide +kernel)), Jwa.fr (A.fr (by decide +kernel)), Jro.fr (A.fr (by decide +kernel)), Jke.fr (A.fr (by decide +kernel)), Jtp.fr (A.fr (by decide +kernel)), Jru.fr (A.fr (by decide +kernel)), Jdp.fr (A.fr (by decide +kernel)), (Jmk.fr (A.fr (by decide +kernel)) (fun t ht z => by rw [(A.fr (q := false) (cs := [143]) (fs := []) (by decide +kernel)).I rfl] at z; exact z)).mono (Nat.le_succ K), Jsv.fr (A.fr (by decide +kernel)), Jwd.fr (A.fr (by decide +kernel)), Jpa.fr (A.fr (by decide +kernel)), Jpl.fr (A.fr (by decide +kernel))⟩
  · refine ⟨1, av_new h 12 0, by rw [sp]; exact (cat_n (mi := 0) (as := []) e1).1, WF_new w, 0, _, ev_dep e2, uI_eq, fun q => absurd q (by decide), I.new, Or.inr (Or.inr rfl)⟩
theorem st_plan (I : Inv K h) (hL : h.1.length ≤ 1000000) (xt : XT X) (e lf q : Int32) : ∃ k hh, ev X (d + 51) 9101 [vr (some 0), vi e, vi lf, vi q, vr (some 225)] h = av_rI k hh ∧ WF hh ∧ ∃ rv h2, ev X (d + 51) 329 [vr (some 137), vi e, vi lf, vi q] hh = av_rL rv h2 ∧ h2.2.1 137 0 = k ∧ (k = 0 → h2.2.2.1 225 0 = rv) ∧ Inv (K + 1) h2 ∧ Gr h h2 := by
  obtain ⟨w, Jtow, Jlv, Jne, Jfi, Jco, Jwi, Jel, Jdr, Jto, Jaw, Jof, Jch, Jca, Jcm, Jwa, Jro, Jke, Jtp, Jru, Jdp, Jmk, Jsv, Jwd, Jpa, Jpl⟩ := id I
  obtain ⟨n, c, p, S, W, ch, cm, P, CDh, KNh, FXh, CMh⟩ := id Jpl
  have sp : ev X (d + 51) 9101 [vr (some 0), vi e, vi lf, vi q, vr (some 225)] h = av_catL (ev X (d + 50) 154 [vr (some 0), vi e, vi lf, vi q] h) (some 225) := (av_ev_sp av_Sg rfl (d + 50) _ h).trans (if_pos (av_is_k (w.k (q := (10, 0)) rfl)))
  rcases plan_ok2 (X := X) (d := d + 34) xt w P hL KNh e lf q with ⟨rv, h1, e1, w1, H⟩ | ⟨e1, e2⟩
  · have l1 := keep rfl e1
    obtain ⟨h2, e2, z0, zy, w2, nK, A⟩ := H (rv)
    refine ⟨0, av_uL h1 225 0 (rv), by rw [sp]; exact cat_L w1 e1, WF_uL w1, rv, h2, ?_, z0, fun _ => zy, ?_, Or.inl ((keep rfl e2).trans l1)⟩
    · exact ev_dep e2
    · exact ⟨w2, Jtow.fr (A.fr (by decide +kernel)), Jlv.fr (A.fr (by decide +kernel)), Jne.fr (A.fr (by decide +kernel)), Jfi.fr (A.fr (by decide +kernel)), Jco.fr (A.fr (by decide +kernel)), Jwi.fr (A.fr (by decide +kernel)), Jel.fr (A.fr (by decide +kernel)), Jdr.fr (A.fr (by decide +kernel)), Jto.fr (A.fr (by decide +kernel)), Jaw.fr (A.fr (by decide +kernel)), Jof.fr (A.fr (by decide +kernel)), Jch.fr (A.fr (by decide +kernel)), Jca.fr (A.fr (by decide +kernel)), Jcm.fr (A.fr (by decide +kernel)), Jwa.fr (A.fr (by decide +kernel)), Jro.fr (A.fr (by decide +kernel)), Jke.fr (A.fr (by decide +kernel)), Jtp.fr (A.fr (by decide +kernel)), Jru.fr (A.fr (by decide +kernel)), Jdp.fr (A.fr (by decide +kernel)), (Jmk.fr (A.fr (by decide +kernel)) (fun t ht z => by rw [(A.fr (q := false) (cs := [143]) (fs := []) (by decide +kernel)).I rfl] at z; exact z)).mono (Nat.le_succ K), Jsv.fr (A.fr (by decide +kernel)), Jwd.fr (A.fr (by decide +kernel)), Jpa.fr (A.fr (by decide +kernel)), ⟨n, c, p, S, W, ch, cm, P.fr (A.fr (by decide)), CDh.fr (A.fr (by decide)), nK, FXh.fr (A.fr (by decide)), CMh.fr (A.fr (by decide))⟩⟩
  · refine ⟨1, av_new h 12 0, by rw [sp]; exact (cat_n (mi := 0) (as := []) e1).2, WF_new w, 0, _, ev_dep e2, uI_eq, fun q => absurd q (by decide), I.new, Or.inr (Or.inr rfl)⟩
theorem st_fixed (I : Inv K h) (hL : h.1.length ≤ 1000000) (xt : XT X) (q : Int32) : ∃ k hh, ev X (d + 51) 9102 [vr (some 0), vi q, vr (some 225)] h = av_rI k hh ∧ WF hh ∧ ∃ rv h2, ev X (d + 51) 332 [vr (some 137), vi q] hh = av_rL rv h2 ∧ h2.2.1 137 0 = k ∧ (k = 0 → h2.2.2.1 225 0 = rv) ∧ Inv (K + 1) h2 ∧ Gr h h2 := by
  obtain ⟨w, Jtow, Jlv, Jne, Jfi, Jco, Jwi, Jel, Jdr, Jto, Jaw, Jof, Jch, Jca, Jcm, Jwa, Jro, Jke, Jtp, Jru, Jdp, Jmk, Jsv, Jwd, Jpa, Jpl⟩ := id I
  obtain ⟨n, c, p, S, W, ch, cm, P, CDh, KNh, FXh, CMh⟩ := id Jpl
  have sp : ev X (d + 51) 9102 [vr (some 0), vi q, vr (some 225)] h = av_catL (ev X (d + 50) 155 [vr (some 0), vi q] h) (some 225) := (av_ev_sp av_Sg rfl (d + 50) _ h).trans (if_pos (av_is_k (w.k (q := (10, 0)) rfl)))
  rcases fixed_ok2 (X := X) (d := d + 41) xt w P hL FXh q with ⟨rv, h1, e1, w1, H⟩ | ⟨e1, e2⟩
  · have l1 := keep rfl e1
    obtain ⟨h2, e2, z0, zy, w2, nF, A⟩ := H (rv)
    refine ⟨0, av_uL h1 225 0 (rv), by rw [sp]; exact cat_L w1 e1, WF_uL w1, rv, h2, ?_, z0, fun _ => zy, ?_, Or.inl ((keep rfl e2).trans l1)⟩
    · exact ev_dep e2
    · exact ⟨w2, Jtow.fr (A.fr (by decide +kernel)), Jlv.fr (A.fr (by decide +kernel)), Jne.fr (A.fr (by decide +kernel)), Jfi.fr (A.fr (by decide +kernel)), Jco.fr (A.fr (by decide +kernel)), Jwi.fr (A.fr (by decide +kernel)), Jel.fr (A.fr (by decide +kernel)), Jdr.fr (A.fr (by decide +kernel)), Jto.fr (A.fr (by decide +kernel)), Jaw.fr (A.fr (by decide +kernel)), Jof.fr (A.fr (by decide +kernel)), Jch.fr (A.fr (by decide +kernel)), Jca.fr (A.fr (by decide +kernel)), Jcm.fr (A.fr (by decide +kernel)), Jwa.fr (A.fr (by decide +kernel)), Jro.fr (A.fr (by decide +kernel)), Jke.fr (A.fr (by decide +kernel)), Jtp.fr (A.fr (by decide +kernel)), Jru.fr (A.fr (by decide +kernel)), Jdp.fr (A.fr (by decide +kernel)), (Jmk.fr (A.fr (by decide +kernel)) (fun t ht z => by rw [(A.fr (q := false) (cs := [143]) (fs := []) (by decide +kernel)).I rfl] at z; exact z)).mono (Nat.le_succ K), Jsv.fr (A.fr (by decide +kernel)), Jwd.fr (A.fr (by decide +kernel)), Jpa.fr (A.fr (by decide +kernel)), ⟨n, c, p, S, W, ch, cm, P.fr (A.fr (by decide)), CDh.fr (A.fr (by decide)), KNh.fr (A.fr (by decide)), nF, CMh.fr (A.fr (by decide))⟩⟩
  · refine ⟨1, av_new h 12 0, by rw [sp]; exact (cat_n (mi := 0) (as := []) e1).2, WF_new w, 0, _, ev_dep e2, uI_eq, fun q => absurd q (by decide), I.new, Or.inr (Or.inr rfl)⟩
theorem st_tried (I : Inv K h) (q : Int32) : ∃ k hh, ev X (d + 51) 9103 [vr (some 0), vi q, vr (some 225)] h = av_rI k hh ∧ WF hh ∧ ∃ rv h2, ev X (d + 51) 370 [vr (some 137), vi q] hh = av_rL rv h2 ∧ h2.2.1 137 0 = k ∧ (k = 0 → h2.2.2.1 225 0 = rv) ∧ Inv (K + 1) h2 ∧ Gr h h2 := by
  obtain ⟨w, Jtow, Jlv, Jne, Jfi, Jco, Jwi, Jel, Jdr, Jto, Jaw, Jof, Jch, Jca, Jcm, Jwa, Jro, Jke, Jtp, Jru, Jdp, Jmk, Jsv, Jwd, Jpa, Jpl⟩ := id I
  have sp : ev X (d + 51) 9103 [vr (some 0), vi q, vr (some 225)] h = av_catL (ev X (d + 50) 180 [vr (some 0), vi q] h) (some 225) := (av_ev_sp av_Sg rfl (d + 50) _ h).trans (if_pos (av_is_k (w.k (q := (10, 0)) rfl)))
  rcases tried_ok2 (X := X) (d := d + 41) w Jtow Jwi Jfi Jlv Jke Jne Jru Jel Jdr Jdp Jro Jmk q with ⟨rv, h1, e1, w1, H⟩ | ⟨e1, e2⟩
  · have l1 := keep rfl e1
    obtain ⟨h2, e2, z0, zy, w2, nJtow, nJdp, nJmk, A⟩ := H (rv)
    refine ⟨0, av_uL h1 225 0 (rv), by rw [sp]; exact cat_L w1 e1, WF_uL w1, rv, h2, ?_, z0, fun _ => zy, ?_, Or.inl ((keep rfl e2).trans l1)⟩
    · exact ev_dep e2
    · exact ⟨w2, nJtow, Jlv.fr (A.fr (by decide +kernel)), Jne.fr (A.fr (by decide +kernel)), Jfi.fr (A.fr (by decide +kernel)), Jco.fr (A.fr (by decide +kernel)), Jwi.fr (A.fr (by decide +kernel)), Jel.fr (A.fr (by decide +kernel)), Jdr.fr (A.fr (by decide +kernel)), Jto.fr (A.fr (by decide +kernel)), Jaw.fr (A.fr (by decide +kernel)), Jof.fr (A.fr (by decide +kernel)), Jch.fr (A.fr (by decide +kernel)), Jca.fr (A.fr (by decide +kernel)), Jcm.fr (A.fr (by decide +kernel)), Jwa.fr (A.fr (by decide +kernel)), Jro.fr (A.fr (by decide +kernel)), Jke.fr (A.fr (by decide +kernel)), Jtp.fr (A.fr (by decide +kernel)), Jru.fr (A.fr (by decide +kernel)), nJdp, nJmk.mono (Nat.le_succ K), Jsv.fr (A.fr (by decide +kernel)), Jwd.fr (A.fr (by decide +kernel)), Jpa.fr (A.fr (by decide +kernel)), Jpl.fr (A.fr (by decide +kernel))⟩
  · refine ⟨1, av_new h 12 0, by rw [sp]; exact (cat_n (mi := 0) (as := []) e1).2, WF_new w, 0, _, ev_dep e2, uI_eq, fun q => absurd q (by decide), I.new, Or.inr (Or.inr rfl)⟩
end
