/-! a call that answers, answers the same with more room for calls -/
theorem dep_cal {X : av_X} {n : Nat} (hB : ∀ d mi, av_leB (av_run av_P av_S X n d mi) (av_run av_P av_S X n (d + 1) mi)) : ∀ d, av_leC (av_cal av_P av_S (av_run av_P av_S X n) d) (av_cal av_P av_S (av_run av_P av_S X n) (d + 1))
  | 0 => fun mi as h q e => by simp [av_cal] at e
  | d + 1 => fun mi as h q e => by
    simp only [av_cal] at e ⊢
    cases hP : av_P mi with
    | none =>
      rw [hP] at e
      simp only [hP]
      exact (av_Sg mi as h).1 _ _ (fun _ _ _ _ => none) (fun _ _ _ _ => none) (dep_cal hB d) (fun _ _ _ _ _ h => h) q e
    | some M =>
      rw [hP] at e
      simp only [hP]
      dsimp only at e ⊢
      cases hb : Nat.ble (av_sm as) M.2.1 with
      | false => rw [hb] at e; exact absurd e (by simp)
      | true => rw [hb] at e; exact hB _ _ _ _ _ _ _ e
theorem dep_run {X : av_X} : ∀ (n d mi : Nat), av_leB (av_run av_P av_S X n d mi) (av_run av_P av_S X n (d + 1) mi)
  | 0, _, _ => fun _ _ _ _ _ h => absurd h (by simp [av_run])
  | n + 1, d, mi => fun i ls st h r e => by
    rw [av_run] at e ⊢
    cases hP : av_P mi with
    | none => rw [hP] at e; exact absurd e (by simp)
    | some M =>
      rw [hP] at e
      exact (av_gd.seg X _ 3000 i ls st h).1 _ _ _ _ (dep_cal (fun d mi => dep_run n d mi) d) (dep_run n d mi) r e
theorem ev_dep {X : av_X} {d mi : Nat} {as : List av_V} {h : av_H} {r : Option (Option av_V) × av_H} (e : ev X d mi as h = some r) : ev X (d + 1) mi as h = some r := by
  obtain ⟨n, e1⟩ := (av_ev_iff av_Sg r).mp e
  exact (av_ev_iff av_Sg r).mpr ⟨n, dep_cal (fun d mi => dep_run n d mi) d _ _ _ _ e1⟩
