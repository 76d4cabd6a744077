/-! what stands at first -/
theorem Fct.inv {h : av_H} (F : Fct h) : Inv 0 h := by
  obtain ⟨f1, fP, f65, f15, f16, ft, fz, f28, f37, ⟨f46, f463, f464⟩, f50, f51, f67, f137, f146, f148, f149, f160, f188, f165, l1, l2, l52, lw⟩ := F
  have z : ∀ a j, spB a = false → h.2.1 a j = 0 := fun a j q => fz a q j
  have n0 : nI 0 = 0 := rfl
  have m0 : ∀ j, j ≠ 38 → j ≠ 37 → j ≠ 68 → h.2.1 137 j = 0 := fun j a b c => by rw [f137, if_neg a, if_neg b, if_neg c]
  have w : WF h := ⟨⟨[], by rw [f1, List.append_nil]⟩, fP, f65, Or.inl ⟨f15, f16⟩⟩
  have dp : J_dp h := ⟨0, fun _ _ => 0, fun _ => 0, fun _ => 0, ⟨by decide, fun i hi => absurd hi (Nat.not_lt_zero i), fun i j _ hj => absurd hj (Nat.not_lt_zero j)⟩, ⟨z 0 17 rfl, fun i hi => absurd hi (Nat.not_lt_zero i)⟩, ⟨m0 45 (by decide) (by decide) (by decide), fun i hi => absurd hi (Nat.not_lt_zero i)⟩, ⟨fun t ht s hs f hf c hc => f146 _ (by omega), fun i hi => absurd hi (Nat.not_lt_zero i)⟩⟩
  have ca : J_ca h := ⟨2, by decide, by decide, f464, by rw [f137]; rfl⟩
  have ch : J_ch h := fun e he s hs => ⟨5, by decide, f50 _ (by omega), f188 _ (by omega)⟩
  have cm : J_cm h := fun e he s hs => ⟨true, f51 _ (by omega), z 220 _ rfl⟩
  have wa : J_wa h := ⟨0, fun _ => 0, fun _ => 0, fun _ => 0, by decide, f46, m0 64 (by decide) (by decide) (by decide), fun k hk => absurd hk (Nat.not_lt_zero k), fun k hk => absurd hk (Nat.not_lt_zero k), fun i j _ hj => absurd hj (Nat.not_lt_zero j), fun k hk => absurd hk (Nat.not_lt_zero k)⟩
  refine ⟨w, ⟨fun t ht => Or.inl ⟨ft t ht, z 143 t rfl, f148 t ht, f149 t ht, z 150 t rfl, fun s hs c hc f hf => z 145 _ rfl, fun s hs x hx => z 147 _ rfl⟩, fun t u a b ht hu _ e => by rw [ft t ht] at e; cases e⟩, ?_, ?_, ?_, ?_, ?_, ?_, ?_, ?_, ?_, ?_, ch, ca, cm, wa, ?_, ?_, ?_, ?_, dp, ?_, ?_, ?_, ?_, ?_⟩
  · exact ⟨0, by decide, z 9 5 rfl, m0 23 (by decide) (by decide) (by decide), fun i hi => absurd hi (Nat.not_lt_zero i)⟩
  · exact ⟨0, by decide, z 3 5 rfl, m0 18 (by decide) (by decide) (by decide), fun i hi => absurd hi (Nat.not_lt_zero i)⟩
  · exact ⟨0, by decide, z 15 5 rfl, m0 85 (by decide) (by decide) (by decide), fun i hi => absurd hi (Nat.not_lt_zero i)⟩
  · exact ⟨0, by decide, z 21 5 rfl, m0 92 (by decide) (by decide) (by decide), fun i hi => absurd hi (Nat.not_lt_zero i)⟩
  · intro s hs e he k hk
    refine ⟨0, by decide, z 154 _ rfl, ?_⟩
    rw [z 2 _ rfl]
    have : ∀ s, s < 4 → ((0 : Int32) >>> (nI (s * 8) &&& 31)) &&& 127 = nI 0 := by decide +kernel
    exact this s hs
  · exact ⟨0, by decide, z 27 3 rfl, fun p hp => by rw [z 159 p rfl, Nat.zero_testBit]; rfl⟩
  · exact fun p hp => ⟨by rw [f160 p hp, f28 p hp], Or.inl (f28 p hp)⟩
  · exact fun a ha b hb => ⟨0, by decide, z 190 _ rfl, z 30 _ rfl⟩
  · exact fun p hp => ⟨0, by decide, z 31 _ rfl, fun k hk => by rw [z 197 _ rfl, Nat.zero_testBit]; rfl⟩
  · exact fun o ho => ⟨0, 0, 0, by decide, by decide, by decide, z 59 _ rfl, z 195 _ rfl, fun q => absurd q (Nat.lt_irrefl 0)⟩
  · exact ⟨0, by decide, z 0 18 rfl, m0 98 (by decide) (by decide) (by decide), fun j hj => by rw [z 215 j rfl, z 66 j rfl]⟩
  · exact ⟨0, fun _ => 0, fun _ => 0, fun _ => 0, fun _ => false, ⟨by decide, m0 80 (by decide) (by decide) (by decide), fun i hi => absurd hi (Nat.not_lt_zero i), fun i j _ hj => absurd hj (Nat.not_lt_zero j), fun i hi => absurd hi (Nat.not_lt_zero i)⟩, z 41 0 rfl, fun i hi => absurd hi (Nat.not_lt_zero i)⟩
  · exact ⟨0, by decide, f37 0 (by decide), m0 2 (by decide) (by decide) (by decide), rfl, fun i hi => absurd hi (Nat.not_lt_zero i)⟩
  · refine ⟨u00 67, ⟨Or.inl rfl, Nat.zero_le _, Nat.zero_le _, by show 1 ≤ 4 ∧ 4 ≤ 12; decide, by show 1 ≤ 30 ∧ 30 ≤ 99; decide, fun P hP => absurd hP u00_has⟩, ⟨f15, ?_, ?_, ?_, ?_, ?_, fun P hP => absurd hP u00_has, fun j hj _ => ⟨0, by decide, z 69 _ rfl, z 70 _ rfl⟩⟩, ⟨z 163 0 rfl, z 163 1 rfl, ?_, ?_, m0 41 (by decide) (by decide) (by decide), fun P hP => absurd hP u00_has, fun k hk => absurd hk (Nat.not_lt_zero k), fun k hk => absurd hk (Nat.not_lt_zero k), fun j hj => f165 j (by omega)⟩⟩
    · exact (f67 0).trans rfl
    · exact (f67 1).trans rfl
    · exact (f67 2).trans rfl
    · exact (f67 3).trans rfl
    · exact (f67 4).trans rfl
    · exact (f137 37).trans rfl
    · exact (f137 38).trans rfl
  · obtain ⟨m, D, M, N, B, Dc, _⟩ := id dp
    refine ⟨m, D, M, N, B, Dc, 0, fun _ => 0, fun _ => 0, fun _ _ => 0, Nat.le_refl 0, z 60 3 rfl, m0 105 (by decide) (by decide) (by decide), fun k hk => ⟨z 63 k rfl, z 221 k rfl, Nat.le_refl 0, fun q => absurd rfl q⟩, fun j k _ _ q => absurd rfl q⟩
  · exact fun o ho => z 196 o rfl
  · exact lw
  · exact Or.inl (z 27 13 rfl)
  · exact J_pl.new wa ca ch cm ⟨l52, l1, l2⟩
section
variable {X : av_X} {d n : Nat} {f : Nat → Int32}
/-- the law answers 1 -/
theorem law_ok (xt : XT X) (hX : X 1000000 = some (n, f)) (hn : n ≤ 4096) : ∃ h K, ev X (d + 52) 384 [vr (some 1000000)] (hp 0 [] [] []) = av_rI 1 h ∧ LI K h ∧ K ≤ 512 := by
  obtain ⟨h0, e0, F⟩ := law_init (X := X) (d := d + 46)
  have L0 : LI 0 h0 := ⟨F.inv, [], by rw [F.1, List.append_nil], rfl⟩
  obtain ⟨h, K, e1, L, k⟩ := lw_go (X := X) (d := d) xt hX hn 512 0 h0 (by omega) (by omega) L0
  refine ⟨h, K, ?_, L, k⟩
  rw [e_384, e0]
  exact e1
end
