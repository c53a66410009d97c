/-! ===== all pairs; the start ===== -/
theorem all_pairs (l : Launch) (g1 g2 : va_G × (Nat → ClassId) × (Nat → Nat → Nat)) : kAll l g1 g2 Inv := fun n Mx Mm hn h => ⟨pair_stage h, pair_rider h, pair_of h, pair_at h, pair_buys h, pair_price h, pair_type h, pair_road h, pair_count h, pair_ride h, pair_wheel h, pair_give h, pair_drift h, pair_undo h, pair_seed h, pair_ahead h, pair_comes h, pair_first h, pair_caught h, pair_best hn h, pair_earlier hn h, pair_purse h, pair_loosened hn h, pair_duel h, pair_luck h, pair_image h, pair_restore h, pair_passed h, pair_film h, pair_sheet h, pair_drop h, pair_item h, pair_copy h⟩
theorem inv_start : Inv 0 Mx0 Mm0 := by
  have hrel : rel Mx0 0 Mm0 0 0 := by
    refine ⟨0, 0, fun f j hf hj => ?_, ⟨rfl, Nat.zero_le _, rfl, Nat.zero_le _, fun r hr => absurd hr (Nat.not_lt_zero _)⟩, ⟨fun j hj => absurd hj (Nat.not_lt_zero _), fun i hi => absurd hi (Nat.not_lt_zero _)⟩, 0, 0, Nat.zero_le _, by omega, rfl, rfl, by decide, fun i hi => absurd hi (Nat.not_lt_zero _)⟩
    by_cases h0 : f = 0
    · subst h0
      have j4 : j < 4 := hj
      rcases (show j = 0 ∨ j = 1 ∨ j = 2 ∨ j = 3 by omega) with rfl | rfl | rfl | rfl <;> decide
    · unfold fln at hj
      rw [if_neg h0, show rx Mx0 0 0 0 = nI 0 from rfl, show rx Mx0 0 0 1 = nI 0 from rfl, q_cl (by omega)] at hj
      split at hj <;> omega
  refine ⟨hrel, Or.inl ⟨rfl, rfl⟩, ⟨0, Nat.zero_le _, rfl, rfl, fun j hj => absurd hj (Nat.not_lt_zero _)⟩, fun s hs => Or.inl ⟨rfl, ?_⟩⟩
  rcases (show s = 0 ∨ s = 1 ∨ s = 2 ∨ s = 3 by omega) with rfl | rfl | rfl | rfl <;> decide
