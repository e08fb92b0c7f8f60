theorem init_A : ∀ k, k < 788 → s_X7_init_108.1 109 k = (if k < 198 ∧ 66 ≤ k ∧ k % 11 = 0 then nI ((k - 66) / 11) else if k = 783 then 3 else if k = 786 then -1 else 0) := by decide +kernel
theorem init_C : ∀ p, p < 12 → s_X7_init_108.1 (20 + 2 * p) 0 = nI p ∧ s_X7_init_108.1 (20 + 2 * p) 1 = 0 ∧ s_X7_init_108.1 (20 + 2 * p) 2 = 0 ∧ s_X7_init_108.1 (21 + 2 * p) 0 = 0 ∧ s_X7_init_108.1 (21 + 2 * p) 1 = 0 := by decide +kernel
theorem init_S : ∀ s, s < 4 → s_X7_init_108.1 (88 + 2 * s) 0 = 0 ∧ s_X7_init_108.1 113 s = 0 ∧ s_X7_init_108.1 (88 + 2 * s) 1 = 0 ∧ s_X7_init_108.1 114 s = 0 ∧ ∀ i, i < 50 → s_X7_init_108.1 (89 + 2 * s) i = 0 ∧ s_X7_init_108.1 115 (50 * s + i) = 0 := by decide +kernel
theorem init_F : ∀ d, d < 50 → s_X7_init_108.1 6 d = 0 := by decide +kernel
theorem init_T : ∀ k, k < 10 → s_X7_init_108.2 7 k = 0 ∧ s_X7_init_108.2 111 k = 0 := by decide +kernel
theorem rel_init : Rel 0 s_X7_init_108 := by
  refine ⟨0, 0, 0, Nat.le_refl _, ?_, ⟨by decide +kernel, Or.inl (by decide +kernel)⟩, ?_, ⟨by decide +kernel, Or.inl (by decide +kernel)⟩, by decide +kernel⟩
  · refine ⟨?_, ⟨fun _ _ => false, fun s hs => ⟨fun q => absurd q (by omega), fun o ho => ?_, fun o ho => absurd ho (by simp)⟩⟩, ⟨fun _ _ => 0, fun s hs => ⟨fun q => absurd q (by omega), fun a h1 h2 => ?_, fun _ _ => rfl⟩, ?_⟩, fun p hp => ?_, fun d hd => Or.inr ⟨?_, ?_⟩, fun d hd => absurd hd (by omega), fun k hk => ?_⟩
    · show HeadRel 0 0 0 (s_X7_init_108.1 1) (s_X7_init_108.1 109)
      exact ⟨by decide, by decide, by decide +kernel, by decide +kernel, by decide +kernel, by decide +kernel, by decide +kernel, by decide +kernel, by decide +kernel, ⟨3, by decide, by decide, by decide +kernel⟩, by decide +kernel, ⟨0, by decide, by decide +kernel⟩, by decide +kernel, Or.inl (by decide +kernel), by decide +kernel⟩
    · rw [init_A _ (by omega), if_neg (by omega), if_neg (by omega), if_neg (by omega)]; rfl
    · rw [init_A _ (by omega), if_neg (by omega), if_neg (by omega), if_neg (by omega)]; rfl
    · rw [fb_sum_zero (fun s _ => fb_sum_zero (fun a _ => rfl))]; omega
    · show PlaceRel 0 0 0 (s_X7_init_108.1 (1 + (19 + 2 * p))) (s_X7_init_108.1 (1 + (20 + 2 * p))) _
      rw [show 1 + (19 + 2 * p) = 20 + 2 * p from by omega, show 1 + (20 + 2 * p) = 21 + 2 * p from by omega]
      obtain ⟨c0, c1, c2, d0, d1⟩ := init_C p hp
      have a0 : s_X7_init_108.1 109 (66 + 11 * p + 0) = nI p := by
        rw [init_A _ (by omega), if_pos (by omega)]; congr 1; omega
      have az : ∀ k, 1 ≤ k → k ≤ 10 → s_X7_init_108.1 109 (66 + 11 * p + k) = 0 := fun k h1 h2 => by
        rw [init_A _ (by omega), if_neg (by omega), if_neg (by omega), if_neg (by omega)]
      unfold PlaceRel
      simp only [c0, c1, c2, d0, d1, a0, az 1 (by decide) (by decide), az 2 (by decide) (by decide), az 8 (by decide) (by decide), az 9 (by decide) (by decide)]
      exact ⟨trivial, trivial, ⟨p, by omega, rfl⟩, ⟨0, by decide, rfl⟩, trivial, trivial, trivial, Or.inl ⟨trivial, trivial, trivial⟩⟩
    · rw [init_A _ (by omega), if_neg (by omega), if_neg (by omega), if_neg (by omega)]
    · exact init_F d hd
    · obtain ⟨t1, t2⟩ := init_T k hk
      rw [t1, t2]
  · intro s hs
    obtain ⟨q1, q2, q3, q4, q5⟩ := init_S s hs
    refine ⟨q1.trans q2.symm, Or.inl q2, q3.trans q4.symm, ⟨0, by decide, q4, fun _ => rfl⟩, fun i hi => ?_⟩
    obtain ⟨t1, t2⟩ := q5 i hi
    rw [t1, t2]
