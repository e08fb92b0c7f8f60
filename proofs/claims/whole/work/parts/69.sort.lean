/-- the book changes, the kept one and the sheets do not -/
theorem Rel.booked {B : Nat} {S S' : St} (hR : Rel B S) {cnt yr dn : Nat} (hy : yr ≤ B + 1) (hB : BookRel cnt yr dn (fun i => S'.1 (1 + i)) (S'.2 7) (S'.1 109) (S'.2 111)) (hY : LayRel cnt (S'.1 101) (S'.1 104) (S'.1 109) (S'.1 116) (S'.1 108 9)) (k0 : S'.1 0 = S.1 0) (kC : ∀ i, 44 ≤ i → i ≤ 95 → S'.1 i = S.1 i) (kR : ∀ i, 110 ≤ i → i ≤ 115 → S'.1 i = S.1 i) (k8 : ∀ k, k ≠ 9 → S'.1 108 k = S.1 108 k) (kL1 : S'.2 50 = S.2 50) (kL2 : S'.2 112 = S.2 112) (k106 : S'.1 106 = S.1 106) : Rel (B + 1) S' := by
  obtain ⟨cnt0, yr0, dn0, h1, h2, ⟨h3, h4⟩, h5, h6, h7⟩ := hR
  refine ⟨cnt, yr, dn, hy, hB, ⟨by rw [k0, k8 4 (by decide)]; exact h3, ?_⟩, ?_, hY, by rw [k0, k8 10 (by decide)]; exact h7.1, by rw [k106]; exact h7.2⟩
  · rw [k8 4 (by decide)]
    rcases h4 with h4 | ⟨h4, c', y', d', q1, q2⟩
    · exact Or.inl h4
    · refine Or.inr ⟨h4, c', y', d', by omega, ?_⟩
      rw [kL1, kL2, kR 110 (by decide) (by decide)]
      exact q2.cong (fun i hi => kC (44 + i) (by omega) (by omega))
  · intro s hs
    rw [kC (88 + 2 * s) (by omega) (by omega), kC (89 + 2 * s) (by omega) (by omega), kR 113 (by decide) (by decide), kR 114 (by decide) (by decide), kR 115 (by decide) (by decide)]
    exact h5 s hs
theorem HeadRel.cong {cnt yr dn : Nat} {c A A' : Nat → Int32} (h : HeadRel cnt yr dn c A) (hA : ∀ k, 782 ≤ k → k ≤ 787 → A' k = A k) : HeadRel cnt yr dn c A' := by
  unfold HeadRel at h ⊢
  rw [hA 782 (by omega) (by omega), hA 783 (by omega) (by omega), hA 784 (by omega) (by omega), hA 785 (by omega) (by omega), hA 786 (by omega) (by omega), hA 787 (by omega) (by omega)]
  exact h
theorem StoreRel.cong2 {cnt T s : Nat} {c c' q A A' : Nat → Int32} {f : Nat → Nat} (h : StoreRel cnt T s c q A f) (hs : s < 6) (hc : c' 6 = c 6) (hA : ∀ k, k < 30 → A' k = A k) (hB : ∀ k, 198 ≤ k → k < 582 → A' k = A k) : StoreRel cnt T s c' q A' f := by
  have h' := h.cong hs hA hB
  obtain ⟨h1, h2, h3⟩ := h'
  exact ⟨fun q => by rw [hc]; exact h1 q, h2, h3⟩
theorem acc_v : ∀ b, b < 64 → ∀ o, o < 6 → (if ((nI b >>> (nI o &&& 31)) &&& 1) = 1 then true else false) = b.testBit o := by decide +kernel
theorem seta_v : ∀ b, b < 64 → ∀ o, o < 6 → (nI b ||| ((1 : Int32) <<< (nI o &&& 31))) = nI (b ||| 2 ^ o) ∧ (nI b &&& (((1 : Int32) <<< (nI o &&& 31)) ^^^ (-1))) = nI (b &&& (63 ^^^ 2 ^ o)) ∧ b ||| 2 ^ o < 64 ∧ b &&& (63 ^^^ 2 ^ o) < 64 := by decide +kernel
theorem seta_t : ∀ b, b < 64 → ∀ o, o < 6 → ∀ r, r < 6 → (b ||| 2 ^ o).testBit r = (if r = o then true else b.testBit r) ∧ (b &&& (63 ^^^ 2 ^ o)).testBit r = (if r = o then false else b.testBit r) := by decide +kernel
theorem does_nat {s o : Nat} (hs : s < 6) (ho : o < 6) (S : St) : f_X7_does (nI s) (nI o) S = some (decide (rd S 109 (30 + 6 * s + o) = 1)) := by
  have e : (30 : Int32) + (6 : Int32) * nI s + nI o = nI (30 + 6 * s + o) := by
    rw [show (30 : Int32) = nI 30 from rfl, show (6 : Int32) = nI 6 from rfl, pk_mul, nI_add, nI_add]
  unfold f_X7_does
  rw [e, if_pos (inb_nI (by omega) (by decide)), ix_nI (by omega)]
  by_cases h : rd S 109 (30 + 6 * s + o) = 1
  · rw [if_pos h]; simp [h]
  · rw [if_neg h]; simp [h]
theorem setAcc_run {t o b : Nat} (on : Bool) (S : St) (ho : o < 6) (hb : b < 64) (h : S.1 t 5 = nI b) : ∃ b', b' < 64 ∧ f_X5_setAccepts t (nI o) on S = wr S t 5 (nI b') ∧ ∀ r, r < 6 → b'.testBit r = if r = o then on else b.testBit r := by
  have h' : rd S t 5 = nI b := h
  obtain ⟨v1, v2, v3, v4⟩ := seta_v b hb o ho
  cases on with
  | true => exact ⟨b ||| 2 ^ o, v3, by simp only [f_X5_setAccepts, h', v1, if_true], fun r hr => (seta_t b hb o ho r hr).1⟩
  | false => exact ⟨b &&& (63 ^^^ 2 ^ o), v4, by simp only [f_X5_setAccepts, h', v2, Bool.false_eq_true, if_false], fun r hr => (seta_t b hb o ho r hr).2⟩
theorem accepts_run {t o b : Nat} (S : St) (ho : o < 6) (hb : b < 64) (h : S.1 t 5 = nI b) : f_X5_accepts t (nI o) S = b.testBit o := by
  unfold f_X5_accepts
  rw [show rd S t 5 = nI b from h]
  exact acc_v b hb o ho
theorem sm_takes (x z : Int32) (on : Bool) : Sm Rel (f_X6_takes x z on) (f_X7_takes x z on) := by
  intro B S hB hR
  obtain ⟨cnt, yr, dn, g1, g2, g34, g5, g6, g7⟩ := id hR
  have hH := g2.1
  have hc6 : cnt ≤ 6 := hH.1
  have hc1 : rd S 1 1 = nI cnt := hH.2.2.1
  have hc2 : rd S 109 782 = nI cnt := hH.2.2.2.1
  have hsb : ∀ T : St, rd T 109 782 = rd S 109 782 → ∀ y, f_X7_isSort y T = some (f_X6_isSort y S) := fun T hT y => by
    unfold f_X7_isSort f_X6_isSort; rw [ix_782, hT, hc1, hc2]; rfl
  have hsF : ∀ c y, f_X7_isSort y (f_X6_finding c S).2 = some (f_X6_isSort y S) := fun c y => hsb _ (fnd_rd c S (by decide)) y
  by_cases h1 : f_X6_isSort x S = true
  · by_cases h2 : f_X6_isSort z S = true
    · obtain ⟨s, hs, rfl⟩ := sort_nat hc6 hc1 h1
      obtain ⟨o, ho, rfl⟩ := sort_nat hc6 hc1 h2
      obtain ⟨tk, hS⟩ := g2.2.1
      obtain ⟨-, -, -, -, -, -, bits, hb64, hb5, hbt⟩ := (hS s (by omega)).1 hs
      have hb5' : S.1 (8 + 2 * s) 5 = nI bits := by
        have e : 1 + (7 + 2 * s) = 8 + 2 * s := by omega
        simp only [e] at hb5; exact hb5
      have hin : inb (nI s) 6 = true := inb_nI (by omega) (by decide)
      have hix : ix (nI s) = s := ix_nI (by omega)
      obtain ⟨b', hb'64, eset, hb't⟩ := setAcc_run on S (o := o) (by omega) hb64 hb5'
      have eacc : f_X5_accepts (8 + 2 * s) (nI o) S = tk s o := by rw [accepts_run S (by omega) hb64 hb5', hbt o (by omega)]
      have eA : rd S 109 (30 + 6 * s + o) = if tk s o = true then 1 else 0 := (hS s (by omega)).2.1 o (by omega)
      have hans : ∃ v : Int32, f_X6_takes (nI s) (nI o) on S = some (v, wr (wr S (8 + 2 * s) 5 (nI b')) 101 0 0) ∧ ∀ T : St, rd T 109 782 = rd S 109 782 → rd T 109 (30 + 6 * s + o) = rd S 109 (30 + 6 * s + o) → f_X7_takes (nI s) (nI o) on T = some (v, wr (wr T 109 (30 + 6 * s + o) (if on = true then 1 else 0)) 108 9 0) := by
        have e : (30 : Int32) + (6 : Int32) * nI s + nI o = nI (30 + 6 * s + o) := by
          rw [show (30 : Int32) = nI 30 from rfl, show (6 : Int32) = nI 6 from rfl, pk_mul, nI_add, nI_add]
        have ein : inb (nI (30 + 6 * s + o)) 788 = true := inb_nI (by omega) (by decide)
        have eix : ix (nI (30 + 6 * s + o)) = 30 + 6 * s + o := ix_nI (by omega)
        have edo : ∀ T : St, rd T 109 (30 + 6 * s + o) = rd S 109 (30 + 6 * s + o) → f_X7_does (nI s) (nI o) T = some (tk s o) := fun T hT => by
          rw [does_nat (by omega) (by omega), hT, eA]
          cases tk s o <;> rfl
        by_cases q : b2i (tk s o) = b2i on
        · refine ⟨0, by simp only [f_X6_takes, f_X6_takes_J44, h1, h2, hin, hix, eacc, q, if_true, eset, f_X1_forget], fun T t1 t2 => ?_⟩
          simp only [f_X7_takes, hsb T t1, h1, h2, edo T t2, if_true, Option.bind_some, e]
          cases on with
          | true => simp only [f_X7_takes_J52, ein, eix, q, if_true]
          | false => simp only [f_X7_takes_J52, ein, eix, q, if_true, Bool.false_eq_true, if_false]
        · refine ⟨1, ?_, fun T t1 t2 => ?_⟩
          · simp only [f_X6_takes, f_X6_takes_J44, h1, h2, hin, hix, eacc, q, if_true, if_false, eset, f_X1_forget]
            rw [if_neg (by decide)]
          · simp only [f_X7_takes, hsb T t1, h1, h2, edo T t2, if_true, Option.bind_some, e]
            cases on with
            | true => simp only [f_X7_takes_J52, ein, eix, q, if_true, if_false]
            | false => simp only [f_X7_takes_J52, ein, eix, q, if_true, Bool.false_eq_true, if_false]
      obtain ⟨v, a6, a7⟩ := hans
      have a7' := a7 (wr (wr S (8 + 2 * s) 5 (nI b')) 101 0 0) (by simp only [rd]; rw [wr1_ne (by decide), wr1_ne (by omega)]) (by simp only [rd]; rw [wr1_ne (by decide), wr1_ne (by omega)])
      refine ⟨v, _, _, a6, a7', ?_⟩
      generalize hS2 : wr (wr (wr (wr S (8 + 2 * s) 5 (nI b')) 101 0 0) 109 (30 + 6 * s + o) (if on = true then 1 else 0)) 108 9 0 = S2
      have oS2 : ∀ i, i ≠ 8 + 2 * s → i ≠ 101 → i ≠ 109 → i ≠ 108 → S2.1 i = S.1 i := fun i x y z u => by
        rw [← hS2, wr1_ne u, wr1_ne z, wr1_ne y, wr1_ne x]
      have cS2 : ∀ k, S2.1 (8 + 2 * s) k = if k = 5 then nI b' else S.1 (8 + 2 * s) k := fun k => by
        rw [← hS2, wr1_ne (by omega), wr1_ne (by omega), wr1_ne (by omega), wr1_eq]
      have vS2 : ∀ k, S2.1 109 k = if k = 30 + 6 * s + o then (if on = true then 1 else 0) else S.1 109 k := fun k => by
        rw [← hS2, wr1_ne (by omega), wr1_eq, wr1_ne (by omega), wr1_ne (by omega)]
      have lS2 : S2.2 = S.2 := by rw [← hS2]; rfl
      have p109 : ∀ k, (k < 30 ∨ 66 ≤ k) → S2.1 109 k = S.1 109 k := fun k hk => by rw [vS2, if_neg (by omega)]
      have h01 : S2.1 101 0 = 0 := by rw [← hS2, wr1_ne (by decide), wr1_ne (by decide), wr1_eq, if_pos rfl]
      have h89 : S2.1 108 9 = 0 := by rw [← hS2, wr1_eq, if_pos rfl]
      obtain ⟨-, -, ⟨f, k3, k3'⟩, k4, k5, k6, k7⟩ := g2
      refine hR.booked (cnt := cnt) (yr := yr) (dn := dn) (by omega) ?_ (by rw [h89]; exact LayRel.no h01) (oS2 0 (by omega) (by omega) (by omega) (by omega)) (fun i x y => oS2 i (by omega) (by omega) (by omega) (by omega)) (fun i x y => oS2 i (by omega) (by omega) (by omega) (by omega)) (fun k hk => by rw [← hS2, wr1_eq, if_neg hk, wr1_ne (by decide), wr1_ne (by decide), wr1_ne (by omega)]) (by rw [lS2]) (by rw [lS2]) (oS2 106 (by omega) (by omega) (by omega) (by omega))
      obtain ⟨tk', htk⟩ : ∃ tk' : Nat → Nat → Bool, ∀ a b, tk' a b = if a = s ∧ b = o then on else tk a b := ⟨fun a b => if a = s ∧ b = o then on else tk a b, fun _ _ => rfl⟩
      refine ⟨?_, ⟨tk', fun s' hs' => ?_⟩, ⟨f, fun s' hs' => ?_, k3'⟩, fun q hq => ?_, ?_, ?_, by rw [lS2]; exact k7⟩
      · show HeadRel cnt yr dn (S2.1 1) (S2.1 109)
        rw [oS2 1 (by omega) (by omega) (by omega) (by omega)]
        exact hH.cong (fun k a b => p109 k (by omega))
      · show SortRel cnt s' (S2.1 (1 + (7 + 2 * s'))) (S2.1 109) (tk' s')
        have hs0 := hS s' hs'
        have e8 : 1 + (7 + 2 * s') = 8 + 2 * s' := by omega
        simp only [e8] at hs0 ⊢
        obtain ⟨q1, q2, q3⟩ := hs0
        refine ⟨fun hlt => ?_, fun r hr => ?_, fun r hr => ?_⟩
        · obtain ⟨w1, w2, w3, w4, w5, w6, bb, w7, w8, w9⟩ := q1 hlt
          have eA' : ∀ k, k < 5 → S2.1 109 (5 * s' + k) = S.1 109 (5 * s' + k) := fun k hk => p109 _ (by omega)
          have e0 : S2.1 109 (5 * s') = S.1 109 (5 * s') := eA' 0 (by decide)
          refine ⟨fun k hk => ?_, by rw [e0]; exact w2, by rw [eA' 1 (by decide)]; exact w3, by rw [eA' 2 (by decide)]; exact w4, by rw [eA' 3 (by decide)]; exact w5, by rw [eA' 4 (by decide)]; exact w6, ?_⟩
          · rw [eA' k hk]
            by_cases es : s' = s
            · subst es; rw [cS2, if_neg (by omega)]; exact w1 k hk
            · rw [oS2 _ (by omega) (by omega) (by omega) (by omega)]; exact w1 k hk
          · by_cases es : s' = s
            · subst es
              refine ⟨b', hb'64, by rw [cS2, if_pos rfl], fun r hr => ?_⟩
              rw [hb't r hr, htk]
              by_cases er : r = o
              · rw [if_pos er, if_pos ⟨rfl, er⟩]
              · rw [if_neg er, if_neg (fun q => er q.2), hbt r hr]
            · refine ⟨bb, w7, by rw [oS2 _ (by omega) (by omega) (by omega) (by omega)]; exact w8, fun r hr => ?_⟩
              rw [htk, if_neg (fun q => es q.1)]; exact w9 r hr
        · by_cases es : s' = s ∧ r = o
          · obtain ⟨e1, e2⟩ := es
            subst e1 e2
            rw [vS2, if_pos rfl, htk]; simp only [and_self, if_true]
          · rw [vS2, if_neg (by omega), htk, if_neg es]; exact q2 r hr
        · by_cases es : s' = s ∧ r = o
          · obtain ⟨e1, e2⟩ := es
            subst e1 e2
            exact ⟨hs, ho⟩
          · rw [htk, if_neg es] at hr; exact q3 r hr
      · show StoreRel cnt (50 * yr + dn) s' (S2.1 (1 + (7 + 2 * s'))) (S2.1 (1 + (8 + 2 * s'))) (S2.1 109) (f s')
        have hs0 := k3 s' hs'
        have e8 : 1 + (7 + 2 * s') = 8 + 2 * s' := by omega
        have e9 : 1 + (8 + 2 * s') = 9 + 2 * s' := by omega
        simp only [e8, e9] at hs0 ⊢
        rw [oS2 (9 + 2 * s') (by omega) (by omega) (by omega) (by omega)]
        refine hs0.cong2 hs' ?_ (fun k hk => p109 k (by omega)) (fun k a b => p109 k (by omega))
        by_cases es : s' = s
        · subst es; rw [cS2, if_neg (by decide)]
        · rw [oS2 _ (by omega) (by omega) (by omega) (by omega)]
      · show PlaceRel cnt yr dn (S2.1 (1 + (19 + 2 * q))) (S2.1 (1 + (20 + 2 * q))) _
        rw [oS2 (1 + (19 + 2 * q)) (by omega) (by omega) (by omega) (by omega), oS2 (1 + (20 + 2 * q)) (by omega) (by omega) (by omega) (by omega)]
        exact (k4 q hq).cong (fun k hk => p109 _ (by omega))
      · show FrostRel (S2.1 5) (S2.1 6) (S2.1 109)
        rw [oS2 5 (by omega) (by omega) (by omega) (by omega), oS2 6 (by omega) (by omega) (by omega) (by omega)]
        exact k5.cong (fun k a b => p109 k (by omega))
      · show WarmRel dn (S2.1 4) (S2.1 109)
        rw [oS2 4 (by omega) (by omega) (by omega) (by omega)]
        have : dn ≤ 49 := hH.2.1
        exact k6.cong (by omega) (fun k a b => p109 k (by omega))
    · exact ⟨-1, (f_X6_finding (-1) S).2, (f_X7_found (-1) (f_X6_finding (-1) S).2).2, by simp only [f_X6_takes, h1, h2, if_true, if_false]; rfl, by simp only [f_X7_takes, hsF, h1, h2, Option.bind_some, if_true, if_false]; rfl, hR.found _ _⟩
  · exact ⟨-1, (f_X6_finding (-1) S).2, (f_X7_found (-1) (f_X6_finding (-1) S).2).2, by simp only [f_X6_takes, h1, if_true, if_false]; rfl, by simp only [f_X7_takes, hsF, h1, Option.bind_some, if_true, if_false]; rfl, hR.found _ _⟩
theorem begin5_run (t : Nat) (S : St) (K : St → Option St) : ∃ T, Fill S (t + 1) 0 (fun _ => 0) 60 T ∧ f_X5_begin_L40 6000 K t 0 S = K T := by
  have := loop_up (N := 60) (fun n i T => f_X5_begin_L40 n K t i T) K (fun j T => Fill S (t + 1) 0 (fun _ => 0) j T) (fun n j T hj hP => by
    refine ⟨_, hP.step, ?_⟩
    have h1 : (nI j < (60 : Int32)) = True := ltT hj (by decide)
    have h2 : inb (nI j) 60 = true := inb_nI hj (by decide)
    have h3 : ix (nI j) = 0 + j := by rw [ix_nI (by omega)]; omega
    simp only [f_X5_begin_L40, h1, h2, h3, nI_1, if_true]) (fun n T hP => by
    have h1 : (nI 60 < (60 : Int32)) = False := ltF (N := 60) (by decide) (by decide)
    simp only [f_X5_begin_L40, h1, if_false]) (fuel := 6000) (by decide) (Fill.zero S (t + 1) 0 (fun _ => 0))
  rw [nI_0] at this
  exact this
theorem PlaceRel.more {cnt cnt' yr dn : Nat} {c f a : Nat → Int32} (h : PlaceRel cnt yr dn c f a) (hc : cnt ≤ cnt') : PlaceRel cnt' yr dn c f a := by
  obtain ⟨h1, h2, h3, h4, h5, h6, h7, h8⟩ := h
  refine ⟨h1, h2, h3, h4, h5, h6, h7, ?_⟩
  rcases h8 with q | q | ⟨t1, t2, t3, t4, t5, t6, t7, ⟨s, hs, t8⟩, t9, t10⟩
  · exact Or.inl q
  · exact Or.inr (Or.inl q)
  · refine Or.inr (Or.inr ⟨t1, t2, t3, t4, t5, t6, t7, ⟨s, by omega, t8⟩, fun q => ?_, t10⟩)
    obtain ⟨o, ho, t⟩ := t9 q
    exact ⟨o, by omega, t⟩
theorem fb_sum_zero {f : Nat → Nat} : ∀ {n : Nat}, (∀ k, k < n → f k = 0) → fb_sum f n = 0
  | 0, _ => rfl
  | n + 1, h => by rw [fb_sum, fb_sum_zero (fun k hk => h k (by omega)), h n (by omega)]
theorem sm_sort (x1 x2 x3 x4 x5 : Int32) : Sm Rel (f_X6_sort x1 x2 x3 x4 x5) (f_X7_sort x1 x2 x3 x4 x5) := by
  intro B S hB hR
  by_cases h1 : f_X6_within x1 0 2000 = true
  · by_cases h2 : f_X6_within x2 1 9 = true
    · by_cases h3 : f_X6_within x3 0 2000 = true
      · by_cases h4 : f_X6_within x4 1 60 = true
        · by_cases h5 : f_X6_within x5 0 9 = true
          · obtain ⟨cnt, yr, dn, g1, g2, g34, g5, g6, g7⟩ := id hR
            have hH := g2.1
            have hc6 : cnt ≤ 6 := hH.1
            have hc1 : rd S 1 1 = nI cnt := hH.2.2.1
            have hc2 : rd S 109 782 = nI cnt := hH.2.2.2.1
            by_cases hf : cnt = 6
            · subst hf
              have n6 : (nI 6 < (6 : Int32)) = False := ltF (N := 6) (by decide) (by decide)
              have y6 : (nI 6 = (6 : Int32)) = True := eq_true rfl
              have hcF : rd (f_X6_finding (-5) S).2 109 782 = nI 6 := by rw [fnd_rd _ S (by decide)]; exact hc2
              exact ⟨-5, (f_X6_finding (-5) S).2, (f_X7_found (-5) (f_X6_finding (-5) S).2).2, by simp only [f_X6_sort, h1, h2, h3, h4, h5, hc1, n6, if_true, if_false]; rfl, by simp only [f_X7_sort, in_eq, h1, h2, h3, h4, h5, ix_782, hcF, y6, if_true]; rfl, hR.found _ _⟩
            · have hc5 : cnt < 6 := by omega
              have l6 : (nI cnt < (6 : Int32)) = True := ltT hc5 (by decide)
              have n6 : (nI cnt = (6 : Int32)) = False := eq_false (fun q => hf ((nI_eq (by omega) (by decide)).mp q))
              have hin : inb (nI cnt) 6 = true := inb_nI hc5 (by decide)
              have hix : ix (nI cnt) = cnt := ix_nI (by omega)
              obtain ⟨T, f1, e1⟩ := begin5_run (8 + 2 * cnt) (wr (wr (wr (wr (wr (wr (wr S (8 + 2 * cnt) 0 x1) (8 + 2 * cnt) 1 x2) (8 + 2 * cnt) 2 x3) (8 + 2 * cnt) 3 x4) (8 + 2 * cnt) 4 x5) (8 + 2 * cnt) 5 0) (8 + 2 * cnt) 6 0) (fun T61 => some T61)
              have e1' : f_X5_begin (8 + 2 * cnt) x1 x2 x3 x4 x5 S = some T := e1
              have a6 : f_X6_sort x1 x2 x3 x4 x5 S = some (nI cnt, wr (wr T 1 1 (nI (cnt + 1))) 101 0 0) := by
                simp only [f_X6_sort, h1, h2, h3, h4, h5, hc1, l6, hin, hix, if_true, e1', Option.bind_some, f_X1_forget, nI_1]
              have oT : ∀ i, i ≠ 8 + 2 * cnt → i ≠ 9 + 2 * cnt → T.1 i = S.1 i := fun i x y => by
                rw [f1.1 i (by omega), wr1_ne x, wr1_ne x, wr1_ne x, wr1_ne x, wr1_ne x, wr1_ne x, wr1_ne x]
              have cT : ∀ k, T.1 (8 + 2 * cnt) k = if k = 6 then 0 else if k = 5 then 0 else if k = 4 then x5 else if k = 3 then x4 else if k = 2 then x3 else if k = 1 then x2 else if k = 0 then x1 else S.1 (8 + 2 * cnt) k := fun k => by
                rw [f1.1 _ (by omega), wr1_eq, wr1_eq, wr1_eq, wr1_eq, wr1_eq, wr1_eq, wr1_eq]
              have qT : ∀ k, k < 60 → T.1 (9 + 2 * cnt) k = 0 := fun k hk => by
                have := f1.at (k := k) hk
                rw [show 8 + 2 * cnt + 1 = 9 + 2 * cnt from by omega, Nat.zero_add] at this
                exact this
              have lT : T.2 = S.2 := f1.2.1
              have hcT : rd (wr (wr T 1 1 (nI (cnt + 1))) 101 0 0) 109 782 = nI cnt := by
                show (wr (wr T 1 1 (nI (cnt + 1))) 101 0 0).1 109 782 = _
                rw [wr1_ne (by decide), wr1_ne (by decide), oT 109 (by omega) (by omega)]; exact hc2
              have i0 : (0 : Int32) + (5 : Int32) * nI cnt = nI (5 * cnt) := by
                rw [show (0 : Int32) = nI 0 from rfl, show (5 : Int32) = nI 5 from rfl, pk_mul, nI_add, Nat.zero_add]
              have i1 : nI (5 * cnt) + 1 = nI (5 * cnt + 1) := nI_1 _
              have i2 : nI (5 * cnt) + 2 = nI (5 * cnt + 2) := nI_add _ 2
              have i3 : nI (5 * cnt) + 3 = nI (5 * cnt + 3) := nI_add _ 3
              have i4 : nI (5 * cnt) + 4 = nI (5 * cnt + 4) := nI_add _ 4
              have j0 : inb (nI (5 * cnt)) 788 = true := inb_nI (by omega) (by decide)
              have j1 : inb (nI (5 * cnt + 1)) 788 = true := inb_nI (by omega) (by decide)
              have j2 : inb (nI (5 * cnt + 2)) 788 = true := inb_nI (by omega) (by decide)
              have j3 : inb (nI (5 * cnt + 3)) 788 = true := inb_nI (by omega) (by decide)
              have j4 : inb (nI (5 * cnt + 4)) 788 = true := inb_nI (by omega) (by decide)
              have x0' : ix (nI (5 * cnt)) = 5 * cnt := ix_nI (by omega)
              have x1' : ix (nI (5 * cnt + 1)) = 5 * cnt + 1 := ix_nI (by omega)
              have x2' : ix (nI (5 * cnt + 2)) = 5 * cnt + 2 := ix_nI (by omega)
              have x3' : ix (nI (5 * cnt + 3)) = 5 * cnt + 3 := ix_nI (by omega)
              have x4' : ix (nI (5 * cnt + 4)) = 5 * cnt + 4 := ix_nI (by omega)
              generalize hU : wr (wr T 1 1 (nI (cnt + 1))) 101 0 0 = U at a6 hcT
              have hcU : rd (wr (wr (wr (wr (wr U 109 (5 * cnt) x1) 109 (5 * cnt + 1) x2) 109 (5 * cnt + 2) x3) 109 (5 * cnt + 3) x4) 109 (5 * cnt + 4) x5) 109 782 = nI cnt := by
                show (wr (wr (wr (wr (wr U 109 (5 * cnt) x1) 109 (5 * cnt + 1) x2) 109 (5 * cnt + 2) x3) 109 (5 * cnt + 3) x4) 109 (5 * cnt + 4) x5).1 109 782 = _
                rw [wr1_eq, if_neg (by omega), wr1_eq, if_neg (by omega), wr1_eq, if_neg (by omega), wr1_eq, if_neg (by omega), wr1_eq, if_neg (by omega)]
                exact hcT
              have a7 : f_X7_sort x1 x2 x3 x4 x5 U = some (nI cnt, wr (wr (wr (wr (wr (wr (wr U 109 (5 * cnt) x1) 109 (5 * cnt + 1) x2) 109 (5 * cnt + 2) x3) 109 (5 * cnt + 3) x4) 109 (5 * cnt + 4) x5) 109 782 (nI (cnt + 1))) 108 9 0) := by
                simp only [f_X7_sort, in_eq, h1, h2, h3, h4, h5, ix_782, hcT, n6, i0, i1, i2, i3, i4, j0, j1, j2, j3, j4, x0', x1', x2', x3', x4', if_true, if_false, hcU, nI_1]
              refine ⟨_, _, _, a6, a7, ?_⟩
              generalize hS2 : wr (wr (wr (wr (wr (wr (wr U 109 (5 * cnt) x1) 109 (5 * cnt + 1) x2) 109 (5 * cnt + 2) x3) 109 (5 * cnt + 3) x4) 109 (5 * cnt + 4) x5) 109 782 (nI (cnt + 1))) 108 9 0 = S2
              have oS2 : ∀ i, i ≠ 8 + 2 * cnt → i ≠ 9 + 2 * cnt → i ≠ 1 → i ≠ 101 → i ≠ 109 → i ≠ 108 → S2.1 i = S.1 i := fun i x y z u v w => by
                rw [← hS2, wr1_ne w, wr1_ne v, wr1_ne v, wr1_ne v, wr1_ne v, wr1_ne v, wr1_ne v, ← hU, wr1_ne u, wr1_ne z, oT i x y]
              have cS2 : ∀ i, i = 8 + 2 * cnt ∨ i = 9 + 2 * cnt → S2.1 i = T.1 i := fun i hi => by
                rw [← hS2, wr1_ne (by omega), wr1_ne (by omega), wr1_ne (by omega), wr1_ne (by omega), wr1_ne (by omega), wr1_ne (by omega), wr1_ne (by omega), ← hU, wr1_ne (by omega), wr1_ne (by omega)]
              have hS21 : ∀ k, S2.1 1 k = if k = 1 then nI (cnt + 1) else S.1 1 k := fun k => by
                rw [← hS2, wr1_ne (by omega), wr1_ne (by omega), wr1_ne (by omega), wr1_ne (by omega), wr1_ne (by omega), wr1_ne (by omega), wr1_ne (by omega), ← hU, wr1_ne (by omega), wr1_eq, oT 1 (by omega) (by omega)]
              have vS2 : ∀ k, S2.1 109 k = if k = 782 then nI (cnt + 1) else if k = 5 * cnt + 4 then x5 else if k = 5 * cnt + 3 then x4 else if k = 5 * cnt + 2 then x3 else if k = 5 * cnt + 1 then x2 else if k = 5 * cnt then x1 else S.1 109 k := fun k => by
                rw [← hS2, wr1_ne (by omega), wr1_eq, wr1_eq, wr1_eq, wr1_eq, wr1_eq, wr1_eq, ← hU, wr1_ne (by omega), wr1_ne (by omega), oT 109 (by omega) (by omega)]
              have p109 : ∀ k, k ≠ 782 → (k < 5 * cnt ∨ 5 * cnt + 5 ≤ k) → S2.1 109 k = S.1 109 k := fun k a b => by
                rw [vS2, if_neg a, if_neg (by omega), if_neg (by omega), if_neg (by omega), if_neg (by omega), if_neg (by omega)]
              have lS2 : S2.2 = S.2 := by rw [← hS2]; show U.2 = _; rw [← hU]; exact lT
              have h01 : S2.1 101 0 = 0 := by
                rw [← hS2, wr1_ne (by decide), wr1_ne (by decide), wr1_ne (by decide), wr1_ne (by decide), wr1_ne (by decide), wr1_ne (by decide), wr1_ne (by decide), ← hU, wr1_eq, if_pos rfl]
              have h89 : S2.1 108 9 = 0 := by rw [← hS2, wr1_eq, if_pos rfl]
              have k8 : ∀ k, k ≠ 9 → S2.1 108 k = S.1 108 k := fun k hk => by
                rw [← hS2, wr1_eq, if_neg hk, wr1_ne (by decide), wr1_ne (by decide), wr1_ne (by decide), wr1_ne (by decide), wr1_ne (by decide), wr1_ne (by decide), ← hU, wr1_ne (by decide), wr1_ne (by decide), oT 108 (by omega) (by omega)]
              obtain ⟨-, ⟨tk, k2⟩, ⟨f, k3, k3'⟩, k4, k5, k6, k7⟩ := g2
              obtain ⟨n1, -, hn1, rfl⟩ := within_nat (a := 0) (b := 2000) (by decide) (by decide) h1
              obtain ⟨n2, hn2', hn2, rfl⟩ := within_nat (a := 1) (b := 9) (by decide) (by decide) h2
              obtain ⟨n3, -, hn3, rfl⟩ := within_nat (a := 0) (b := 2000) (by decide) (by decide) h3
              obtain ⟨n4, hn4', hn4, rfl⟩ := within_nat (a := 1) (b := 60) (by decide) (by decide) h4
              obtain ⟨n5, -, hn5, rfl⟩ := within_nat (a := 0) (b := 9) (by decide) (by decide) h5
              have w0 : S2.1 109 (5 * cnt) = nI n1 := by
                rw [vS2, if_neg (by omega), if_neg (by omega), if_neg (by omega), if_neg (by omega), if_neg (by omega), if_pos rfl]
              have w1 : S2.1 109 (5 * cnt + 1) = nI n2 := by
                rw [vS2, if_neg (by omega), if_neg (by omega), if_neg (by omega), if_neg (by omega), if_pos rfl]
              have w2 : S2.1 109 (5 * cnt + 2) = nI n3 := by
                rw [vS2, if_neg (by omega), if_neg (by omega), if_neg (by omega), if_pos rfl]
              have w3 : S2.1 109 (5 * cnt + 3) = nI n4 := by
                rw [vS2, if_neg (by omega), if_neg (by omega), if_pos rfl]
              have w4 : S2.1 109 (5 * cnt + 4) = nI n5 := by
                rw [vS2, if_neg (by omega), if_pos rfl]
              refine hR.booked (cnt := cnt + 1) (yr := yr) (dn := dn) (by omega) ?_ (by rw [h89]; exact LayRel.no h01) (oS2 0 (by omega) (by omega) (by omega) (by omega) (by omega) (by omega)) (fun i x y => oS2 i (by omega) (by omega) (by omega) (by omega) (by omega) (by omega)) (fun i x y => oS2 i (by omega) (by omega) (by omega) (by omega) (by omega) (by omega)) k8 (by rw [lS2]) (by rw [lS2]) (oS2 106 (by omega) (by omega) (by omega) (by omega) (by omega) (by omega))
              refine ⟨?_, ⟨tk, fun s' hs' => ?_⟩, ⟨f, fun s' hs' => ?_, k3'⟩, fun q hq => ?_, ?_, ?_, by rw [lS2]; exact k7⟩
              · show HeadRel (cnt + 1) yr dn (S2.1 1) (S2.1 109)
                obtain ⟨q1, q2, q3, q4, q5, q6, q7, q8, q9, q10, q11, q12, q13, q14, q15⟩ := hH
                have q3' : S2.1 1 1 = nI (cnt + 1) := by rw [hS21, if_pos rfl]
                have q4' : S2.1 109 782 = nI (cnt + 1) := by rw [vS2, if_pos rfl]
                unfold HeadRel
                rw [q3', q4', hS21 4, hS21 5, hS21 3, hS21 9, hS21 10, hS21 11, p109 783 (by omega) (by omega), p109 784 (by omega) (by omega), p109 785 (by omega) (by omega), p109 786 (by omega) (by omega), p109 787 (by omega) (by omega)]
                exact ⟨by omega, q2, rfl, rfl, q5, q6, q7, q8, q9, q10, q11, q12, q13, q14, q15⟩
              · show SortRel (cnt + 1) s' (S2.1 (1 + (7 + 2 * s'))) (S2.1 109) (tk s')
                have hs0 := k2 s' hs'
                have e8 : 1 + (7 + 2 * s') = 8 + 2 * s' := by omega
                simp only [e8] at hs0 ⊢
                obtain ⟨q1, q2, q3⟩ := hs0
                refine ⟨fun hlt => ?_, fun r hr => by rw [p109 _ (by omega) (by omega)]; exact q2 r hr, fun r hr => by have := q3 r hr; omega⟩
                by_cases es : s' = cnt
                · subst es
                  rw [cS2 _ (Or.inl rfl)]
                  refine ⟨fun k hk => ?_, ⟨n1, hn1, w0⟩, ⟨n2, hn2', hn2, w1⟩, ⟨n3, hn3, w2⟩, ⟨n4, hn4', hn4, w3⟩, ⟨n5, hn5, w4⟩, ⟨0, by decide, ?_, fun r hr => ?_⟩⟩
                  · have : k = 0 ∨ k = 1 ∨ k = 2 ∨ k = 3 ∨ k = 4 := by omega
                    rw [cT]
                    rcases this with rfl | rfl | rfl | rfl | rfl
                    · exact w0.symm
                    · exact w1.symm
                    · exact w2.symm
                    · exact w3.symm
                    · exact w4.symm
                  · rw [cT]; rfl
                  · have : tk s' r = false := by
                      cases h : tk s' r with
                      | false => rfl
                      | true => have := q3 r h; omega
                    rw [this, Nat.zero_testBit]
                · obtain ⟨y1, y2, y3, y4, y5, y6, y7⟩ := q1 (by omega)
                  have eA' : ∀ k, k < 5 → S2.1 109 (5 * s' + k) = S.1 109 (5 * s' + k) := fun k hk => p109 _ (by omega) (by omega)
                  have e0 : S2.1 109 (5 * s') = S.1 109 (5 * s') := eA' 0 (by decide)
                  rw [oS2 _ (by omega) (by omega) (by omega) (by omega) (by omega) (by omega)]
                  exact ⟨fun k hk => by rw [eA' k hk]; exact y1 k hk, by rw [e0]; exact y2, by rw [eA' 1 (by decide)]; exact y3, by rw [eA' 2 (by decide)]; exact y4, by rw [eA' 3 (by decide)]; exact y5, by rw [eA' 4 (by decide)]; exact y6, y7⟩
              · show StoreRel (cnt + 1) (50 * yr + dn) s' (S2.1 (1 + (7 + 2 * s'))) (S2.1 (1 + (8 + 2 * s'))) (S2.1 109) (f s')
                have hs0 := k3 s' hs'
                have e8 : 1 + (7 + 2 * s') = 8 + 2 * s' := by omega
                have e9 : 1 + (8 + 2 * s') = 9 + 2 * s' := by omega
                simp only [e8, e9] at hs0 ⊢
                obtain ⟨q1, q2, q3⟩ := hs0
                refine ⟨fun hlt => ?_, fun a a1 a2 => by rw [p109 _ (by omega) (by omega)]; exact q2 a a1 a2, fun h => q3 (by omega)⟩
                by_cases es : s' = cnt
                · subst es
                  have fz : ∀ a, f s' a = 0 := q3 (Nat.le_refl _)
                  rw [cS2 _ (Or.inl rfl), cS2 _ (Or.inr rfl)]
                  refine ⟨fun a a1 a2 => ?_, ?_, fun a x _ _ _ => fz a⟩
                  · rw [qT _ (Nat.mod_lt _ (by decide)), fz a]; rfl
                  · rw [cT, if_pos rfl, fb_sum_zero (fun k _ => fz _)]; rfl
                · obtain ⟨y1, y2, y3⟩ := q1 (by omega)
                  rw [oS2 (8 + 2 * s') (by omega) (by omega) (by omega) (by omega) (by omega) (by omega), oS2 (9 + 2 * s') (by omega) (by omega) (by omega) (by omega) (by omega) (by omega)]
                  exact ⟨y1, y2, fun a x hx => y3 a x (by rw [← p109 _ (by omega) (by omega)]; exact hx)⟩
              · show PlaceRel (cnt + 1) yr dn (S2.1 (1 + (19 + 2 * q))) (S2.1 (1 + (20 + 2 * q))) _
                rw [oS2 (1 + (19 + 2 * q)) (by omega) (by omega) (by omega) (by omega) (by omega) (by omega), oS2 (1 + (20 + 2 * q)) (by omega) (by omega) (by omega) (by omega) (by omega) (by omega)]
                exact ((k4 q hq).more (by omega)).cong (fun k hk => p109 _ (by omega) (by omega))
              · show FrostRel (S2.1 5) (S2.1 6) (S2.1 109)
                rw [oS2 5 (by omega) (by omega) (by omega) (by omega) (by omega) (by omega), oS2 6 (by omega) (by omega) (by omega) (by omega) (by omega) (by omega)]
                exact k5.cong (fun k a b => p109 k (by omega) (by omega))
              · show WarmRel dn (S2.1 4) (S2.1 109)
                rw [oS2 4 (by omega) (by omega) (by omega) (by omega) (by omega) (by omega)]
                have : dn ≤ 49 := hH.2.1
                exact k6.cong (by omega) (fun k a b => p109 k (by omega) (by omega))
          · exact ⟨-1, (f_X6_finding (-1) S).2, (f_X7_found (-1) (f_X6_finding (-1) S).2).2, by simp only [f_X6_sort, h1, h2, h3, h4, h5, if_true, if_false]; rfl, by simp only [f_X7_sort, in_eq, h1, h2, h3, h4, h5, if_true, if_false]; rfl, hR.found _ _⟩
        · exact ⟨-1, (f_X6_finding (-1) S).2, (f_X7_found (-1) (f_X6_finding (-1) S).2).2, by simp only [f_X6_sort, h1, h2, h3, h4, if_true, if_false]; rfl, by simp only [f_X7_sort, in_eq, h1, h2, h3, h4, if_true, if_false]; rfl, hR.found _ _⟩
      · exact ⟨-1, (f_X6_finding (-1) S).2, (f_X7_found (-1) (f_X6_finding (-1) S).2).2, by simp only [f_X6_sort, h1, h2, h3, if_true, if_false]; rfl, by simp only [f_X7_sort, in_eq, h1, h2, h3, if_true, if_false]; rfl, hR.found _ _⟩
    · exact ⟨-1, (f_X6_finding (-1) S).2, (f_X7_found (-1) (f_X6_finding (-1) S).2).2, by simp only [f_X6_sort, h1, h2, if_true, if_false]; rfl, by simp only [f_X7_sort, in_eq, h1, h2, if_true, if_false]; rfl, hR.found _ _⟩
  · exact ⟨-1, (f_X6_finding (-1) S).2, (f_X7_found (-1) (f_X6_finding (-1) S).2).2, by simp only [f_X6_sort, h1, if_true, if_false]; rfl, by simp only [f_X7_sort, in_eq, h1, if_true, if_false]; rfl, hR.found _ _⟩
