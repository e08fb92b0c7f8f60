-- givings as numbers: their digits, the next one
theorem dig_high {n k e g : Nat} (hn : 0 < n) (hk : g % n ^ k = n ^ k - 1) (hd : g / n ^ k % n ≠ n - 1) (he : k < e) : (g + 1) / n ^ e = g / n ^ e := by
  have hp : 0 < n ^ k := Nat.pow_pos hn
  have h1 : g + 1 = n ^ k * (g / n ^ k + 1) := by
    have := Nat.div_add_mod g (n ^ k)
    rw [Nat.mul_add, Nat.mul_one]; omega
  have h2 : (g + 1) / n ^ k = g / n ^ k + 1 := by rw [h1, Nat.mul_div_cancel_left _ hp]
  obtain ⟨d, rfl⟩ : ∃ d, e = k + 1 + d := ⟨e - (k + 1), by omega⟩
  have h3 : (g / n ^ k + 1) / n = g / n ^ k / n := by
    have a := Nat.div_add_mod (g / n ^ k) n
    have b := Nat.mod_lt (g / n ^ k) hn
    have c : g / n ^ k + 1 = n * (g / n ^ k / n) + (g / n ^ k % n + 1) := by omega
    rw [c, Nat.mul_add_div hn, Nat.div_eq_of_lt (by omega : g / n ^ k % n + 1 < n)]; omega
  rw [Nat.pow_add, Nat.pow_succ, ← Nat.div_div_eq_div_mul, ← Nat.div_div_eq_div_mul, ← Nat.div_div_eq_div_mul, ← Nat.div_div_eq_div_mul, h2, h3]
theorem dig_at {n k g : Nat} (hn : 0 < n) (hk : g % n ^ k = n ^ k - 1) (hd : g / n ^ k % n ≠ n - 1) : (g + 1) / n ^ k % n = g / n ^ k % n + 1 := by
  have hp : 0 < n ^ k := Nat.pow_pos hn
  have h1 : g + 1 = n ^ k * (g / n ^ k + 1) := by
    have := Nat.div_add_mod g (n ^ k)
    rw [Nat.mul_add, Nat.mul_one]; omega
  have h2 : (g + 1) / n ^ k = g / n ^ k + 1 := by rw [h1, Nat.mul_div_cancel_left _ hp]
  have b := Nat.mod_lt (g / n ^ k) hn
  rw [h2, Nat.add_mod, Nat.mod_eq_of_lt (a := g / n ^ k % n + 1 % n)]
  · rcases Nat.lt_or_ge 1 n with q | q
    · rw [Nat.mod_eq_of_lt q]
    · have : n = 1 := by omega
      subst this; omega
  · rcases Nat.lt_or_ge 1 n with q | q
    · rw [Nat.mod_eq_of_lt q]; omega
    · have : n = 1 := by omega
      subst this; omega
theorem dig_low {n k e g : Nat} (hn : 0 < n) (hk : g % n ^ k = n ^ k - 1) (he : e < k) : (g + 1) / n ^ e % n = 0 := by
  have hp : 0 < n ^ k := Nat.pow_pos hn
  have h1 : g + 1 = n ^ k * (g / n ^ k + 1) := by
    have := Nat.div_add_mod g (n ^ k)
    rw [Nat.mul_add, Nat.mul_one]; omega
  obtain ⟨d, rfl⟩ : ∃ d, k = e + 1 + d := ⟨k - (e + 1), by omega⟩
  generalize hq : g / n ^ (e + 1 + d) + 1 = q at h1
  have h2 : n ^ (e + 1 + d) * q = n ^ e * (n * (n ^ d * q)) := by
    rw [Nat.pow_add, Nat.pow_succ, Nat.mul_assoc, Nat.mul_assoc]
  rw [h1, h2, Nat.mul_div_cancel_left _ (Nat.pow_pos hn), Nat.mul_mod_right]
theorem dig_more {n k g : Nat} (hn : 0 < n) (hk : g % n ^ k = n ^ k - 1) (hd : g / n ^ k % n = n - 1) : g % n ^ (k + 1) = n ^ (k + 1) - 1 := by
  have hp : 0 < n ^ k := Nat.pow_pos hn
  rw [Nat.pow_succ, Nat.mod_mul, hk, hd]
  have : n ^ k * n = n ^ k * (n - 1) + n ^ k := by
    rw [← Nat.mul_succ]; congr 1; omega
  omega
/-- all trailing digits down to place t are n - 1 -/
theorem layDig_next {n m g k : Nat} (hn : 0 < n) (hkm : k < m) (hk : g % n ^ k = n ^ k - 1) (hd : layDig n m g (m - 1 - k) ≠ n - 1) : ∀ t, t < m → layDig n m (g + 1) t = if t = m - 1 - k then layDig n m g t + 1 else if m - 1 - k < t then 0 else layDig n m g t := by
  intro t ht
  have hd' : g / n ^ k % n ≠ n - 1 := by
    unfold layDig at hd
    rw [show m - 1 - (m - 1 - k) = k from by omega] at hd
    exact hd
  unfold layDig
  by_cases e1 : t = m - 1 - k
  · rw [if_pos e1, e1, show m - 1 - (m - 1 - k) = k from by omega]
    exact dig_at hn hk hd'
  · rw [if_neg e1]
    by_cases e2 : m - 1 - k < t
    · rw [if_pos e2]; exact dig_low hn hk (by omega)
    · rw [if_neg e2, dig_high hn hk hd' (by omega)]
theorem all_last {n m g : Nat} (hn : 0 < n) (hg : g < n ^ m) (hk : g % n ^ m = n ^ m - 1) : g + 1 = n ^ m := by
  rw [Nat.mod_eq_of_lt hg] at hk
  have : 0 < n ^ m := Nat.pow_pos hn
  omega
theorem not_last {n m g k : Nat} (hn : 0 < n) (hkm : k < m) (hg : g < n ^ m) (hd : layDig n m g (m - 1 - k) ≠ n - 1) : g + 1 < n ^ m := by
  rcases Nat.lt_or_ge (g + 1) (n ^ m) with q | q
  · exact q
  · exfalso
    apply hd
    have e : g + 1 = n ^ m := by omega
    unfold layDig
    rw [show m - 1 - (m - 1 - k) = k from by omega]
    obtain ⟨d, rfl⟩ : ∃ d, m = k + 1 + d := ⟨m - (k + 1), by omega⟩
    have hp : 0 < n ^ k := Nat.pow_pos hn
    have hpd : 0 < n ^ d := Nat.pow_pos hn
    have h1 : g = n ^ k * (n * n ^ d - 1) + (n ^ k - 1) := by
      have a : n ^ (k + 1 + d) = n ^ k * (n * n ^ d) := by rw [Nat.pow_add, Nat.pow_succ, Nat.mul_assoc]
      have b : n ^ k * (n * n ^ d) = n ^ k * (n * n ^ d - 1) + n ^ k := by
        rw [← Nat.mul_succ]; congr 1
        have : 0 < n * n ^ d := Nat.mul_pos hn hpd
        omega
      omega
    rw [h1, Nat.mul_add_div hp, Nat.div_eq_of_lt (by omega : n ^ k - 1 < n ^ k), Nat.add_zero]
    have c : n * n ^ d - 1 = n * (n ^ d - 1) + (n - 1) := by
      have : n * n ^ d = n * (n ^ d - 1) + n := by rw [← Nat.mul_succ]; congr 1; omega
      omega
    rw [c, Nat.mul_add_mod, Nat.mod_eq_of_lt (by omega)]
theorem layDig_zero {n m t : Nat} : layDig n m 0 t = 0 := by
  unfold layDig; rw [Nat.zero_div, Nat.zero_mod]
/-- a sum over ordered pairs, as a sum over pairs -/
theorem fb_sym (F : Nat → Nat → Nat) : ∀ m, fb_sum (fun a => fb_sum (fun b => if a ≠ b then F a b else 0) m) m = fb_sum (fun b => fb_sum (fun e => F b e + F e b) b) m
  | 0 => rfl
  | m + 1 => by
    have e1 : fb_sum (fun a => fb_sum (fun b => if a ≠ b then F a b else 0) (m + 1)) m = fb_sum (fun a => fb_sum (fun b => if a ≠ b then F a b else 0) m + F a m) m := fb_sum_cong (fun a ha => by
      show fb_sum _ m + (if a ≠ m then F a m else 0) = _
      rw [if_pos (by omega)])
    have e2 : fb_sum (fun b => if m ≠ b then F m b else 0) (m + 1) = fb_sum (fun b => F m b) m := by
      show fb_sum _ m + (if m ≠ m then F m m else 0) = _
      rw [if_neg (by simp), Nat.add_zero]
      exact fb_sum_cong (fun b hb => if_pos (by omega))
    show fb_sum (fun a => fb_sum (fun b => if a ≠ b then F a b else 0) (m + 1)) m + fb_sum (fun b => if m ≠ b then F m b else 0) (m + 1) = fb_sum (fun b => fb_sum (fun e => F b e + F e b) b) m + fb_sum (fun e => F m e + F e m) m
    rw [e1, e2, fb_plus (fun a => fb_sum (fun b => if a ≠ b then F a b else 0) m) (fun a => F a m), fb_sym F m, fb_plus (fun e => F m e) (fun e => F e m)]
    omega
theorem layNear_symm (A : Nat → Int32) (p q : Nat) : layNear A p q = layNear A q p := by
  unfold layNear
  apply decide_eq_decide.mpr
  constructor
  · rintro ⟨a, b, c, d⟩; exact ⟨b, a, d, c⟩
  · rintro ⟨a, b, c, d⟩; exact ⟨b, a, d, c⟩
theorem tabTog_symm (A : Nat → Int32) (s o : Nat) : tabTog A s o = tabTog A o s := by
  cases h : tabTog A s o with
  | true =>
    obtain ⟨d, hd, a, b⟩ := (tabTog_iff A s o).mp h
    exact ((tabTog_iff A o s).mpr ⟨d, hd, b, a⟩).symm
  | false =>
    cases h2 : tabTog A o s with
    | false => rfl
    | true =>
      obtain ⟨d, hd, a, b⟩ := (tabTog_iff A o s).mp h2
      rw [(tabTog_iff A s o).mpr ⟨d, hd, b, a⟩] at h; cases h
/-- what two near trees of these sorts are worth -/
def wrtF (A : Nat → Int32) (s o : Nat) : Nat := (if layFits A s o = true then 1 else 0) + (if layFits A o s = true then 1 else 0)
def prsT (A : Nat → Int32) (n g t : Nat) : Nat := fb_sum (fun b => fb_sum (fun e => if layNear A ((layTrees A).getD b 0) ((layTrees A).getD e 0) = true then wrtF A (layDig n (layTrees A).length g b) (layDig n (layTrees A).length g e) else 0) b) t
theorem layPairs_prs (A : Nat → Int32) (n g : Nat) : layPairs A n g = prsT A n g (layTrees A).length := by
  unfold layPairs prsT
  have h := fb_sym (fun a b => if layNear A ((layTrees A).getD a 0) ((layTrees A).getD b 0) = true ∧ layFits A (layDig n (layTrees A).length g a) (layDig n (layTrees A).length g b) = true then 1 else 0) (layTrees A).length
  have e1 : ∀ a b : Nat, (if a ≠ b ∧ layNear A ((layTrees A).getD a 0) ((layTrees A).getD b 0) = true ∧ layFits A (layDig n (layTrees A).length g a) (layDig n (layTrees A).length g b) = true then 1 else 0) = (if a ≠ b then (if layNear A ((layTrees A).getD a 0) ((layTrees A).getD b 0) = true ∧ layFits A (layDig n (layTrees A).length g a) (layDig n (layTrees A).length g b) = true then 1 else 0) else 0) := fun a b => by
    by_cases c : a ≠ b
    · rw [if_pos c]
      by_cases d : layNear A ((layTrees A).getD a 0) ((layTrees A).getD b 0) = true ∧ layFits A (layDig n (layTrees A).length g a) (layDig n (layTrees A).length g b) = true
      · rw [if_pos d, if_pos ⟨c, d⟩]
      · rw [if_neg d, if_neg (fun q => d q.2)]
    · rw [if_neg c, if_neg (fun q => c q.1)]
  rw [fb_sum_cong (fun a _ => fb_sum_cong (fun b _ => e1 a b)), h]
  refine fb_sum_cong (fun b _ => fb_sum_cong (fun e _ => ?_))
  rw [layNear_symm A ((layTrees A).getD e 0) ((layTrees A).getD b 0)]
  unfold wrtF
  by_cases c : layNear A ((layTrees A).getD b 0) ((layTrees A).getD e 0) = true
  · rw [if_pos c]; simp only [c, true_and]
  · rw [if_neg c, if_neg (fun q => c q.1), if_neg (fun q => c q.1)]
theorem layBest_uniq {A : Nat → Int32} {n g g' : Nat} (h : layBest A n g) (h' : layBest A n g') : g = g' := by
  obtain ⟨-, -, -, h4, h5, h6⟩ := h
  obtain ⟨-, -, -, k4, k5, k6⟩ := h'
  rcases Nat.lt_trichotomy g g' with q | q | q
  · have := k6 g q; have := h5 g' k4; omega
  · exact q
  · have := h6 g' q; have := k5 g h4; omega
/-- the first best one among those below g -/
def fstB (P : Nat → Nat) : Nat → Option Nat
  | 0 => none
  | g + 1 => match fstB P g with
    | none => some g
    | some b => if P b < P g then some g else some b
theorem fstB_some (P : Nat → Nat) : ∀ g, 0 < g → ∃ b, fstB P g = some b ∧ b < g ∧ (∀ h, h < g → P h ≤ P b) ∧ ∀ h, h < b → P h < P b
  | 0, h => by omega
  | 1, _ => ⟨0, rfl, by omega, fun h hh => by rw [show h = 0 from by omega]; exact Nat.le_refl _, fun h hh => by omega⟩
  | g + 2, _ => by
    obtain ⟨b, e, h1, h2, h3⟩ := fstB_some P (g + 1) (by omega)
    have ee : fstB P (g + 2) = if P b < P (g + 1) then some (g + 1) else some b := by
      show (match fstB P (g + 1) with | none => some (g + 1) | some b => if P b < P (g + 1) then some (g + 1) else some b) = _
      rw [e]
    rw [ee]
    by_cases c : P b < P (g + 1)
    · rw [if_pos c]
      refine ⟨g + 1, rfl, by omega, fun h hh => ?_, fun h hh => ?_⟩
      · by_cases q : h = g + 1
        · rw [q]; exact Nat.le_refl _
        · have := h2 h (by omega); omega
      · have := h2 h hh; omega
    · rw [if_neg c]
      refine ⟨b, rfl, by omega, fun h hh => ?_, h3⟩
      by_cases q : h = g + 1
      · rw [q]; omega
      · exact h2 h (by omega)
theorem fstB_best {A : Nat → Int32} {n g : Nat} (hn : 0 < n) (hm : 0 < (layTrees A).length) (hN : n ^ (layTrees A).length ≤ 5000) (h : fstB (layPairs A n) (n ^ (layTrees A).length) = some g) : layBest A n g := by
  obtain ⟨b, e, h1, h2, h3⟩ := fstB_some (layPairs A n) (n ^ (layTrees A).length) (Nat.pow_pos hn)
  rw [h] at e
  cases e
  exact ⟨hn, hm, hN, h1, h2, h3⟩
theorem prsT_cong {A : Nat → Int32} {n g g' t : Nat} (h : ∀ b, b < t → layDig n (layTrees A).length g' b = layDig n (layTrees A).length g b) : prsT A n g' t = prsT A n g t := by
  unfold prsT
  refine fb_sum_cong (fun b hb => fb_sum_cong (fun e he => ?_))
  rw [h b hb, h e (by omega)]
