/-! congruences and primes, over core Lean alone -/
def cg (n a b : Int) : Prop := n ∣ a - b
theorem cg_rf (n a : Int) : cg n a a := ⟨0, by omega⟩
theorem cg_sy {n a b : Int} (h : cg n a b) : cg n b a := by
  obtain ⟨k, hk⟩ := h
  exact ⟨-k, by rw [Int.mul_neg]; omega⟩
theorem cg_tr {n a b c : Int} (h : cg n a b) (g : cg n b c) : cg n a c := by
  obtain ⟨k, hk⟩ := h
  obtain ⟨j, hj⟩ := g
  exact ⟨k + j, by rw [Int.mul_add]; omega⟩
theorem cg_add {n a b c d : Int} (h : cg n a b) (g : cg n c d) : cg n (a + c) (b + d) := by
  obtain ⟨k, hk⟩ := h
  obtain ⟨j, hj⟩ := g
  exact ⟨k + j, by rw [Int.mul_add]; omega⟩
theorem cg_sub {n a b c d : Int} (h : cg n a b) (g : cg n c d) : cg n (a - c) (b - d) := by
  obtain ⟨k, hk⟩ := h
  obtain ⟨j, hj⟩ := g
  exact ⟨k - j, by rw [Int.mul_sub]; omega⟩
theorem cg_neg {n a b : Int} (h : cg n a b) : cg n (-a) (-b) := by
  obtain ⟨k, hk⟩ := h
  exact ⟨-k, by rw [Int.mul_neg]; omega⟩
theorem cg_mul {n a b c d : Int} (h : cg n a b) (g : cg n c d) : cg n (a * c) (b * d) := by
  obtain ⟨k, hk⟩ := h
  obtain ⟨j, hj⟩ := g
  exact ⟨k * c + b * j, by grind⟩
theorem cg_pow {n a b : Int} (h : cg n a b) (k : Nat) : cg n (a ^ k) (b ^ k) := by
  induction k with
  | zero => rw [Int.pow_zero, Int.pow_zero]; exact cg_rf _ _
  | succ k ih => rw [Int.pow_succ, Int.pow_succ]; exact cg_mul ih h
theorem cg_0 {n a : Int} : cg n a 0 ↔ n ∣ a := by unfold cg; rw [Int.sub_zero]
theorem cg_emod (n a : Int) : cg n (a % n) a := Int.dvd_emod_sub_self
theorem cg_iff {n a b : Int} : cg n a b ↔ a % n = b % n := by
  unfold cg
  exact ⟨fun h => Int.emod_eq_emod_iff_emod_sub_eq_zero.mpr (Int.emod_eq_zero_of_dvd h), fun h => Int.dvd_of_emod_eq_zero (Int.emod_eq_emod_iff_emod_sub_eq_zero.mp h)⟩
/-- two numbers nearer than n that are alike are the same -/
theorem cg_eq {n a b : Int} (h : cg n a b) (h1 : a - b < n) (h2 : b - a < n) : a = b := by
  obtain ⟨k, hk⟩ := h
  rcases Int.lt_trichotomy k 0 with q | q | q
  · have : n * k ≤ n * (-1) := Int.mul_le_mul_of_nonneg_left (by omega) (by omega)
    omega
  · subst q; omega
  · have : n * 1 ≤ n * k := Int.mul_le_mul_of_nonneg_left (by omega) (by omega)
    omega
/-- a prime -/
def pm (p : Nat) : Prop := 2 ≤ p ∧ ∀ d, d ∣ p → d = 1 ∨ d = p
theorem pm_cop {p a : Nat} (hp : pm p) (h : ¬ p ∣ a) : Nat.Coprime p a := by
  rcases hp.2 _ (Nat.gcd_dvd_left p a) with h1 | h1
  · exact h1
  · have h2 := Nat.gcd_dvd_right p a
    rw [h1] at h2
    exact absurd h2 h
theorem pm_mul {p a b : Nat} (hp : pm p) (h : p ∣ a * b) : p ∣ a ∨ p ∣ b := by
  by_cases ha : p ∣ a
  · exact Or.inl ha
  · exact Or.inr ((pm_cop hp ha).dvd_of_dvd_mul_left h)
theorem pm_mulZ {p : Nat} {a b : Int} (hp : pm p) (h : (p : Int) ∣ a * b) : (p : Int) ∣ a ∨ (p : Int) ∣ b := by
  rw [Int.ofNat_dvd_left, Int.natAbs_mul] at h
  rw [Int.ofNat_dvd_left, Int.ofNat_dvd_left]
  exact pm_mul hp h
theorem pm_pow {p a : Nat} (hp : pm p) : ∀ {k : Nat}, p ∣ a ^ k → p ∣ a
  | 0, h => absurd (Nat.le_of_dvd (by decide) (show p ∣ 1 from h)) (by have := hp.1; omega)
  | k + 1, h => by
    rw [Nat.pow_succ] at h
    rcases pm_mul hp h with h | h
    · exact pm_pow hp h
    · exact h
theorem pm_powZ {p : Nat} {a : Int} (hp : pm p) {k : Nat} (h : (p : Int) ∣ a ^ k) : (p : Int) ∣ a := by
  rw [Int.ofNat_dvd_left, Int.natAbs_pow] at h
  rw [Int.ofNat_dvd_left]
  exact pm_pow hp h
theorem pm_dvd_pm {p q : Nat} (hp : pm p) (hq : pm q) (h : p ∣ q) : p = q := by
  rcases hq.2 p h with h | h
  · have := hp.1; omega
  · exact h
/-- every number from 2 on has a prime that goes into it -/
theorem pm_ex : ∀ n : Nat, 2 ≤ n → ∃ p, pm p ∧ p ∣ n := by
  intro n
  induction n using Nat.strongRecOn with
  | ind n ih =>
    intro hn
    by_cases h : ∃ d, d ∣ n ∧ d ≠ 1 ∧ d ≠ n
    · obtain ⟨d, h1, h2, h3⟩ := h
      have h4 : d ≤ n := Nat.le_of_dvd (by omega) h1
      have h5 : d ≠ 0 := by
        rintro rfl
        have := Nat.eq_zero_of_zero_dvd h1
        omega
      obtain ⟨p, hp, hd⟩ := ih d (by omega) (by omega)
      exact ⟨p, hp, Nat.dvd_trans hd h1⟩
    · refine ⟨n, ⟨hn, fun d hd => ?_⟩, Nat.dvd_refl n⟩
      by_cases h1 : d = 1
      · exact Or.inl h1
      · by_cases h2 : d = n
        · exact Or.inr h2
        · exact absurd ⟨d, hd, h1, h2⟩ h
/-- cancelling a factor that the prime does not go into -/
theorem cg_cancel {p : Nat} {a b c : Int} (hp : pm p) (hc : ¬ (p : Int) ∣ c) (h : cg p (c * a) (c * b)) : cg p a b := by
  unfold cg at h ⊢
  rw [← Int.mul_sub] at h
  exact (pm_mulZ hp h).resolve_left hc
/-! products and sums of f 1 .. f n -/
def pZ (f : Nat → Int) : Nat → Int
  | 0 => 1
  | n + 1 => pZ f n * f (n + 1)
def pN (f : Nat → Nat) : Nat → Nat
  | 0 => 1
  | n + 1 => pN f n * f (n + 1)
def sN (f : Nat → Nat) : Nat → Nat
  | 0 => 0
  | n + 1 => sN f n + f (n + 1)
theorem pN_list (f : Nat → Nat) : ∀ n, pN f n = ((List.range' 1 n).map f).prod
  | 0 => rfl
  | n + 1 => by
    rw [List.range'_1_concat, List.map_append, List.prod_append_nat, ← pN_list f n, Nat.add_comm 1 n]
    simp [pN]
theorem sN_list (f : Nat → Nat) : ∀ n, sN f n = ((List.range' 1 n).map f).sum
  | 0 => rfl
  | n + 1 => by
    rw [List.range'_1_concat, List.map_append, List.sum_append_nat, ← sN_list f n, Nat.add_comm 1 n]
    simp [sN]
theorem pZ_cast (f : Nat → Nat) : ∀ n, pZ (fun k => (f k : Int)) n = (pN f n : Int)
  | 0 => rfl
  | n + 1 => by rw [pZ, pN, pZ_cast f n, Int.natCast_mul]
/-- a list without a thing twice, inside another that is no longer: the same things -/
theorem nd_perm {α : Type} {l m : List α} (h1 : l.Nodup) (hm : m.Nodup) (h2 : ∀ x ∈ l, x ∈ m) (h3 : m.length ≤ l.length) : l.Perm m := by
  rw [List.perm_ext_iff_of_nodup h1 hm]
  intro a
  refine ⟨h2 a, fun ha => ?_⟩
  refine Classical.byContradiction fun hn => ?_
  have : (a :: l).length ≤ m.length := List.Nodup.length_le_of_subset (List.nodup_cons.mpr ⟨hn, h1⟩) (fun x hx => by
    rcases List.mem_cons.mp hx with rfl | hx
    · exact ha
    · exact h2 x hx)
  simp at this
  omega
/-- a map of 1 .. n into itself that takes no value twice goes through 1 .. n -/
theorem perm_self {n : Nat} {f : Nat → Nat} (h1 : ∀ k, 1 ≤ k → k ≤ n → 1 ≤ f k ∧ f k ≤ n) (h2 : ∀ j k, 1 ≤ j → j ≤ n → 1 ≤ k → k ≤ n → f j = f k → j = k) : ((List.range' 1 n).map f).Perm (List.range' 1 n) := by
  refine nd_perm ?_ List.nodup_range' ?_ (by simp)
  · rw [List.Nodup, List.pairwise_map]
    refine List.Pairwise.imp_of_mem ?_ (List.nodup_range' (s := 1) (n := n))
    intro a b ha hb hab h
    rw [List.mem_range'_1] at ha hb
    exact hab (h2 a b (by omega) (by omega) (by omega) (by omega) h)
  · intro x hx
    obtain ⟨k, hk, rfl⟩ := List.mem_map.mp hx
    rw [List.mem_range'_1] at hk ⊢
    have := h1 k (by omega) (by omega)
    omega
theorem pN_self {n : Nat} {f : Nat → Nat} (h1 : ∀ k, 1 ≤ k → k ≤ n → 1 ≤ f k ∧ f k ≤ n) (h2 : ∀ j k, 1 ≤ j → j ≤ n → 1 ≤ k → k ≤ n → f j = f k → j = k) : pN f n = pN (fun k => k) n := by
  rw [pN_list, pN_list, (perm_self h1 h2).prod_nat, List.map_id']
theorem sN_self {n : Nat} {f : Nat → Nat} (h1 : ∀ k, 1 ≤ k → k ≤ n → 1 ≤ f k ∧ f k ≤ n) (h2 : ∀ j k, 1 ≤ j → j ≤ n → 1 ≤ k → k ≤ n → f j = f k → j = k) : sN f n = sN (fun k => k) n := by
  rw [sN_list, sN_list, (perm_self h1 h2).sum_nat, List.map_id']
theorem pN_fact_nd {p : Nat} (hp : pm p) : ∀ n, n < p → ¬ p ∣ pN (fun k => k) n
  | 0, _, h => by
    have := Nat.le_of_dvd (by decide) (show p ∣ 1 from h)
    have := hp.1
    omega
  | n + 1, hn, h => by
    rcases pm_mul hp h with h | h
    · exact pN_fact_nd hp n (by omega) h
    · have := Nat.le_of_dvd (Nat.succ_pos n) (show p ∣ n + 1 from h)
      omega
