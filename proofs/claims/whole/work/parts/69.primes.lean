/-! findPrimes: the primes of a number and their exponents -/
theorem addPrime_spec {F p e : Nat} {pr ex : Nat → Int32} {t : List (Nat × Nat)} (hl : t.length < 7) : f_r_addPrime F (nI t.length) pr ex (nI p) (nI e) = some (nI (t ++ [(p, e)]).length, upd pr t.length (nI p), upd ex t.length (nI e)) := by
  unfold f_r_addPrime
  rw [show (7 : Int32) = nI 7 from rfl, if_neg (nI_ge hl (by decide)), if_neg (gixZ (by omega) (by omega)), if_neg (gixZ (by omega) (by omega)), nI_clamp (by omega), nI_1, List.length_append]
  rfl
theorem nI_rem {a b : Nat} (ha : a < 2 ^ 31) (hb0 : 0 < b) (hb : b < 2 ^ 31) : irm (nI a) (nI b) = nI (a % b) := pk_rem ha hb0 hb
theorem out_loop {F p : Nat} (hp : 2 ≤ p) (hp2 : p < 2 ^ 31) : ∀ (k fu r e : Nat), k < fu → e + k = 22 → 0 < r → r * 2 ^ e ≤ 4194304 →
    ∃ j r' : Nat, l_r_findPrimes_28 F (nI p) fu (nI r) (nI e) = some (nI r', nI (e + j)) ∧ r = p ^ j * r' ∧ ¬ p ∣ r' ∧ 0 < r' := by
  intro k
  induction k with
  | zero =>
    intro fu r e hfu he hr hle
    obtain ⟨fu, rfl⟩ : ∃ w, fu = w + 1 := ⟨fu - 1, by omega⟩
    have he : e = 22 := by omega
    subst he
    have hr1 : r = 1 := by omega
    refine ⟨0, r, ?_, by simp, ?_, hr⟩
    · rw [l_r_findPrimes_28, show (22 : Int32) = nI 22 from rfl, if_pos (nI_le (Nat.le_refl _) (by omega))]
    · rw [hr1]
      intro h
      have := Nat.le_of_dvd (by decide) h
      omega
  | succ k ih =>
    intro fu r e hfu he hr hle
    obtain ⟨fu, rfl⟩ : ∃ w, fu = w + 1 := ⟨fu - 1, by omega⟩
    have hrle : r ≤ 4194304 := by
      have : r * 1 ≤ r * 2 ^ e := Nat.mul_le_mul_left _ (Nat.pow_pos (by decide))
      omega
    rw [l_r_findPrimes_28, show (22 : Int32) = nI 22 from rfl, if_neg (nI_ge (by omega) (by omega)), if_neg (nI_ne0 (by omega) hp2), nI_rem (by omega) (by omega) hp2]
    by_cases c : r % p = 0
    · rw [if_pos (by rw [c]; rfl), if_neg (nI_ne0 (by omega) hp2), pk_div (by omega) (by omega) hp2, nI_1]
      have hd := Nat.div_add_mod r p
      rw [c, Nat.add_zero] at hd
      have hq : 0 < r / p := by
        rcases Nat.eq_zero_or_pos (r / p) with h | h
        · rw [h, Nat.mul_zero] at hd; omega
        · exact h
      obtain ⟨j, r', k1, k2, k3, k4⟩ := ih fu (r / p) (e + 1) (by omega) (by omega) hq (by
        have h1 : 2 * (r / p) ≤ p * (r / p) := Nat.mul_le_mul_right _ hp
        have h2 : r / p * 2 ^ (e + 1) = 2 * (r / p) * 2 ^ e := by rw [Nat.pow_succ]; grind
        have h3 : 2 * (r / p) * 2 ^ e ≤ r * 2 ^ e := Nat.mul_le_mul_right _ (by omega)
        omega)
      refine ⟨j + 1, r', by rw [show e + (j + 1) = e + 1 + j by omega]; exact k1, ?_, k3, k4⟩
      rw [← hd, k2, Nat.pow_succ]; grind
    · rw [if_neg (fun h => c ((nI_eq (by have := Nat.mod_lt r (show 0 < p by omega); omega) (by decide)).mp (h.trans (show (0 : Int32) = nI 0 from rfl))))]
      exact ⟨0, r, rfl, by simp, fun h => c (Nat.mod_eq_zero_of_dvd h), hr⟩
theorem row_snoc1 {pr : Nat → Int32} {t : List (Nat × Nat)} (h : row pr (t.map (fun x => x.1))) (p e : Nat) : row (upd pr t.length (nI p)) ((t ++ [(p, e)]).map (fun x => x.1)) := by
  have := row_push h p
  rw [List.length_map] at this
  rw [List.map_append]
  exact this
theorem row_snoc2 {ex : Nat → Int32} {t : List (Nat × Nat)} (h : row ex (t.map (fun x => x.2))) (p e : Nat) : row (upd ex t.length (nI e)) ((t ++ [(p, e)]).map (fun x => x.2)) := by
  have := row_push h e
  rw [List.length_map] at this
  rw [List.map_append]
  exact this
theorem fok_snoc {t : List (Nat × Nat)} {p e : Nat} (h : fok t) (hp : pm p) (he : 1 ≤ e) (hlt : ∀ x ∈ t, x.1 < p) : fok (t ++ [(p, e)]) := by
  refine ⟨fun x hx => ?_, ?_⟩
  · rcases List.mem_append.mp hx with h1 | h1
    · exact h.1 x h1
    · rw [List.mem_singleton.mp h1]; exact ⟨hp, he⟩
  · rw [List.pairwise_append]
    exact ⟨h.2, by simp, fun a ha b hb => by rw [List.mem_singleton.mp hb]; exact hlt a ha⟩
theorem primes_loop {F N : Nat} (hF : 2 ^ 31 ≤ F) (hN0 : 0 < N) (hN : N ≤ 4194304) : ∀ (k fu p r : Nat) (t : List (Nat × Nat)) (pr ex : Nat → Int32), k < fu → p + k = 2049 → 2 ≤ p → 0 < r → fok t → (∀ x ∈ t, x.1 < p) → N = fac t * r → (∀ q, pm q → q ∣ r → p ≤ q) → row pr (t.map (fun x => x.1)) → row ex (t.map (fun x => x.2)) →
    ∃ (p' r' : Nat) (t' : List (Nat × Nat)) (pr' ex' : Nat → Int32), l_r_findPrimes_12 F fu (nI r) (nI p) (nI t.length) pr ex = some (nI r', nI t'.length, pr', ex') ∧ r' < p' * p' ∧ 0 < r' ∧ fok t' ∧ (∀ x ∈ t', x.1 < p') ∧ N = fac t' * r' ∧ (∀ q, pm q → q ∣ r' → p' ≤ q) ∧ row pr' (t'.map (fun x => x.1)) ∧ row ex' (t'.map (fun x => x.2)) := by
  intro k
  induction k with
  | zero =>
    intro fu p r t pr ex hfu hp hp2 hr ht hlt hNe hq h1 h2
    obtain ⟨fu, rfl⟩ : ∃ w, fu = w + 1 := ⟨fu - 1, by omega⟩
    have hp : p = 2049 := by omega
    subst hp
    have hrle : r ≤ N := by
      have : 1 * r ≤ fac t * r := Nat.mul_le_mul_right _ (fac_pos ht)
      omega
    refine ⟨2049, r, t, pr, ex, ?_, by omega, hr, ht, hlt, hNe, hq, h1, h2⟩
    rw [l_r_findPrimes_12, show (2048 : Int32) = nI 2048 from rfl, if_pos (nI_lt (by omega) (by omega))]
  | succ k ih =>
    intro fu p r t pr ex hfu hp hp2 hr ht hlt hNe hq h1 h2
    obtain ⟨fu, rfl⟩ : ∃ w, fu = w + 1 := ⟨fu - 1, by omega⟩
    have hrle : r ≤ N := by
      have : 1 * r ≤ fac t * r := Nat.mul_le_mul_right _ (fac_pos ht)
      omega
    have hpp : p * p ≤ 2048 * 2048 := Nat.mul_le_mul (by omega) (by omega)
    rw [l_r_findPrimes_12, show (2048 : Int32) = nI 2048 from rfl, if_neg (nI_nlt (by omega) (by omega)), pk_mul]
    by_cases c : r < p * p
    · rw [if_pos (nI_lt c (by omega))]
      exact ⟨p, r, t, pr, ex, rfl, c, hr, ht, hlt, hNe, hq, h1, h2⟩
    · rw [if_neg (nI_nlt (by omega) (by omega)), show (0 : Int32) = nI 0 from rfl]
      obtain ⟨j, r', k1, k2, k3, k4⟩ := out_loop (F := F) hp2 (by omega) 22 F r 0 (by omega) (by omega) hr (by omega)
      rw [k1, Nat.zero_add]
      show ∃ (p' r'' : Nat) (t' : List (Nat × Nat)) (pr' ex' : Nat → Int32), (if nI j ≤ nI 0 then l_r_findPrimes_12 F fu (nI r') (nI p + 1) (nI t.length) pr ex else b3 (f_r_addPrime F (nI t.length) pr ex (nI p) (nI j)) fun pk_5 pr_5 ex_5 => l_r_findPrimes_12 F fu (nI r') (nI p + 1) pk_5 pr_5 ex_5) = _ ∧ _
      rw [nI_1]
      have hq' : ∀ q, pm q → q ∣ r' → p + 1 ≤ q := by
        intro q hq1 hq2
        have h3 := hq q hq1 (by rw [k2]; exact Nat.dvd_trans hq2 (Nat.dvd_mul_left _ _))
        rcases Nat.lt_or_ge p q with g | g
        · exact g
        · have : q = p := by omega
          rw [this] at hq2
          exact absurd hq2 k3
      rcases Nat.eq_zero_or_pos j with hj | hj
      · subst hj
        rw [if_pos (nI_le (Nat.le_refl _) (by omega))]
        rw [Nat.pow_zero, Nat.one_mul] at k2
        exact ih fu (p + 1) r' t pr ex (by omega) (by omega) (by omega) k4 ht (fun x hx => by have := hlt x hx; omega) (by rw [← k2]; exact hNe) hq' h1 h2
      · have hj22 : j < 2 ^ 31 := by
          have g1 : j < 2 ^ j := Nat.lt_two_pow_self
          have g2 : 2 ^ j ≤ p ^ j := Nat.pow_le_pow_left hp2 _
          have g3 : p ^ j * 1 ≤ p ^ j * r' := Nat.mul_le_mul_left _ k4
          omega
        rw [if_neg (nI_ge hj hj22)]
        have hpm : pm p := by
          obtain ⟨q, hq1, hq2⟩ := pm_ex p hp2
          have h3 : p ∣ r := by
            obtain ⟨i, hi⟩ : ∃ i, j = i + 1 := ⟨j - 1, by omega⟩
            rw [k2, hi, Nat.pow_succ]
            exact Nat.dvd_trans (Nat.dvd_mul_left p (p ^ i)) (Nat.dvd_mul_right _ _)
          have h4 := hq q hq1 (Nat.dvd_trans hq2 h3)
          have h5 := Nat.le_of_dvd (by omega) hq2
          have : q = p := by omega
          rw [← this]; exact hq1
        have hok := fok_snoc ht hpm hj hlt
        have hfac : N = fac (t ++ [(p, j)]) * r' := by rw [fac_snoc, Nat.mul_assoc, ← k2]; exact hNe
        have hl7 := len_7 hok (by
          have : fac (t ++ [(p, j)]) * 1 ≤ fac (t ++ [(p, j)]) * r' := Nat.mul_le_mul_left _ k4
          omega)
        rw [addPrime_spec (by simp at hl7; omega)]
        exact ih fu (p + 1) r' (t ++ [(p, j)]) _ _ (by omega) (by omega) (by omega) k4 hok (fun x hx => by
          rcases List.mem_append.mp hx with g | g
          · have := hlt x g; omega
          · rw [List.mem_singleton.mp g]; show p < p + 1; omega) hfac hq' (row_snoc1 h1 p j) (row_snoc2 h2 p j)
/-- what is left, below the square of the next p, is 1 or a prime -/
theorem rest_pm {p r : Nat} (hr : 1 < r) (h : r < p * p) (hq : ∀ q, pm q → q ∣ r → p ≤ q) : pm r ∧ p ≤ r := by
  obtain ⟨q, hq1, m, hm⟩ := pm_ex r hr
  have h1 := hq q hq1 ⟨m, hm⟩
  rcases Nat.lt_or_ge m 2 with h2 | h2
  · have hm1 : m = 1 := by
      rcases (show m = 0 ∨ m = 1 by omega) with g | g
      · rw [g] at hm; omega
      · exact g
    rw [hm1, Nat.mul_one] at hm
    rw [hm]; exact ⟨hq1, h1⟩
  · obtain ⟨s, hs1, hs2⟩ := pm_ex m h2
    have h3 := hq s hs1 (by rw [hm]; exact Nat.dvd_trans hs2 (Nat.dvd_mul_left _ _))
    have h4 := Nat.le_of_dvd (by omega) hs2
    have h5 : p * p ≤ q * m := Nat.mul_le_mul h1 (by omega)
    omega
theorem findPrimes_spec {F N : Nat} (hF : 2 ^ 31 ≤ F) (hN0 : 0 < N) (hN : N ≤ 4194304) (pk0 : Int32) (pr0 ex0 : Nat → Int32) : ∃ (t : List (Nat × Nat)) (pr ex : Nat → Int32), f_r_findPrimes F (nI N) pk0 pr0 ex0 = some (nI t.length, pr, ex) ∧ fok t ∧ fac t = N ∧ row pr (t.map (fun x => x.1)) ∧ row ex (t.map (fun x => x.2)) := by
  obtain ⟨p, r, t, pr, ex, k1, k2, k3, k4, k5, k6, k7, k8, k9⟩ := primes_loop (F := F) hF hN0 hN 2047 F 2 N [] pr0 ex0 (by omega) (by omega) (by omega) hN0 ⟨fun _ h => absurd h List.not_mem_nil, List.Pairwise.nil⟩ (fun _ h => absurd h List.not_mem_nil) (by simp [fac]) (fun q hq _ => hq.1) rfl rfl
  have hrle : r ≤ N := by
    have : 1 * r ≤ fac t * r := Nat.mul_le_mul_right _ (fac_pos k4)
    omega
  have k1' : l_r_findPrimes_12 F F (nI N) 2 0 pr0 ex0 = some (nI r, nI t.length, pr, ex) := k1
  unfold f_r_findPrimes
  rw [k1']
  show ∃ (t' : List (Nat × Nat)) (pr' ex' : Nat → Int32), (if nI r ≤ 1 then some (nI t.length, pr, ex) else b3 (f_r_addPrime F (nI t.length) pr ex (nI r) 1) fun pk_3 pr_3 ex_3 => some (pk_3, pr_3, ex_3)) = _ ∧ _
  rw [show (1 : Int32) = nI 1 from rfl]
  by_cases c : r ≤ 1
  · rw [if_pos (nI_le c (by omega))]
    have : r = 1 := by omega
    rw [this, Nat.mul_one] at k6
    exact ⟨t, pr, ex, rfl, k4, k6.symm, k8, k9⟩
  · rw [if_neg (nI_ge (by omega) (by omega))]
    obtain ⟨q1, q2⟩ := rest_pm (by omega) k2 k7
    have hok := fok_snoc k4 q1 (Nat.le_refl 1) (fun x hx => Nat.lt_of_lt_of_le (k5 x hx) q2)
    have hfac : fac (t ++ [(r, 1)]) = N := by rw [fac_snoc, Nat.pow_one]; exact k6.symm
    have hl7 := len_7 hok (by omega)
    rw [addPrime_spec (by simp at hl7; omega)]
    exact ⟨t ++ [(r, 1)], _, _, rfl, hok, hfac, row_snoc1 k8 r 1, row_snoc2 k9 r 1⟩
