/-! the greatest number whose square goes into a number -/
def gsq : List (Nat × Nat) → Nat
  | [] => 1
  | x :: t => x.1 ^ (x.2 / 2) * gsq t
theorem gsq_dvd : ∀ t : List (Nat × Nat), gsq t * gsq t ∣ fac t
  | [] => Nat.dvd_refl 1
  | x :: t => by
    rw [gsq, fac, show x.1 ^ (x.2 / 2) * gsq t * (x.1 ^ (x.2 / 2) * gsq t) = (x.1 ^ (x.2 / 2) * x.1 ^ (x.2 / 2)) * (gsq t * gsq t) by grind, ← Nat.pow_add]
    exact Nat.mul_dvd_mul (Nat.pow_dvd_pow _ (by omega)) (gsq_dvd t)
theorem fok_nd {x : Nat × Nat} {t : List (Nat × Nat)} (h : fok (x :: t)) : ¬ x.1 ∣ fac t := by
  intro hd
  obtain ⟨y, hy, e⟩ := fac_pm (h.1 x List.mem_cons_self).1 (fun y hy => (h.1 y (List.mem_cons_of_mem _ hy)).1) hd
  have := (List.pairwise_cons.mp h.2).1 y hy
  omega
theorem gsq_max : ∀ {t : List (Nat × Nat)} {d : Nat}, fok t → d * d ∣ fac t → d ∣ gsq t
  | [], d, _, h => by
    have := Nat.eq_one_of_dvd_one (show d * d ∣ 1 from h)
    have := Nat.eq_one_of_mul_eq_one_right this
    rw [this]; exact Nat.dvd_refl 1
  | x :: t, d, hf, h => by
    have hp := (hf.1 x List.mem_cons_self).1
    have hnd := fok_nd hf
    have hd0 : 0 < d := by
      rcases Nat.eq_zero_or_pos d with g | g
      · rw [g] at h
        have := Nat.eq_zero_of_zero_dvd h
        have := fac_pos hf
        omega
      · exact g
    obtain ⟨j, k, h1, h2, h3⟩ := out_pm hp d hd0
    rw [fac, Nat.mul_comm (x.1 ^ x.2), dvd_ext hp hnd] at h
    obtain ⟨m, hm, i, hi, e⟩ := h
    have hkk : ¬ x.1 ∣ k * k := fun g => by rcases pm_mul hp g with g | g <;> exact h2 g
    have hm2 : ¬ x.1 ∣ m := fun g => hnd (Nat.dvd_trans g hm)
    have e2 : (k * k) * x.1 ^ (j + j) = m * x.1 ^ i := by rw [← e, h1, Nat.pow_add]; grind
    obtain ⟨e3, e4⟩ := pow_apart hp hkk hm2 e2
    rw [gsq, h1]
    refine Nat.mul_dvd_mul (Nat.pow_dvd_pow _ (by omega)) (gsq_max (fok_tl hf) ?_)
    rw [e4]; exact hm
