/-! the list of divisors, prime by prime -/
def ext (L : List Nat) (p : Nat) : Nat → List Nat
  | 0 => L
  | e + 1 => ext L p e ++ L.map (fun d => d * p ^ (e + 1))
theorem ext_len (L : List Nat) (p : Nat) : ∀ e, (ext L p e).length = (e + 1) * L.length
  | 0 => by simp [ext]
  | e + 1 => by rw [ext, List.length_append, ext_len L p e, List.length_map, Nat.add_mul (e + 1) 1, Nat.one_mul]
theorem ext_mem {L : List Nat} {p : Nat} : ∀ {e x : Nat}, x ∈ ext L p e ↔ ∃ d ∈ L, ∃ j, j ≤ e ∧ x = d * p ^ j
  | 0, x => by
    show x ∈ L ↔ _
    constructor
    · intro h
      exact ⟨x, h, 0, Nat.le_refl 0, by simp⟩
    · rintro ⟨d, hd, j, hj, rfl⟩
      have : j = 0 := by omega
      subst this
      simpa using hd
  | e + 1, x => by
    rw [ext, List.mem_append, ext_mem, List.mem_map]
    constructor
    · rintro (⟨d, hd, j, hj, rfl⟩ | ⟨d, hd, rfl⟩)
      · exact ⟨d, hd, j, by omega, rfl⟩
      · exact ⟨d, hd, e + 1, Nat.le_refl _, rfl⟩
    · rintro ⟨d, hd, j, hj, rfl⟩
      rcases Nat.lt_or_ge j (e + 1) with h | h
      · exact Or.inl ⟨d, hd, j, by omega, rfl⟩
      · have : j = e + 1 := by omega
        subst this
        exact Or.inr ⟨d, hd, rfl⟩
theorem pow_apart {p : Nat} (hp : pm p) : ∀ {i j a b : Nat}, ¬ p ∣ a → ¬ p ∣ b → a * p ^ i = b * p ^ j → i = j ∧ a = b
  | 0, 0, a, b, _, _, h => by simpa using h
  | 0, j + 1, a, b, ha, _, h => absurd ⟨b * p ^ j, by rw [Nat.pow_zero, Nat.mul_one] at h; rw [h, Nat.pow_succ]; grind⟩ ha
  | i + 1, 0, a, b, _, hb, h => absurd ⟨a * p ^ i, by rw [Nat.pow_zero, Nat.mul_one] at h; rw [← h, Nat.pow_succ]; grind⟩ hb
  | i + 1, j + 1, a, b, ha, hb, h => by
    rw [Nat.pow_succ, Nat.pow_succ, ← Nat.mul_assoc, ← Nat.mul_assoc] at h
    have h1 := Nat.eq_of_mul_eq_mul_right (by have := hp.1; omega) h
    have := pow_apart hp ha hb h1
    omega
theorem ext_nd {L : List Nat} {p : Nat} (hp : pm p) (hL : L.Nodup) (hd : ∀ d ∈ L, ¬ p ∣ d) : ∀ e, (ext L p e).Nodup
  | 0 => hL
  | e + 1 => by
    rw [ext, List.nodup_append]
    refine ⟨ext_nd hp hL hd e, ?_, ?_⟩
    · rw [List.Nodup, List.pairwise_map]
      refine List.Pairwise.imp_of_mem (fun {a b} ha hb hab h => hab ?_) hL
      exact (pow_apart hp (hd a ha) (hd b hb) h).2
    · intro x hx y hy hxy
      subst hxy
      obtain ⟨a, ha, j, hj, e1⟩ := ext_mem.mp hx
      obtain ⟨b, hb, e2⟩ := List.mem_map.mp hy
      have := (pow_apart hp (hd a ha) (hd b hb) (e1.symm.trans e2.symm)).1
      omega
/-- the divisors of M * p ^ e -/
theorem dvd_ext {p M : Nat} (hp : pm p) (hM : ¬ p ∣ M) : ∀ {e x : Nat}, x ∣ M * p ^ e ↔ ∃ d, d ∣ M ∧ ∃ j, j ≤ e ∧ x = d * p ^ j := by
  intro e x
  constructor
  · intro h
    have hM0 : 0 < M := by
      rcases Nat.eq_zero_or_pos M with g | g
      · exact absurd (g ▸ Nat.dvd_zero p) hM
      · exact g
    have hp0 : 0 < p := by have := hp.1; omega
    have hx0 : 0 < x := Nat.pos_of_dvd_of_pos h (Nat.mul_pos hM0 (Nat.pow_pos hp0))
    obtain ⟨j, d, h1, h2, h3⟩ := out_pm hp x hx0
    refine ⟨d, ?_, j, ?_, by rw [h1, Nat.mul_comm]⟩
    · have h4 : d ∣ M * p ^ e := Nat.dvd_trans ⟨p ^ j, by rw [h1, Nat.mul_comm]⟩ h
      exact ((pm_cop hp h2).pow_left e).symm.dvd_of_dvd_mul_right h4
    · rcases Nat.lt_or_ge e j with g | g
      · exfalso
        have h4 : p ^ (e + 1) ∣ M * p ^ e := by
          refine Nat.dvd_trans ?_ h
          rw [h1]
          exact Nat.dvd_trans (Nat.pow_dvd_pow p g) (Nat.dvd_mul_right _ _)
        rw [Nat.pow_succ, Nat.mul_comm M] at h4
        exact hM (Nat.dvd_of_mul_dvd_mul_left (Nat.pow_pos hp0) h4)
      · exact g
  · rintro ⟨d, hd, j, hj, rfl⟩
    exact Nat.mul_dvd_mul hd (Nat.pow_dvd_pow p hj)
/-- the divisors of a product of powers of primes, in the order in which they are made -/
def dvs : List Nat → List (Nat × Nat) → List Nat
  | L, [] => L
  | L, x :: t => dvs (ext L x.1 x.2) t
/-- L holds the divisors of M, each once -/
def isD (L : List Nat) (M : Nat) : Prop := L.Nodup ∧ ∀ x, x ∈ L ↔ x ∣ M
theorem isD_1 : isD [1] 1 := ⟨by simp, fun x => by simp⟩
theorem isD_ext {L : List Nat} {p M : Nat} (hp : pm p) (hM : ¬ p ∣ M) (h : isD L M) (e : Nat) : isD (ext L p e) (M * p ^ e) := by
  refine ⟨ext_nd hp h.1 (fun d hd hpd => hM (Nat.dvd_trans hpd ((h.2 d).mp hd))) e, fun x => ?_⟩
  rw [ext_mem, dvd_ext hp hM]
  constructor
  · rintro ⟨d, hd, j, hj, e1⟩; exact ⟨d, (h.2 d).mp hd, j, hj, e1⟩
  · rintro ⟨d, hd, j, hj, e1⟩; exact ⟨d, (h.2 d).mpr hd, j, hj, e1⟩
