/-! how many of 1 .. M none of the primes goes into -/
def okp (ps : List Nat) (x : Nat) : Prop := ∀ p ∈ ps, ¬ p ∣ x
noncomputable def cA (ps : List Nat) (M : Nat) : Nat := by
  classical
  exact sN (fun x => if okp ps x then 1 else 0) M
theorem sN_split (f : Nat → Nat) (a : Nat) : ∀ b, sN f (a + b) = sN f a + sN (fun i => f (a + i)) b
  | 0 => by simp [sN]
  | b + 1 => by
    rw [← Nat.add_assoc, sN, sN, sN_split f a b, Nat.add_assoc, Nat.add_assoc]
theorem sN_zero {f : Nat → Nat} {n : Nat} (h : ∀ k, 1 ≤ k → k ≤ n → f k = 0) : sN f n = 0 := by
  rw [sN_congr (g := fun _ => 0) h, sN_const, Nat.mul_zero]
/-- of the multiples of p up to p * m -/
theorem sN_mult {p : Nat} (hp : 0 < p) (g : Nat → Nat) (h0 : ∀ x, ¬ p ∣ x → g x = 0) : ∀ m, sN g (p * m) = sN (fun y => g (p * y)) m
  | 0 => by simp [sN]
  | m + 1 => by
    rw [Nat.mul_add, Nat.mul_one, sN_split, sN_mult hp g h0 m, sN]
    congr 1
    obtain ⟨q, rfl⟩ : ∃ q, p = q + 1 := ⟨p - 1, by omega⟩
    rw [sN, sN_zero (f := fun i => g ((q + 1) * m + i)) (n := q), Nat.zero_add]
    · rw [← Nat.mul_add_one]
    · intro k h1 h2
      refine h0 _ (fun h => ?_)
      have h3 : (q + 1) ∣ k := (Nat.dvd_add_right (Nat.dvd_mul_right _ _)).mp h
      have := Nat.le_of_dvd (by omega) h3
      omega
theorem cA_cons {p : Nat} (hp : pm p) {ps : List Nat} (hps : ∀ q ∈ ps, pm q ∧ q ≠ p) (m : Nat) : cA (p :: ps) (p * m) + cA ps m = cA ps (p * m) := by
  classical
  have e1 : cA ps m = sN (fun x => if p ∣ x ∧ okp ps x then 1 else 0) (p * m) := by
    rw [sN_mult (by have := hp.1; omega) _ (fun x hx => if_neg (fun h => hx h.1))]
    unfold cA
    refine sN_congr fun y _ _ => ?_
    have : (p ∣ p * y ∧ okp ps (p * y)) ↔ okp ps y := by
      constructor
      · rintro ⟨-, h⟩ q hq hd
        exact h q hq (Nat.dvd_trans hd (Nat.dvd_mul_left _ _))
      · intro h
        refine ⟨Nat.dvd_mul_right _ _, fun q hq hd => ?_⟩
        rcases pm_mul (hps q hq).1 hd with h1 | h1
        · exact (hps q hq).2 (pm_dvd_pm (hps q hq).1 hp h1)
        · exact h q hq h1
    by_cases h : okp ps y
    · rw [if_pos h, if_pos (this.mpr h)]
    · rw [if_neg h, if_neg (fun g => h (this.mp g))]
  rw [e1]
  unfold cA
  rw [← sN_add]
  refine sN_congr fun x _ _ => ?_
  by_cases h1 : p ∣ x
  · have h2 : ¬ okp (p :: ps) x := fun h => h p List.mem_cons_self h1
    rw [if_neg h2]
    by_cases h3 : okp ps x
    · rw [if_pos ⟨h1, h3⟩, if_pos h3]
    · rw [if_neg (fun g => h3 g.2), if_neg h3]
  · rw [if_neg (show ¬ (p ∣ x ∧ okp ps x) from fun g => h1 g.1)]
    have : okp (p :: ps) x ↔ okp ps x := by
      constructor
      · intro h q hq; exact h q (List.mem_cons_of_mem _ hq)
      · intro h q hq
        rcases List.mem_cons.mp hq with rfl | hq
        · exact h1
        · exact h q hq
    by_cases h3 : okp ps x
    · rw [if_pos h3, if_pos (this.mpr h3)]
    · rw [if_neg h3, if_neg (fun g => h3 (this.mp g))]
/-- for a list of primes, no one twice, each of which goes into M, whatever is divided out -/
theorem cA_phi : ∀ (t : List (Nat × Nat)), (∀ x ∈ t, pm x.1 ∧ 1 ≤ x.2) → t.Pairwise (fun a b => a.1 ≠ b.1) → ∀ c, cA (t.map (fun x => x.1)) (fac t * c) = (t.map (fun x => (x.1 - 1) * x.1 ^ (x.2 - 1))).prod * c
  | [], _, _, c => by
    classical
    show cA [] (1 * c) = 1 * c
    rw [Nat.one_mul]
    unfold cA
    rw [sN_congr (g := fun _ => 1) (fun k _ _ => if_pos (show okp [] k from fun _ h => absurd h List.not_mem_nil)), sN_const, Nat.mul_one]
  | x :: t, h1, h2, c => by
    have hx := h1 x List.mem_cons_self
    rw [List.pairwise_cons] at h2
    obtain ⟨e, he⟩ : ∃ e, x.2 = e + 1 := ⟨x.2 - 1, by omega⟩
    have ih1 := cA_phi t (fun y hy => h1 y (List.mem_cons_of_mem _ hy)) h2.2 (x.1 ^ (e + 1) * c)
    have ih2 := cA_phi t (fun y hy => h1 y (List.mem_cons_of_mem _ hy)) h2.2 (x.1 ^ e * c)
    have hm : fac (x :: t) * c = x.1 * (fac t * (x.1 ^ e * c)) := by
      rw [fac, he, Nat.pow_succ]; grind
    have h3 := cA_cons hx.1 (ps := t.map (fun x => x.1)) (fun q hq => by
      obtain ⟨y, hy, rfl⟩ := List.mem_map.mp hq
      exact ⟨(h1 y (List.mem_cons_of_mem _ hy)).1, fun e => h2.1 y hy e.symm⟩) (fac t * (x.1 ^ e * c))
    rw [List.map_cons, List.map_cons, List.prod_cons, hm, he, Nat.add_sub_cancel]
    rw [ih2, show x.1 * (fac t * (x.1 ^ e * c)) = fac t * (x.1 ^ (e + 1) * c) by rw [Nat.pow_succ]; grind, ih1] at h3
    rw [show x.1 * (fac t * (x.1 ^ e * c)) = fac t * (x.1 ^ (e + 1) * c) by rw [Nat.pow_succ]; grind]
    generalize (t.map (fun x => (x.1 - 1) * x.1 ^ (x.2 - 1))).prod = P at h3
    obtain ⟨q, hq⟩ : ∃ q, x.1 = q + 1 := ⟨x.1 - 1, by have := hx.1.1; omega⟩
    have h4 : P * (x.1 ^ (e + 1) * c) = (x.1 - 1) * x.1 ^ e * P * c + P * (x.1 ^ e * c) := by
      rw [hq, Nat.add_sub_cancel, Nat.pow_succ]
      generalize (q + 1) ^ e = z
      grind
    omega
