/-! the second supplement, Eisenstein's count, the law of reciprocity, Jacobi's symbol over lists of primes -/
theorem gm_two {p : Nat} (ho : p % 2 = 1) : ∀ n, n ≤ hf p → gm p 2 n = n - hf p / 2
  | 0, _ => by simp [gm, sN]
  | n + 1, h => by
    have e := hf_odd ho
    have ih := gm_two ho n (by omega)
    unfold gm at ih ⊢
    rw [sN, ih, Nat.mod_eq_of_lt (by omega : 2 * (n + 1) < p)]
    split <;> omega
/-- the symbol of 2 and an odd n -/
def s2 (n : Nat) : Int := if n % 8 = 1 ∨ n % 8 = 7 then 1 else -1
theorem leg_two {p : Nat} (hp : pm p) (ho : p % 2 = 1) : leg p 2 = s2 p := by
  have e := hf_odd ho
  have hd : ¬ p ∣ 2 := fun h => two_nd hp ho (Int.ofNat_dvd.mpr h)
  have h1 := leg_gauss (a := 2) hp ho hd
  rw [gm_two ho _ (Nat.le_refl _), neg1_pow] at h1
  have h2 : leg p 2 = leg p ((2 : Nat) : Int) := rfl
  rw [h2, h1]
  unfold s2
  generalize hf p = h at e
  split <;> split <;> omega
theorem sN_congr {f g : Nat → Nat} : ∀ {n : Nat}, (∀ k, 1 ≤ k → k ≤ n → f k = g k) → sN f n = sN g n
  | 0, _ => rfl
  | n + 1, h => by rw [sN, sN, sN_congr (n := n) (fun k a b => h k a (by omega)), h (n + 1) (by omega) (Nat.le_refl _)]
theorem sN_add (f g : Nat → Nat) : ∀ n, sN (fun k => f k + g k) n = sN f n + sN g n
  | 0 => rfl
  | n + 1 => by rw [sN, sN, sN, sN_add f g n]; omega
theorem sN_const (c : Nat) : ∀ n, sN (fun _ => c) n = n * c
  | 0 => by simp [sN]
  | n + 1 => by rw [sN, sN_const c n, Nat.add_mul, Nat.one_mul]
theorem sN_mul (c : Nat) (f : Nat → Nat) : ∀ n, sN (fun k => c * f k) n = c * sN f n
  | 0 => by simp [sN]
  | n + 1 => by rw [sN, sN, sN_mul c f n, Nat.mul_add]
theorem sN_swap (F : Nat → Nat → Nat) (m : Nat) : ∀ n, sN (fun k => sN (fun j => F k j) m) n = sN (fun j => sN (fun k => F k j) n) m
  | 0 => by
    show 0 = sN (fun _ => 0) m
    rw [sN_const]; omega
  | n + 1 => by
    rw [sN, sN_swap F m n, ← sN_add]
    rfl
theorem sN_parity {p a : Nat} (hp : pm p) (ho : p % 2 = 1) : ∀ n, sN (fun k => a * k % p) n % 2 = (sN (ga p a) n + gm p a n) % 2
  | 0 => rfl
  | n + 1 => by
    have ih := sN_parity (a := a) hp ho n
    have hlt : a * (n + 1) % p < p := Nat.mod_lt _ (by have := hp.1; omega)
    unfold gm at ih ⊢
    rw [sN, sN, sN]
    have h1 : a * (n + 1) % p % 2 = (ga p a (n + 1) + (if a * (n + 1) % p ≤ hf p then 0 else 1)) % 2 := by
      unfold ga
      split <;> omega
    omega
theorem sN_divmod (p a : Nat) : ∀ n, a * sN (fun k => k) n = p * sN (fun k => a * k / p) n + sN (fun k => a * k % p) n
  | 0 => by simp [sN]
  | n + 1 => by
    have ih := sN_divmod p a n
    have h := Nat.div_add_mod (a * (n + 1)) p
    show a * (sN (fun k => k) n + (n + 1)) = p * (sN (fun k => a * k / p) n + a * (n + 1) / p) + (sN (fun k => a * k % p) n + a * (n + 1) % p)
    rw [Nat.mul_add a, Nat.mul_add p, ih]
    generalize a * (n + 1) = X at h
    omega
theorem eis {p q : Nat} (hp : pm p) (ho : p % 2 = 1) (hq : q % 2 = 1) (hd : ¬ p ∣ q) : gm p q (hf p) % 2 = sN (fun k => q * k / p) (hf p) % 2 := by
  have h1 := sN_parity (a := q) hp ho (hf p)
  rw [sN_self (fun k x y => ga_in hp ho hd x y) (fun j k x y z w => ga_inj hp ho hd x y z w)] at h1
  have h2 := sN_divmod p q (hf p)
  obtain ⟨a, rfl⟩ : ∃ a, q = 2 * a + 1 := ⟨q / 2, by omega⟩
  obtain ⟨b, hb⟩ : ∃ b, p = 2 * b + 1 := ⟨p / 2, by omega⟩
  generalize sN (fun k => (2 * a + 1) * k % p) (hf p) = R at h1 h2
  generalize sN (fun k => k) (hf p) = S at h1 h2
  generalize sN (fun k => (2 * a + 1) * k / p) (hf p) = F at h2 ⊢
  generalize gm p (2 * a + 1) (hf p) = M at h1 ⊢
  rw [hb] at h2
  rw [Nat.add_mul, Nat.add_mul, Nat.one_mul, Nat.one_mul, Nat.mul_assoc, Nat.mul_assoc] at h2
  omega
theorem cnt_div {p : Nat} (hp : 0 < p) (X : Nat) : ∀ n, sN (fun j => if p * j ≤ X then 1 else 0) n = min n (X / p)
  | 0 => by simp [sN]
  | n + 1 => by
    rw [sN, cnt_div hp X n]
    have h : p * (n + 1) ≤ X ↔ n + 1 ≤ X / p := by rw [Nat.le_div_iff_mul_le hp, Nat.mul_comm]
    by_cases h1 : p * (n + 1) ≤ X
    · rw [if_pos h1]
      have := h.mp h1
      omega
    · rw [if_neg h1]
      have : ¬ n + 1 ≤ X / p := fun h2 => h1 (h.mpr h2)
      omega
theorem half_lt {p q k : Nat} (ho : p % 2 = 1) (hq : q % 2 = 1) (hk : k ≤ hf p) : q * k / p ≤ hf q := by
  have e1 := hf_odd ho
  have e2 := hf_odd hq
  generalize hf p = h at *
  generalize hf q = g at *
  have h1 : q * k < p * (g + 1) := by
    have h2 : q * k ≤ q * h := Nat.mul_le_mul_left _ hk
    have h3 : q * h + (h + g + 1) = p * (g + 1) := by subst e1; subst e2; grind
    omega
  have := Nat.div_lt_of_lt_mul h1
  omega
theorem lattice {p q : Nat} (hp : pm p) (ho : p % 2 = 1) (hq : q % 2 = 1) (hd : ¬ p ∣ q) : sN (fun k => q * k / p) (hf p) + sN (fun j => p * j / q) (hf q) = hf p * hf q := by
  have e1 : sN (fun k => q * k / p) (hf p) = sN (fun k => sN (fun j => if p * j ≤ q * k then 1 else 0) (hf q)) (hf p) := by
    refine sN_congr fun k h1 h2 => ?_
    rw [cnt_div (by have := hp.1; omega)]
    have := half_lt (k := k) ho hq h2
    omega
  have e2 : sN (fun j => p * j / q) (hf q) = sN (fun j => sN (fun k => if q * k ≤ p * j then 1 else 0) (hf p)) (hf q) := by
    refine sN_congr fun j h1 h2 => ?_
    rw [cnt_div (by omega)]
    have := half_lt (k := j) hq ho h2
    omega
  rw [e1, e2, sN_swap, ← sN_add]
  have e3 : sN (fun j => sN (fun k => if p * j ≤ q * k then 1 else 0) (hf p) + sN (fun k => if q * k ≤ p * j then 1 else 0) (hf p)) (hf q) = sN (fun _ => hf p) (hf q) := by
    refine sN_congr fun j h1 h2 => ?_
    rw [← sN_add]
    have : sN (fun k => (if p * j ≤ q * k then 1 else 0) + (if q * k ≤ p * j then 1 else 0)) (hf p) = sN (fun _ => 1) (hf p) := by
      refine sN_congr fun k h3 h4 => ?_
      have hne : p * j ≠ q * k := by
        intro h
        rcases pm_mul hp (show p ∣ q * k from ⟨j, h.symm⟩) with h5 | h5
        · exact hd h5
        · have := Nat.le_of_dvd (by omega) h5
          have := hf_odd ho
          omega
      split <;> split <;> omega
    rw [this, sN_const, Nat.mul_one]
  rw [e3, sN_const, Nat.mul_comm]
/-- the sign of the law of reciprocity -/
def ep (m n : Nat) : Int := if m % 4 = 3 ∧ n % 4 = 3 then -1 else 1
theorem ep_half {p q : Nat} (ho : p % 2 = 1) (hq : q % 2 = 1) : (-1 : Int) ^ (hf p * hf q) = ep p q := by
  rw [neg1_pow]
  have e1 := hf_odd ho
  have e2 := hf_odd hq
  have h1 := Nat.mul_mod (hf p) (hf q) 2
  unfold ep
  rcases Nat.mod_two_eq_zero_or_one (hf p) with a | a <;> rcases Nat.mod_two_eq_zero_or_one (hf q) with b | b <;> rw [a, b] at h1 <;> simp at h1 <;> split <;> split <;> omega
theorem neg1_par {a b : Nat} (h : a % 2 = b % 2) : (-1 : Int) ^ a = (-1) ^ b := by rw [neg1_pow, neg1_pow, h]
/-- the law of reciprocity, for primes -/
theorem recip {p q : Nat} (hp : pm p) (ho : p % 2 = 1) (hq : pm q) (hqo : q % 2 = 1) : leg p q = ep p q * leg q p := by
  by_cases hpq : p = q
  · subst hpq
    rw [leg_0 (Int.dvd_refl _), Int.mul_zero]
  · have h1 : ¬ p ∣ q := fun h => hpq (pm_dvd_pm hp hq h)
    have h2 : ¬ q ∣ p := fun h => hpq (pm_dvd_pm hq hp h).symm
    rw [leg_gauss hp ho h1, leg_gauss hq hqo h2, neg1_par (eis hp ho hqo h1), neg1_par (eis hq hqo ho h2), ← ep_half ho hqo, ← lattice hp ho hqo h1, Int.pow_add, Int.mul_assoc, ← Int.pow_add, ← Nat.two_mul]
    rw [neg1_pow (2 * _), if_pos (by omega), Int.mul_one]
/-! Jacobi's symbol, over a list of odd primes -/
def opl (ps : List Nat) : Prop := ∀ p ∈ ps, pm p ∧ p % 2 = 1
noncomputable def JL (a : Int) : List Nat → Int
  | [] => 1
  | p :: ps => leg p a * JL a ps
theorem opl_tl {p : Nat} {ps : List Nat} (h : opl (p :: ps)) : opl ps := fun q hq => h q (List.mem_cons_of_mem _ hq)
theorem opl_hd {p : Nat} {ps : List Nat} (h : opl (p :: ps)) : pm p ∧ p % 2 = 1 := h p List.mem_cons_self
theorem opl_odd : ∀ {ps : List Nat}, opl ps → ps.prod % 2 = 1
  | [], _ => rfl
  | p :: ps, h => by
    rw [List.prod_cons, Nat.mul_mod, (opl_hd h).2, opl_odd (opl_tl h)]
theorem JL_mul (a b : Int) : ∀ {ps : List Nat}, opl ps → JL (a * b) ps = JL a ps * JL b ps
  | [], _ => rfl
  | p :: ps, h => by
    rw [JL, JL, JL, leg_mul (opl_hd h).1 (opl_hd h).2, JL_mul a b (opl_tl h)]
    grind
theorem JL_like {a b : Int} : ∀ {ps : List Nat}, opl ps → cg (ps.prod : Nat) a b → JL a ps = JL b ps
  | [], _, _ => rfl
  | p :: ps, h, hc => by
    rw [List.prod_cons, Int.natCast_mul] at hc
    rw [JL, JL, leg_like (opl_hd h).1 (opl_hd h).2 (Int.dvd_trans (Int.dvd_mul_right _ _) hc), JL_like (opl_tl h) (Int.dvd_trans (Int.dvd_mul_left _ _) hc)]
theorem JL_in (a : Int) : ∀ (ps : List Nat), JL a ps = 0 ∨ JL a ps = 1 ∨ JL a ps = -1
  | [] => Or.inr (Or.inl rfl)
  | p :: ps => by
    rw [JL]
    rcases JL_in a ps with h | h | h <;> rcases leg_in p a with g | g | g <;> rw [h, g] <;> decide
theorem JL_0 {p : Nat} {ps : List Nat} : JL 0 (p :: ps) = 0 := by rw [JL, leg_0 (Int.dvd_zero _), Int.zero_mul]
theorem s2_mul {m n : Nat} (hm : m % 2 = 1) (hn : n % 2 = 1) : s2 (m * n) = s2 m * s2 n := by
  have h := Nat.mul_mod m n 8
  unfold s2
  rcases (show m % 8 = 1 ∨ m % 8 = 3 ∨ m % 8 = 5 ∨ m % 8 = 7 by omega) with a | a | a | a <;> rcases (show n % 8 = 1 ∨ n % 8 = 3 ∨ n % 8 = 5 ∨ n % 8 = 7 by omega) with b | b | b | b <;> rw [a, b] at h <;> rw [h, a, b] <;> decide
theorem ep_mul {l m n : Nat} (hl : l % 2 = 1) (hm : m % 2 = 1) : ep (l * m) n = ep l n * ep m n := by
  have h := Nat.mul_mod l m 4
  unfold ep
  rcases (show l % 4 = 1 ∨ l % 4 = 3 by omega) with a | a <;> rcases (show m % 4 = 1 ∨ m % 4 = 3 by omega) with b | b <;> rw [a, b] at h <;> rw [h, a, b] <;> by_cases c : n % 4 = 3 <;> simp [c]
theorem ep_comm (m n : Nat) : ep m n = ep n m := by unfold ep; split <;> split <;> omega
theorem ep_1 (n : Nat) : ep 1 n = 1 := by unfold ep; rw [if_neg (by omega)]
theorem JL_two : ∀ {ps : List Nat}, opl ps → JL 2 ps = s2 ps.prod
  | [], _ => rfl
  | p :: ps, h => by rw [JL, leg_two (opl_hd h).1 (opl_hd h).2, JL_two (opl_tl h), List.prod_cons, s2_mul (opl_hd h).2 (opl_odd (opl_tl h))]
theorem leg_one {p : Nat} (hp : pm p) : leg p 1 = 1 := by
  refine leg_1 (fun h => ?_) ⟨1, cg_rf _ _⟩
  have h1 := Nat.le_of_dvd (by decide) (Int.ofNat_dvd.mp (show ((p : Nat) : Int) ∣ ((1 : Nat) : Int) from h))
  have := hp.1
  omega
/-- a prime against a list -/
theorem recip1 {p : Nat} (hp : pm p) (ho : p % 2 = 1) : ∀ {qs : List Nat}, opl qs → leg p (qs.prod : Nat) = ep p qs.prod * JL p qs
  | [], _ => by
    rw [ep_comm, show (([] : List Nat).prod) = 1 from rfl, ep_1]
    exact leg_one hp
  | q :: qs, h => by
    rw [List.prod_cons, Int.natCast_mul, leg_mul hp ho, recip hp ho (opl_hd h).1 (opl_hd h).2, recip1 hp ho (opl_tl h), JL, ep_comm p (q * qs.prod), ep_mul (opl_hd h).2 (opl_odd (opl_tl h)), ep_comm p q, ep_comm p qs.prod]
    generalize ep q p = a; generalize ep qs.prod p = b; generalize leg q p = c; generalize JL p qs = d; grind
/-- the law of reciprocity, for lists of odd primes -/
theorem recipL : ∀ {ps qs : List Nat}, opl ps → opl qs → JL (qs.prod : Nat) ps = ep ps.prod qs.prod * JL (ps.prod : Nat) qs
  | [], qs, _, hq => by
    rw [show (([] : List Nat).prod) = 1 from rfl, ep_1, JL, Int.one_mul]
    have : ∀ {qs : List Nat}, opl qs → JL ((1 : Nat) : Int) qs = 1 := by
      intro qs
      induction qs with
      | nil => intro _; rfl
      | cons q qs ih =>
        intro h
        rw [JL, ih (opl_tl h), show ((1 : Nat) : Int) = 1 from rfl, leg_one (opl_hd h).1]; rfl
    exact (this hq).symm
  | p :: ps, qs, h, hq => by
    rw [JL, recip1 (opl_hd h).1 (opl_hd h).2 hq, recipL (opl_tl h) hq, List.prod_cons, Int.natCast_mul, JL_mul _ _ hq, ep_mul (opl_hd h).2 (opl_odd (opl_tl h))]
    generalize ep p qs.prod = a; generalize ep ps.prod qs.prod = b; generalize JL p qs = c; generalize JL (ps.prod : Nat) qs = d; grind
theorem opl_one : ∀ {ps : List Nat}, opl ps → ps.prod = 1 → ps = []
  | [], _, _ => rfl
  | p :: ps, h, e => by
    rw [List.prod_cons] at e
    have := (opl_hd h).1.1
    have := Nat.eq_one_of_mul_eq_one_right e
    omega
/-- an odd number is a product of odd primes -/
theorem opl_ex : ∀ n : Nat, n % 2 = 1 → ∃ ps, opl ps ∧ ps.prod = n := by
  intro n
  induction n using Nat.strongRecOn with
  | ind n ih =>
    intro hn
    by_cases h1 : n = 1
    · exact ⟨[], fun _ h => absurd h List.not_mem_nil, h1.symm⟩
    · obtain ⟨p, hp, k, hk⟩ := pm_ex n (by omega)
      have hko : p % 2 = 1 ∧ k % 2 = 1 := by
        have := Nat.mul_mod p k 2
        rcases Nat.mod_two_eq_zero_or_one p with a | a <;> rcases Nat.mod_two_eq_zero_or_one k with b | b <;> rw [a, b] at this <;> omega
      have hlt : k < n := by
        rw [hk]
        have := hp.1
        have h2 : 0 < k := by omega
        have h3 : 2 * k ≤ p * k := Nat.mul_le_mul_right _ this
        omega
      obtain ⟨ps, h2, h3⟩ := ih k hlt hko.2
      refine ⟨p :: ps, fun q hq => ?_, by rw [List.prod_cons, h3, hk]⟩
      rcases List.mem_cons.mp hq with rfl | hq
      · exact ⟨hp, hko.1⟩
      · exact h2 q hq
