/-! numbers as products of powers of primes: divisors -/
def fac : List (Nat × Nat) → Nat
  | [] => 1
  | x :: t => x.1 ^ x.2 * fac t
def ndv : List (Nat × Nat) → Nat
  | [] => 1
  | x :: t => (x.2 + 1) * ndv t
def fok (t : List (Nat × Nat)) : Prop := (∀ x ∈ t, pm x.1 ∧ 1 ≤ x.2) ∧ t.Pairwise (fun a b => a.1 < b.1)
theorem fok_tl {x : Nat × Nat} {t : List (Nat × Nat)} (h : fok (x :: t)) : fok t := ⟨fun y hy => h.1 y (List.mem_cons_of_mem _ hy), (List.pairwise_cons.mp h.2).2⟩
theorem fac_pos : ∀ {t : List (Nat × Nat)}, fok t → 0 < fac t
  | [], _ => by decide
  | x :: t, h => Nat.mul_pos (Nat.pow_pos (by have := (h.1 x List.mem_cons_self).1.1; omega)) (fac_pos (fok_tl h))
theorem fac_app (a b : List (Nat × Nat)) : fac (a ++ b) = fac a * fac b := by
  induction a with
  | nil => simp [fac]
  | cons x a ih => rw [List.cons_append, fac, fac, ih, Nat.mul_assoc]
theorem ndv_app (a b : List (Nat × Nat)) : ndv (a ++ b) = ndv a * ndv b := by
  induction a with
  | nil => simp [ndv]
  | cons x a ih => rw [List.cons_append, ndv, ndv, ih, Nat.mul_assoc]
/-- a prime that goes into the product is one of the list -/
theorem fac_pm {p : Nat} (hp : pm p) : ∀ {t : List (Nat × Nat)}, (∀ x ∈ t, pm x.1) → p ∣ fac t → ∃ x ∈ t, x.1 = p
  | [], _, h => absurd (Nat.le_of_dvd (by decide) (show p ∣ 1 from h)) (by have := hp.1; omega)
  | x :: t, ht, h => by
    rcases pm_mul hp h with h1 | h1
    · exact ⟨x, List.mem_cons_self, (pm_dvd_pm hp (ht x List.mem_cons_self) (pm_pow hp h1)).symm⟩
    · obtain ⟨y, hy, e⟩ := fac_pm hp (fun y hy => ht y (List.mem_cons_of_mem _ hy)) h1
      exact ⟨y, List.mem_cons_of_mem _ hy, e⟩
/-! the most divisors of a number up to 4194304 -/
def bgo (f : Nat → Nat) (q : Nat) : Nat → Nat → Nat → Nat
  | 0, _, _ => 1
  | k + 1, L, e => if L < q then 1 else max ((e + 1) * f (L / q)) (bgo f q k (L / q) (e + 1))
def bst : List Nat → Nat → Nat
  | [], L => L + 1
  | q :: qs, L => bgo (bst qs) q 22 L 1
theorem bgo_1 (f : Nat → Nat) (q : Nat) : ∀ k L e, 1 ≤ bgo f q k L e
  | 0, _, _ => Nat.le_refl 1
  | k + 1, L, e => by
    unfold bgo
    split
    · exact Nat.le_refl 1
    · exact Nat.le_trans (bgo_1 f q k _ _) (Nat.le_max_right _ _)
theorem bst_1 : ∀ qs L, 1 ≤ bst qs L
  | [], L => Nat.le_add_left 1 L
  | q :: qs, L => bgo_1 _ _ _ _ _
theorem bgo_ge (f : Nat → Nat) {q : Nat} (hq : 0 < q) : ∀ (k L e0 e : Nat), e < k → q ^ (e + 1) ≤ L → (e0 + e + 1) * f (L / q ^ (e + 1)) ≤ bgo f q k L e0
  | 0, _, _, _, h, _ => by omega
  | k + 1, L, e0, e, h, hL => by
    have hqL : q ≤ L := by
      have : 1 * q ≤ q ^ e * q := Nat.mul_le_mul_right _ (Nat.pow_pos hq)
      rw [Nat.pow_succ] at hL
      omega
    unfold bgo
    rw [if_neg (by omega)]
    cases e with
    | zero =>
      rw [Nat.zero_add, Nat.pow_one, Nat.add_zero]
      exact Nat.le_max_left _ _
    | succ e =>
      have h1 : q ^ (e + 1) ≤ L / q := by
        rw [Nat.le_div_iff_mul_le hq, ← Nat.pow_succ]; exact hL
      have h2 := bgo_ge f hq k (L / q) (e0 + 1) e (by omega) h1
      rw [Nat.div_div_eq_div_mul, Nat.mul_comm q, ← Nat.pow_succ] at h2
      refine Nat.le_trans ?_ (Nat.le_max_right _ _)
      rw [show e0 + (e + 1) + 1 = e0 + 1 + e + 1 by omega]
      exact h2
/-- a table of primes in which none is left out -/
def ptab : List Nat → Prop
  | [] => True
  | [_] => True
  | q :: r :: qs => (∀ p, pm p → q < p → r ≤ p) ∧ ptab (r :: qs)
theorem ndv_le : ∀ {t : List (Nat × Nat)}, fok t → ndv t ≤ fac t
  | [], _ => Nat.le_refl 1
  | x :: t, h => by
    refine Nat.mul_le_mul ?_ (ndv_le (fok_tl h))
    have h1 : x.2 < 2 ^ x.2 := Nat.lt_two_pow_self
    have h2 : 2 ^ x.2 ≤ x.1 ^ x.2 := Nat.pow_le_pow_left (h.1 x List.mem_cons_self).1.1 _
    omega
theorem bst_ge : ∀ (qs : List Nat) (L : Nat) (t : List (Nat × Nat)), ptab qs → (∀ q ∈ qs, 2 ≤ q) → L < 2 ^ 23 → fok t → (∀ x ∈ t, ∀ q, qs.head? = some q → q ≤ x.1) → fac t ≤ L → ndv t ≤ bst qs L
  | [], L, t, _, _, _, h3, _, h5 => by
    have := ndv_le h3
    show ndv t ≤ L + 1
    omega
  | q :: qs, L, [], _, _, _, _, _, _ => bst_1 (q :: qs) L
  | q :: qs, L, x :: t, h1, h2, hL, h3, h4, h5 => by
    have hq2 := h2 q List.mem_cons_self
    have hqx : q ≤ x.1 := h4 x List.mem_cons_self q rfl
    have hx := h3.1 x List.mem_cons_self
    obtain ⟨e, he⟩ : ∃ e, x.2 = e + 1 := ⟨x.2 - 1, by omega⟩
    have hft := fac_pos (fok_tl h3)
    have hfx : x.1 ^ x.2 * fac t ≤ L := h5
    have hpq : q ^ (e + 1) ≤ x.1 ^ x.2 := by rw [he]; exact Nat.pow_le_pow_left hqx _
    have hpx : x.1 ^ x.2 * 1 ≤ x.1 ^ x.2 * fac t := Nat.mul_le_mul_left _ hft
    have hqL : q ^ (e + 1) ≤ L := by omega
    have he22 : e < 22 := by
      rcases Nat.lt_or_ge e 22 with h | h
      · exact h
      · exfalso
        have h6 : 2 ^ 23 ≤ 2 ^ (e + 1) := Nat.pow_le_pow_right (by decide) (by omega)
        have h7 : 2 ^ (e + 1) ≤ q ^ (e + 1) := Nat.pow_le_pow_left hq2 _
        omega
    have hrest : fac t ≤ L / q ^ (e + 1) := by
      rw [Nat.le_div_iff_mul_le (Nat.pow_pos (by omega)), Nat.mul_comm]
      exact Nat.le_trans (Nat.mul_le_mul_right _ hpq) hfx
    have hmain := bgo_ge (bst qs) (by omega : 0 < q) 22 L 1 e he22 hqL
    have hnd : ndv t ≤ bst qs (L / q ^ (e + 1)) := by
      cases qs with
      | nil => exact bst_ge [] _ t trivial (fun _ h => nomatch h) (Nat.lt_of_le_of_lt (Nat.div_le_self _ _) hL) (fok_tl h3) (fun _ _ _ h => nomatch h) hrest
      | cons r qs =>
        refine bst_ge (r :: qs) _ t h1.2 (fun q hq => h2 q (List.mem_cons_of_mem _ hq)) (Nat.lt_of_le_of_lt (Nat.div_le_self _ _) hL) (fok_tl h3) (fun y hy q' hq' => ?_) hrest
        cases hq'
        have h6 := (List.pairwise_cons.mp h3.2).1 y hy
        exact h1.1 y.1 (h3.1 y (List.mem_cons_of_mem _ hy)).1 (by omega)
    have h8 : (x.2 + 1) * ndv t ≤ (1 + e + 1) * bst qs (L / q ^ (e + 1)) := by
      rw [he, show e + 1 + 1 = 1 + e + 1 by omega]
      exact Nat.mul_le_mul_left _ hnd
    exact Nat.le_trans h8 hmain
theorem npm {r : Nat} (d : Nat) (h : pm r) (hd : d ∣ r) (h1 : d ≠ 1) (h2 : d ≠ r) : False := (h.2 d hd).elim h1 h2
theorem ptab8 : ptab [2, 3, 5, 7, 11, 13, 17, 19] := by
  refine ⟨fun p hp h => by omega, fun p hp h => ?_, fun p hp h => ?_, fun p hp h => ?_, fun p hp h => ?_, fun p hp h => ?_, fun p hp h => ?_, trivial⟩
  · rcases (show p = 4 ∨ 5 ≤ p by omega) with rfl | g
    · exact (npm 2 hp (by decide) (by decide) (by decide)).elim
    · exact g
  · rcases (show p = 6 ∨ 7 ≤ p by omega) with rfl | g
    · exact (npm 2 hp (by decide) (by decide) (by decide)).elim
    · exact g
  · rcases (show p = 8 ∨ p = 9 ∨ p = 10 ∨ 11 ≤ p by omega) with rfl | rfl | rfl | g
    · exact (npm 2 hp (by decide) (by decide) (by decide)).elim
    · exact (npm 3 hp (by decide) (by decide) (by decide)).elim
    · exact (npm 2 hp (by decide) (by decide) (by decide)).elim
    · exact g
  · rcases (show p = 12 ∨ 13 ≤ p by omega) with rfl | g
    · exact (npm 2 hp (by decide) (by decide) (by decide)).elim
    · exact g
  · rcases (show p = 14 ∨ p = 15 ∨ p = 16 ∨ 17 ≤ p by omega) with rfl | rfl | rfl | g
    · exact (npm 2 hp (by decide) (by decide) (by decide)).elim
    · exact (npm 3 hp (by decide) (by decide) (by decide)).elim
    · exact (npm 2 hp (by decide) (by decide) (by decide)).elim
    · exact g
  · rcases (show p = 18 ∨ 19 ≤ p by omega) with rfl | g
    · exact (npm 2 hp (by decide) (by decide) (by decide)).elim
    · exact g
set_option maxRecDepth 100000 in
theorem bst_360 : bst [2, 3, 5, 7, 11, 13, 17, 19] 4194304 = 360 := by decide +kernel
/-- no number up to 4194304 has more than 360 divisors -/
theorem ndv_360 {t : List (Nat × Nat)} (h : fok t) (hf : fac t ≤ 4194304) : ndv t ≤ 360 := by
  rw [← bst_360]
  refine bst_ge _ _ t ptab8 (by decide) (by decide) h (fun x hx q hq => ?_) hf
  cases hq
  exact (h.1 x hx).1.1
theorem tab_prod : ∀ (qs : List Nat) (t : List (Nat × Nat)), ptab qs → fok t → (∀ x ∈ t, ∀ q, qs.head? = some q → q ≤ x.1) → qs.length ≤ t.length → qs.prod ≤ fac t
  | [], t, _, h3, _, _ => fac_pos h3
  | q :: qs, [], _, _, _, h => absurd h (by simp)
  | q :: qs, x :: t, h1, h3, h4, h => by
    rw [List.prod_cons]
    have hx := h3.1 x List.mem_cons_self
    have hqx : q ≤ x.1 := h4 x List.mem_cons_self q rfl
    refine Nat.mul_le_mul ?_ ?_
    · obtain ⟨e, he⟩ : ∃ e, x.2 = e + 1 := ⟨x.2 - 1, by omega⟩
      rw [he, Nat.pow_succ]
      have : 1 * x.1 ≤ x.1 ^ e * x.1 := Nat.mul_le_mul_right _ (Nat.pow_pos (by have := hx.1.1; omega))
      omega
    · refine tab_prod qs t ?_ (fok_tl h3) ?_ (by simp at h; exact h)
      · cases qs with
        | nil => trivial
        | cons r qs => exact h1.2
      · intro y hy r hr
        cases qs with
        | nil => cases hr
        | cons r' qs =>
          cases hr
          have h6 := (List.pairwise_cons.mp h3.2).1 y hy
          exact h1.1 y.1 (h3.1 y (List.mem_cons_of_mem _ hy)).1 (by omega)
/-- no number up to 4194304 has more than 7 primes -/
theorem len_7 {t : List (Nat × Nat)} (h : fok t) (hf : fac t ≤ 4194304) : t.length ≤ 7 := by
  rcases Nat.lt_or_ge 7 t.length with g | g
  · exfalso
    have h1 := tab_prod [2, 3, 5, 7, 11, 13, 17, 19] t ptab8 h (fun x hx q hq => by cases hq; exact (h.1 x hx).1.1) g
    have h2 : ([2, 3, 5, 7, 11, 13, 17, 19] : List Nat).prod = 9699690 := by decide
    omega
  · exact g
