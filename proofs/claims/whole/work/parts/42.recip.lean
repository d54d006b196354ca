/-! Gauss's lemma, Euler's criterion, the law of reciprocity -/
/-- half of p - 1 -/
def hf (p : Nat) : Nat := (p - 1) / 2
/-- the least absolute value of a * k modulo p, and its sign -/
def ga (p a k : Nat) : Nat := if a * k % p ≤ hf p then a * k % p else p - a * k % p
def gs (p a k : Nat) : Int := if a * k % p ≤ hf p then 1 else -1
/-- how often the sign is -1 -/
def gm (p a : Nat) (n : Nat) : Nat := sN (fun k => if a * k % p ≤ hf p then 0 else 1) n
theorem hf_odd {p : Nat} (h : p % 2 = 1) : p = 2 * hf p + 1 := by unfold hf; omega
theorem ga_in {p a : Nat} (hp : pm p) (ho : p % 2 = 1) (ha : ¬ p ∣ a) {k : Nat} (h1 : 1 ≤ k) (h2 : k ≤ hf p) : 1 ≤ ga p a k ∧ ga p a k ≤ hf p := by
  have e := hf_odd ho
  have hlt : a * k % p < p := Nat.mod_lt _ (by have := hp.1; omega)
  have hne : a * k % p ≠ 0 := by
    intro h
    rcases pm_mul hp (Nat.dvd_of_mod_eq_zero h) with h | h
    · exact ha h
    · have := Nat.le_of_dvd (by omega) h
      omega
  unfold ga
  split <;> omega
theorem ga_cg {p a : Nat} (hp : pm p) (k : Nat) : cg p ((a : Int) * k) (gs p a k * ga p a k) := by
  have hlt : a * k % p < p := Nat.mod_lt _ (by have := hp.1; omega)
  have hd : ((a * k : Nat) : Int) = (p : Int) * ((a * k / p : Nat) : Int) + ((a * k % p : Nat) : Int) := by
    rw [← Int.natCast_mul, ← Int.natCast_add, Nat.div_add_mod]
  rw [Int.natCast_mul] at hd
  unfold gs ga
  split
  · exact ⟨((a * k / p : Nat) : Int), by rw [Int.one_mul]; omega⟩
  · refine ⟨((a * k / p : Nat) : Int) + 1, ?_⟩
    rw [Int.natCast_sub (Nat.le_of_lt hlt), Int.mul_add]
    omega
theorem ga_inj {p a : Nat} (hp : pm p) (ho : p % 2 = 1) (ha : ¬ p ∣ a) {j k : Nat} (h1 : 1 ≤ j) (h2 : j ≤ hf p) (h3 : 1 ≤ k) (h4 : k ≤ hf p) (h : ga p a j = ga p a k) : j = k := by
  have e := hf_odd ho
  have hj := ga_cg (a := a) hp j
  have hk := ga_cg (a := a) hp k
  rw [h] at hj
  have haZ : ¬ (p : Int) ∣ (a : Int) := fun h => ha (Int.ofNat_dvd.mp h)
  have key : (p : Int) ∣ (a : Int) * ((j : Int) - k) ∨ (p : Int) ∣ (a : Int) * ((j : Int) + k) := by
    unfold gs at hj hk
    split at hj <;> split at hk
    · left; rw [Int.mul_sub]; exact cg_tr hj (cg_sy hk)
    · right
      have := cg_add hj hk
      rw [Int.mul_add]
      unfold cg at this
      rw [show (1 : Int) * (ga p a k : Int) + -1 * (ga p a k : Int) = 0 by omega, Int.sub_zero] at this
      exact this
    · right
      have := cg_add hj hk
      rw [Int.mul_add]
      unfold cg at this
      rw [show (-1 : Int) * (ga p a k : Int) + 1 * (ga p a k : Int) = 0 by omega, Int.sub_zero] at this
      exact this
    · left; rw [Int.mul_sub]; exact cg_tr hj (cg_sy hk)
  rcases key with h | h
  · have h5 := (pm_mulZ hp h).resolve_left haZ
    have : (j : Int) = k := cg_eq (n := p) h5 (by omega) (by omega)
    omega
  · have h5 := (pm_mulZ hp h).resolve_left haZ
    have h6 : (j : Int) + k = 0 := cg_eq (n := p) (cg_0.mpr h5) (by omega) (by omega)
    omega
theorem gs_prod (p a : Nat) : ∀ n, pZ (gs p a) n = (-1) ^ gm p a n
  | 0 => rfl
  | n + 1 => by
    rw [pZ, gs_prod p a n]
    unfold gm
    rw [sN]
    unfold gs
    split
    · simp
    · rw [Int.pow_succ]
theorem ga_prod {p a : Nat} (hp : pm p) : ∀ n, cg p ((a : Int) ^ n * pN (fun k => k) n) (pZ (gs p a) n * pN (ga p a) n)
  | 0 => cg_rf _ _
  | n + 1 => by
    have h1 := ga_prod (a := a) hp n
    have h2 := ga_cg (a := a) hp (n + 1)
    have h3 := cg_mul h1 h2
    rw [pN, pZ, pN, Int.pow_succ, Int.natCast_mul, Int.natCast_mul]
    have e1 : (a : Int) ^ n * (a : Int) * ((pN (fun k => k) n : Nat) * ((n + 1 : Nat) : Int)) = (a : Int) ^ n * (pN (fun k => k) n : Nat) * ((a : Int) * ((n + 1 : Nat) : Int)) := by
      generalize (a : Int) ^ n = x; generalize ((pN (fun k => k) n : Nat) : Int) = y; generalize ((n + 1 : Nat) : Int) = z; grind
    have e2 : pZ (gs p a) n * gs p a (n + 1) * ((pN (ga p a) n : Nat) * (ga p a (n + 1) : Nat) : Int) = pZ (gs p a) n * (pN (ga p a) n : Nat) * (gs p a (n + 1) * (ga p a (n + 1) : Nat)) := by
      generalize pZ (gs p a) n = x; generalize gs p a (n + 1) = y; grind
    rw [e1, e2]
    exact h3
/-- Gauss's lemma: a to the half of p - 1 -/
theorem gauss {p a : Nat} (hp : pm p) (ho : p % 2 = 1) (ha : ¬ p ∣ a) : cg p ((a : Int) ^ hf p) ((-1) ^ gm p a (hf p)) := by
  have h1 := ga_prod (a := a) hp (hf p)
  rw [pN_self (fun k x y => ga_in hp ho ha x y) (fun j k x y z w => ga_inj hp ho ha x y z w), gs_prod, Int.mul_comm _ ((pN (fun k => k) (hf p) : Nat) : Int), Int.mul_comm _ ((pN (fun k => k) (hf p) : Nat) : Int)] at h1
  exact cg_cancel hp (fun h => pN_fact_nd hp (hf p) (by have := hf_odd ho; omega) (Int.ofNat_dvd.mp h)) h1
theorem neg1_pow (n : Nat) : (-1 : Int) ^ n = if n % 2 = 0 then 1 else -1 := by
  induction n with
  | zero => rfl
  | succ n ih =>
    rw [Int.pow_succ, ih]
    split <;> split <;> omega
/-! monic polynomials, as functions -/
def mon : Nat → (Int → Int) → Prop
  | 0, f => ∀ x, f x = 1
  | n + 1, f => ∃ (g : Int → Int) (c : Int), mon n g ∧ ∀ x, f x = x * g x + c
theorem mon_pow : ∀ n, mon n (fun x => x ^ n)
  | 0 => fun x => Int.pow_zero x
  | n + 1 => ⟨fun x => x ^ n, 0, mon_pow n, fun x => by show x ^ (n + 1) = x * x ^ n + 0; rw [Int.pow_succ, Int.mul_comm, Int.add_zero]⟩
theorem mon_div : ∀ (n : Nat) (f : Int → Int), mon (n + 1) f → ∀ r, ∃ q, mon n q ∧ ∀ x, f x - f r = (x - r) * q x
  | 0, f, ⟨g, c, hg, hf⟩, r => ⟨fun _ => 1, fun _ => rfl, fun x => by show f x - f r = (x - r) * 1; rw [hf, hf, hg, hg]; omega⟩
  | n + 1, f, ⟨g, c, hg, hf⟩, r => by
    obtain ⟨q, h1, h2⟩ := mon_div n g hg r
    refine ⟨fun x => x * q x + g r, ⟨q, g r, h1, fun _ => rfl⟩, fun x => ?_⟩
    have h3 := h2 x
    rw [hf, hf]
    grind
/-- no more roots than the degree, modulo a prime -/
theorem mon_roots {p : Nat} (hp : pm p) : ∀ (n : Nat) (f : Int → Int), mon n f → ∀ l : List Int, l.Pairwise (fun a b => ¬ cg p a b) → (∀ r ∈ l, (p : Int) ∣ f r) → l.length ≤ n
  | 0, f, hf, [], _, _ => Nat.le_refl 0
  | 0, f, hf, r :: t, _, h => by
    have h1 := h r List.mem_cons_self
    rw [hf r] at h1
    have h2 := Int.ofNat_dvd.mp (show ((p : Nat) : Int) ∣ ((1 : Nat) : Int) from h1)
    have := Nat.le_of_dvd (by decide) h2
    have := hp.1
    omega
  | n + 1, f, hf, [], _, _ => Nat.zero_le _
  | n + 1, f, hf, r :: t, hd, h => by
    obtain ⟨q, h1, h2⟩ := mon_div n f hf r
    rw [List.pairwise_cons] at hd
    have := mon_roots hp n q h1 t hd.2 (fun x hx => by
      have h3 := Int.dvd_sub (h x (List.mem_cons_of_mem _ hx)) (h r List.mem_cons_self)
      rw [h2] at h3
      exact (pm_mulZ hp h3).resolve_left (fun h4 => hd.1 x hx (cg_sy h4)))
    simp
    omega
/-- is a like some square modulo p? -/
def sq (p : Nat) (a : Int) : Prop := ∃ x : Int, cg p (x * x) a
/-- a nat that is like a -/
theorem nat_like {p : Nat} (hp : 0 < p) (a : Int) : ∃ n : Nat, n < p ∧ cg p (n : Int) a := by
  have h1 : 0 ≤ a % (p : Int) := Int.emod_nonneg _ (by omega)
  have h2 : a % (p : Int) < p := Int.emod_lt_of_pos _ (by omega)
  refine ⟨(a % (p : Int)).toNat, by omega, ?_⟩
  rw [Int.toNat_of_nonneg h1]
  exact cg_emod _ _
theorem euler_pm {p : Nat} (hp : pm p) (ho : p % 2 = 1) {a : Int} (ha : ¬ (p : Int) ∣ a) : cg p (a ^ hf p) 1 ∨ cg p (a ^ hf p) (-1) := by
  obtain ⟨n, -, hn⟩ := nat_like (p := p) (by have := hp.1; omega) a
  have hd : ¬ p ∣ n := fun h => ha (by
    have h1 : cg p a 0 := cg_tr (cg_sy hn) (cg_0.mpr (Int.ofNat_dvd.mpr h))
    exact cg_0.mp h1)
  have h2 := cg_tr (cg_sy (cg_pow hn (hf p))) (gauss hp ho hd)
  rw [neg1_pow] at h2
  split at h2
  · exact Or.inl h2
  · exact Or.inr h2
theorem fermat {p : Nat} (hp : pm p) (ho : p % 2 = 1) {a : Int} (ha : ¬ (p : Int) ∣ a) : cg p (a ^ (2 * hf p)) 1 := by
  rw [Nat.two_mul, Int.pow_add]
  rcases euler_pm hp ho ha with h | h
  · exact cg_mul h h
  · exact cg_mul h h
theorem two_nd {p : Nat} (hp : pm p) (ho : p % 2 = 1) : ¬ (p : Int) ∣ 2 := by
  intro h
  have h1 := Nat.le_of_dvd (by decide) (Int.ofNat_dvd.mp (show ((p : Nat) : Int) ∣ ((2 : Nat) : Int) from h))
  have := hp.1
  have : p = 2 := by omega
  omega
theorem one_ne {p : Nat} (hp : pm p) (ho : p % 2 = 1) : ¬ cg p 1 (-1) := fun h => two_nd hp ho h
/-- Euler's criterion -/
theorem euler_sq {p : Nat} (hp : pm p) (ho : p % 2 = 1) {a : Int} (ha : ¬ (p : Int) ∣ a) (h : sq p a) : cg p (a ^ hf p) 1 := by
  obtain ⟨x, hx⟩ := h
  have hxd : ¬ (p : Int) ∣ x := fun h => ha (by
    have h1 : cg p a 0 := cg_tr (cg_sy hx) (cg_0.mpr (Int.dvd_mul_of_dvd_left h))
    exact cg_0.mp h1)
  have h1 := cg_pow (cg_sy hx) (hf p)
  rw [Int.mul_pow, ← Int.pow_add, ← Nat.two_mul] at h1
  exact cg_tr h1 (fermat hp ho hxd)
theorem euler_nsq {p : Nat} (hp : pm p) (ho : p % 2 = 1) {a : Int} (ha : ¬ (p : Int) ∣ a) (h : ¬ sq p a) : cg p (a ^ hf p) (-1) := by
  refine (euler_pm hp ho ha).resolve_left fun h1 => ?_
  have e := hf_odd ho
  have h2 : 1 ≤ hf p := by have := hp.1; omega
  obtain ⟨k, hk⟩ : ∃ k, hf p = k + 1 := ⟨hf p - 1, by omega⟩
  have hm : mon (hf p) (fun x => x ^ hf p - 1) := by
    rw [hk]
    exact ⟨fun x => x ^ k, -1, mon_pow k, fun x => by show x ^ (k + 1) - 1 = x * x ^ k + -1; rw [Int.pow_succ, Int.mul_comm]; omega⟩
  have h3 := mon_roots hp (hf p) _ hm (a :: (List.range' 1 (hf p)).map (fun j : Nat => (j : Int) * j)) (by
    rw [List.pairwise_cons]
    refine ⟨fun x hx h4 => ?_, ?_⟩
    · obtain ⟨j, -, rfl⟩ := List.mem_map.mp hx
      exact h ⟨j, cg_sy h4⟩
    · rw [List.pairwise_map]
      refine List.Pairwise.imp_of_mem ?_ (List.nodup_range' (s := 1) (n := hf p))
      intro i j hi hj hij h4
      rw [List.mem_range'_1] at hi hj
      have h5 : (p : Int) ∣ ((i : Int) - j) * ((i : Int) + j) := by
        have : ((i : Int) - j) * ((i : Int) + j) = (i : Int) * i - j * j := by grind
        rw [this]; exact h4
      rcases pm_mulZ hp h5 with h6 | h6
      · have := cg_eq (n := p) h6 (by omega) (by omega)
        omega
      · have := cg_eq (n := p) (cg_0.mpr h6) (by omega) (by omega)
        omega) (by
    intro r hr
    rcases List.mem_cons.mp hr with rfl | hr
    · exact h1
    · obtain ⟨j, hj, rfl⟩ := List.mem_map.mp hr
      rw [List.mem_range'_1] at hj
      refine euler_sq hp ho (fun h4 => ?_) ⟨j, cg_rf _ _⟩
      rcases pm_mulZ hp h4 with h5 | h5
      · have := Nat.le_of_dvd (by omega) (Int.ofNat_dvd.mp h5)
        omega
      · have := Nat.le_of_dvd (by omega) (Int.ofNat_dvd.mp h5)
        omega)
  simp at h3
  omega
/-- Legendre's symbol -/
noncomputable def leg (p : Nat) (a : Int) : Int := by
  classical
  exact if (p : Int) ∣ a then 0 else if sq p a then 1 else -1
theorem leg_0 {p : Nat} {a : Int} (h : (p : Int) ∣ a) : leg p a = 0 := by unfold leg; rw [if_pos h]
theorem leg_1 {p : Nat} {a : Int} (h : ¬ (p : Int) ∣ a) (h2 : sq p a) : leg p a = 1 := by unfold leg; rw [if_neg h, if_pos h2]
theorem leg_m {p : Nat} {a : Int} (h : ¬ (p : Int) ∣ a) (h2 : ¬ sq p a) : leg p a = -1 := by unfold leg; rw [if_neg h, if_neg h2]
theorem leg_in (p : Nat) (a : Int) : leg p a = 0 ∨ leg p a = 1 ∨ leg p a = -1 := by
  unfold leg; split
  · exact Or.inl rfl
  · split
    · exact Or.inr (Or.inl rfl)
    · exact Or.inr (Or.inr rfl)
theorem leg_cg {p : Nat} (hp : pm p) (ho : p % 2 = 1) (a : Int) : cg p (leg p a) (a ^ hf p) := by
  by_cases h : (p : Int) ∣ a
  · rw [leg_0 h]
    have h1 : hf p ≠ 0 := by have := hf_odd ho; have := hp.1; omega
    obtain ⟨k, hk⟩ : ∃ k, hf p = k + 1 := ⟨hf p - 1, by omega⟩
    rw [hk, Int.pow_succ]
    exact cg_sy (cg_0.mpr (Int.dvd_mul_of_dvd_right h))
  · by_cases h2 : sq p a
    · rw [leg_1 h h2]; exact cg_sy (euler_sq hp ho h h2)
    · rw [leg_m h h2]; exact cg_sy (euler_nsq hp ho h h2)
theorem three_le {p : Nat} (hp : pm p) (ho : p % 2 = 1) : 3 ≤ p := by have := hp.1; omega
/-- of -1, 0, 1 no two are alike modulo an odd prime -/
theorem sgn_eq {p : Nat} (hp : pm p) (ho : p % 2 = 1) {x y : Int} (h : cg p x y) (hx : x = 0 ∨ x = 1 ∨ x = -1) (hy : y = 0 ∨ y = 1 ∨ y = -1) : x = y := by
  have := three_le hp ho
  exact cg_eq h (by omega) (by omega)
theorem leg_mul {p : Nat} (hp : pm p) (ho : p % 2 = 1) (a b : Int) : leg p (a * b) = leg p a * leg p b := by
  refine sgn_eq hp ho ?_ (leg_in _ _) ?_
  · refine cg_tr (leg_cg hp ho _) ?_
    rw [Int.mul_pow]
    exact cg_sy (cg_mul (leg_cg hp ho a) (leg_cg hp ho b))
  · rcases leg_in p a with h | h | h <;> rcases leg_in p b with g | g | g <;> rw [h, g] <;> decide
theorem leg_like {p : Nat} (hp : pm p) (ho : p % 2 = 1) {a b : Int} (h : cg p a b) : leg p a = leg p b :=
  sgn_eq hp ho (cg_tr (leg_cg hp ho a) (cg_tr (cg_pow h _) (cg_sy (leg_cg hp ho b)))) (leg_in _ _) (leg_in _ _)
theorem leg_gauss {p a : Nat} (hp : pm p) (ho : p % 2 = 1) (ha : ¬ p ∣ a) : leg p a = (-1) ^ gm p a (hf p) := by
  refine sgn_eq hp ho (cg_tr (leg_cg hp ho a) (gauss hp ho ha)) (leg_in _ _) ?_
  rw [neg1_pow]
  split
  · exact Or.inr (Or.inl rfl)
  · exact Or.inr (Or.inr rfl)
