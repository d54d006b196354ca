/-! Chinese remainders and lifting, in whole numbers -/
theorem mod_of_cg {M x y : Int} (h0 : 0 ≤ x) (h1 : x < M) (h : cg M y x) : y % M = x := by
  rw [cg_iff.mp h, Int.emod_eq_of_lt h0 h1]
/-- the number below M * p that is like x modulo M and like r modulo p -/
def jn (M p st x r : Int) : Int := x + M * (((r - x) * st) % p)
theorem jn_in {M p st x r : Int} (hM : 0 < M) (hp : 0 < p) (h0 : 0 ≤ x) (h1 : x < M) : 0 ≤ jn M p st x r ∧ jn M p st x r < M * p := by
  have a := Int.emod_nonneg ((r - x) * st) (Int.ne_of_gt hp)
  have b := Int.emod_lt_of_pos ((r - x) * st) hp
  unfold jn
  generalize ((r - x) * st) % p = t at a b
  have h2 : 0 ≤ M * t := Int.mul_nonneg (by omega) a
  have h3 : M * (t + 1) ≤ M * p := Int.mul_le_mul_of_nonneg_left (by omega) (by omega)
  rw [Int.mul_add, Int.mul_one] at h3
  omega
theorem jn_M (M p st x r : Int) : cg M (jn M p st x r) x := ⟨((r - x) * st) % p, by unfold jn; omega⟩
theorem jn_p {M p st x r : Int} (hs : cg p (st * M) 1) : cg p (jn M p st x r) r := by
  have h1 : cg p (((r - x) * st) % p) ((r - x) * st) := cg_emod _ _
  have h2 : cg p (M * (((r - x) * st) % p)) (M * ((r - x) * st)) := cg_mul (cg_rf _ _) h1
  have h3 : cg p ((r - x) * (st * M)) ((r - x) * 1) := cg_mul (cg_rf _ _) hs
  have h4 := cg_add (cg_rf p x) (cg_tr h2 (by rw [show M * ((r - x) * st) = (r - x) * (st * M) by grind]; exact h3))
  unfold jn
  rw [show x + (r - x) * 1 = r by omega] at h4
  exact h4
theorem jn_uniq {M p st x r y : Int} (hM : 0 < M) (hp : 0 < p) (h0 : 0 ≤ x) (h1 : x < M) (hs : cg p (st * M) 1) (hy0 : 0 ≤ y) (hy1 : y < M * p) (hyM : cg M y x) (hyp : cg p y r) : y = jn M p st x r := by
  have hx := mod_of_cg h0 h1 hyM
  have hd := Int.mul_ediv_add_emod y M
  rw [hx] at hd
  have ht0 : 0 ≤ y / M := Int.ediv_nonneg hy0 (by omega)
  have ht1 : y / M < p := Int.ediv_lt_of_lt_mul hM (by rw [Int.mul_comm]; exact hy1)
  have h2 : cg p (y / M) ((r - x) * st) := by
    have h3 : cg p (M * (y / M)) (r - x) := by
      have := cg_sub hyp (cg_rf p x)
      rw [show y - x = M * (y / M) by omega] at this
      exact this
    have h4 := cg_mul h3 (cg_rf p st)
    have h5 := cg_mul hs (cg_rf p (y / M))
    rw [Int.one_mul] at h5
    refine cg_tr (cg_sy h5) ?_
    rw [show st * M * (y / M) = M * (y / M) * st by grind]
    exact h4
  have h6 := mod_of_cg ht0 ht1 (cg_sy h2)
  unfold jn
  rw [h6]
  omega
/-- alike modulo two numbers that share no divisor: alike modulo their product -/
theorem cg_join {A B : Nat} {a b : Int} (hc : Nat.Coprime A B) (h1 : cg A a b) (h2 : cg B a b) : cg ((A * B : Nat) : Int) a b := by
  unfold cg at *
  rw [Int.ofNat_dvd_left] at *
  exact hc.mul_dvd_of_dvd_of_dvd h1 h2
theorem cg_left {A B a b : Int} (h : cg (A * B) a b) : cg A a b := Int.dvd_trans (Int.dvd_mul_right _ _) h
theorem cg_right {A B a b : Int} (h : cg (A * B) a b) : cg B a b := Int.dvd_trans (Int.dvd_mul_left _ _) h
/-- roots modulo a prime: one and its negative -/
theorem rt_pm {p : Nat} (hp : pm p) {f y d : Int} (hf : cg p (f * f) d) (hy : cg p (y * y) d) : cg p y f ∨ cg p y (-f) := by
  have h := cg_tr hy (cg_sy hf)
  have h1 : (p : Int) ∣ (y - f) * (y + f) := by
    rw [show (y - f) * (y + f) = y * y - f * f by grind]; exact h
  rcases pm_mulZ hp h1 with h2 | h2
  · exact Or.inl h2
  · right; show (p : Int) ∣ y - -f; rw [show y - -f = y + f by omega]; exact h2
/-- lifting: when is x + t * M a root modulo M * p -/
theorem lift_iff {M p x t d k : Int} (hM : M ≠ 0) (hd : p ∣ M) (hk : x * x - d = M * k) : cg (M * p) ((x + t * M) * (x + t * M)) d ↔ p ∣ k + 2 * x * t := by
  obtain ⟨j, hj⟩ := hd
  have e : (x + t * M) * (x + t * M) - d = M * (k + 2 * x * t + p * (t * t * j)) := by
    have : (x + t * M) * (x + t * M) - d = (x * x - d) + M * (2 * x * t + t * t * M) := by grind
    rw [this, hk]
    grind
  unfold cg
  rw [e, Int.mul_dvd_mul_iff_left hM]
  constructor
  · intro h
    have := Int.dvd_sub h (Int.dvd_mul_right p (t * t * j))
    rw [show k + 2 * x * t + p * (t * t * j) - p * (t * t * j) = k + 2 * x * t by omega] at this
    exact this
  · intro h
    exact Int.dvd_add h (Int.dvd_mul_right p (t * t * j))
