/-! the reference's power and inverse; class and reference alike -/
theorem lZ_ne0 {a : Int} (ha : in64 a) (h : a ≠ 0) : ¬ lZ a = 0 := fun g => h ((lZ_eq ha (by decide)).mp (g.trans (show (0 : Int64) = lZ 0 from rfl)))
theorem lZ_nez {a : Int} (ha : in64 a) (h : a ≠ 0) : ¬ lZ a = lZ 0 := lZ_ne0 ha h
theorem times_spec {F N : Nat} (h0 : 0 < N) (hN : N ≤ 4194304) {x y : Int} (x0 : 0 ≤ x) (x1 : x < N) (y0 : 0 ≤ y) (y1 : y < N) : f_m_times F (iZ N) (lZ x) (lZ y) = some (lZ (x * y % N)) := by
  unfold f_m_times
  rw [iZ_l ⟨by omega, by omega⟩, if_neg (lZ_ne0 ⟨by omega, by omega⟩ (by omega)), lZ_mul, lrm_Z (in64_mul x0 (by omega) y0 (by omega)) ⟨by omega, by omega⟩ (by omega), Int.tmod_eq_emod_of_nonneg (Int.mul_nonneg x0 y0)]
theorem pw88 {F N : Nat} (h0 : 0 < N) (hN : N ≤ 4194304) {q : Int} (q0 : 0 ≤ q) (q1 : q < N) : ∀ (k fu j : Nat) (x : Int), k < fu → j + k = 10 → 0 ≤ x → x < N → l_m_power_88 F (lZ q) (iZ N) fu (lZ x) (iZ j) = some (lZ (x * q ^ k % N)) := by
  intro k
  induction k with
  | zero =>
    intro fu j x hfu hj x0 x1
    obtain ⟨fu, rfl⟩ : ∃ z, fu = z + 1 := ⟨fu - 1, by omega⟩
    have : j = 10 := by omega
    subst this
    rw [l_m_power_88, if_pos (by decide), Int.pow_zero, Int.mul_one, emod_self' x0 x1]
  | succ k ih =>
    intro fu j x hfu hj x0 x1
    obtain ⟨fu, rfl⟩ : ∃ z, fu = z + 1 := ⟨fu - 1, by omega⟩
    have m0 := Int.emod_nonneg (x * q) (show (N : Int) ≠ 0 by omega)
    have m1 := Int.emod_lt_of_pos (x * q) (show (0 : Int) < N by omega)
    rw [l_m_power_88, show (10 : Int32) = iZ 10 from rfl, if_neg (fun h => by
      have := (iZ_le (by decide) ⟨by omega, by omega⟩).mp h
      omega), times_spec h0 hN x0 x1 q0 q1]
    show l_m_power_88 F (lZ q) (iZ N) fu (lZ (x * q % N)) (iZ j + 1) = _
    rw [show iZ (j : Int) + 1 = iZ ((j + 1 : Nat) : Int) by rw [show (1 : Int32) = iZ 1 from rfl, iZ_add]; rfl, ih fu (j + 1) _ (by omega) (by omega) m0 m1]
    congr 2
    refine emod_cg (cg_tr (cg_mul (cg_emod N (x * q)) (cg_rf _ _)) ?_)
    rw [Int.mul_assoc, ← Int.pow_succ']
    exact cg_rf _ _
theorem pw121 {F N : Nat} (h0 : 0 < N) (hN : N ≤ 4194304) {f : Int} (f0 : 0 ≤ f) (f1 : f < N) : ∀ (d fu : Nat) (x : Int), d < fu → d ≤ 9 → 0 ≤ x → x < N → l_m_power_121 F (lZ f) (iZ N) fu (lZ x) (lZ d) = some (lZ (x * f ^ d % N)) := by
  intro d
  induction d with
  | zero =>
    intro fu x hfu hd x0 x1
    obtain ⟨fu, rfl⟩ : ∃ z, fu = z + 1 := ⟨fu - 1, by omega⟩
    rw [l_m_power_121, if_pos (by decide), Int.pow_zero, Int.mul_one, emod_self' x0 x1]
  | succ d ih =>
    intro fu x hfu hd x0 x1
    obtain ⟨fu, rfl⟩ : ∃ z, fu = z + 1 := ⟨fu - 1, by omega⟩
    have m0 := Int.emod_nonneg (x * f) (show (N : Int) ≠ 0 by omega)
    have m1 := Int.emod_lt_of_pos (x * f) (show (0 : Int) < N by omega)
    rw [l_m_power_121, show (0 : Int64) = lZ 0 from rfl, if_neg (fun h => by
      have := (lZ_le (a := ((d + 1 : Nat) : Int)) ⟨by omega, by omega⟩ (by decide)).mp h
      omega), times_spec h0 hN x0 x1 f0 f1]
    show l_m_power_121 F (lZ f) (iZ N) fu (lZ (x * f % N)) (lZ ((d + 1 : Nat) : Int) - 1) = _
    rw [show lZ ((d + 1 : Nat) : Int) - 1 = lZ (d : Int) by rw [show (1 : Int64) = lZ 1 from rfl, lZ_sub]; congr 1; omega, ih fu _ (by omega) (by omega) m0 m1]
    congr 2
    refine emod_cg (cg_tr (cg_mul (cg_emod N (x * f)) (cg_rf _ _)) ?_)
    rw [Int.mul_assoc, ← Int.pow_succ']
    exact cg_rf _ _
theorem p10 {m : Nat} (h : m ≤ 18) : 0 < 10 ^ m ∧ 10 ^ m ≤ 10 ^ 18 := ⟨Nat.pow_pos (by decide), Nat.pow_le_pow_right (by decide) h⟩
theorem lZ_divN {a b : Nat} (ha : a < 2 ^ 63) (hb : b < 2 ^ 63) : lZ (a : Int) / lZ (b : Int) = lZ ((a / b : Nat) : Int) := by
  rw [lZ_div ⟨by omega, by omega⟩ ⟨by omega, by omega⟩ (by omega), Int.natCast_tdiv_eq_ediv]; rfl
theorem pw38 {F e : Nat} (he : e < 2 ^ 63) : ∀ (k fu i : Nat), k < fu → i + k = 18 → ∃ m : Nat, l_m_power_38 F (lZ e) fu (lZ ((10 ^ i : Nat) : Int)) = some (lZ ((10 ^ m : Nat) : Int)) ∧ m ≤ 18 ∧ e / 10 ^ m ≤ 9 := by
  intro k
  induction k with
  | zero =>
    intro fu i hfu hi
    obtain ⟨fu, rfl⟩ : ∃ z, fu = z + 1 := ⟨fu - 1, by omega⟩
    have : i = 18 := by omega
    subst this
    have h9 : e / 10 ^ 18 ≤ 9 := by omega
    refine ⟨18, ?_, Nat.le_refl _, h9⟩
    rw [l_m_power_38, if_neg (lZ_ne0 (by decide) (by decide)), lZ_divN he (by decide), show (9 : Int64) = lZ 9 from rfl, if_pos ((lZ_le ⟨by omega, by omega⟩ (by decide)).mpr (by omega))]
  | succ k ih =>
    intro fu i hfu hi
    obtain ⟨fu, rfl⟩ : ∃ z, fu = z + 1 := ⟨fu - 1, by omega⟩
    obtain ⟨w0, w1⟩ := p10 (m := i) (by omega)
    have hdl : e / 10 ^ i ≤ e := Nat.div_le_self _ _
    have hin : in64 ((e / 10 ^ i : Nat) : Int) := by
      generalize e / 10 ^ i = g at hdl
      exact ⟨by omega, by omega⟩
    rw [l_m_power_38, if_neg (lZ_ne0 ⟨by omega, by omega⟩ (by omega)), lZ_divN he (by omega), show (9 : Int64) = lZ 9 from rfl]
    by_cases c : e / 10 ^ i ≤ 9
    · rw [if_pos ((lZ_le hin (by decide)).mpr (by omega))]
      exact ⟨i, rfl, by omega, c⟩
    · rw [if_neg (fun h => by
        have := (lZ_le (a := ((e / 10 ^ i : Nat) : Int)) hin (by decide)).mp h
        omega), show (10 : Int64) = lZ 10 from rfl, lZ_mul, show ((10 ^ i : Nat) : Int) * 10 = ((10 ^ (i + 1) : Nat) : Int) by rw [Nat.pow_succ]; omega]
      exact ih fu (i + 1) (by omega) (by omega)
theorem pw69 {F N e : Nat} (hF : 2 ^ 31 ≤ F) (h0 : 0 < N) (hN : N ≤ 4194304) (he : e < 2 ^ 63) {f : Int} (f0 : 0 ≤ f) (f1 : f < N) : ∀ (m fu : Nat), m + 1 < fu → m ≤ 18 →
    l_m_power_69 F (lZ e) (lZ f) (iZ N) fu (lZ ((10 ^ m : Nat) : Int)) (lZ (f ^ (e / 10 ^ (m + 1)) % N)) = some (lZ (f ^ e % N)) := by
  have in_N : in32 (N : Int) := ⟨by omega, by omega⟩
  have one0 := Int.emod_nonneg 1 (show (N : Int) ≠ 0 by omega)
  have one1 := Int.emod_lt_of_pos 1 (show (0 : Int) < N by omega)
  intro m
  induction m with
  | zero =>
    intro fu hfu hm
    obtain ⟨fu, rfl⟩ : ∃ z, fu = z + 2 := ⟨fu - 2, by omega⟩
    have q0 := Int.emod_nonneg (f ^ (e / 10 ^ (0 + 1))) (show (N : Int) ≠ 0 by omega)
    have q1 := Int.emod_lt_of_pos (f ^ (e / 10 ^ (0 + 1))) (show (0 : Int) < N by omega)
    generalize hq : f ^ (e / 10 ^ (0 + 1)) % (N : Int) = q at q0 q1
    have t0 := Int.emod_nonneg (1 % (N : Int) * q ^ 10) (show (N : Int) ≠ 0 by omega)
    have t1 := Int.emod_lt_of_pos (1 % (N : Int) * q ^ 10) (show (0 : Int) < N by omega)
    have hd : e / 1 % 10 ≤ 9 := by omega
    have k1 := pw88 (F := F) h0 hN q0 q1 10 F 0 (1 % (N : Int)) (by omega) (by omega) one0 one1
    have k1' : l_m_power_88 F (lZ q) (iZ N) F (lZ (1 % (N : Int))) 0 = some (lZ (1 % (N : Int) * q ^ 10 % N)) := k1
    have k2 := pw121 (F := F) h0 hN f0 f1 (e / 1 % 10) F (1 % (N : Int) * q ^ 10 % N) (by omega) hd t0 t1
    rw [l_m_power_69, show (0 : Int64) = lZ 0 from rfl, if_neg (by decide), iZ_l in_N, if_neg (lZ_nez ⟨by omega, by omega⟩ (by omega)), show (1 : Int64) = lZ 1 from rfl, lrm_Z (by decide) ⟨by omega, by omega⟩ (by omega), Int.tmod_eq_emod_of_nonneg (by decide), k1']
    show (if lZ ((10 ^ 0 : Nat) : Int) = lZ 0 then none else b1 (l_m_power_121 F (lZ f) (iZ N) F (lZ (1 % (N : Int) * q ^ 10 % N)) (lrm (lZ e / lZ ((10 ^ 0 : Nat) : Int)) 10)) fun x11_5 => l_m_power_69 F (lZ e) (lZ f) (iZ N) (fu + 1) (lZ ((10 ^ 0 : Nat) : Int) / 10) x11_5) = _
    rw [if_neg (by decide), lZ_divN he (by decide), show (10 : Int64) = lZ 10 from rfl, lrm_Z ⟨by omega, by omega⟩ (by decide) (by decide), Int.tmod_eq_emod_of_nonneg (by omega), show ((e / 10 ^ 0 : Nat) : Int) % 10 = ((e / 1 % 10 : Nat) : Int) by rw [Nat.pow_zero]; omega, k2]
    show l_m_power_69 F (lZ e) (lZ f) (iZ N) (fu + 1) (lZ ((10 ^ 0 : Nat) : Int) / lZ 10) _ = _
    rw [l_m_power_69, if_pos (by decide)]
    congr 2
    refine emod_cg ?_
    rw [← hq]
    refine cg_tr (cg_mul (cg_emod _ _) (cg_rf _ _)) ?_
    refine cg_tr (cg_mul (cg_mul (cg_emod _ _) (cg_pow (cg_emod _ _) 10)) (cg_rf _ _)) ?_
    rw [Int.one_mul, ← Int.pow_mul, ← Int.pow_add, show e / 10 ^ (0 + 1) * 10 + e / 1 % 10 = e by omega]
    exact cg_rf _ _
  | succ m ih =>
    intro fu hfu hm
    obtain ⟨fu, rfl⟩ : ∃ z, fu = z + 1 := ⟨fu - 1, by omega⟩
    obtain ⟨w0, w1⟩ := p10 (m := m + 1) (by omega)
    have q0 := Int.emod_nonneg (f ^ (e / 10 ^ (m + 1 + 1))) (show (N : Int) ≠ 0 by omega)
    have q1 := Int.emod_lt_of_pos (f ^ (e / 10 ^ (m + 1 + 1))) (show (0 : Int) < N by omega)
    generalize hq : f ^ (e / 10 ^ (m + 1 + 1)) % (N : Int) = q at q0 q1
    have t0 := Int.emod_nonneg (1 % (N : Int) * q ^ 10) (show (N : Int) ≠ 0 by omega)
    have t1 := Int.emod_lt_of_pos (1 % (N : Int) * q ^ 10) (show (0 : Int) < N by omega)
    have hdl : e / 10 ^ (m + 1) ≤ e := Nat.div_le_self _ _
    have hin0 : (0 : Int) ≤ ((e / 10 ^ (m + 1) : Nat) : Int) := Int.natCast_nonneg _
    have hin : in64 ((e / 10 ^ (m + 1) : Nat) : Int) := by
      generalize e / 10 ^ (m + 1) = g at hdl
      exact ⟨by omega, by omega⟩
    have hd : e / 10 ^ (m + 1) % 10 ≤ 9 := by omega
    have k1 := pw88 (F := F) h0 hN q0 q1 10 F 0 (1 % (N : Int)) (by omega) (by omega) one0 one1
    have k1' : l_m_power_88 F (lZ q) (iZ N) F (lZ (1 % (N : Int))) 0 = some (lZ (1 % (N : Int) * q ^ 10 % N)) := k1
    have k2 := pw121 (F := F) h0 hN f0 f1 (e / 10 ^ (m + 1) % 10) F (1 % (N : Int) * q ^ 10 % N) (by omega) hd t0 t1
    rw [l_m_power_69, show (0 : Int64) = lZ 0 from rfl, if_neg (fun h => by
      have := (lZ_le (a := ((10 ^ (m + 1) : Nat) : Int)) ⟨by omega, by omega⟩ (by decide)).mp h
      omega), iZ_l in_N, if_neg (lZ_nez ⟨by omega, by omega⟩ (by omega)), show (1 : Int64) = lZ 1 from rfl, lrm_Z (by decide) ⟨by omega, by omega⟩ (by omega), Int.tmod_eq_emod_of_nonneg (by decide), k1']
    show (if lZ ((10 ^ (m + 1) : Nat) : Int) = lZ 0 then none else b1 (l_m_power_121 F (lZ f) (iZ N) F (lZ (1 % (N : Int) * q ^ 10 % N)) (lrm (lZ e / lZ ((10 ^ (m + 1) : Nat) : Int)) 10)) fun x11_5 => l_m_power_69 F (lZ e) (lZ f) (iZ N) fu (lZ ((10 ^ (m + 1) : Nat) : Int) / 10) x11_5) = _
    rw [if_neg (lZ_nez ⟨by omega, by omega⟩ (by omega)), lZ_divN he (by omega), show (10 : Int64) = lZ ((10 : Nat) : Int) from rfl, lrm_Z hin (by decide) (by decide), Int.tmod_eq_emod_of_nonneg hin0, show ((e / 10 ^ (m + 1) : Nat) : Int) % ((10 : Nat) : Int) = ((e / 10 ^ (m + 1) % 10 : Nat) : Int) by omega, k2, lZ_divN (by omega) (by decide), show 10 ^ (m + 1) / 10 = 10 ^ m by rw [Nat.pow_succ]; omega]
    show l_m_power_69 F (lZ e) (lZ f) (iZ N) fu (lZ ((10 ^ m : Nat) : Int)) (lZ (1 % (N : Int) * q ^ 10 % N * f ^ (e / 10 ^ (m + 1) % 10) % N)) = _
    have e3 : 1 % (N : Int) * q ^ 10 % N * f ^ (e / 10 ^ (m + 1) % 10) % N = f ^ (e / 10 ^ (m + 1)) % N := by
      refine emod_cg ?_
      rw [← hq]
      refine cg_tr (cg_mul (cg_emod _ _) (cg_rf _ _)) ?_
      refine cg_tr (cg_mul (cg_mul (cg_emod _ _) (cg_pow (cg_emod _ _) 10)) (cg_rf _ _)) ?_
      have e4 : e / 10 ^ (m + 1 + 1) = e / 10 ^ (m + 1) / 10 := by rw [Nat.pow_succ 10 (m + 1), Nat.div_div_eq_div_mul]
      rw [Int.one_mul, ← Int.pow_mul, ← Int.pow_add, e4, show e / 10 ^ (m + 1) / 10 * 10 + e / 10 ^ (m + 1) % 10 = e / 10 ^ (m + 1) by omega]
      exact cg_rf _ _
    rw [e3]
    exact ih fu (by omega) (by omega)
theorem power_same {F N : Nat} (hF : 2 ^ 31 ≤ F) (h0 : 0 < N) (hN : N ≤ 4194304) {b e : Int} (hb : in64 b) (he : in64 e) (co : Int32) :
    (f_r_power F (nI N) (lZ b) (lZ e) = some none ∧ f_m_power F co (nI N) (lZ b) (lZ e) = some (0, 1)) ∨ ∃ r : Int32, f_r_power F (nI N) (lZ b) (lZ e) = some (some r) ∧ f_m_power F co (nI N) (lZ b) (lZ e) = some (r, 0) := by
  rw [nI_iZ]
  unfold f_r_power f_m_power
  rw [show (0 : Int64) = lZ 0 from rfl]
  by_cases c : 0 ≤ e
  · right
    have in_N : in32 (N : Int) := ⟨by omega, by omega⟩
    obtain ⟨n, rfl⟩ : ∃ n : Nat, e = n := ⟨e.toNat, by omega⟩
    have hn : n < 2 ^ 63 := by have := he.2; omega
    rw [if_pos ((lZ_le (by decide) he).mpr c), if_pos ((lZ_le (by decide) he).mpr c), raise_spec (by omega) hb hn (by omega) (by omega)]
    refine ⟨iZ (b ^ n % N), rfl, ?_⟩
    have f0 := Int.emod_nonneg b (show (N : Int) ≠ 0 by omega)
    have f1 := Int.emod_lt_of_pos b (show (0 : Int) < N by omega)
    obtain ⟨m, k1, k2, k3⟩ := pw38 (F := F) hn 18 F 0 (by omega) (by omega)
    have k1' : l_m_power_38 F (lZ n) F 1 = some (lZ ((10 ^ m : Nat) : Int)) := k1
    rw [iZ_l in_N, mrest_spec hb (by omega) (by omega)]
    show (b1 (l_m_power_38 F (lZ n) F 1) fun x7_4 => if lZ (N : Int) = lZ 0 then none else b1 (l_m_power_69 F (lZ n) (lZ (b % N)) (iZ N) F x7_4 (lrm 1 (lZ (N : Int)))) fun x9_6 => some ((Int64.toInt32 x9_6), 0)) = _
    rw [k1']
    show (if lZ (N : Int) = lZ 0 then none else b1 (l_m_power_69 F (lZ n) (lZ (b % N)) (iZ N) F (lZ ((10 ^ m : Nat) : Int)) (lrm 1 (lZ (N : Int)))) fun x9_6 => some ((Int64.toInt32 x9_6), 0)) = _
    have k4 := pw69 (F := F) hF h0 hN hn f0 f1 m F (by omega) k2
    have e5 : n / 10 ^ (m + 1) = 0 := by
      rw [Nat.pow_succ, ← Nat.div_div_eq_div_mul]
      exact Nat.div_eq_of_lt (by omega)
    rw [e5, Int.pow_zero] at k4
    rw [if_neg (lZ_nez ⟨by omega, by omega⟩ (by omega)), show (1 : Int64) = lZ 1 from rfl, lrm_Z (by decide) ⟨by omega, by omega⟩ (by omega), Int.tmod_eq_emod_of_nonneg (by decide), k4]
    show some (Int64.toInt32 (lZ ((b % N) ^ n % N)), (0 : Int32)) = _
    rw [lZ_i, emod_cg (cg_pow (cg_emod (N : Int) b) n)]
  · left
    rw [if_neg (fun h => c ((lZ_le (by decide) he).mp h)), if_neg (fun h => c ((lZ_le (by decide) he).mp h))]
    exact ⟨rfl, rfl⟩
theorem minv_loop {F N : Nat} (h0 : 0 < N) (hN : N ≤ 4194304) {a : Int} (a0 : 0 ≤ a) (a1 : a < N) : ∀ (k fu x : Nat) (co : Int32), k < fu → x + k = N →
    (∃ y : Nat, x ≤ y ∧ y < N ∧ cg N ((y : Int) * a) 1 ∧ l_m_inverse_21 F (lZ a) (iZ N) fu (lZ (((x : Int) * a) % N)) (iZ x) co = some (iZ y, co)) ∨ ((∀ y : Nat, x ≤ y → y < N → ¬ cg N ((y : Int) * a) 1) ∧ l_m_inverse_21 F (lZ a) (iZ N) fu (lZ (((x : Int) * a) % N)) (iZ x) co = some (0, 1)) := by
  have in_N : in32 (N : Int) := ⟨by omega, by omega⟩
  intro k
  induction k with
  | zero =>
    intro fu x co hfu hx
    obtain ⟨fu, rfl⟩ : ∃ z, fu = z + 1 := ⟨fu - 1, by omega⟩
    right
    refine ⟨fun y g1 g2 => by omega, ?_⟩
    rw [l_m_inverse_21, if_pos ((iZ_le in_N ⟨by omega, by omega⟩).mpr (by omega))]
    rfl
  | succ k ih =>
    intro fu x co hfu hx
    obtain ⟨fu, rfl⟩ : ∃ z, fu = z + 1 := ⟨fu - 1, by omega⟩
    have m0 := Int.emod_nonneg ((x : Int) * a) (show (N : Int) ≠ 0 by omega)
    have m1 := Int.emod_lt_of_pos ((x : Int) * a) (show (0 : Int) < N by omega)
    have o0 := Int.emod_nonneg 1 (show (N : Int) ≠ 0 by omega)
    have o1 := Int.emod_lt_of_pos 1 (show (0 : Int) < N by omega)
    rw [l_m_inverse_21, if_neg (fun h => by
      have := (iZ_le in_N ⟨by omega, by omega⟩).mp h
      omega), iZ_l in_N, if_neg (lZ_ne0 ⟨by omega, by omega⟩ (by omega)), show (1 : Int64) = lZ 1 from rfl, lrm_Z (by decide) ⟨by omega, by omega⟩ (by omega), Int.tmod_eq_emod_of_nonneg (by decide), lZ_add, lrm_Z ⟨by omega, by omega⟩ ⟨by omega, by omega⟩ (by omega), Int.tmod_eq_emod_of_nonneg (by omega)]
    by_cases c : ((x : Int) * a) % N = 1 % N
    · rw [if_pos (by rw [c])]
      exact Or.inl ⟨x, Nat.le_refl _, by omega, cg_iff.mpr c, rfl⟩
    · rw [if_neg (fun h => c ((lZ_eq ⟨by omega, by omega⟩ ⟨by omega, by omega⟩).mp h)), if_neg (lZ_ne0 ⟨by omega, by omega⟩ (by omega)), show iZ (x : Int) + 1 = iZ ((x + 1 : Nat) : Int) by rw [show (1 : Int32) = iZ 1 from rfl, iZ_add]; rfl]
      have e2 : (((x : Int) * a) % N + a) % N = (((x + 1 : Nat) : Int) * a) % N := by
        refine emod_cg (cg_tr (cg_add (cg_emod _ _) (cg_rf _ a)) ?_)
        rw [show ((x + 1 : Nat) : Int) * a = (x : Int) * a + a by rw [show ((x + 1 : Nat) : Int) = (x : Int) + 1 by omega]; grind]
        exact cg_rf _ _
      rw [e2]
      rcases ih fu (x + 1) co (by omega) (by omega) with ⟨y, g1, g2, g3, g4⟩ | ⟨g1, g2⟩
      · exact Or.inl ⟨y, by omega, g2, g3, g4⟩
      · refine Or.inr ⟨fun y h1 h2 h3 => ?_, g2⟩
        rcases Nat.lt_or_ge x y with h | h
        · exact g1 y h h2 h3
        · have : y = x := by omega
          subst this
          exact c (cg_iff.mp h3)
theorem inverse_same {F N : Nat} (hF : 2 ^ 31 ≤ F) (h0 : 0 < N) (hN : N ≤ 4194304) {a : Int} (ha : in64 a) (co : Int32) :
    (f_r_inverse F (nI N) (lZ a) = some none ∧ f_m_inverse F co (nI N) (lZ a) = some (0, 1)) ∨ ∃ r : Int32, f_r_inverse F (nI N) (lZ a) = some (some r) ∧ f_m_inverse F co (nI N) (lZ a) = some (r, 0) := by
  have in_N : in32 (N : Int) := ⟨by omega, by omega⟩
  have m0 := Int.emod_nonneg a (show (N : Int) ≠ 0 by omega)
  have m1 := Int.emod_lt_of_pos a (show (0 : Int) < N by omega)
  have hca : cg N (a % N) a := cg_emod _ _
  obtain ⟨x, k1, k2⟩ := invert_spec (F := F) (by omega) (m := N) ha h0 hN
  rw [nI_iZ]
  unfold f_r_inverse f_m_inverse
  rw [k1, iZ_l in_N, mrest_spec ha (by omega) (by omega)]
  show ((if iZ x = -1 then some none else sm (some (iZ x))) = some none ∧ l_m_inverse_21 F (lZ (a % N)) (iZ N) F 0 0 0 = some (0, 1)) ∨ ∃ r : Int32, (if iZ x = -1 then some none else sm (some (iZ x))) = some (some r) ∧ l_m_inverse_21 F (lZ (a % N)) (iZ N) F 0 0 0 = some (r, 0)
  have hloop := minv_loop (F := F) h0 hN m0 m1 N F 0 0 (by omega) (by omega)
  have e0 : (((0 : Nat) : Int) * (a % N)) % N = 0 := by simp
  rw [e0] at hloop
  rcases k2 with ⟨x0, x1, hx⟩ | ⟨hx, hno⟩
  · right
    refine ⟨iZ x, ?_, ?_⟩
    · rw [if_neg (fun h => by
        have := (iZ_eq (a := x) (b := -1) ⟨by omega, by omega⟩ (by decide)).mp (h.trans (show (-1 : Int32) = iZ (-1) from rfl))
        omega)]
      rfl
    · rcases hloop with ⟨y, g1, g2, g3, g4⟩ | ⟨g1, -⟩
      · have hya : cg N ((y : Int) * a) 1 := cg_tr (cg_mul (cg_rf _ _) (cg_sy hca)) g3
        have hxy : cg N x y := by
          have h1 : cg N (x * ((y : Int) * a)) (x * 1) := cg_mul (cg_rf _ _) hya
          have h2 : cg N (y * (x * a)) (y * 1) := cg_mul (cg_rf _ _) hx
          rw [Int.mul_one] at h1 h2
          rw [show x * ((y : Int) * a) = y * (x * a) by grind] at h1
          exact cg_tr (cg_sy h1) h2
        have : x = y := cg_eq hxy (by omega) (by omega)
        rw [this]
        exact g4
      · exfalso
        refine g1 x.toNat (by omega) (by omega) ?_
        rw [Int.toNat_of_nonneg x0]
        exact cg_tr (cg_mul (cg_rf _ _) hca) hx
  · left
    rw [if_pos (by rw [hx]; rfl)]
    refine ⟨rfl, ?_⟩
    rcases hloop with ⟨y, g1, g2, g3, -⟩ | ⟨-, g2⟩
    · exact absurd (cg_tr (cg_mul (cg_rf _ _) (cg_sy hca)) g3) (hno y)
    · exact g2
