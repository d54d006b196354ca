/-! what residue, raise and invert answer -/
theorem lrm_Z {a b : Int} (ha : in64 a) (hb : in64 b) (h : b ≠ -1) : lrm (lZ a) (lZ b) = lZ (a.tmod b) := lZ_rem ha hb h
theorem irm_Z {a b : Int} (ha : in32 a) (hb : in32 b) (h : b ≠ -1) : irm (iZ a) (iZ b) = iZ (a.tmod b) := iZ_rem ha hb h
theorem in64_lt {a m : Int} (h0 : 0 ≤ a) (h1 : a < m) (hm : m < 2147483648) : in64 a := ⟨by omega, by omega⟩
theorem in64_mul {a b : Int} (a0 : 0 ≤ a) (a1 : a < 2147483648) (b0 : 0 ≤ b) (b1 : b < 2147483648) : in64 (a * b) := by
  have h1 : 0 ≤ a * b := Int.mul_nonneg a0 b0
  have h2 : a * b ≤ 2147483648 * b := Int.mul_le_mul_of_nonneg_right (by omega) b0
  exact ⟨by omega, by omega⟩
theorem residue_spec {F : Nat} {a m : Int} (ha : in64 a) (hm : 1 ≤ m) (hm2 : m < 2147483648) : f_r_residue F (lZ a) (iZ m) = some (iZ (a % m)) := by
  have im : in32 m := ⟨by omega, by omega⟩
  have lm : in64 m := in32_64 im
  unfold f_r_residue
  rw [show (1 : Int32) = iZ 1 from rfl, if_pos ((iZ_le (by decide) im).mpr hm), iZ_l im, lrm_Z ha lm (by omega), if_neg (fun h => by
    have := (lZ_eq lm (by decide)).mp (h.trans (show (0 : Int64) = lZ 0 from rfl))
    omega), show (0 : Int64) = lZ 0 from rfl, lZ_add, lZ_i, lZ_i]
  have e := Int.tmod_eq_emod (a := a) (b := m)
  have h0 := Int.emod_nonneg a (show m ≠ 0 by omega)
  have h1 := Int.emod_lt_of_pos a (show 0 < m by omega)
  have hn : (m.natAbs : Int) = m := by omega
  by_cases c : 0 ≤ a ∨ m ∣ a
  · rw [if_pos c] at e
    rw [if_pos ((lZ_le (by decide) ⟨by omega, by omega⟩).mpr (by omega)), e]
    congr 2
    omega
  · rw [if_neg c, hn] at e
    rw [if_neg (fun h => by
      have := (lZ_le (by decide) ⟨by omega, by omega⟩).mp h
      omega), e]
    congr 2
    omega
theorem emod_cg {m a b : Int} (h : cg m a b) : a % m = b % m := cg_iff.mp h
theorem emod_self' {m a : Int} (h0 : 0 ≤ a) (h1 : a < m) : a % m = a := Int.emod_eq_of_lt h0 h1
theorem raise_loop {F : Nat} {m : Int} (hm : 1 ≤ m) (hm2 : m < 2147483648) : ∀ (k fu i R : Nat) (P S : Int), k < fu → i + k = 63 → R < 2 ^ k → 0 ≤ P → P < m → 0 ≤ S → S < m → l_r_raise_24 F (iZ m) fu (lZ P) (lZ S) (lZ R) (iZ i) = some (lZ ((P * S ^ R) % m)) := by
  intro k
  induction k with
  | zero =>
    intro fu i R P S hf hi hR p0 p1 s0 s1
    obtain ⟨fu, rfl⟩ : ∃ z, fu = z + 1 := ⟨fu - 1, by omega⟩
    have : R = 0 := by omega
    subst this
    have : i = 63 := by omega
    subst this
    rw [l_r_raise_24, if_pos (by decide), Int.pow_zero, Int.mul_one, emod_self' p0 p1]
  | succ k ih =>
    intro fu i R P S hf hi hR p0 p1 s0 s1
    obtain ⟨fu, rfl⟩ : ∃ z, fu = z + 1 := ⟨fu - 1, by omega⟩
    have hR63 : R < 2 ^ 63 := Nat.lt_of_lt_of_le hR (Nat.pow_le_pow_right (by decide) (by omega))
    have lR : in64 (R : Int) := ⟨by omega, by omega⟩
    rw [l_r_raise_24, show (63 : Int32) = iZ 63 from rfl, if_neg (fun h => by
      have := (iZ_le (by decide) ⟨by omega, by omega⟩).mp h
      omega), show (0 : Int64) = lZ 0 from rfl]
    by_cases h0 : R = 0
    · subst h0
      rw [if_pos ((lZ_le lR (by decide)).mpr (by omega)), Int.pow_zero, Int.mul_one, emod_self' p0 p1]
    · rw [if_neg (fun h => by
        have := (lZ_le lR (by decide)).mp h
        omega), show (2 : Int64) = lZ 2 from rfl, lrm_Z lR (by decide) (by decide), lZ_mul, lZ_mul, residue_spec (in64_mul p0 (by omega) s0 (by omega)) hm hm2, residue_spec (in64_mul s0 (by omega) s0 (by omega)) hm hm2, lZ_div lR (by decide) (by decide), show (1 : Int64) = lZ 1 from rfl]
      have m1 := Int.emod_nonneg (P * S) (show m ≠ 0 by omega)
      have m2 := Int.emod_lt_of_pos (P * S) (show 0 < m by omega)
      have m3 := Int.emod_nonneg (S * S) (show m ≠ 0 by omega)
      have m4 := Int.emod_lt_of_pos (S * S) (show 0 < m by omega)
      have e1 : ((R : Int).tdiv 2) = ((R / 2 : Nat) : Int) := by rw [Int.natCast_tdiv_eq_ediv]; rfl
      have e2 : ((R : Int).tmod 2) = ((R % 2 : Nat) : Int) := by rw [Int.tmod_eq_emod_of_nonneg (by omega)]; rfl
      have e3 : iZ (i : Int) + 1 = iZ ((i + 1 : Nat) : Int) := by rw [show (1 : Int32) = iZ 1 from rfl, iZ_add]; rfl
      have hS : cg m (((S * S) % m) ^ (R / 2)) (S ^ (2 * (R / 2))) := by
        refine cg_tr (cg_pow (cg_emod m (S * S)) (R / 2)) ?_
        rw [Int.mul_pow, ← Int.pow_add, ← Nat.two_mul]
        exact cg_rf _ _
      rw [e1, e2]
      show (if lZ ((R % 2 : Nat) : Int) = lZ 1 then l_r_raise_24 F (iZ m) fu (Int32.toInt64 (iZ ((P * S) % m))) (Int32.toInt64 (iZ ((S * S) % m))) (lZ ((R / 2 : Nat) : Int)) (iZ (i : Int) + 1) else l_r_raise_24 F (iZ m) fu (lZ P) (Int32.toInt64 (iZ ((S * S) % m))) (lZ ((R / 2 : Nat) : Int)) (iZ (i : Int) + 1)) = _
      rw [e3, iZ_l ⟨by omega, by omega⟩, iZ_l ⟨by omega, by omega⟩]
      by_cases c : R % 2 = 1
      · rw [if_pos (by rw [c]; rfl), ih fu (i + 1) (R / 2) _ _ (by omega) (by omega) (by rw [Nat.pow_succ] at hR; omega) m1 m2 m3 m4]
        congr 2
        refine emod_cg (cg_tr (cg_mul (cg_emod m (P * S)) hS) ?_)
        rw [Int.mul_assoc, ← Int.pow_succ', show 2 * (R / 2) + 1 = R by omega]
        exact cg_rf _ _
      · rw [if_neg (fun h => c (by
          have := (lZ_eq ⟨by omega, by omega⟩ (by decide)).mp h
          omega)), ih fu (i + 1) (R / 2) _ _ (by omega) (by omega) (by rw [Nat.pow_succ] at hR; omega) p0 p1 m3 m4]
        congr 2
        refine emod_cg (cg_tr (cg_mul (cg_rf m P) hS) ?_)
        rw [show 2 * (R / 2) = R by omega]
        exact cg_rf _ _
theorem raise_spec {F : Nat} (hF : 64 ≤ F) {b m : Int} {e : Nat} (hb : in64 b) (he : e < 2 ^ 63) (hm : 1 ≤ m) (hm2 : m < 2147483648) : f_r_raise F (lZ b) (lZ e) (iZ m) = some (iZ (b ^ e % m)) := by
  have m1 := Int.emod_nonneg 1 (show m ≠ 0 by omega)
  have m2 := Int.emod_lt_of_pos 1 (show 0 < m by omega)
  have m3 := Int.emod_nonneg b (show m ≠ 0 by omega)
  have m4 := Int.emod_lt_of_pos b (show 0 < m by omega)
  unfold f_r_raise
  rw [show (1 : Int64) = lZ 1 from rfl, residue_spec (by decide) hm hm2, residue_spec hb hm hm2]
  show (b1 (l_r_raise_24 F (iZ m) F (Int32.toInt64 (iZ (1 % m))) (Int32.toInt64 (iZ (b % m))) (lZ e) 0) fun x5_3 => some (Int64.toInt32 x5_3)) = _
  rw [iZ_l ⟨by omega, by omega⟩, iZ_l ⟨by omega, by omega⟩, show (0 : Int32) = iZ ((0 : Nat) : Int) from rfl, raise_loop hm hm2 63 F 0 e _ _ (by omega) (by omega) he m1 m2 m3 m4]
  show some (Int64.toInt32 (lZ _)) = _
  rw [lZ_i]
  congr 2
  refine emod_cg (cg_tr (cg_mul (cg_emod m 1) (cg_pow (cg_emod m b) e)) ?_)
  rw [Int.one_mul]
  exact cg_rf _ _
theorem half_mod {r n : Nat} (h0 : 0 < n) (h : n < r) : 2 * (r % n) ≤ r := by
  have h1 := Nat.mod_lt r h0
  have h2 := Nat.div_add_mod r n
  have h3 : 1 ≤ r / n := (Nat.le_div_iff_mul_le h0).mpr (by omega)
  have h4 : n * 1 ≤ n * (r / n) := Nat.mul_le_mul_left _ h3
  omega
theorem inv_loop {F : Nat} {m : Nat} {a : Int} (hm2 : m ≤ 4194304) : ∀ (fu i r n : Nat) (s : Int) (f g : Nat), 65 ≤ i + fu → i ≤ 44 → n < r → r ≤ m → r * n * 2 ^ i < 2 ^ 44 → (s = 1 ∨ s = -1) → f * n + g * r = m → f ≤ m → cg m (r : Int) (-s * f * a) → cg m (n : Int) (s * g * a) →
    ∃ (r' : Nat) (f' : Int), l_r_invert_18 F fu (iZ r) (iZ (-s * f)) (iZ n) (iZ (s * g)) (iZ i) = some (iZ r', iZ f') ∧ r' = Nat.gcd r n ∧ cg m (r' : Int) (f' * a) ∧ -4194304 ≤ f' ∧ f' ≤ 4194304 := by
  intro fu
  induction fu with
  | zero => intro i r n s f g hi hi2; omega
  | succ fu ih =>
    intro i r n s f g hi hi2 hn hr hP hs hd hf c1 c2
    rw [l_r_invert_18, show (64 : Int32) = iZ 64 from rfl, if_neg (fun h => by
      have := (iZ_le (by decide) ⟨by omega, by omega⟩).mp h
      omega), show (0 : Int32) = iZ 0 from rfl]
    have in_n : in32 (n : Int) := ⟨by omega, by omega⟩
    have in_r : in32 (r : Int) := ⟨by omega, by omega⟩
    by_cases h0 : n = 0
    · rw [if_pos ((iZ_le in_n (by decide)).mpr (by omega))]
      refine ⟨r, -s * f, rfl, by rw [h0, Nat.gcd_zero_right], c1, ?_, ?_⟩ <;> rcases hs with rfl | rfl <;> omega
    · rw [if_neg (fun h => by
        have := (iZ_le in_n (by decide)).mp h
        omega), if_neg (fun h => by
        have := (iZ_eq in_n (by decide)).mp h
        omega)]
      have hq : (r : Int).tdiv n = ((r / n : Nat) : Int) := by rw [Int.natCast_tdiv_eq_ediv]; rfl
      have hmod := Nat.div_add_mod r n
      have hmlt := Nat.mod_lt r (Nat.pos_of_ne_zero h0)
      rw [iZ_div in_r in_n (by omega), hq, iZ_mul, iZ_sub, iZ_mul, iZ_sub]
      have e1 : (r : Int) - ((r / n : Nat) : Int) * n = ((r % n : Nat) : Int) := by
        have : ((n * (r / n) + r % n : Nat) : Int) = r := by rw [hmod]
        rw [Int.natCast_add, Int.natCast_mul] at this
        rw [Int.mul_comm]; omega
      have e2 : -s * (f : Int) - ((r / n : Nat) : Int) * (s * g) = -s * ((f + r / n * g : Nat) : Int) := by
        rw [Int.natCast_add, Int.natCast_mul]; grind
      have e3 : iZ (i : Int) + 1 = iZ ((i + 1 : Nat) : Int) := by rw [show (1 : Int32) = iZ 1 from rfl, iZ_add]; rfl
      have e4 : s * (g : Int) = - -s * (g : Int) := by rw [Int.neg_neg]
      rw [e1, e2, e3, e4]
      have hhalf := half_mod (Nat.pos_of_ne_zero h0) hn
      have hP2 : n * (r % n) * 2 ^ (i + 1) < 2 ^ 44 := by
        have h1 : n * (r % n) * 2 ^ (i + 1) = n * (2 * (r % n)) * 2 ^ i := by rw [Nat.pow_succ]; grind
        have h2 : n * (2 * (r % n)) * 2 ^ i ≤ n * r * 2 ^ i := Nat.mul_le_mul_right _ (Nat.mul_le_mul_left _ hhalf)
        rw [Nat.mul_comm n r] at h2
        omega
      have hi44 : i + 1 ≤ 44 := by
        rcases Nat.lt_or_ge i 44 with h | h
        · exact h
        · exfalso
          have h1 : 2 ^ 44 ≤ 2 ^ i := Nat.pow_le_pow_right (by decide) h
          have h2 : 1 * 2 ^ i ≤ r * n * 2 ^ i := Nat.mul_le_mul_right _ (Nat.mul_pos (by omega) (Nat.pos_of_ne_zero h0))
          omega
      have hd2 : g * (r % n) + (f + r / n * g) * n = m := by
        rw [← hd]
        have : g * r = g * (n * (r / n) + r % n) := by rw [hmod]
        rw [this]; grind
      have hg : g ≤ m := by
        have : g * 1 ≤ g * r := Nat.mul_le_mul_left _ (by omega)
        omega
      obtain ⟨r', f', k1, k2, k3, k4⟩ := ih (i + 1) n (r % n) (-s) g (f + r / n * g) (by omega) hi44 hmlt (by omega) hP2 (by rcases hs with rfl | rfl <;> decide) hd2 hg
        (by rw [Int.neg_neg]; exact c2)
        (by
          have h1 := cg_sub c1 (cg_mul (cg_rf m ((r / n : Nat) : Int)) c2)
          rw [e1] at h1
          rw [← e2]
          rw [show (-s * (f : Int) - ((r / n : Nat) : Int) * (s * g)) * a = -s * f * a - ((r / n : Nat) : Int) * (s * g * a) by grind]
          exact h1)
      refine ⟨r', f', k1, ?_, k3, k4⟩
      rw [k2, Nat.gcd_comm r n, Nat.gcd_rec n r, Nat.gcd_comm]
theorem invert_spec {F : Nat} (hF : 65 ≤ F) {m : Nat} {a : Int} (ha : in64 a) (hm : 1 ≤ m) (hm2 : m ≤ 4194304) : ∃ x : Int, f_r_invert F (lZ a) (iZ m) = some (iZ x) ∧ ((0 ≤ x ∧ x < m ∧ cg m (x * a) 1) ∨ (x = -1 ∧ ∀ y : Int, ¬ cg m (y * a) 1)) := by
  have in_m : in32 (m : Int) := ⟨by omega, by omega⟩
  have n0 := Int.emod_nonneg a (show (m : Int) ≠ 0 by omega)
  have n1 := Int.emod_lt_of_pos a (show (0 : Int) < m by omega)
  obtain ⟨n, hn⟩ : ∃ n : Nat, a % (m : Int) = n := ⟨(a % (m : Int)).toNat, by omega⟩
  have hca : cg m (n : Int) a := by rw [← hn]; exact cg_emod _ _
  unfold f_r_invert
  rw [residue_spec ha (by omega) (by omega), hn]
  obtain ⟨r', f', k1, k2, k3, k4⟩ := inv_loop (F := F) (m := m) (a := a) hm2 F 0 m n 1 0 1 (by omega) (by omega) (by omega) (Nat.le_refl _) (by
    have h1 : m * n ≤ 4194304 * 4194303 := Nat.mul_le_mul hm2 (by omega)
    simp only [Nat.pow_zero, Nat.mul_one]
    omega) (Or.inl rfl) (by omega) (by omega) (by
    have : cg m (m : Int) 0 := cg_0.mpr (Int.dvd_refl _)
    simpa using this) (by simpa using hca)
  show ∃ x : Int, (b2 (l_r_invert_18 F F (iZ m) 0 (iZ n) 1 0) fun x3_2 x4_2 => if x3_2 = 1 then b1 (f_r_residue F (Int32.toInt64 x4_2) (iZ m)) fun r4 => some r4 else some (-1)) = some (iZ x) ∧ _
  have k1' : l_r_invert_18 F F (iZ m) 0 (iZ n) 1 0 = some (iZ r', iZ f') := by
    show l_r_invert_18 F F (iZ m) (iZ 0) (iZ n) (iZ 1) (iZ 0) = _
    simpa using k1
  rw [k1']
  show ∃ x : Int, (if iZ r' = 1 then b1 (f_r_residue F (Int32.toInt64 (iZ f')) (iZ m)) fun r4 => some r4 else some (-1)) = some (iZ x) ∧ _
  have hr' : r' ≤ m := by rw [k2]; exact Nat.gcd_le_left _ (by omega)
  rw [iZ_l ⟨by omega, by omega⟩, residue_spec ⟨by omega, by omega⟩ (by omega) (by omega)]
  by_cases c : r' = 1
  · rw [if_pos (by rw [c]; rfl)]
    refine ⟨f' % m, rfl, Or.inl ⟨Int.emod_nonneg _ (by omega), Int.emod_lt_of_pos _ (by omega), ?_⟩⟩
    refine cg_tr (cg_mul (cg_emod m f') (cg_rf m a)) ?_
    rw [c] at k3
    exact cg_sy k3
  · rw [if_neg (fun h => c (by
      have := (iZ_eq ⟨by omega, by omega⟩ (by decide)).mp (h.trans (show (1 : Int32) = iZ 1 from rfl))
      omega))]
    refine ⟨-1, rfl, Or.inr ⟨rfl, fun y hy => c ?_⟩⟩
    have d1 : (r' : Int) ∣ m := Int.ofNat_dvd.mpr (by rw [k2]; exact Nat.gcd_dvd_left _ _)
    have d2 : (r' : Int) ∣ n := Int.ofNat_dvd.mpr (by rw [k2]; exact Nat.gcd_dvd_right _ _)
    have h1 : cg m (y * n) 1 := cg_tr (cg_mul (cg_rf m y) hca) hy
    have h2 : (r' : Int) ∣ y * n - 1 := Int.dvd_trans d1 h1
    have h3 : (r' : Int) ∣ 1 := by
      have := Int.dvd_sub (Int.dvd_mul_of_dvd_right (b := y) d2) h2
      rwa [show y * (n : Int) - (y * n - 1) = 1 by omega] at this
    have h4 := Int.ofNat_dvd.mp (show ((r' : Nat) : Int) ∣ ((1 : Nat) : Int) from h3)
    exact Nat.eq_one_of_dvd_one h4
