/-! powers of 2, and the whole bound -/
theorem pm_2 : pm 2 := ⟨by decide, fun d h => by have := Nat.le_of_dvd (by decide) h; rcases (show d = 0 ∨ d = 1 ∨ d = 2 by omega) with rfl | rfl | rfl
                                                 · exact absurd (Nat.eq_zero_of_zero_dvd h) (by decide)
                                                 · exact Or.inl rfl
                                                 · exact Or.inr rfl⟩
theorem pm_3 : pm 3 := ⟨by decide, fun d h => by have := Nat.le_of_dvd (by decide) h; rcases (show d = 0 ∨ d = 1 ∨ d = 2 ∨ d = 3 by omega) with rfl | rfl | rfl | rfl
                                                 · exact absurd (Nat.eq_zero_of_zero_dvd h) (by decide)
                                                 · exact Or.inl rfl
                                                 · exact absurd (Nat.mod_eq_zero_of_dvd h) (by decide)
                                                 · exact Or.inr rfl⟩
theorem odd_rt {d : Int} (hd : ¬ (2 : Int) ∣ d) {k x : Nat} (hx : x ∈ rtl d (2 * k)) : x % 2 = 1 := by
  rw [rtl_mem, Int.natCast_mul] at hx
  have h1 : cg 2 ((x : Int) * x) d := cg_left hx.2
  rcases Nat.mod_two_eq_zero_or_one x with h | h
  · exfalso
    refine hd (cg_0.mp (cg_tr (cg_sy h1) (cg_0.mpr (Int.dvd_mul_of_dvd_left ?_))))
    omega
  · exact h
theorem rc2_1 {d : Int} (hd : ¬ (2 : Int) ∣ d) : rc d 2 ≤ 1 := by
  refine List.Nodup.length_le_of_subset (l₂ := [1]) (rtl_nd _ _) (fun x hx => ?_)
  have h1 := odd_rt (k := 1) hd hx
  have h2 := (rtl_mem.mp hx).1
  have : x = 1 := by omega
  rw [this]; exact List.mem_cons_self
theorem rc2_2 {d : Int} (hd : ¬ (2 : Int) ∣ d) : rc d 4 ≤ 2 := by
  refine List.Nodup.length_le_of_subset (l₂ := [1, 3]) (rtl_nd _ _) (fun x hx => ?_)
  have h1 := odd_rt (k := 2) hd hx
  have h2 := (rtl_mem.mp hx).1
  rcases (show x = 1 ∨ x = 3 by omega) with h | h <;> rw [h] <;> simp
theorem rc2_3 {d : Int} (hd : ¬ (2 : Int) ∣ d) (e : Nat) : rc d (2 ^ (e + 3)) ≤ 4 := by
  by_cases hpos : 0 < rc d (2 ^ (e + 3))
  · obtain ⟨x, hx⟩ := List.exists_mem_of_length_pos hpos
    have hM : 2 ^ (e + 3) = 2 * 2 ^ (e + 2) := by rw [Nat.pow_succ, Nat.mul_comm]
    have hM2 : 2 ^ (e + 2) = 2 * 2 ^ (e + 1) := by rw [Nat.pow_succ, Nat.mul_comm]
    have hh : 0 < 2 ^ (e + 1) := Nat.pow_pos (by decide)
    rw [hM] at hx
    have hxo := odd_rt hd hx
    have hsub : ∀ y ∈ rtl d (2 ^ (e + 3)), y ∈ [x % 2 ^ (e + 2), x % 2 ^ (e + 2) + 2 ^ (e + 2), 2 ^ (e + 2) - x % 2 ^ (e + 2), 2 ^ (e + 2) - x % 2 ^ (e + 2) + 2 ^ (e + 2)] := by
      intro y hy
      rw [hM] at hy
      have hyo := odd_rt hd hy
      rw [rtl_mem] at hx hy
      have h1 : cg ((2 * 2 ^ (e + 2) : Nat) : Int) ((y : Int) * y) ((x : Int) * x) := cg_tr hy.2 (cg_sy hx.2)
      obtain ⟨u, hu⟩ : ∃ u : Int, (y : Int) - x = 2 * u := ⟨((y : Int) - x) / 2, by omega⟩
      obtain ⟨v, hv⟩ : ∃ v : Int, (y : Int) + x = 2 * v := ⟨((y : Int) + x) / 2, by omega⟩
      have huv : u + v = y := by omega
      have h2 : ((2 ^ (e + 1) : Nat) : Int) ∣ u * v := by
        obtain ⟨k, hk⟩ := h1
        refine ⟨k, ?_⟩
        have h3 : (y : Int) * y - x * x = 4 * (u * v) := by
          have : ((y : Int) - x) * ((y : Int) + x) = (y : Int) * y - x * x := by grind
          rw [← this, hu, hv]; grind
        have h4 : ((2 * 2 ^ (e + 2) : Nat) : Int) = 4 * ((2 ^ (e + 1) : Nat) : Int) := by rw [hM2]; omega
        rw [h3, h4] at hk
        have h5 : (4 : Int) * (u * v) = 4 * (((2 ^ (e + 1) : Nat) : Int) * k) := by rw [hk]; grind
        omega
      have h3 : (2 ^ (e + 1)) ∣ u.natAbs * v.natAbs := by
        rw [← Int.natAbs_mul, ← Int.ofNat_dvd_left]; exact h2
      have key : ((2 ^ (e + 2) : Nat) : Int) ∣ (y : Int) - x ∨ ((2 ^ (e + 2) : Nat) : Int) ∣ (y : Int) + x := by
        by_cases hue : 2 ∣ u.natAbs
        · have hvo : ¬ 2 ∣ v.natAbs := by omega
          have h5 := ((pm_cop pm_2 hvo).pow_left (e + 1)).dvd_of_dvd_mul_right h3
          left
          obtain ⟨k, hk⟩ := Int.ofNat_dvd_left.mpr h5
          exact ⟨k, by rw [hu, hk, hM2, Int.natCast_mul]; grind⟩
        · have h5 := ((pm_cop pm_2 hue).pow_left (e + 1)).dvd_of_dvd_mul_left h3
          right
          obtain ⟨k, hk⟩ := Int.ofNat_dvd_left.mpr h5
          exact ⟨k, by rw [hv, hk, hM2, Int.natCast_mul]; grind⟩
      have hx1 := Nat.div_add_mod x (2 ^ (e + 2))
      have hy1 := Nat.div_add_mod y (2 ^ (e + 2))
      have hx2 : x % 2 ^ (e + 2) < 2 ^ (e + 2) := Nat.mod_lt _ (by omega)
      have hy2 : y % 2 ^ (e + 2) < 2 ^ (e + 2) := Nat.mod_lt _ (by omega)
      have hxp : 0 < x % 2 ^ (e + 2) := by
        rcases Nat.eq_zero_or_pos (x % 2 ^ (e + 2)) with h | h
        · exfalso
          rw [h, hM2, Nat.mul_assoc] at hx1
          omega
        · exact h
      have hq : y / 2 ^ (e + 2) = 0 ∨ y / 2 ^ (e + 2) = 1 := by
        have : y / 2 ^ (e + 2) < 2 := Nat.div_lt_of_lt_mul (by rw [Nat.mul_comm]; exact hy.1)
        clear hy1
        generalize y / 2 ^ (e + 2) = q at this
        omega
      have hmod : y % 2 ^ (e + 2) = x % 2 ^ (e + 2) ∨ y % 2 ^ (e + 2) = 2 ^ (e + 2) - x % 2 ^ (e + 2) := by
        rcases key with h | h
        · left
          refine nat_of_cg hy2 hx2 ?_
          exact cg_tr (cg_nmod y _) (cg_tr h (cg_sy (cg_nmod x _)))
        · right
          refine nat_of_cg hy2 (by omega) ?_
          refine cg_tr (cg_nmod y _) ?_
          have h6 : cg ((2 ^ (e + 2) : Nat) : Int) y (-x) := by
            show _ ∣ (y : Int) - -x
            rw [show (y : Int) - -x = y + x by omega]; exact h
          refine cg_tr h6 (cg_tr (cg_neg (cg_sy (cg_nmod x _))) ?_)
          rw [Int.natCast_sub (Nat.le_of_lt hx2)]
          exact ⟨-1, by omega⟩
      generalize 2 ^ (e + 2) = P at *
      rcases hq with hq | hq <;> rw [hq] at hy1 <;> rcases hmod with hm | hm
      · have : y = x % P := by omega
        rw [this]; simp
      · have : y = P - x % P := by omega
        rw [this]; simp
      · have : y = x % P + P := by omega
        rw [this]; simp
      · have : y = P - x % P + P := by omega
        rw [this]; simp
    exact List.Nodup.length_le_of_subset (rtl_nd _ _) hsub
  · omega
theorem rc_even : ∀ (e : Nat) (d : Int), rc d (2 ^ e) * rc d (2 ^ e) ≤ 2 * 2 ^ e
  | 0, d => by rw [Nat.pow_zero, rc_one]; omega
  | 1, d => by
    rw [Nat.pow_one]
    have h1 : rc d 2 ≤ 1 := by
      by_cases hd : (2 : Int) ∣ d
      · exact rc_p pm_2 hd
      · exact rc2_1 hd
    have := Nat.mul_le_mul h1 h1
    omega
  | e + 2, d => by
    by_cases hd : (2 : Int) ∣ d
    · by_cases hpos : 0 < rc d (2 ^ (e + 2))
      · obtain ⟨d', h1⟩ := rc_up pm_2 hd hpos
        have ih := rc_even e d'
        have h2 := Nat.mul_le_mul h1 h1
        have h5 : rc d' (2 ^ e) * 2 * (rc d' (2 ^ e) * 2) = 4 * (rc d' (2 ^ e) * rc d' (2 ^ e)) := by grind
        have h7 : 2 ^ (e + 2) = 4 * 2 ^ e := by rw [Nat.pow_add]; omega
        omega
      · have : rc d (2 ^ (e + 2)) = 0 := by omega
        rw [this]; omega
    · cases e with
      | zero =>
        have h1 := rc2_2 hd
        have := Nat.mul_le_mul h1 h1
        show rc d 4 * rc d 4 ≤ 2 * 4
        omega
      | succ e =>
        have h1 := rc2_3 hd e
        have h2 := Nat.mul_le_mul h1 h1
        have h3 : 2 ^ (e + 1 + 2) = 8 * 2 ^ e := by rw [show e + 1 + 2 = e + 3 by omega, Nat.pow_add]; omega
        have h4 : 0 < 2 ^ e := Nat.pow_pos (by decide)
        show rc d (2 ^ (e + 3)) * rc d (2 ^ (e + 3)) ≤ _
        omega
/-- a prime taken out as often as it goes -/
theorem out_pm {p : Nat} (hp : pm p) : ∀ M : Nat, 0 < M → ∃ e K, M = p ^ e * K ∧ ¬ p ∣ K ∧ 0 < K := by
  intro M
  induction M using Nat.strongRecOn with
  | ind M ih =>
    intro hM
    by_cases h : p ∣ M
    · obtain ⟨N, rfl⟩ := h
      have hp2 := hp.1
      have hN : 0 < N := Nat.pos_of_mul_pos_left hM
      have hlt : N < p * N := by
        have : 2 * N ≤ p * N := Nat.mul_le_mul_right _ hp2
        omega
      obtain ⟨e, K, h1, h2, h3⟩ := ih N hlt hN
      exact ⟨e + 1, K, by rw [h1, Nat.pow_succ, ← Nat.mul_assoc, Nat.mul_comm p], h2, h3⟩
    · exact ⟨0, M, by simp, h, hM⟩
theorem rc_6 : ∀ (K : Nat) (d : Int), 0 < K → ¬ 2 ∣ K → ¬ 3 ∣ K → rc d K * rc d K ≤ K := by
  intro K
  induction K using Nat.strongRecOn with
  | ind K ih =>
    intro d h0 h2 h3
    by_cases h1 : K = 1
    · rw [h1, rc_one]; omega
    · obtain ⟨p, hp, hd⟩ := pm_ex K (by omega)
      obtain ⟨e, L, hL, hnd, hL0⟩ := out_pm hp K h0
      have hp2 : p ≠ 2 := by rintro rfl; exact h2 hd
      have hp3 : p ≠ 3 := by rintro rfl; exact h3 hd
      have hpo : p % 2 = 1 := by
        rcases Nat.mod_two_eq_zero_or_one p with h | h
        · exact absurd (pm_dvd_pm pm_2 hp (Nat.dvd_of_mod_eq_zero h)).symm hp2
        · exact h
      have hp5 : 5 ≤ p := by have := hp.1; omega
      have he : 1 ≤ e := by
        rcases Nat.eq_zero_or_pos e with h | h
        · rw [h, Nat.pow_zero, Nat.one_mul] at hL
          exact absurd (hL ▸ hd) hnd
        · exact h
      have hpe : 2 ≤ p ^ e := by
        obtain ⟨k, rfl⟩ : ∃ k, e = k + 1 := ⟨e - 1, by omega⟩
        rw [Nat.pow_succ]
        have : 1 * p ≤ p ^ k * p := Nat.mul_le_mul_right _ (Nat.pow_pos (by omega))
        omega
      have hlt : L < K := by
        rw [hL]
        have : 2 * L ≤ p ^ e * L := Nat.mul_le_mul_right _ hpe
        omega
      have hdvd : L ∣ K := ⟨p ^ e, by rw [hL, Nat.mul_comm]⟩
      have i1 := ih L hlt d hL0 (fun h => h2 (Nat.dvd_trans h hdvd)) (fun h => h3 (Nat.dvd_trans h hdvd))
      have i2 := rc_odd hp hpo (u := 1) (v := 1) (Nat.le_refl 1) (by omega) e d
      have i3 := rc_mul (d := d) (A := p ^ e) (B := L) (Nat.pow_pos (by omega)) hL0 ((pm_cop hp hnd).pow_left e)
      rw [← hL] at i3
      have i4 := Nat.mul_le_mul i3 i3
      rw [Nat.one_mul, Nat.one_mul] at i2
      have i5 := Nat.mul_le_mul i2 i1
      rw [← hL] at i5
      have i6 : rc d (p ^ e) * rc d L * (rc d (p ^ e) * rc d L) = rc d (p ^ e) * rc d (p ^ e) * (rc d L * rc d L) := by grind
      omega
/-- the square of the number of roots modulo M is at most 8/3 of M -/
theorem rc_le (d : Int) (M : Nat) (hM : 0 < M) : 3 * (rc d M * rc d M) ≤ 8 * M := by
  obtain ⟨a, K, h1, h2, h3⟩ := out_pm pm_2 M hM
  obtain ⟨b, L, g1, g2, g3⟩ := out_pm pm_3 K h3
  have hd : L ∣ K := ⟨3 ^ b, by rw [g1, Nat.mul_comm]⟩
  have i1 := rc_6 L d g3 (fun h => h2 (Nat.dvd_trans h hd)) g2
  have i2 := rc_odd pm_3 (by decide) (u := 3) (v := 4) (by decide) (by decide) b d
  have i3 := rc_even a d
  have j1 := rc_mul (d := d) (A := 3 ^ b) (B := L) (Nat.pow_pos (by decide)) g3 ((pm_cop pm_3 g2).pow_left b)
  rw [← g1] at j1
  have j2 := rc_mul (d := d) (A := 2 ^ a) (B := K) (Nat.pow_pos (by decide)) h3 ((pm_cop pm_2 h2).pow_left a)
  rw [← h1] at j2
  have k1 := Nat.mul_le_mul j1 j1
  have k2 := Nat.mul_le_mul j2 j2
  generalize rc d M = x at *
  generalize rc d K = y at *
  generalize rc d L = z at *
  generalize rc d (3 ^ b) = w at *
  generalize rc d (2 ^ a) = v at *
  have m1 : 3 * (y * y) ≤ 4 * K := by
    have n1 : 3 * (w * z * (w * z)) = 3 * (w * w) * (z * z) := by grind
    have n2 : 3 * (w * w) * (z * z) ≤ 4 * 3 ^ b * L := Nat.mul_le_mul i2 i1
    have n3 : 4 * 3 ^ b * L = 4 * K := by rw [g1, Nat.mul_assoc]
    omega
  have n1 : 3 * (v * y * (v * y)) = v * v * (3 * (y * y)) := by grind
  have n2 : v * v * (3 * (y * y)) ≤ 2 * 2 ^ a * (4 * K) := Nat.mul_le_mul i3 m1
  have n3 : 2 * 2 ^ a * (4 * K) = 8 * M := by rw [h1]; grind
  omega
theorem rc_4096 (d : Int) {M : Nat} (h0 : 0 < M) (h : M ≤ 4194304) : rc d M ≤ 4096 := by
  have h1 := rc_le d M h0
  rcases Nat.lt_or_ge 4096 (rc d M) with h2 | h2
  · have := Nat.mul_le_mul h2 h2
    omega
  · exact h2
