/-! a root modulo a prime -/
theorem shl1 : ∀ k : Fin 32, ((1 : Int64) <<< (Int32.toInt64 (nI k.val) &&& 63)) = lZ ((2 : Int) ^ k.val) := by decide
/-- not every number is like a square -/
theorem nonres_ex {p : Nat} (hp : pm p) (ho : p % 2 = 1) : ∃ z : Nat, 2 ≤ z ∧ z < p ∧ leg p z = -1 := by
  refine Classical.byContradiction fun hn => ?_
  have e := hf_odd ho
  have hp3 := three_le hp ho
  obtain ⟨k, hk⟩ : ∃ k, hf p = k + 1 := ⟨hf p - 1, by omega⟩
  have hm : mon (hf p) (fun x => x ^ hf p - 1) := by
    rw [hk]
    exact ⟨fun x => x ^ k, -1, mon_pow k, fun x => by show x ^ (k + 1) - 1 = x * x ^ k + -1; rw [Int.pow_succ, Int.mul_comm]; omega⟩
  have h3 := mon_roots hp (hf p) _ hm ((List.range' 1 (p - 1)).map (fun j : Nat => (j : Int))) (by
    rw [List.pairwise_map]
    refine List.Pairwise.imp_of_mem ?_ (List.nodup_range' (s := 1) (n := p - 1))
    intro i j hi hj hij h4
    rw [List.mem_range'_1] at hi hj
    have := cg_eq (n := p) h4 (by omega) (by omega)
    omega) (by
    intro r hr
    obtain ⟨j, hj, rfl⟩ := List.mem_map.mp hr
    rw [List.mem_range'_1] at hj
    have hjd : ¬ (p : Int) ∣ j := fun h => by
      have := Nat.le_of_dvd (by omega) (Int.ofNat_dvd.mp h)
      omega
    have h1 := leg_cg hp ho (j : Int)
    rcases leg_in p j with h | h | h
    · exfalso
      by_cases hs : sq p j
      · rw [leg_1 hjd hs] at h; cases h
      · rw [leg_m hjd hs] at h; cases h
    · rw [h] at h1; exact cg_sy h1
    · exfalso
      rcases (show j = 1 ∨ 2 ≤ j by omega) with h2 | h2
      · rw [h2] at h
        rw [show ((1 : Nat) : Int) = 1 from rfl, leg_one hp] at h
        cases h
      · exact hn ⟨j, h2, by omega, h⟩)
  simp at h3
  omega
theorem JL_one_pm (a : Int) (p : Nat) : JL a [p] = leg p a := by rw [JL, JL, Int.mul_one]
theorem nonres_loop {F : Nat} (hF : 100 ≤ F) {p : Nat} (hp : pm p) (ho : p % 2 = 1) (hp2 : p ≤ 4194304) : ∀ (k fu z : Nat), k < fu → z + k = p → 2 ≤ z → (∃ y : Nat, z ≤ y ∧ y < p ∧ leg p y = -1) → ∃ z' : Nat, l_r_nonresidue_2 F (iZ p) fu (iZ z) = some (iZ z') ∧ z' < p ∧ leg p z' = -1 := by
  intro k
  induction k with
  | zero =>
    intro fu z hf hk hz hy
    obtain ⟨y, h1, h2, -⟩ := hy
    omega
  | succ k ih =>
    intro fu z hf hk hz hy
    obtain ⟨fu, rfl⟩ : ∃ w, fu = w + 1 := ⟨fu - 1, by omega⟩
    have hopl : opl [p] := fun q hq => by rw [List.mem_singleton.mp hq]; exact ⟨hp, ho⟩
    rw [l_r_nonresidue_2, if_neg (fun h => by
      have := (iZ_le (a := (p : Int)) (b := (z : Int)) ⟨by omega, by omega⟩ ⟨by omega, by omega⟩).mp h
      omega), iZ_l ⟨by omega, by omega⟩, jacobi_spec hF (a := (z : Int)) (ps := [p]) ⟨by omega, by omega⟩ hopl (by simp) hp2, JL_one_pm]
    show ∃ z' : Nat, (if iZ (leg p z) = -1 then some (iZ z) else l_r_nonresidue_2 F (iZ p) fu (iZ z + 1)) = some (iZ z') ∧ _
    by_cases c : leg p z = -1
    · rw [if_pos (by rw [c]; rfl)]
      exact ⟨z, rfl, by omega, c⟩
    · rw [if_neg (fun h => c ((iZ_eq (by rcases leg_in p z with h | h | h <;> rw [h] <;> decide) (by decide)).mp (h.trans (show (-1 : Int32) = iZ (-1) from rfl)))), show iZ (z : Int) + 1 = iZ ((z + 1 : Nat) : Int) by rw [show (1 : Int32) = iZ 1 from rfl, iZ_add]; rfl]
      refine ih fu (z + 1) (by omega) (by omega) (by omega) ?_
      obtain ⟨y, h1, h2, h3⟩ := hy
      refine ⟨y, ?_, h2, h3⟩
      rcases Nat.lt_or_ge z y with h | h
      · exact h
      · have : y = z := by omega
        subst this
        exact absurd h3 c
theorem nonres_spec {F : Nat} (hF : 2 ^ 23 ≤ F) {p : Nat} (hp : pm p) (ho : p % 2 = 1) (hp2 : p ≤ 4194304) : ∃ z' : Nat, f_r_nonresidue F (iZ p) = some (iZ z') ∧ z' < p ∧ leg p z' = -1 := by
  obtain ⟨z, h1, h2, h3⟩ := nonres_ex hp ho
  have := three_le hp ho
  obtain ⟨z', e1, e2, e3⟩ := nonres_loop (F := F) (by omega) hp ho hp2 (p - 2) F 2 (by omega) (by omega) (by omega) ⟨z, h1, h2, h3⟩
  refine ⟨z', ?_, e2, e3⟩
  unfold f_r_nonresidue
  have e1' : l_r_nonresidue_2 F (iZ p) F 2 = some (iZ z') := e1
  rw [e1']; rfl
/-- a number whose square is like 1 -/
theorem sq_one {p : Nat} (hp : pm p) {x : Int} (h : cg p (x * x) 1) : cg p x 1 ∨ cg p x (-1) := by
  have h1 : (p : Int) ∣ (x - 1) * (x + 1) := by
    rw [show (x - 1) * (x + 1) = x * x - 1 by grind]; exact h
  rcases pm_mulZ hp h1 with h2 | h2
  · exact Or.inl h2
  · right; show (p : Int) ∣ x - -1; rw [show x - -1 = x + 1 by omega]; exact h2
theorem ton_loop {F : Nat} (hF : 100 ≤ F) {p : Nat} (hp : pm p) (ho : p % 2 = 1) (hp2 : p ≤ 4194304) {a : Int} : ∀ (k fu : Nat) (x er me : Int), k < fu → k ≤ 22 → 0 ≤ x → x < p → 0 ≤ er → er < p → 0 ≤ me → me < p → cg p (x * x) (a * er) → cg p (er ^ 2 ^ k) 1 → cg p (me ^ 2 ^ k) (-1) →
    ∃ x' : Int, l_r_rootByTonelli_43 F (iZ p) fu (lZ x) (lZ er) (lZ me) (iZ ((k + 1 : Nat) : Int)) = some (lZ x') ∧ 0 ≤ x' ∧ x' < p ∧ cg p (x' * x') a := by
  intro k
  have hp3 := three_le hp ho
  have P1 : (1 : Int) ≤ (p : Int) := by omega
  have P2 : (p : Int) < 2147483648 := by omega
  induction k with
  | zero =>
    intro fu x er me hf hk x0 x1 e0 e1 m0 m1 h1 h2 h3
    obtain ⟨fu, rfl⟩ : ∃ w, fu = w + 1 := ⟨fu - 1, by omega⟩
    refine ⟨x, ?_, x0, x1, ?_⟩
    · rw [l_r_rootByTonelli_43, if_pos (by decide)]
    · refine cg_tr h1 ?_
      rw [Nat.pow_zero, Int.pow_one] at h2
      have := cg_mul (cg_rf p a) h2
      rwa [Int.mul_one] at this
  | succ k ih =>
    intro fu x er me hf hk x0 x1 e0 e1 m0 m1 h1 h2 h3
    obtain ⟨fu, rfl⟩ : ∃ w, fu = w + 1 := ⟨fu - 1, by omega⟩
    have q0 := Int.emod_nonneg (me * me) (show (p : Int) ≠ 0 by omega)
    have q1 := Int.emod_lt_of_pos (me * me) (show (0 : Int) < p by omega)
    have hq := cg_emod (p : Int) (me * me)
    have hpow : er ^ 2 ^ (k + 1) = er ^ 2 ^ k * er ^ 2 ^ k := by rw [Nat.pow_succ, Nat.mul_two, Int.pow_add]
    have hmpow : cg p (((me * me) % p) ^ 2 ^ k) (me ^ 2 ^ (k + 1)) := by
      refine cg_tr (cg_pow hq (2 ^ k)) ?_
      rw [Int.mul_pow, ← Int.pow_add, ← Nat.mul_two, ← Nat.pow_succ]
      exact cg_rf _ _
    have r0 := Int.emod_nonneg (er ^ 2 ^ k) (show (p : Int) ≠ 0 by omega)
    have r1 := Int.emod_lt_of_pos (er ^ 2 ^ k) (show (0 : Int) < p by omega)
    have hdec : iZ ((k + 1 + 1 : Nat) : Int) + -1 = iZ ((k + 1 : Nat) : Int) := by rw [show (-1 : Int32) = iZ (-1) from rfl, iZ_add]; congr 1; omega
    have hsh : ((1 : Int64) <<< (Int32.toInt64 (iZ ((k + 1 + 1 : Nat) : Int) - 2) &&& 63)) = lZ ((2 ^ k : Nat) : Int) := by
      have h5 : iZ ((k + 1 + 1 : Nat) : Int) - 2 = nI k := by
        rw [show (2 : Int32) = iZ 2 from rfl, iZ_sub, nI_iZ]; congr 1; omega
      rw [h5]
      have := shl1 ⟨k, by omega⟩
      rw [this]
      congr 1
    have hrs : f_r_raise F (lZ er) (lZ ((2 ^ k : Nat) : Int)) (iZ p) = some (iZ (er ^ 2 ^ k % p)) := raise_spec (by omega) (in64_lt e0 (show er < 2147483647 by omega) (by decide)) (Nat.pow_lt_pow_right (by decide) (by omega)) P1 P2
    rw [l_r_rootByTonelli_43, if_neg (fun h => by
      have := (iZ_le (a := ((k + 1 + 1 : Nat) : Int)) (b := 1) ⟨by omega, by omega⟩ (by decide)).mp h
      omega), lZ_mul, residue_spec (in64_mul m0 (by omega) m0 (by omega)) P1 P2, hsh, hrs, hdec]
    show ∃ x' : Int, (if iZ (er ^ 2 ^ k % p) = 1 then l_r_rootByTonelli_43 F (iZ p) fu (lZ x) (lZ er) (Int32.toInt64 (iZ ((me * me) % p))) (iZ ((k + 1 : Nat) : Int)) else b1 (f_r_residue F (lZ x * lZ me) (iZ p)) fun r5 => b1 (f_r_residue F (lZ er * (Int32.toInt64 (iZ ((me * me) % p)))) (iZ p)) fun r6 => l_r_rootByTonelli_43 F (iZ p) fu (Int32.toInt64 r5) (Int32.toInt64 r6) (Int32.toInt64 (iZ ((me * me) % p))) (iZ ((k + 1 : Nat) : Int))) = some (lZ x') ∧ _
    rw [iZ_l ⟨by omega, by omega⟩, lZ_mul, lZ_mul, residue_spec (in64_mul x0 (by omega) m0 (by omega)) P1 P2, residue_spec (in64_mul e0 (by omega) q0 (by omega)) P1 P2]
    have u0 := Int.emod_nonneg (x * me) (show (p : Int) ≠ 0 by omega)
    have u1 := Int.emod_lt_of_pos (x * me) (show (0 : Int) < p by omega)
    have v0 := Int.emod_nonneg (er * ((me * me) % p)) (show (p : Int) ≠ 0 by omega)
    have v1 := Int.emod_lt_of_pos (er * ((me * me) % p)) (show (0 : Int) < p by omega)
    by_cases c : er ^ 2 ^ k % p = 1
    · rw [if_pos (by rw [c]; rfl)]
      refine ih fu x er _ (by omega) (by omega) x0 x1 e0 e1 q0 q1 h1 ?_ (cg_tr hmpow h3)
      have := cg_emod (p : Int) (er ^ 2 ^ k)
      rw [c] at this
      exact cg_sy this
    · rw [if_neg (fun h => c ((iZ_eq ⟨by omega, by omega⟩ (by decide)).mp (h.trans (show (1 : Int32) = iZ 1 from rfl))))]
      show ∃ x' : Int, l_r_rootByTonelli_43 F (iZ p) fu (Int32.toInt64 (iZ ((x * me) % p))) (Int32.toInt64 (iZ ((er * ((me * me) % p)) % p))) (lZ ((me * me) % p)) (iZ ((k + 1 : Nat) : Int)) = some (lZ x') ∧ _
      rw [iZ_l ⟨by omega, by omega⟩, iZ_l ⟨by omega, by omega⟩]
      have hneg : cg p (er ^ 2 ^ k) (-1) := by
        rw [hpow] at h2
        refine (sq_one hp h2).resolve_left fun h => c ?_
        rw [emod_cg h]
        exact Int.emod_eq_of_lt (by decide) (by omega)
      refine ih fu _ _ _ (by omega) (by omega) u0 u1 v0 v1 q0 q1 ?_ ?_ (cg_tr hmpow h3)
      · refine cg_tr (cg_mul (cg_emod p (x * me)) (cg_emod p (x * me))) ?_
        have h5 : cg p (a * ((er * ((me * me) % p)) % p)) (a * (er * (me * me))) := cg_mul (cg_rf p a) (cg_tr (cg_emod p _) (cg_mul (cg_rf p er) hq))
        refine cg_tr ?_ (cg_sy h5)
        rw [show x * me * (x * me) = x * x * (me * me) by grind, show a * (er * (me * me)) = a * er * (me * me) by grind]
        exact cg_mul h1 (cg_rf _ _)
      · refine cg_tr (cg_pow (cg_emod p _) (2 ^ k)) ?_
        rw [Int.mul_pow]
        exact cg_mul hneg (cg_tr hmpow h3)
theorem twos_loop {F p : Nat} (hp2 : p ≤ 4194304) (hp0 : 0 < p) : ∀ (k fu j o : Nat), k < fu → j + k = 22 → 0 < o → o * 2 ^ j = p - 1 →
    ∃ o' j' : Nat, l_r_rootModuloPrime_29 F fu (iZ o) (iZ j) = some (iZ o', iZ j') ∧ o' * 2 ^ j' = p - 1 ∧ o' % 2 = 1 ∧ j' ≤ 22 := by
  intro k
  induction k with
  | zero =>
    intro fu j o hf hj h0 h1
    exfalso
    have : j = 22 := by omega
    subst this
    have : 1 * 2 ^ 22 ≤ o * 2 ^ 22 := Nat.mul_le_mul_right _ h0
    omega
  | succ k ih =>
    intro fu j o hf hj h0 h1
    obtain ⟨fu, rfl⟩ : ∃ w, fu = w + 1 := ⟨fu - 1, by omega⟩
    have ho : o ≤ p - 1 := by
      have : o * 1 ≤ o * 2 ^ j := Nat.mul_le_mul_left _ (Nat.pow_pos (by decide))
      omega
    have in_o : in32 (o : Int) := ⟨by omega, by omega⟩
    rw [l_r_rootModuloPrime_29, show (22 : Int32) = iZ 22 from rfl, if_neg (fun h => by
      have := (iZ_le (by decide) ⟨by omega, by omega⟩).mp h
      omega), show (2 : Int32) = iZ 2 from rfl, irm_Z in_o (by decide) (by decide), show (0 : Int32) = iZ 0 from rfl, iZ_div in_o (by decide) (by decide), Int.tmod_eq_emod_of_nonneg (by omega), Int.natCast_tdiv_eq_ediv]
    by_cases c : o % 2 = 0
    · rw [if_pos (by rw [show (o : Int) % 2 = 0 by omega]), show iZ (j : Int) + 1 = iZ ((j + 1 : Nat) : Int) by rw [show (1 : Int32) = iZ 1 from rfl, iZ_add]; rfl, show (o : Int) / 2 = ((o / 2 : Nat) : Int) by omega]
      refine ih fu (j + 1) (o / 2) (by omega) (by omega) (by omega) ?_
      rw [← h1, Nat.pow_succ, ← Nat.mul_assoc, Nat.mul_comm (o / 2 * 2 ^ j), ← Nat.mul_assoc, show 2 * (o / 2) = o by omega]
    · rw [if_neg (fun h => c (by
        have := (iZ_eq ⟨by omega, by omega⟩ (by decide)).mp h
        omega))]
      exact ⟨o, j, rfl, h1, by omega, by omega⟩
/-- rootModuloPrime: a root, or -1 where there is none -/
theorem rmp_spec {F : Nat} (hF : 2 ^ 23 ≤ F) {p : Nat} (hp : pm p) (hp2 : p ≤ 4194304) {a : Int} (a0 : 0 ≤ a) (a1 : a < p) : ∃ x : Int, f_r_rootModuloPrime F (iZ a) (iZ p) = some (iZ x) ∧ ((0 ≤ x ∧ x < p ∧ cg p (x * x) a) ∨ (x = -1 ∧ ∀ y : Int, ¬ cg p (y * y) a)) := by
  have in_p : in32 (p : Int) := ⟨by omega, by omega⟩
  have in_a : in32 a := ⟨by omega, by omega⟩
  unfold f_r_rootModuloPrime
  by_cases c2 : p = 2
  · rw [if_pos (by rw [c2]; rfl)]
    refine ⟨a, rfl, Or.inl ⟨a0, a1, ?_⟩⟩
    subst c2
    rcases (show a = 0 ∨ a = 1 by omega) with h | h <;> rw [h] <;> exact cg_rf _ _
  · rw [if_neg (fun h => c2 (by
      have := (iZ_eq in_p (by decide)).mp (h.trans (show (2 : Int32) = iZ 2 from rfl))
      omega))]
    have ho : p % 2 = 1 := by
      rcases Nat.mod_two_eq_zero_or_one p with h | h
      · exact absurd (pm_dvd_pm pm_2 hp (Nat.dvd_of_mod_eq_zero h)).symm c2
      · exact h
    have hp3 := three_le hp ho
    by_cases c0 : a = 0
    · rw [if_pos (by rw [c0]; rfl)]
      refine ⟨a, rfl, Or.inl ⟨a0, a1, ?_⟩⟩
      rw [c0]; exact cg_rf _ _
    · rw [if_neg (fun h => c0 ((iZ_eq in_a (by decide)).mp (h.trans (show (0 : Int32) = iZ 0 from rfl))))]
      have hopl : opl [p] := fun q hq => by rw [List.mem_singleton.mp hq]; exact ⟨hp, ho⟩
      have hnd : ¬ (p : Int) ∣ a := fun h => by
        have := cg_eq (n := p) (cg_0.mpr h) (by omega) (by omega)
        omega
      rw [iZ_l in_a, jacobi_spec (by omega) (in32_64 in_a) hopl (by simp) hp2, JL_one_pm]
      show ∃ x : Int, (if iZ (leg p a) = 1 then b2 (l_r_rootModuloPrime_29 F F (iZ p - 1) 0) fun x2_5 x3_5 => b1 (f_r_rootByTonelli F (iZ a) (iZ p) x2_5 x3_5) fun r6 => some r6 else some (-1)) = some (iZ x) ∧ _
      by_cases c : leg p a = 1
      · rw [if_pos (by rw [c]; rfl)]
        obtain ⟨o, j, t1, t2, t3, t4⟩ := twos_loop (F := F) hp2 (by omega) 22 F 0 (p - 1) (by omega) (by omega) (by omega) (by omega)
        have t1' : l_r_rootModuloPrime_29 F F (iZ p - 1) 0 = some (iZ o, iZ j) := by
          rw [show (1 : Int32) = iZ 1 from rfl, iZ_sub, show (p : Int) - 1 = ((p - 1 : Nat) : Int) by omega]; exact t1
        rw [t1']
        have hj : 1 ≤ j := by
          rcases Nat.eq_zero_or_pos j with h | h
          · rw [h, Nat.pow_zero, Nat.mul_one] at t2; omega
          · exact h
        obtain ⟨k, rfl⟩ : ∃ k, j = k + 1 := ⟨j - 1, by omega⟩
        have hhf : hf p = o * 2 ^ k := by
          have : o * 2 ^ (k + 1) = 2 * (o * 2 ^ k) := by rw [Nat.pow_succ]; grind
          unfold hf; omega
        have hop : o ≤ p - 1 := by
          have : o * 1 ≤ o * 2 ^ (k + 1) := Nat.mul_le_mul_left _ (Nat.pow_pos (by decide))
          omega
        have in_o : in32 (o : Int) := ⟨by omega, by omega⟩
        have P1 : (1 : Int) ≤ (p : Int) := by omega
        have P2 : (p : Int) < 2147483648 := by omega
        obtain ⟨z, n1, n2, n3⟩ := nonres_spec hF hp ho hp2
        have r1 := raise_spec (F := F) (by omega) (b := a) (m := p) (e := (o + 1) / 2) (in32_64 in_a) (by omega) P1 P2
        have r2 := raise_spec (F := F) (by omega) (b := a) (m := p) (e := o) (in32_64 in_a) (by omega) P1 P2
        have r3 := raise_spec (F := F) (by omega) (b := (z : Int)) (m := p) (e := o) ⟨by omega, by omega⟩ (by omega) P1 P2
        have x0 := Int.emod_nonneg (a ^ ((o + 1) / 2)) (show (p : Int) ≠ 0 by omega)
        have x1 := Int.emod_lt_of_pos (a ^ ((o + 1) / 2)) (show (0 : Int) < p by omega)
        have y0 := Int.emod_nonneg (a ^ o) (show (p : Int) ≠ 0 by omega)
        have y1 := Int.emod_lt_of_pos (a ^ o) (show (0 : Int) < p by omega)
        have z0 := Int.emod_nonneg ((z : Int) ^ o) (show (p : Int) ≠ 0 by omega)
        have z1 := Int.emod_lt_of_pos ((z : Int) ^ o) (show (0 : Int) < p by omega)
        obtain ⟨x', l1, l2, l3, l4⟩ := ton_loop (F := F) (by omega) hp ho hp2 (a := a) k F (a ^ ((o + 1) / 2) % p) (a ^ o % p) ((z : Int) ^ o % p) (by omega) (by omega) x0 x1 y0 y1 z0 z1 (by
          refine cg_tr (cg_mul (cg_emod p _) (cg_emod p _)) ?_
          rw [← Int.pow_add, show (o + 1) / 2 + (o + 1) / 2 = o + 1 by omega, Int.pow_succ, Int.mul_comm]
          exact cg_mul (cg_rf p a) (cg_sy (cg_emod p _))) (by
          refine cg_tr (cg_pow (cg_emod p _) _) ?_
          rw [← Int.pow_mul, ← hhf]
          have := leg_cg hp ho a
          rw [c] at this
          exact cg_sy this) (by
          refine cg_tr (cg_pow (cg_emod p _) _) ?_
          rw [← Int.pow_mul, ← hhf]
          have := leg_cg hp ho (z : Int)
          rw [n3] at this
          exact cg_sy this)
        refine ⟨x', ?_, Or.inl ⟨l2, l3, l4⟩⟩
        show (b1 (f_r_rootByTonelli F (iZ a) (iZ p) (iZ o) (iZ ((k + 1 : Nat) : Int))) fun r6 => some r6) = _
        unfold f_r_rootByTonelli
        have e1 : Int32.toInt64 ((iZ o + 1) / 2) = lZ (((o + 1) / 2 : Nat) : Int) := by
          rw [show (1 : Int32) = iZ 1 from rfl, iZ_add, show (2 : Int32) = iZ 2 from rfl, iZ_div ⟨by omega, by omega⟩ (by decide) (by decide), show ((o : Int) + 1) = ((o + 1 : Nat) : Int) by omega, Int.natCast_tdiv_eq_ediv, show ((o + 1 : Nat) : Int) / 2 = (((o + 1) / 2 : Nat) : Int) by omega, iZ_l ⟨by omega, by omega⟩]
        rw [iZ_l in_a, e1, r1, iZ_l in_o, r2, n1]
        show (b1 (b1 (f_r_raise F (Int32.toInt64 (iZ z)) (lZ o) (iZ p)) fun r4 => b1 (l_r_rootByTonelli_43 F (iZ p) F (Int32.toInt64 (iZ (a ^ ((o + 1) / 2) % p))) (Int32.toInt64 (iZ (a ^ o % p))) (Int32.toInt64 r4) (iZ ((k + 1 : Nat) : Int))) fun x4_5 => some (Int64.toInt32 x4_5)) fun r6 => some r6) = _
        rw [iZ_l ⟨by omega, by omega⟩, r3, iZ_l ⟨by omega, by omega⟩, iZ_l ⟨by omega, by omega⟩]
        show (b1 (b1 (l_r_rootByTonelli_43 F (iZ p) F (lZ (a ^ ((o + 1) / 2) % p)) (lZ (a ^ o % p)) (Int32.toInt64 (iZ ((z : Int) ^ o % p))) (iZ ((k + 1 : Nat) : Int))) fun x4_5 => some (Int64.toInt32 x4_5)) fun r6 => some r6) = _
        rw [iZ_l ⟨by omega, by omega⟩, l1]
        show some (Int64.toInt32 (lZ x')) = _
        rw [lZ_i]
      · rw [if_neg (fun h => c ((iZ_eq (by rcases leg_in p a with h | h | h <;> rw [h] <;> decide) (by decide)).mp (h.trans (show (1 : Int32) = iZ 1 from rfl))))]
        refine ⟨-1, rfl, Or.inr ⟨rfl, fun y hy => c (leg_1 hnd ⟨y, hy⟩)⟩⟩
