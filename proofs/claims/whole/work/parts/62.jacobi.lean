/-! what symbolWithTwo and jacobi answer -/
theorem land7 (a : Int) : lZ a &&& 7 = lZ (a % 8) := by
  apply Int64.toBitVec.inj
  show BitVec.ofInt 64 a &&& 7#64 = BitVec.ofInt 64 (a % 8)
  apply BitVec.eq_of_toNat_eq
  rw [BitVec.toNat_and, BitVec.toNat_ofInt, BitVec.toNat_ofInt]
  show (a % (2 ^ 64 : Nat)).toNat &&& 2 ^ 3 - 1 = _
  rw [Nat.and_two_pow_sub_one_eq_mod]
  omega
/-- the symbol of a and 2 -/
def K2 (a : Int) : Int := if a % 2 = 0 then 0 else if a % 8 = 1 ∨ a % 8 = 7 then 1 else -1
theorem sw2_spec {F : Nat} (a : Int) : f_r_symbolWithTwo F (lZ a) = some (iZ (K2 a)) := by
  have h0 := Int.emod_nonneg a (show (8 : Int) ≠ 0 by decide)
  have h1 := Int.emod_lt_of_pos a (show (0 : Int) < 8 by decide)
  have i8 : in64 (a % 8) := ⟨by omega, by omega⟩
  unfold f_r_symbolWithTwo K2
  rw [land7, show (2 : Int64) = lZ 2 from rfl, lrm_Z i8 (by decide) (by decide), show (0 : Int64) = lZ 0 from rfl, show (1 : Int64) = lZ 1 from rfl, show (7 : Int64) = lZ 7 from rfl, Int.tmod_eq_emod_of_nonneg h0]
  by_cases c : a % 2 = 0
  · rw [if_pos (by rw [show a % 8 % 2 = 0 by omega]), if_pos c]; rfl
  · rw [if_neg (fun h => c (by
      have := (lZ_eq ⟨by omega, by omega⟩ (by decide)).mp h
      omega)), if_neg c]
    by_cases c1 : a % 8 = 1
    · rw [if_pos (by rw [c1]), if_pos (Or.inl c1)]; rfl
    · rw [if_neg (fun h => c1 ((lZ_eq i8 (by decide)).mp h))]
      by_cases c7 : a % 8 = 7
      · rw [if_pos (by rw [c7]), if_pos (Or.inr c7)]; rfl
      · rw [if_neg (fun h => c7 ((lZ_eq i8 (by decide)).mp h)), if_neg (by omega)]; rfl
theorem K2_s2 {b : Nat} (h : b % 2 = 1) : K2 (b : Int) = s2 b := by
  unfold K2 s2
  rw [if_neg (by omega)]
  split <;> split <;> omega
theorem s2_in (b : Nat) : s2 b = 1 ∨ s2 b = -1 := by unfold s2; split <;> simp
theorem jac_in {F : Nat} {qs : List Nat} {b : Nat} (hq : opl qs) (hb : b = qs.prod) (hb2 : b ≤ 4194304) : ∀ (k fu j t : Nat) (s : Int), k < fu → j + k = 22 → 0 < t → t < 2 ^ k → (s = 1 ∨ s = -1) →
    ∃ (s' : Int) (t' : Nat), l_r_jacobi_30 F (iZ b) fu (iZ s) (iZ t) (iZ j) = some (iZ s', iZ t') ∧ t' % 2 = 1 ∧ t' ≤ t ∧ (s' = 1 ∨ s' = -1) ∧ s' * JL t' qs = s * JL t qs := by
  intro k
  induction k with
  | zero => intro fu j t s hf hj h0 ht; omega
  | succ k ih =>
    intro fu j t s hf hj h0 ht hs
    obtain ⟨fu, rfl⟩ : ∃ z, fu = z + 1 := ⟨fu - 1, by omega⟩
    have ht22 : t < 2 ^ 22 := Nat.lt_of_lt_of_le ht (Nat.pow_le_pow_right (by decide) (by omega))
    have in_t : in32 (t : Int) := ⟨by omega, by omega⟩
    have hbo : b % 2 = 1 := by rw [hb]; exact opl_odd hq
    rw [l_r_jacobi_30, show (22 : Int32) = iZ 22 from rfl, if_neg (fun h => by
      have := (iZ_le (by decide) ⟨by omega, by omega⟩).mp h
      omega), show (2 : Int32) = iZ 2 from rfl, irm_Z in_t (by decide) (by decide), show (0 : Int32) = iZ 0 from rfl, iZ_l ⟨by omega, by omega⟩, sw2_spec, K2_s2 hbo, iZ_div in_t (by decide) (by decide), Int.tmod_eq_emod_of_nonneg (by omega), Int.natCast_tdiv_eq_ediv]
    by_cases c : t % 2 = 0
    · rw [if_pos (by rw [show (t : Int) % 2 = 0 by omega])]
      show ∃ (s' : Int) (t' : Nat), l_r_jacobi_30 F (iZ b) fu (iZ s * iZ (s2 b)) (iZ ((t : Int) / 2)) (iZ j + 1) = some (iZ s', iZ t') ∧ _
      rw [iZ_mul, show iZ (j : Int) + 1 = iZ ((j + 1 : Nat) : Int) by rw [show (1 : Int32) = iZ 1 from rfl, iZ_add]; rfl, show (t : Int) / 2 = ((t / 2 : Nat) : Int) by omega]
      obtain ⟨s', t', e1, e2, e3, e4, e5⟩ := ih fu (j + 1) (t / 2) (s * s2 b) (by omega) (by omega) (by omega) (by rw [Nat.pow_succ] at ht; omega) (by rcases hs with rfl | rfl <;> rcases s2_in b with h | h <;> rw [h] <;> decide)
      refine ⟨s', t', e1, e2, by omega, e4, ?_⟩
      rw [e5, Int.mul_assoc, hb, ← JL_two hq, ← JL_mul _ _ hq, show (2 : Int) * ((t / 2 : Nat) : Int) = t by omega]
    · rw [if_neg (fun h => c (by
        have := (iZ_eq ⟨by omega, by omega⟩ (by decide)).mp h
        omega))]
      exact ⟨s, t, rfl, by omega, Nat.le_refl _, hs, rfl⟩
theorem jac_loop {F : Nat} (hF : 100 ≤ F) : ∀ (fu i b t : Nat) (s : Int) (qs : List Nat), 65 ≤ i + fu → i ≤ 44 → opl qs → b = qs.prod → b ≤ 4194304 → t < b → b * t * 2 ^ i < 2 ^ 44 → (s = 1 ∨ s = -1) →
    ∃ (s' : Int) (b' : Nat), l_r_jacobi_15 F fu (iZ s) (iZ b) (iZ t) (iZ i) = some (iZ s', iZ b') ∧ b' ≤ 4194304 ∧ (if b' = 1 then s' else 0) = s * JL t qs := by
  intro fu
  induction fu with
  | zero => intro i b t s qs hi hi2; omega
  | succ fu ih =>
    intro i b t s qs hi hi2 hq hb hb2 htb hP hs
    have in_t : in32 (t : Int) := ⟨by omega, by omega⟩
    have in_b : in32 (b : Int) := ⟨by omega, by omega⟩
    rw [l_r_jacobi_15, show (64 : Int32) = iZ 64 from rfl, if_neg (fun h => by
      have := (iZ_le (by decide) ⟨by omega, by omega⟩).mp h
      omega), show (0 : Int32) = iZ 0 from rfl]
    by_cases h0 : t = 0
    · rw [if_pos ((iZ_le in_t (by decide)).mpr (by omega))]
      refine ⟨s, b, rfl, hb2, ?_⟩
      subst h0
      cases qs with
      | nil => rw [if_pos (by rw [hb]; rfl), JL, Int.mul_one]
      | cons q qs =>
        rw [if_neg (fun h => by
          have := opl_one hq (hb.symm.trans h)
          cases this)]
        show 0 = s * JL 0 (q :: qs)
        rw [JL_0, Int.mul_zero]
    · rw [if_neg (fun h => by
        have := (iZ_le in_t (by decide)).mp h
        omega)]
      obtain ⟨s1, t1, e1, e2, e3, e4, e5⟩ := jac_in (F := F) hq hb hb2 22 F 0 t s (by omega) (by omega) (by omega) (by omega) hs
      rw [show (iZ 0) = iZ ((0 : Nat) : Int) from rfl, e1]
      have in_t1 : in32 (t1 : Int) := ⟨by omega, by omega⟩
      obtain ⟨ps, hp, hpp⟩ := opl_ex t1 e2
      have hrec := recipL hq hp
      rw [← hb, hpp] at hrec
      have hmod : JL (b : Int) ps = JL ((b % t1 : Nat) : Int) ps := by
        refine JL_like hp ?_
        rw [hpp]
        exact cg_sy (cg_nmod b t1)
      have hhalf := half_mod (r := b) (n := t1) (by omega) (by omega)
      have hmlt : b % t1 < t1 := Nat.mod_lt _ (by omega)
      have hP2 : t1 * (b % t1) * 2 ^ (i + 1) < 2 ^ 44 := by
        have h1 : t1 * (b % t1) * 2 ^ (i + 1) = t1 * (2 * (b % t1)) * 2 ^ i := by rw [Nat.pow_succ]; grind
        have h2 : t1 * (2 * (b % t1)) * 2 ^ i ≤ t * b * 2 ^ i := Nat.mul_le_mul_right _ (Nat.mul_le_mul e3 hhalf)
        rw [Nat.mul_comm t b] at h2
        omega
      have hi44 : i + 1 ≤ 44 := by
        rcases Nat.lt_or_ge i 44 with h | h
        · exact h
        · exfalso
          have h1 : 2 ^ 44 ≤ 2 ^ i := Nat.pow_le_pow_right (by decide) h
          have h2 : 1 * 2 ^ i ≤ b * t * 2 ^ i := Nat.mul_le_mul_right _ (Nat.mul_pos (by omega) (Nat.pos_of_ne_zero h0))
          omega
      have hres : f_r_residue F (Int32.toInt64 (iZ b)) (iZ t1) = some (iZ ((b % t1 : Nat) : Int)) := by
        rw [iZ_l in_b, residue_spec (in32_64 in_b) (by omega) (by omega)]; rfl
      have e6 : iZ (i : Int) + 1 = iZ ((i + 1 : Nat) : Int) := by rw [show (1 : Int32) = iZ 1 from rfl, iZ_add]; rfl
      show ∃ (s' : Int) (b' : Nat), (if irm (iZ t1) 4 = 3 then if irm (iZ b) 4 = 3 then b1 (f_r_residue F (Int32.toInt64 (iZ b)) (iZ t1)) fun r8 => l_r_jacobi_15 F fu (-iZ s1) (iZ t1) r8 (iZ i + 1) else b1 (f_r_residue F (Int32.toInt64 (iZ b)) (iZ t1)) fun r7 => l_r_jacobi_15 F fu (iZ s1) (iZ t1) r7 (iZ i + 1) else b1 (f_r_residue F (Int32.toInt64 (iZ b)) (iZ t1)) fun r5 => l_r_jacobi_15 F fu (iZ s1) (iZ t1) r5 (iZ i + 1)) = some (iZ s', iZ b') ∧ _
      rw [hres, e6, show (4 : Int32) = iZ 4 from rfl, show (3 : Int32) = iZ 3 from rfl, irm_Z in_t1 (by decide) (by decide), irm_Z in_b (by decide) (by decide), Int.tmod_eq_emod_of_nonneg (by omega), Int.tmod_eq_emod_of_nonneg (by omega)]
      have go : ∀ s2 : Int, (s2 = 1 ∨ s2 = -1) → s2 = s1 * ep b t1 → ∃ (s' : Int) (b' : Nat), l_r_jacobi_15 F fu (iZ s2) (iZ t1) (iZ ((b % t1 : Nat) : Int)) (iZ ((i + 1 : Nat) : Int)) = some (iZ s', iZ b') ∧ b' ≤ 4194304 ∧ (if b' = 1 then s' else 0) = s * JL t qs := by
        intro s2 hs2 h2
        obtain ⟨s', b', g1, g2, g3⟩ := ih (i + 1) t1 (b % t1) s2 ps (by omega) hi44 hp hpp.symm (by omega) hmlt hP2 hs2
        refine ⟨s', b', g1, g2, ?_⟩
        rw [g3, ← e5, hrec, hmod, h2, Int.mul_assoc]
      by_cases c1 : t1 % 4 = 3
      · rw [if_pos (by rw [show (t1 : Int) % 4 = 3 by omega])]
        by_cases c2 : b % 4 = 3
        · rw [if_pos (by rw [show (b : Int) % 4 = 3 by omega])]
          show ∃ (s' : Int) (b' : Nat), l_r_jacobi_15 F fu (-iZ s1) (iZ t1) (iZ ((b % t1 : Nat) : Int)) (iZ ((i + 1 : Nat) : Int)) = some (iZ s', iZ b') ∧ _
          rw [iZ_neg]
          exact go (-s1) (by omega) (by unfold ep; rw [if_pos ⟨c2, c1⟩]; omega)
        · rw [if_neg (fun h => c2 (by
            have := (iZ_eq ⟨by omega, by omega⟩ (by decide)).mp h
            omega))]
          exact go s1 e4 (by unfold ep; rw [if_neg (fun h => c2 h.1)]; omega)
      · rw [if_neg (fun h => c1 (by
          have := (iZ_eq ⟨by omega, by omega⟩ (by decide)).mp h
          omega))]
        exact go s1 e4 (by unfold ep; rw [if_neg (fun h => c1 h.2)]; omega)
theorem jacobi_spec {F : Nat} (hF : 100 ≤ F) {a : Int} {n : Nat} {ps : List Nat} (ha : in64 a) (hp : opl ps) (hn : n = ps.prod) (hn2 : n ≤ 4194304) : f_r_jacobi F (lZ a) (iZ n) = some (iZ (JL a ps)) := by
  have hodd := opl_odd hp
  rw [← hn] at hodd
  have n0 := Int.emod_nonneg a (show (n : Int) ≠ 0 by omega)
  have n1 := Int.emod_lt_of_pos a (show (0 : Int) < n by omega)
  obtain ⟨t, ht⟩ : ∃ t : Nat, a % (n : Int) = t := ⟨(a % (n : Int)).toNat, by omega⟩
  have hca : cg n (t : Int) a := by rw [← ht]; exact cg_emod _ _
  unfold f_r_jacobi
  rw [residue_spec ha (by omega) (by omega), ht]
  obtain ⟨s', b', e1, e2, e3⟩ := jac_loop hF F 0 n t 1 ps (by omega) (by omega) hp hn hn2 (by omega) (by
    have h1 : n * t ≤ 4194304 * 4194303 := Nat.mul_le_mul hn2 (by omega)
    simp only [Nat.pow_zero, Nat.mul_one]
    omega) (Or.inl rfl)
  show (b2 (l_r_jacobi_15 F F 1 (iZ n) (iZ t) 0) fun x3_2 x4_2 => if x4_2 = 1 then some x3_2 else some 0) = _
  have e1' : l_r_jacobi_15 F F 1 (iZ n) (iZ t) 0 = some (iZ s', iZ b') := e1
  rw [e1']
  show (if iZ b' = 1 then some (iZ s') else some 0) = _
  rw [Int.one_mul, JL_like hp (by rw [← hn]; exact hca)] at e3
  by_cases c : b' = 1
  · rw [if_pos (by rw [c]; rfl)]
    rw [if_pos c] at e3
    rw [e3]
  · rw [if_neg (fun h => c (by
      have := (iZ_eq ⟨by omega, by omega⟩ (by decide)).mp (h.trans (show (1 : Int32) = iZ 1 from rfl))
      omega))]
    rw [if_neg c] at e3
    rw [← e3]; rfl
