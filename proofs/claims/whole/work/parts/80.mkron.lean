/-! the reference: rest, symbol, kronecker -/
theorem mrest_spec {F : Nat} {a m : Int} (ha : in64 a) (hm : 1 ≤ m) (hm2 : m < 2147483648) : f_m_rest F (lZ a) (lZ m) = some (lZ (a % m)) := by
  have lm : in64 m := ⟨by omega, by omega⟩
  unfold f_m_rest
  rw [if_neg (fun h => by
    have := (lZ_eq lm (by decide)).mp (h.trans (show (0 : Int64) = lZ 0 from rfl))
    omega), lrm_Z ha lm (by omega), show (0 : Int64) = lZ 0 from rfl, lZ_add]
  have e := Int.tmod_eq_emod (a := a) (b := m)
  have h0 := Int.emod_nonneg a (show m ≠ 0 by omega)
  have h1 := Int.emod_lt_of_pos a (show 0 < m by omega)
  have hn : (m.natAbs : Int) = m := by omega
  by_cases c : 0 ≤ a ∨ m ∣ a
  · rw [if_pos c] at e
    rw [if_pos ((lZ_le (by decide) ⟨by omega, by omega⟩).mpr (by omega)), e]
    congr 2
    omega
  · rw [if_neg c, hn] at e
    rw [if_neg (fun h => by
      have := (lZ_le (by decide) ⟨by omega, by omega⟩).mp h
      omega), e]
    congr 2
    omega
theorem sym_loop {F p : Nat} {w : Int} (ho : p % 2 = 1) (hp3 : 3 ≤ p) (hp2 : p ≤ 4194304) (w0 : 0 ≤ w) (w1 : w < p) : ∀ (k fu x : Nat), k < fu → x + k = hf p + 1 → 1 ≤ x →
    ∃ r : Int, l_m_symbol_21 F (iZ p) (lZ w) fu (lZ (((x : Int) * x) % p)) (iZ x) = some (iZ r) ∧ ((r = 1 ∧ ∃ y : Int, cg p (y * y) w) ∨ (r = -1 ∧ ∀ y : Nat, x ≤ y → y ≤ hf p → ¬ cg p ((y : Int) * y) w)) := by
  have e := hf_odd ho
  have in_p : in32 (p : Int) := ⟨by omega, by omega⟩
  have hdiv : iZ p / 2 = iZ (hf p) := by
    rw [show (2 : Int32) = iZ 2 from rfl, iZ_div in_p (by decide) (by decide), Int.natCast_tdiv_eq_ediv]
    congr 1
    omega
  intro k
  induction k with
  | zero =>
    intro fu x hfu hx hx1
    obtain ⟨fu, rfl⟩ : ∃ z, fu = z + 1 := ⟨fu - 1, by omega⟩
    refine ⟨-1, ?_, Or.inr ⟨rfl, fun y a b => by omega⟩⟩
    rw [l_m_symbol_21, hdiv, if_pos ((iZ_lt ⟨by omega, by omega⟩ ⟨by omega, by omega⟩).mpr (by omega))]
    rfl
  | succ k ih =>
    intro fu x hfu hx hx1
    obtain ⟨fu, rfl⟩ : ∃ z, fu = z + 1 := ⟨fu - 1, by omega⟩
    have m0 := Int.emod_nonneg ((x : Int) * x) (show (p : Int) ≠ 0 by omega)
    have m1 := Int.emod_lt_of_pos ((x : Int) * x) (show (0 : Int) < p by omega)
    rw [l_m_symbol_21, hdiv, if_neg (fun h => by
      have := (iZ_lt ⟨by omega, by omega⟩ ⟨by omega, by omega⟩).mp h
      omega)]
    by_cases c : ((x : Int) * x) % p = w
    · rw [if_pos (by rw [c])]
      refine ⟨1, rfl, Or.inl ⟨rfl, x, ?_⟩⟩
      rw [← c]; exact cg_sy (cg_emod _ _)
    · rw [if_neg (fun h => c ((lZ_eq ⟨by omega, by omega⟩ ⟨by omega, by omega⟩).mp h)), iZ_l in_p, if_neg (fun h => by
        have := (lZ_eq ⟨by omega, by omega⟩ (by decide)).mp (h.trans (show (0 : Int64) = lZ 0 from rfl))
        omega), iZ_l ⟨by omega, by omega⟩, show (2 : Int64) = lZ 2 from rfl, lZ_mul, lZ_add, show (1 : Int64) = lZ 1 from rfl, lZ_add, lrm_Z ⟨by omega, by omega⟩ ⟨by omega, by omega⟩ (by omega), Int.tmod_eq_emod_of_nonneg (by omega), show iZ (x : Int) + 1 = iZ ((x + 1 : Nat) : Int) by rw [show (1 : Int32) = iZ 1 from rfl, iZ_add]; rfl]
      have e2 : (((x : Int) * x) % p + 2 * x + 1) % p = (((x + 1 : Nat) : Int) * ((x + 1 : Nat) : Int)) % p := by
        refine emod_cg ?_
        have := cg_add (cg_add (cg_emod (p : Int) ((x : Int) * x)) (cg_rf p (2 * (x : Int)))) (cg_rf p 1)
        rw [show ((x + 1 : Nat) : Int) * ((x + 1 : Nat) : Int) = (x : Int) * x + 2 * x + 1 by rw [show ((x + 1 : Nat) : Int) = (x : Int) + 1 by omega]; grind]
        exact this
      rw [e2]
      obtain ⟨r, k1, k2⟩ := ih fu (x + 1) (by omega) (by omega) (by omega)
      refine ⟨r, k1, ?_⟩
      rcases k2 with k2 | ⟨k2, k3⟩
      · exact Or.inl k2
      · refine Or.inr ⟨k2, fun y a b hc => ?_⟩
        rcases Nat.lt_or_ge x y with h | h
        · exact k3 y h b hc
        · have : y = x := by omega
          subst this
          exact c (by rw [emod_cg hc, emod_self' w0 w1])
theorem symbol_spec {F : Nat} (hF : 2 ^ 31 ≤ F) {p : Nat} {a : Int} (hp : pm p) (ho : p % 2 = 1) (hp2 : p ≤ 4194304) (ha : in64 a) : f_m_symbol F (lZ a) (iZ p) = some (iZ (leg p a)) := by
  have e := hf_odd ho
  have hp3 := three_le hp ho
  have in_p : in32 (p : Int) := ⟨by omega, by omega⟩
  have m0 := Int.emod_nonneg a (show (p : Int) ≠ 0 by omega)
  have m1 := Int.emod_lt_of_pos a (show (0 : Int) < p by omega)
  have hca : cg p (a % p) a := cg_emod _ _
  unfold f_m_symbol
  rw [iZ_l in_p, mrest_spec ha (by omega) (by omega)]
  show (if lZ (a % p) = 0 then some 0 else l_m_symbol_21 F (iZ p) (lZ (a % p)) F 1 1) = _
  by_cases c : a % p = 0
  · rw [if_pos (by rw [c]; rfl), leg_0 (Int.dvd_of_emod_eq_zero c)]; rfl
  · have hnd : ¬ (p : Int) ∣ a := fun h => c (Int.emod_eq_zero_of_dvd h)
    rw [if_neg (fun h => c ((lZ_eq ⟨by omega, by omega⟩ (by decide)).mp (h.trans (show (0 : Int64) = lZ 0 from rfl))))]
    obtain ⟨r, k1, k2⟩ := sym_loop (F := F) ho hp3 hp2 m0 m1 (hf p) F 1 (by omega) (by omega) (by omega)
    have e1 : (((1 : Nat) : Int) * ((1 : Nat) : Int)) % p = 1 := Int.emod_eq_of_lt (by decide) (by show (1 : Int) < p; omega)
    rw [e1] at k1
    have k1' : l_m_symbol_21 F (iZ p) (lZ (a % p)) F 1 1 = some (iZ r) := k1
    rw [k1']
    congr 2
    rcases k2 with ⟨h1, y, hy⟩ | ⟨h1, h2⟩
    · rw [h1, leg_1 hnd ⟨y, cg_tr hy hca⟩]
    · rw [h1, leg_m hnd]
      rintro ⟨z, hz⟩
      have hz1 : cg p (z * z) (a % p) := cg_tr hz (cg_sy hca)
      obtain ⟨n, hn1, hn2⟩ := nat_like (p := p) (by omega) z
      have hnn : cg p ((n : Int) * n) (a % p) := cg_tr (cg_mul hn2 hn2) hz1
      have hn0 : n ≠ 0 := by
        rintro rfl
        have h3 : cg p (a % p) 0 := cg_sy (by simpa using hnn)
        exact hnd (cg_0.mp (cg_tr (cg_sy hca) h3))
      rcases Nat.lt_or_ge (hf p) n with h3 | h3
      · refine h2 (p - n) (by omega) (by omega) ?_
        refine cg_tr ?_ hnn
        rw [Int.natCast_sub (by omega)]
        exact ⟨(p : Int) - 2 * n, by grind⟩
      · exact h2 n (by omega) h3 hnn
theorem sot_spec {F : Nat} {a : Int} (ha : in64 a) : f_m_symbolOfTwo F (lZ a) = some (iZ (K2 a)) := by
  have h0 := Int.emod_nonneg a (show (8 : Int) ≠ 0 by decide)
  have h1 := Int.emod_lt_of_pos a (show (0 : Int) < 8 by decide)
  have i8 : in64 (a % 8) := ⟨by omega, by omega⟩
  unfold f_m_symbolOfTwo K2
  rw [show (8 : Int64) = lZ 8 from rfl, mrest_spec ha (by decide) (by decide)]
  show (if lrm (lZ (a % 8)) 2 = 0 then some 0 else if lZ (a % 8) = 1 then some 1 else if lZ (a % 8) = 7 then some 1 else some (-1)) = _
  rw [show (2 : Int64) = lZ 2 from rfl, lrm_Z i8 (by decide) (by decide), show (0 : Int64) = lZ 0 from rfl, show (1 : Int64) = lZ 1 from rfl, show (7 : Int64) = lZ 7 from rfl, Int.tmod_eq_emod_of_nonneg h0]
  by_cases c : a % 2 = 0
  · rw [if_pos (by rw [show a % 8 % 2 = 0 by omega]), if_pos c]; rfl
  · rw [if_neg (fun h => c (by
      have := (lZ_eq ⟨by omega, by omega⟩ (by decide)).mp h
      omega)), if_neg c]
    by_cases c1 : a % 8 = 1
    · rw [if_pos (by rw [c1]), if_pos (Or.inl c1)]; rfl
    · rw [if_neg (fun h => c1 ((lZ_eq i8 (by decide)).mp h))]
      by_cases c7 : a % 8 = 7
      · rw [if_pos (by rw [c7]), if_pos (Or.inr c7)]; rfl
      · rw [if_neg (fun h => c7 ((lZ_eq i8 (by decide)).mp h)), if_neg (by omega)]; rfl
/-- the symbol of a and the prime p -/
noncomputable def sy1 (a : Int) (p : Nat) : Int := if p = 2 then K2 a else leg p a
theorem strip_loop {F : Nat} (hF : 2 ^ 31 ≤ F) {p : Nat} {a : Int} (ha : in64 a) (hp2 : 2 ≤ p) (hp3 : p ≤ 4194304) : ∀ (k fu l : Nat) (s : Int), k < fu → l ≤ k → 0 < l → l ≤ 4194304 → (pm p ∨ ¬ p ∣ l) →
    ∃ (j l' : Nat), l_m_kronecker_94 F (lZ a) (iZ p) fu (iZ s) (iZ l) = some (iZ (s * sy1 a p ^ j), iZ l') ∧ l = p ^ j * l' ∧ ¬ p ∣ l' ∧ 0 < l' := by
  intro k
  induction k with
  | zero => intro fu l s hfu h1 h2; omega
  | succ k ih =>
    intro fu l s hfu h1 h2 h3 h4
    obtain ⟨fu, rfl⟩ : ∃ z, fu = z + 1 := ⟨fu - 1, by omega⟩
    have in_p : in32 (p : Int) := ⟨by omega, by omega⟩
    have in_l : in32 (l : Int) := ⟨by omega, by omega⟩
    have hne : ¬ iZ p = 0 := fun h => by
      have := (iZ_eq in_p (by decide)).mp (h.trans (show (0 : Int32) = iZ 0 from rfl))
      omega
    rw [l_m_kronecker_94, if_neg hne, irm_Z in_l in_p (by omega), Int.tmod_eq_emod_of_nonneg (by omega), show (l : Int) % (p : Int) = ((l % p : Nat) : Int) from rfl]
    have hml := Nat.mod_lt l (show 0 < p by omega)
    by_cases c : l % p = 0
    · have hdv : p ∣ l := Nat.dvd_of_mod_eq_zero c
      have hpm := h4.resolve_right (fun h => h hdv)
      rw [if_pos (by rw [c]; rfl)]
      have hd := Nat.div_add_mod l p
      rw [c, Nat.add_zero] at hd
      have hq : 0 < l / p := by
        rcases Nat.eq_zero_or_pos (l / p) with h | h
        · rw [h, Nat.mul_zero] at hd; omega
        · exact h
      have hlt : 2 * (l / p) ≤ l := by
        have : 2 * (l / p) ≤ p * (l / p) := Nat.mul_le_mul_right _ hp2
        omega
      obtain ⟨j, l', k1, k2, k3, k4⟩ := ih fu (l / p) (s * sy1 a p) (by omega) (by omega) hq (by omega) (Or.inl hpm)
      have e1 : iZ l / iZ p = iZ ((l / p : Nat) : Int) := by rw [iZ_div in_l in_p (by omega), Int.natCast_tdiv_eq_ediv]; rfl
      have fin : l_m_kronecker_94 F (lZ a) (iZ p) fu (iZ s * iZ (sy1 a p)) (iZ l / iZ p) = some (iZ (s * sy1 a p ^ (j + 1)), iZ l') := by
        rw [iZ_mul, e1, k1, Int.pow_succ, Int.mul_assoc, Int.mul_comm (sy1 a p)]
      refine ⟨j + 1, l', ?_, by rw [← hd, k2, Nat.pow_succ]; grind, k3, k4⟩
      by_cases c2 : p = 2
      · rw [if_pos (by rw [c2]; rfl), sot_spec ha]
        show (if iZ p = 0 then none else l_m_kronecker_94 F (lZ a) (iZ p) fu (iZ s * iZ (K2 a)) (iZ l / iZ p)) = _
        rw [if_neg hne, ← fin]
        unfold sy1
        rw [if_pos c2]
      · have ho : p % 2 = 1 := by
          rcases Nat.mod_two_eq_zero_or_one p with g | g
          · exact absurd (pm_dvd_pm pm_2 hpm (Nat.dvd_of_mod_eq_zero g)).symm c2
          · exact g
        rw [if_neg (fun h => c2 (by
          have := (iZ_eq in_p (by decide)).mp (h.trans (show (2 : Int32) = iZ 2 from rfl))
          omega)), symbol_spec hF hpm ho hp3 ha]
        show (if iZ p = 0 then none else l_m_kronecker_94 F (lZ a) (iZ p) fu (iZ s * iZ (leg p a)) (iZ l / iZ p)) = _
        rw [if_neg hne, ← fin]
        unfold sy1
        rw [if_neg c2]
    · rw [if_neg (fun h => c (by
        have := (iZ_eq ⟨by omega, by omega⟩ (by decide)).mp (h.trans (show (0 : Int32) = iZ 0 from rfl))
        omega))]
      exact ⟨0, l, by rw [Int.pow_zero, Int.mul_one], by simp, fun h => c (Nat.mod_eq_zero_of_dvd h), h2⟩
theorem JL_app (a : Int) (ps qs : List Nat) : JL a (ps ++ qs) = JL a ps * JL a qs := by
  induction ps with
  | nil => rw [List.nil_append, JL, Int.one_mul]
  | cons p ps ih => rw [List.cons_append, JL, JL, ih, Int.mul_assoc]
theorem JL_rep (a : Int) (p : Nat) : ∀ j, JL a (List.replicate j p) = leg p a ^ j
  | 0 => by rw [Int.pow_zero]; rfl
  | j + 1 => by rw [List.replicate_succ, JL, JL_rep a p j, Int.pow_succ, Int.mul_comm]
theorem prod_rep (p : Nat) : ∀ j, (List.replicate j p).prod = p ^ j
  | 0 => rfl
  | j + 1 => by rw [List.replicate_succ, List.prod_cons, prod_rep p j, Nat.pow_succ, Nat.mul_comm]
theorem mk_loop {F : Nat} (hF : 2 ^ 31 ≤ F) {n : Nat} {a : Int} (ha : in64 a) (hn : n ≤ 4194304) : ∀ (k fu p l : Nat) (s : Int), k < fu → p + k = n + 1 → 2 ≤ p → 0 < l → l ≤ n → (∀ q, pm q → q ∣ l → p ≤ q) →
    ∃ (v : Nat) (ps : List Nat), l_m_kronecker_88 F (lZ a) fu (iZ s) (iZ l) (iZ p) = some (iZ (s * KV a v ps)) ∧ l = 2 ^ v * ps.prod ∧ opl ps ∧ (3 ≤ p → v = 0) := by
  have done : ∀ (fu p : Nat) (s : Int), ∃ (v : Nat) (ps : List Nat), l_m_kronecker_88 F (lZ a) (fu + 1) (iZ s) (iZ ((1 : Nat) : Int)) (iZ p) = some (iZ (s * KV a v ps)) ∧ 1 = 2 ^ v * ps.prod ∧ opl ps ∧ (3 ≤ p → v = 0) := by
    intro fu p s
    refine ⟨0, [], ?_, rfl, fun _ h => absurd h List.not_mem_nil, fun _ => rfl⟩
    rw [l_m_kronecker_88, if_pos (by decide), KV, Int.pow_zero, JL, Int.mul_one, Int.mul_one]
  intro k
  induction k with
  | zero =>
    intro fu p l s hfu hp hp2 hl hln hq
    obtain ⟨fu, rfl⟩ : ∃ z, fu = z + 1 := ⟨fu - 1, by omega⟩
    have : l = 1 := by
      rcases Nat.lt_or_ge 1 l with h | h
      · obtain ⟨q, q1, q2⟩ := pm_ex l h
        have := hq q q1 q2
        have := Nat.le_of_dvd hl q2
        omega
      · omega
    subst this
    exact done fu p s
  | succ k ih =>
    intro fu p l s hfu hp hp2 hl hln hq
    obtain ⟨fu, rfl⟩ : ∃ z, fu = z + 1 := ⟨fu - 1, by omega⟩
    by_cases c1 : l = 1
    · subst c1; exact done fu p s
    · rw [l_m_kronecker_88, show (1 : Int32) = iZ 1 from rfl, if_neg (fun h => by
        have := (iZ_le (a := (l : Int)) (b := 1) ⟨by omega, by omega⟩ (by decide)).mp h
        omega)]
      have hpp : pm p ∨ ¬ p ∣ l := by
        by_cases hd : p ∣ l
        · left
          obtain ⟨q, q1, q2⟩ := pm_ex p hp2
          have h1 := hq q q1 (Nat.dvd_trans q2 hd)
          have h2 := Nat.le_of_dvd (by omega) q2
          have : q = p := by omega
          rw [← this]; exact q1
        · exact Or.inr hd
      obtain ⟨j, l', k1, k2, k3, k4⟩ := strip_loop hF ha hp2 (by omega) l F l s (by omega) (Nat.le_refl _) hl (by omega) hpp
      rw [k1]
      show ∃ (v : Nat) (ps : List Nat), l_m_kronecker_88 F (lZ a) fu (iZ (s * sy1 a p ^ j)) (iZ l') (iZ p + iZ 1) = _ ∧ _
      rw [iZ_add, show (p : Int) + 1 = ((p + 1 : Nat) : Int) by omega]
      have hl' : l' ≤ l := by
        rw [k2]
        have : 1 * l' ≤ p ^ j * l' := Nat.mul_le_mul_right _ (Nat.pow_pos (by omega))
        omega
      obtain ⟨v, ps, e1, e2, e3, e4⟩ := ih fu (p + 1) l' (s * sy1 a p ^ j) (by omega) (by omega) (by omega) k4 (by omega) (fun q q1 q2 => by
        have h1 := hq q q1 (by rw [k2]; exact Nat.dvd_trans q2 (Nat.dvd_mul_left _ _))
        rcases Nat.lt_or_ge p q with h | h
        · exact h
        · have : q = p := by omega
          rw [this] at q2
          exact absurd q2 k3)
      have hv := e4 (by omega)
      subst hv
      rw [Nat.pow_zero, Nat.one_mul] at e2
      rw [e1]
      by_cases c2 : p = 2
      · refine ⟨j, ps, ?_, by rw [k2, e2, c2], e3, fun h => by omega⟩
        unfold KV sy1
        rw [if_pos c2, Int.pow_zero, Int.one_mul, Int.mul_assoc]
      · refine ⟨0, List.replicate j p ++ ps, ?_, ?_, ?_, fun _ => rfl⟩
        · unfold KV sy1
          rw [if_neg c2, Int.pow_zero, Int.one_mul, Int.one_mul, JL_app, JL_rep, Int.mul_assoc]
        · rw [Nat.pow_zero, Nat.one_mul, List.prod_append_nat, prod_rep, ← e2, k2]
        · intro q hqm
          rcases List.mem_append.mp hqm with h | h
          · obtain ⟨hj, rfl⟩ := List.mem_replicate.mp h
            have hd : q ∣ l := by
              obtain ⟨i, hi⟩ : ∃ i, j = i + 1 := ⟨j - 1, by omega⟩
              rw [k2, hi, Nat.pow_succ]
              exact Nat.dvd_trans (Nat.dvd_mul_left q (q ^ i)) (Nat.dvd_mul_right _ _)
            have hpm := hpp.resolve_right (fun h => h hd)
            refine ⟨hpm, ?_⟩
            rcases Nat.mod_two_eq_zero_or_one q with g | g
            · exact absurd (pm_dvd_pm pm_2 hpm (Nat.dvd_of_mod_eq_zero g)).symm c2
            · exact g
          · exact e3 q h
theorem min_in {F : Nat} {a b c : Int} (ha : in64 a) (hb : in64 b) (hc : in64 c) : f_m_in F (lZ a) (lZ b) (lZ c) = some (if b ≤ a ∧ a ≤ c then 1 else 0) := by
  unfold f_m_in
  by_cases c1 : a < b
  · rw [if_pos ((lZ_lt ha hb).mpr c1), if_neg (by omega)]
  · rw [if_neg (fun h => c1 ((lZ_lt ha hb).mp h))]
    by_cases c2 : c < a
    · rw [if_pos ((lZ_lt hc ha).mpr c2), if_neg (by omega)]
    · rw [if_neg (fun h => c2 ((lZ_lt hc ha).mp h)), if_pos (by omega)]
/-- kronecker: class and reference answer alike -/
theorem kron_same {F : Nat} (hF : 2 ^ 31 ≤ F) {a n : Int} (ha : in64 a) (hn : in32 n) (co : Int32) :
    (f_r_kronecker F (lZ a) (iZ n) = some none ∧ f_m_kronecker F co (lZ a) (iZ n) = some (0, 1)) ∨ ∃ r : Int32, f_r_kronecker F (lZ a) (iZ n) = some (some r) ∧ f_m_kronecker F co (lZ a) (iZ n) = some (r, 0) := by
  unfold f_m_kronecker
  rw [iZ_l hn, show (-4194304 : Int64) = lZ (-4194304) from rfl, show (4194304 : Int64) = lZ 4194304 from rfl, min_in (in32_64 hn) (by decide) (by decide)]
  by_cases c0 : -4194304 ≤ n ∧ n ≤ 4194304
  · right
    rw [if_pos c0]
    by_cases cz : n = 0
    · subst cz
      unfold f_r_kronecker
      show ∃ r, _ ∧ (if (1 : Int32) = 0 then some (0, 1) else if iZ 0 = 0 then if lZ a = 1 then some (1, 0) else if lZ a = (-1) then some (1, 0) else some (0, 0) else if 0 ≤ iZ 0 then if 0 ≤ iZ 0 then b1 (l_m_kronecker_88 F (lZ a) F 1 (iZ 0) 2) fun x4_8 => some (x4_8, 0) else b1 (l_m_kronecker_88 F (lZ a) F 1 (-iZ 0) 2) fun x4_9 => some (x4_9, 0) else if 0 ≤ lZ a then if 0 ≤ iZ 0 then b1 (l_m_kronecker_88 F (lZ a) F 1 (iZ 0) 2) fun x4_12 => some (x4_12, 0) else b1 (l_m_kronecker_88 F (lZ a) F 1 (-iZ 0) 2) fun x4_13 => some (x4_13, 0) else if 0 ≤ iZ 0 then b1 (l_m_kronecker_88 F (lZ a) F (-1) (iZ 0) 2) fun x4_15 => some (x4_15, 0) else b1 (l_m_kronecker_88 F (lZ a) F (-1) (-iZ 0) 2) fun x4_16 => some (x4_16, 0)) = some (r, 0)
      rw [if_neg (show ¬ iZ 0 < -4194304 by decide), if_pos (show iZ 0 ≤ 4194304 by decide), if_pos (show iZ 0 = 0 by decide), if_neg (show ¬ (1 : Int32) = 0 by decide), if_pos (show iZ 0 = 0 by decide)]
      by_cases c1 : lZ a = 1
      · rw [if_pos c1, if_pos c1]; exact ⟨1, rfl, rfl⟩
      · rw [if_neg c1, if_neg c1]
        by_cases c2 : lZ a = -1
        · rw [if_pos c2, if_pos c2]; exact ⟨1, rfl, rfl⟩
        · rw [if_neg c2, if_neg c2]; exact ⟨0, rfl, rfl⟩
    · obtain ⟨v, ps, k1, k2, k3, -⟩ := mk_loop hF (n := n.natAbs) ha (by omega) (n.natAbs - 1) F 2 n.natAbs (if n < 0 ∧ a < 0 then -1 else 1) (by omega) (by omega) (by omega) (by omega) (Nat.le_refl _) (fun q hq _ => hq.1)
      refine ⟨_, kronecker_spec (by omega) ha cz k2 k3 c0.1 c0.2, ?_⟩
      have k1' : l_m_kronecker_88 F (lZ a) F (iZ (if n < 0 ∧ a < 0 then -1 else 1)) (iZ (n.natAbs : Int)) 2 = some (iZ ((if n < 0 ∧ a < 0 then -1 else 1) * KV a v ps)) := k1
      show (if (1 : Int32) = 0 then some (0, 1) else if iZ n = 0 then if lZ a = 1 then some (1, 0) else if lZ a = (-1) then some (1, 0) else some (0, 0) else if 0 ≤ iZ n then if 0 ≤ iZ n then b1 (l_m_kronecker_88 F (lZ a) F 1 (iZ n) 2) fun x4_8 => some (x4_8, 0) else b1 (l_m_kronecker_88 F (lZ a) F 1 (-iZ n) 2) fun x4_9 => some (x4_9, 0) else if 0 ≤ lZ a then if 0 ≤ iZ n then b1 (l_m_kronecker_88 F (lZ a) F 1 (iZ n) 2) fun x4_12 => some (x4_12, 0) else b1 (l_m_kronecker_88 F (lZ a) F 1 (-iZ n) 2) fun x4_13 => some (x4_13, 0) else if 0 ≤ iZ n then b1 (l_m_kronecker_88 F (lZ a) F (-1) (iZ n) 2) fun x4_15 => some (x4_15, 0) else b1 (l_m_kronecker_88 F (lZ a) F (-1) (-iZ n) 2) fun x4_16 => some (x4_16, 0)) = _
      rw [if_neg (by decide), if_neg (fun h => cz ((iZ_eq hn (by decide)).mp (h.trans (show (0 : Int32) = iZ 0 from rfl)))), iZ_neg, show (0 : Int64) = lZ 0 from rfl]
      have hz : ∀ P : Prop, (0 ≤ iZ n ↔ P) ↔ (0 ≤ n ↔ P) := fun P => by rw [show (0 : Int32) = iZ 0 from rfl, iZ_le (by decide) hn]
      have hz0 : (0 : Int32) ≤ iZ n ↔ 0 ≤ n := (hz _).mpr Iff.rfl
      by_cases c1 : 0 ≤ n
      · rw [if_pos (hz0.mpr c1), if_pos (hz0.mpr c1)]
        rw [if_neg (show ¬ (n < 0 ∧ a < 0) by omega), show (n.natAbs : Int) = n by omega] at k1'
        have k1'' : l_m_kronecker_88 F (lZ a) F 1 (iZ n) 2 = some (iZ (1 * KV a v ps)) := k1'
        rw [k1'', if_neg (show ¬ (n < 0 ∧ a < 0) by omega)]; rfl
      · have c1' : ¬ (0 : Int32) ≤ iZ n := fun h => c1 (hz0.mp h)
        rw [if_neg c1']
        rw [show (n.natAbs : Int) = -n by omega] at k1'
        by_cases c2 : 0 ≤ a
        · rw [if_pos ((lZ_le (by decide) ha).mpr c2), if_neg c1']
          rw [if_neg (show ¬ (n < 0 ∧ a < 0) by omega)] at k1'
          have k1'' : l_m_kronecker_88 F (lZ a) F 1 (iZ (-n)) 2 = some (iZ (1 * KV a v ps)) := k1'
          rw [k1'', if_neg (show ¬ (n < 0 ∧ a < 0) by omega)]; rfl
        · rw [if_neg (fun h => c2 ((lZ_le (by decide) ha).mp h)), if_neg c1']
          rw [if_pos (show n < 0 ∧ a < 0 by omega)] at k1'
          have k1'' : l_m_kronecker_88 F (lZ a) F (-1) (iZ (-n)) 2 = some (iZ (-1 * KV a v ps)) := k1'
          rw [k1'', if_pos (show n < 0 ∧ a < 0 by omega)]; rfl
  · left
    rw [if_neg c0]
    refine ⟨?_, rfl⟩
    unfold f_r_kronecker
    by_cases c1 : n < -4194304
    · rw [show (-4194304 : Int32) = iZ (-4194304) from rfl, if_pos ((iZ_lt hn (by decide)).mpr c1)]
    · rw [show (-4194304 : Int32) = iZ (-4194304) from rfl, if_neg (fun h => c1 ((iZ_lt hn (by decide)).mp h)), show (4194304 : Int32) = iZ 4194304 from rfl, if_neg (fun h => by
        have := (iZ_le hn (by decide)).mp h
        omega)]
