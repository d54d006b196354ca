/-! countCoprimes, greatestSquaredDivisor, kronecker, power, inverse of the class -/
def phiL (t : List (Nat × Nat)) : Nat := (t.map (fun x => (x.1 - 1) * x.1 ^ (x.2 - 1))).prod
theorem cop_loop {F i p e : Nat} {pr ex : Nat → Int32} (hi : i < 7) (hpr : pr i = nI p) (hex : ex i = nI e) (he : e < 2 ^ 31) : ∀ (k fu j c : Nat), k < fu → j + k = e → l_r_countCoprimes_25 F (nI i) pr ex fu (nI c) (nI j) = some (nI (c * p ^ k)) := by
  intro k
  induction k with
  | zero =>
    intro fu j c hfu hj
    obtain ⟨fu, rfl⟩ : ∃ w, fu = w + 1 := ⟨fu - 1, by omega⟩
    rw [l_r_countCoprimes_25, if_neg (gixZ (by omega) (by omega)), nI_clamp (by omega), hex, if_pos (nI_le (by omega) (by omega)), Nat.pow_zero, Nat.mul_one]
  | succ k ih =>
    intro fu j c hfu hj
    obtain ⟨fu, rfl⟩ : ∃ w, fu = w + 1 := ⟨fu - 1, by omega⟩
    rw [l_r_countCoprimes_25, if_neg (gixZ (by omega) (by omega)), nI_clamp (by omega), hex, if_neg (nI_ge (by omega) (by omega)), if_neg (gixZ (by omega) (by omega)), hpr, pk_mul, nI_1, ih fu (j + 1) (c * p) (by omega) (by omega), Nat.pow_succ]
    congr 2
    grind
theorem copr_loop {F : Nat} {pr ex : Nat → Int32} {t : List (Nat × Nat)} (hF : 2 ^ 31 ≤ F) (h7 : t.length ≤ 7) (hb : ∀ x ∈ t, 1 ≤ x.1 ∧ 1 ≤ x.2 ∧ x.2 < 2 ^ 31) (hpr : row pr (t.map (fun x => x.1))) (hex : row ex (t.map (fun x => x.2))) :
    ∀ (t2 t1 : List (Nat × Nat)) (fu c : Nat), t = t1 ++ t2 → t2.length < fu → l_r_countCoprimes_4 F (nI t.length) pr ex fu (nI c) (nI t1.length) = some (nI (c * phiL t2)) := by
  intro t2
  induction t2 with
  | nil =>
    intro t1 fu c hte hfu
    obtain ⟨fu, rfl⟩ : ∃ w, fu = w + 1 := ⟨fu - 1, by omega⟩
    rw [List.append_nil] at hte
    subst hte
    rw [l_r_countCoprimes_4, if_pos (nI_le (Nat.le_refl _) (by omega))]
    simp [phiL]
  | cons x t2 ih =>
    intro t1 fu c hte hfu
    obtain ⟨fu, rfl⟩ : ∃ w, fu = w + 1 := ⟨fu - 1, by omega⟩
    have hxt : x ∈ t := by rw [hte]; exact List.mem_append_right _ List.mem_cons_self
    obtain ⟨hp0, he1, he2⟩ := hb x hxt
    have hi : t1.length < t.length := by rw [hte]; simp
    have hget : t[t1.length]? = some x := by rw [hte, List.getElem?_append_right (Nat.le_refl _), Nat.sub_self]; rfl
    have hpri : pr t1.length = nI x.1 := row_get hpr (by rw [List.getElem?_map, hget]; rfl)
    have hexi : ex t1.length = nI x.2 := row_get hex (by rw [List.getElem?_map, hget]; rfl)
    rw [l_r_countCoprimes_4, if_neg (nI_ge hi (by omega)), if_neg (gixZ (by omega) (by omega)), nI_clamp (by omega), hpri, show (1 : Int32) = nI 1 from rfl, pk_sub hp0, pk_mul, cop_loop (F := F) (show t1.length < 7 by omega) hpri hexi he2 (x.2 - 1) F 1 (c * (x.1 - 1)) (by omega) (by omega), nI_add]
    have := ih (t1 ++ [x]) fu (c * (x.1 - 1) * x.1 ^ (x.2 - 1)) (by rw [hte, List.append_assoc]; rfl) (by simp at hfu; omega)
    rw [List.length_append] at this
    show l_r_countCoprimes_4 F (nI t.length) pr ex fu (nI (c * (x.1 - 1) * x.1 ^ (x.2 - 1))) (nI (t1.length + [x].length)) = _
    rw [this]
    congr 2
    unfold phiL
    rw [List.map_cons, List.prod_cons]
    grind
theorem fok_b {t : List (Nat × Nat)} (ht : fok t) (hN : fac t ≤ 4194304) : ∀ x ∈ t, 1 ≤ x.1 ∧ 1 ≤ x.2 ∧ x.2 < 2 ^ 31 := by
  intro x hx
  obtain ⟨h1, h2⟩ := ht.1 x hx
  refine ⟨by have := h1.1; omega, h2, ?_⟩
  have hd : x.1 ^ x.2 ∣ fac t := by
    obtain ⟨a, b, rfl⟩ := List.append_of_mem hx
    rw [fac_app, fac]
    exact Nat.dvd_trans (Nat.dvd_mul_right _ _) (Nat.dvd_mul_left _ _)
  have h3 := Nat.le_of_dvd (fac_pos ht) hd
  have h4 : x.2 < 2 ^ x.2 := Nat.lt_two_pow_self
  have h5 : 2 ^ x.2 ≤ x.1 ^ x.2 := Nat.pow_le_pow_left h1.1 _
  omega
theorem coprimes_spec {F : Nat} {pr ex : Nat → Int32} {t : List (Nat × Nat)} (hF : 2 ^ 31 ≤ F) (ht : fok t) (hN : fac t ≤ 4194304) (hpr : row pr (t.map (fun x => x.1))) (hex : row ex (t.map (fun x => x.2))) : f_r_countCoprimes F (nI t.length) pr ex = some (nI (phiL t)) := by
  have h7 := len_7 ht hN
  have := copr_loop (F := F) hF h7 (fok_b ht hN) hpr hex t [] F 1 rfl (by omega)
  unfold f_r_countCoprimes
  have k1' : l_r_countCoprimes_4 F (nI t.length) pr ex F 1 0 = some (nI (1 * phiL t)) := this
  rw [k1', Nat.one_mul]; rfl
theorem sqd_loop {F i p e : Nat} {pr ex : Nat → Int32} (hi : i < 7) (hpr : pr i = nI p) (hex : ex i = nI e) (he : e < 2 ^ 30) : ∀ (k fu j c : Nat), k < fu → j + k = e / 2 + 1 → 1 ≤ j → l_r_greatestSquaredDivisor_14 F (nI i) pr ex fu (nI c) (nI (2 * j)) = some (nI (c * p ^ k)) := by
  intro k
  induction k with
  | zero =>
    intro fu j c hfu hj _
    obtain ⟨fu, rfl⟩ : ∃ w, fu = w + 1 := ⟨fu - 1, by omega⟩
    rw [l_r_greatestSquaredDivisor_14, if_neg (gixZ (by omega) (by omega)), nI_clamp (by omega), hex, if_pos (nI_lt (by omega) (by omega)), Nat.pow_zero, Nat.mul_one]
  | succ k ih =>
    intro fu j c hfu hj _
    obtain ⟨fu, rfl⟩ : ∃ w, fu = w + 1 := ⟨fu - 1, by omega⟩
    rw [l_r_greatestSquaredDivisor_14, if_neg (gixZ (by omega) (by omega)), nI_clamp (by omega), hex, if_neg (nI_nlt (by omega) (by omega)), if_neg (gixZ (by omega) (by omega)), hpr, pk_mul, show (2 : Int32) = nI 2 from rfl, nI_add, show 2 * j + 2 = 2 * (j + 1) by omega, ih fu (j + 1) (c * p) (by omega) (by omega) (by omega), Nat.pow_succ]
    congr 2
    grind
theorem sqdr_loop {F : Nat} {pr ex : Nat → Int32} {t : List (Nat × Nat)} (hF : 2 ^ 31 ≤ F) (h7 : t.length ≤ 7) (hb : ∀ x ∈ t, x.2 < 2 ^ 30) (hpr : row pr (t.map (fun x => x.1))) (hex : row ex (t.map (fun x => x.2))) :
    ∀ (t2 t1 : List (Nat × Nat)) (fu c : Nat), t = t1 ++ t2 → t2.length < fu → l_r_greatestSquaredDivisor_4 F (nI t.length) pr ex fu (nI c) (nI t1.length) = some (nI (c * gsq t2)) := by
  intro t2
  induction t2 with
  | nil =>
    intro t1 fu c hte hfu
    obtain ⟨fu, rfl⟩ : ∃ w, fu = w + 1 := ⟨fu - 1, by omega⟩
    rw [List.append_nil] at hte
    subst hte
    rw [l_r_greatestSquaredDivisor_4, if_pos (nI_le (Nat.le_refl _) (by omega))]
    simp [gsq]
  | cons x t2 ih =>
    intro t1 fu c hte hfu
    obtain ⟨fu, rfl⟩ : ∃ w, fu = w + 1 := ⟨fu - 1, by omega⟩
    have hxt : x ∈ t := by rw [hte]; exact List.mem_append_right _ List.mem_cons_self
    have he2 := hb x hxt
    have hi : t1.length < t.length := by rw [hte]; simp
    have hget : t[t1.length]? = some x := by rw [hte, List.getElem?_append_right (Nat.le_refl _), Nat.sub_self]; rfl
    have hpri : pr t1.length = nI x.1 := row_get hpr (by rw [List.getElem?_map, hget]; rfl)
    have hexi : ex t1.length = nI x.2 := row_get hex (by rw [List.getElem?_map, hget]; rfl)
    have k1 := sqd_loop (F := F) (show t1.length < 7 by omega) hpri hexi he2 (x.2 / 2) F 1 c (by omega) (by omega) (by omega)
    have k1' : l_r_greatestSquaredDivisor_14 F (nI t1.length) pr ex F (nI c) 2 = some (nI (c * x.1 ^ (x.2 / 2))) := k1
    rw [l_r_greatestSquaredDivisor_4, if_neg (nI_ge hi (by omega)), k1']
    have := ih (t1 ++ [x]) fu (c * x.1 ^ (x.2 / 2)) (by rw [hte, List.append_assoc]; rfl) (by simp at hfu; omega)
    rw [List.length_append] at this
    show l_r_greatestSquaredDivisor_4 F (nI t.length) pr ex fu (nI (c * x.1 ^ (x.2 / 2))) (nI t1.length + nI 1) = _
    rw [nI_add]
    show l_r_greatestSquaredDivisor_4 F (nI t.length) pr ex fu (nI (c * x.1 ^ (x.2 / 2))) (nI (t1.length + [x].length)) = _
    rw [this, gsq]
    congr 2
    grind
theorem sqd_spec {F : Nat} {pr ex : Nat → Int32} {t : List (Nat × Nat)} (hF : 2 ^ 31 ≤ F) (ht : fok t) (hN : fac t ≤ 4194304) (hpr : row pr (t.map (fun x => x.1))) (hex : row ex (t.map (fun x => x.2))) : f_r_greatestSquaredDivisor F (nI t.length) pr ex = some (nI (gsq t)) := by
  have h7 := len_7 ht hN
  have := sqdr_loop (F := F) hF h7 (fun x hx => by
    obtain ⟨h1, h2⟩ := ht.1 x hx
    have hd : x.1 ^ x.2 ∣ fac t := by
      obtain ⟨a, b, rfl⟩ := List.append_of_mem hx
      rw [fac_app, fac]
      exact Nat.dvd_trans (Nat.dvd_mul_right _ _) (Nat.dvd_mul_left _ _)
    have h3 := Nat.le_of_dvd (fac_pos ht) hd
    have h4 : x.2 < 2 ^ x.2 := Nat.lt_two_pow_self
    have h5 : 2 ^ x.2 ≤ x.1 ^ x.2 := Nat.pow_le_pow_left h1.1 _
    omega) hpr hex t [] F 1 rfl (by omega)
  unfold f_r_greatestSquaredDivisor
  have k1' : l_r_greatestSquaredDivisor_4 F (nI t.length) pr ex F 1 0 = some (nI (1 * gsq t)) := this
  rw [k1', Nat.one_mul]; rfl
/-- Kronecker's symbol of a and the number 2 ^ v * (product of ps), with the sign -/
noncomputable def KV (a : Int) (v : Nat) (ps : List Nat) : Int := K2 a ^ v * JL a ps
theorem kr_loop {F : Nat} {a : Int} : ∀ (k fu j o : Nat) (s : Int), k < fu → j + k = 22 → 0 < o → o * 2 ^ j ≤ 4194304 →
    ∃ (w o' : Nat), l_r_kronecker_78 F (lZ a) fu (iZ s) (iZ o) (iZ j) = some (iZ (s * K2 a ^ w), iZ o') ∧ o = 2 ^ w * o' ∧ o' % 2 = 1 := by
  intro k
  induction k with
  | zero =>
    intro fu j o s hfu hj h0 hle
    obtain ⟨fu, rfl⟩ : ∃ w, fu = w + 1 := ⟨fu - 1, by omega⟩
    have : j = 22 := by omega
    subst this
    have : o = 1 := by omega
    subst this
    refine ⟨0, 1, ?_, rfl, rfl⟩
    rw [l_r_kronecker_78, if_pos (by decide), Int.pow_zero, Int.mul_one]
  | succ k ih =>
    intro fu j o s hfu hj h0 hle
    obtain ⟨fu, rfl⟩ : ∃ w, fu = w + 1 := ⟨fu - 1, by omega⟩
    have hole : o ≤ 4194304 := by
      have : o * 1 ≤ o * 2 ^ j := Nat.mul_le_mul_left _ (Nat.pow_pos (by decide))
      omega
    have in_o : in32 (o : Int) := ⟨by omega, by omega⟩
    rw [l_r_kronecker_78, show (22 : Int32) = iZ 22 from rfl, if_neg (fun h => by
      have := (iZ_le (by decide) ⟨by omega, by omega⟩).mp h
      omega), show (2 : Int32) = iZ 2 from rfl, irm_Z in_o (by decide) (by decide), show (0 : Int32) = iZ 0 from rfl, sw2_spec, iZ_div in_o (by decide) (by decide), Int.tmod_eq_emod_of_nonneg (by omega), Int.natCast_tdiv_eq_ediv]
    by_cases c : o % 2 = 0
    · rw [if_pos (by rw [show (o : Int) % 2 = 0 by omega])]
      show ∃ (w o' : Nat), l_r_kronecker_78 F (lZ a) fu (iZ s * iZ (K2 a)) (iZ ((o : Int) / 2)) (iZ j + 1) = _ ∧ _
      rw [iZ_mul, show iZ (j : Int) + 1 = iZ ((j + 1 : Nat) : Int) by rw [show (1 : Int32) = iZ 1 from rfl, iZ_add]; rfl, show (o : Int) / 2 = ((o / 2 : Nat) : Int) by omega]
      obtain ⟨w, o', k1, k2, k3⟩ := ih fu (j + 1) (o / 2) (s * K2 a) (by omega) (by omega) (by omega) (by
        have h2 : o / 2 * 2 ^ (j + 1) = 2 * (o / 2) * 2 ^ j := by rw [Nat.pow_succ]; grind
        have h3 : 2 * (o / 2) * 2 ^ j ≤ o * 2 ^ j := Nat.mul_le_mul_right _ (by omega)
        omega)
      refine ⟨w + 1, o', ?_, ?_, k3⟩
      · rw [k1, Int.pow_succ, Int.mul_assoc, Int.mul_comm (K2 a)]
      · rw [Nat.pow_succ, Nat.mul_comm (2 ^ w), Nat.mul_assoc, ← k2]; omega
    · rw [if_neg (fun h => c (by
        have := (iZ_eq ⟨by omega, by omega⟩ (by decide)).mp h
        omega))]
      exact ⟨0, o, by rw [Int.pow_zero, Int.mul_one], by simp, by omega⟩
theorem kr_part {F : Nat} (hF : 100 ≤ F) {a s : Int} {n v : Nat} {ps : List Nat} (ha : in64 a) (hn : n = 2 ^ v * ps.prod) (hp : opl ps) (hn2 : n ≤ 4194304) : ∃ (x4 x5 : Int32), l_r_kronecker_78 F (lZ a) F (iZ s) (iZ n) 0 = some (x4, x5) ∧ ∃ r7, f_r_jacobi F (lZ a) x5 = some r7 ∧ x4 * r7 = iZ (s * KV a v ps) := by
  have hodd := opl_odd hp
  have hn0 : 0 < n := by
    rw [hn]
    exact Nat.mul_pos (Nat.pow_pos (by decide)) (by omega)
  obtain ⟨w, o', k1, k2, k3⟩ := kr_loop (F := F) (a := a) 22 F 0 n s (by omega) (by omega) hn0 (by omega)
  obtain ⟨e1, e2⟩ := pow_apart pm_2 (i := w) (j := v) (a := o') (b := ps.prod) (fun h => by omega) (fun h => by omega) (by rw [Nat.mul_comm, ← k2, hn, Nat.mul_comm])
  subst e1
  have ho : o' ≤ 4194304 := by
    have : 1 * o' ≤ 2 ^ w * o' := Nat.mul_le_mul_right _ (Nat.pow_pos (by decide))
    omega
  refine ⟨_, _, k1, iZ (JL a ps), jacobi_spec hF ha hp e2 ho, ?_⟩
  rw [iZ_mul, KV, Int.mul_assoc]
theorem kronecker_spec {F : Nat} (hF : 100 ≤ F) {a n : Int} {v : Nat} {ps : List Nat} (ha : in64 a) (h0 : n ≠ 0) (hn : n.natAbs = 2 ^ v * ps.prod) (hp : opl ps) (n1 : -4194304 ≤ n) (n2 : n ≤ 4194304) : f_r_kronecker F (lZ a) (iZ n) = some (some (iZ ((if n < 0 ∧ a < 0 then -1 else 1) * KV a v ps))) := by
  have in_n : in32 n := ⟨by omega, by omega⟩
  unfold f_r_kronecker
  rw [show (-4194304 : Int32) = iZ (-4194304) from rfl, if_neg (fun h => by
    have := (iZ_lt in_n (by decide)).mp h
    omega), show (4194304 : Int32) = iZ 4194304 from rfl, if_pos ((iZ_le in_n (by decide)).mpr n2), show (0 : Int32) = iZ 0 from rfl, if_neg (fun h => h0 ((iZ_eq in_n (by decide)).mp h)), show (0 : Int64) = lZ 0 from rfl, iZ_neg]
  have part : ∀ s : Int, ∀ m : Nat, m = n.natAbs → sm (b2 (l_r_kronecker_78 F (lZ a) F (iZ s) (iZ (m : Int)) (iZ 0)) fun x4 x5 => b1 (f_r_jacobi F (lZ a) x5) fun r7 => some (x4 * r7)) = some (some (iZ (s * KV a v ps))) := by
    intro s m hm
    obtain ⟨x4, x5, k1, r7, k2, k3⟩ := kr_part (F := F) hF (s := s) (n := m) (v := v) (ps := ps) ha (by rw [hm]; exact hn) hp (by omega)
    have k1' : l_r_kronecker_78 F (lZ a) F (iZ s) (iZ (m : Int)) (iZ 0) = some (x4, x5) := k1
    rw [k1']
    show sm (b1 (f_r_jacobi F (lZ a) x5) fun r7 => some (x4 * r7)) = _
    rw [k2]
    show sm (some (x4 * r7)) = _
    rw [k3]; rfl
  by_cases c1 : 0 ≤ n
  · rw [if_pos ((iZ_le (by decide) in_n).mpr c1), if_pos ((iZ_le (by decide) in_n).mpr c1), if_neg (show ¬ (n < 0 ∧ a < 0) by omega)]
    have := part 1 n.natAbs rfl
    rw [show ((n.natAbs : Nat) : Int) = n by omega] at this
    exact this
  · have c1' : ¬ iZ 0 ≤ iZ n := fun h => c1 ((iZ_le (by decide) in_n).mp h)
    have hm : ((n.natAbs : Nat) : Int) = -n := by omega
    rw [if_neg c1']
    by_cases c2 : 0 ≤ a
    · rw [if_pos ((lZ_le (by decide) ha).mpr c2), if_neg c1', if_neg (show ¬ (n < 0 ∧ a < 0) by omega)]
      have := part 1 n.natAbs rfl
      rw [hm] at this
      exact this
    · rw [if_neg (fun h => c2 ((lZ_le (by decide) ha).mp h)), if_neg c1', if_pos (show n < 0 ∧ a < 0 by omega)]
      have := part (-1) n.natAbs rfl
      rw [hm] at this
      exact this
