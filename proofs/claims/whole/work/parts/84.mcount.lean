/-! the reference's count -/
theorem apart_loop {F v : Nat} {pa : Nat → Int32} {P : List Nat} (hP : row pa P) (hPl : P.length ≤ 7) (hPb : ∀ q ∈ P, 2 ≤ q ∧ q ≤ 4194304) (hv : v ≤ 4194304) : ∀ (k fu i : Nat) (b : Int32), k < fu → i + k = P.length → (b = 0 ∨ b = 1) →
    ∃ r, l_m_isApart_4 F (nI v) (nI P.length) pa fu b (nI i) = some r ∧ (r = 0 ∨ r = 1) ∧ (r = 1 ↔ b = 1 ∧ ∀ j q, i ≤ j → P[j]? = some q → ¬ q ∣ v) := by
  intro k
  induction k with
  | zero =>
    intro fu i b hfu hi hb
    obtain ⟨fu, rfl⟩ : ∃ z, fu = z + 1 := ⟨fu - 1, by omega⟩
    refine ⟨b, ?_, hb, ?_⟩
    · rw [l_m_isApart_4, if_pos (nI_le (by omega) (by omega))]
    · refine ⟨fun h => ⟨h, fun j q hj hq => ?_⟩, fun h => h.1⟩
      have := (List.getElem?_eq_some_iff.mp hq).1
      omega
  | succ k ih =>
    intro fu i b hfu hi hb
    obtain ⟨fu, rfl⟩ : ∃ z, fu = z + 1 := ⟨fu - 1, by omega⟩
    have hil : i < P.length := by omega
    obtain ⟨q, hq⟩ : ∃ q, P[i]? = some q := ⟨P[i], List.getElem?_eq_getElem hil⟩
    obtain ⟨hq2, hq3⟩ := hPb q (List.mem_of_getElem? hq)
    have hpai : pa i = nI q := row_get hP hq
    have step : ∀ c : Int32, (c = 0 ∨ c = 1) → (c = 1 ↔ b = 1 ∧ ¬ q ∣ v) → ∃ r, l_m_isApart_4 F (nI v) (nI P.length) pa fu c (nI i + 1) = some r ∧ (r = 0 ∨ r = 1) ∧ (r = 1 ↔ b = 1 ∧ ∀ j q, i ≤ j → P[j]? = some q → ¬ q ∣ v) := by
      intro c hc hcb
      rw [nI_1]
      obtain ⟨r, k1, k2, k3⟩ := ih fu (i + 1) c (by omega) (by omega) hc
      refine ⟨r, k1, k2, ?_⟩
      rw [k3, hcb]
      constructor
      · rintro ⟨⟨h1, h2⟩, h3⟩
        refine ⟨h1, fun j w hj hw => ?_⟩
        rcases Nat.lt_or_ge i j with h | h
        · exact h3 j w h hw
        · have : j = i := by omega
          subst this
          rw [hq] at hw
          cases hw
          exact h2
      · rintro ⟨h1, h2⟩
        exact ⟨⟨h1, h2 i q (Nat.le_refl _) hq⟩, fun j w hj hw => h2 j w (by omega) hw⟩
    rw [l_m_isApart_4, if_neg (nI_ge hil (by omega))]
    rcases hb with hb | hb
    · rw [if_pos hb]
      exact step 0 (Or.inl rfl) ⟨fun h => absurd h (by decide), fun h => absurd (h.1.symm.trans hb) (by decide)⟩
    · rw [if_neg (by rw [hb]; decide), if_neg (gixZ (by omega) (by omega)), nI_clamp (by omega), hpai, if_neg (nI_ne0 (by omega) (by omega)), nI_rem (by omega) (by omega) (by omega)]
      have hml := Nat.mod_lt v (show 0 < q by omega)
      by_cases c : v % q = 0
      · rw [if_pos (by rw [c]; rfl)]
        exact step 0 (Or.inl rfl) ⟨fun h => absurd h (by decide), fun h => absurd (Nat.dvd_of_mod_eq_zero c) h.2⟩
      · rw [if_neg (fun h => c ((nI_eq (by omega) (by decide)).mp (h.trans (show (0 : Int32) = nI 0 from rfl))))]
        exact step 1 (Or.inr rfl) ⟨fun _ => ⟨hb, fun h => c (Nat.mod_eq_zero_of_dvd h)⟩, fun _ => rfl⟩
theorem isApart_spec {F v : Nat} {pa : Nat → Int32} {P : List Nat} (hF : 2 ^ 31 ≤ F) (hP : row pa P) (hPl : P.length ≤ 7) (hPb : ∀ q ∈ P, 2 ≤ q ∧ q ≤ 4194304) (hv : v ≤ 4194304) : ∃ r, f_m_isApart F (nI P.length) pa (nI v) = some r ∧ ((r = 0 ∧ ¬ okp P v) ∨ (r = 1 ∧ okp P v)) := by
  obtain ⟨r, k1, k2, k3⟩ := apart_loop (F := F) hP hPl hPb hv P.length F 0 1 (by omega) (by omega) (Or.inr rfl)
  have k1' : l_m_isApart_4 F (nI v) (nI P.length) pa F 1 0 = some r := k1
  refine ⟨r, ?_, ?_⟩
  · unfold f_m_isApart
    rw [k1']
    show (if ¬ (r = 0 ∨ r = 1) then none else some r) = some r
    rw [if_neg (fun h => h k2)]
  · have hok : okp P v ↔ ∀ j q, 0 ≤ j → P[j]? = some q → ¬ q ∣ v := by
      constructor
      · intro h j q _ hq; exact h q (List.mem_of_getElem? hq)
      · intro h q hq
        obtain ⟨j, hj⟩ := List.getElem?_of_mem hq
        exact h j q (Nat.zero_le _) hj
    rcases k2 with h | h
    · left
      refine ⟨h, fun g => ?_⟩
      have := k3.mpr ⟨rfl, hok.mp g⟩
      rw [h] at this
      exact absurd this (by decide)
    · right
      exact ⟨h, hok.mpr (k3.mp h).2⟩
theorem aparts_loop {F N : Nat} {pa : Nat → Int32} {P : List Nat} (hF : 2 ^ 31 ≤ F) (hP : row pa P) (hPl : P.length ≤ 7) (hPb : ∀ q ∈ P, 2 ≤ q ∧ q ≤ 4194304) (hN : N ≤ 4194304) : ∀ (k fu i : Nat), k < fu → i + k = N → l_m_apart_4 F (nI N) (nI P.length) pa fu (nI (cA P i)) (nI (i + 1)) = some (nI (cA P N)) := by
  classical
  intro k
  induction k with
  | zero =>
    intro fu i hfu hi
    obtain ⟨fu, rfl⟩ : ∃ z, fu = z + 1 := ⟨fu - 1, by omega⟩
    have : i = N := by omega
    subst this
    rw [l_m_apart_4, if_pos (nI_lt (by omega) (by omega))]
  | succ k ih =>
    intro fu i hfu hi
    obtain ⟨fu, rfl⟩ : ∃ z, fu = z + 1 := ⟨fu - 1, by omega⟩
    obtain ⟨r, k1, k2⟩ := isApart_spec (F := F) (v := i + 1) hF hP hPl hPb (by omega)
    have hc : cA P (i + 1) = cA P i + (if okp P (i + 1) then 1 else 0) := rfl
    rw [l_m_apart_4, if_neg (nI_nlt (by omega) (by omega)), k1]
    show (if r = 0 then l_m_apart_4 F (nI N) (nI P.length) pa fu (nI (cA P i) + 0) (nI (i + 1) + 1) else l_m_apart_4 F (nI N) (nI P.length) pa fu (nI (cA P i) + 1) (nI (i + 1) + 1)) = _
    rw [nI_1 (i + 1), nI_1, show (0 : Int32) = nI 0 from rfl, nI_add]
    rcases k2 with ⟨h1, h2⟩ | ⟨h1, h2⟩
    · rw [if_pos (show r = nI 0 from h1)]
      rw [if_neg h2] at hc
      rw [← hc]
      exact ih fu (i + 1) (by omega) (by omega)
    · rw [if_neg (show ¬ r = nI 0 by rw [h1]; decide)]
      rw [if_pos h2] at hc
      rw [← hc]
      exact ih fu (i + 1) (by omega) (by omega)
theorem apart_spec {F : Nat} {pa : Nat → Int32} {t : List (Nat × Nat)} (hF : 2 ^ 31 ≤ F) (ht : fok t) (hN : fac t ≤ 4194304) (hpa : row pa (t.map (fun x => x.1))) : f_m_apart F (nI (fac t)) (nI t.length) pa = some (nI (phiL t)) := by
  classical
  have h7 := len_7 ht hN
  have h0 := fac_pos ht
  have hb : ∀ q ∈ t.map (fun x => x.1), 2 ≤ q ∧ q ≤ 4194304 := by
    intro q hq
    obtain ⟨x, hx, rfl⟩ := List.mem_map.mp hq
    obtain ⟨h1, h2⟩ := ht.1 x hx
    obtain ⟨m, hm, -⟩ := t_split ht hx
    refine ⟨h1.1, ?_⟩
    obtain ⟨e, he⟩ : ∃ e, x.2 = e + 1 := ⟨x.2 - 1, by omega⟩
    have hd : x.1 ∣ fac t := by
      rw [hm, he, Nat.pow_succ]
      exact Nat.dvd_trans (Nat.dvd_mul_left x.1 (x.1 ^ e)) (Nat.dvd_mul_right _ _)
    exact Nat.le_trans (Nat.le_of_dvd h0 hd) hN
  have k1 := aparts_loop (F := F) (N := fac t) hF hpa (by rw [List.length_map]; exact h7) hb hN (fac t) F 0 (by omega) (by omega)
  have hphi := cA_phi t ht.1 (ht.2.imp (fun h => Nat.ne_of_lt h)) 1
  rw [Nat.mul_one, Nat.mul_one] at hphi
  rw [List.length_map] at k1
  have k1' : l_m_apart_4 F (nI (fac t)) (nI t.length) pa F 0 1 = some (nI (cA (t.map (fun x => x.1)) (fac t))) := k1
  unfold f_m_apart
  rw [k1', hphi]; rfl
theorem sq_loop {F N : Nat} {da : Nat → Int32} (h0 : 0 < N) (hN : N ≤ 4194304) (h360 : (dvl N).length ≤ 360) (hda : row da (dvl N)) : ∀ (k fu i b : Nat), k < fu → i + k = (dvl N).length → b * b ∣ N → (∀ j v, j < i → (dvl N)[j]? = some v → v * v ∣ N → v ≤ b) →
    ∃ b', l_m_square_4 F (nI N) (nI (dvl N).length) da fu (nI b) (nI i) = some (nI b') ∧ b' * b' ∣ N ∧ ∀ v, v * v ∣ N → v ≤ b' := by
  intro k
  induction k with
  | zero =>
    intro fu i b hfu hi h1 h2
    obtain ⟨fu, rfl⟩ : ∃ z, fu = z + 1 := ⟨fu - 1, by omega⟩
    refine ⟨b, ?_, h1, fun v hv => ?_⟩
    · rw [l_m_square_4, if_pos (nI_le (by omega) (by omega))]
    · obtain ⟨j, hj⟩ := List.getElem?_of_mem ((dvl_mem h0).mpr (Nat.dvd_trans (Nat.dvd_mul_right v v) hv))
      have := (List.getElem?_eq_some_iff.mp hj).1
      exact h2 j v (by omega) hj hv
  | succ k ih =>
    intro fu i b hfu hi h1 h2
    obtain ⟨fu, rfl⟩ : ∃ z, fu = z + 1 := ⟨fu - 1, by omega⟩
    have hil : i < (dvl N).length := by omega
    obtain ⟨v, hv⟩ : ∃ v, (dvl N)[i]? = some v := ⟨(dvl N)[i], List.getElem?_eq_getElem hil⟩
    have hvN := (dvl_mem h0).mp (List.mem_of_getElem? hv)
    have hv0 := Nat.pos_of_dvd_of_pos hvN h0
    have hvle := Nat.le_of_dvd h0 hvN
    have hdai : da i = nI v := row_get hda hv
    have hvv : v * v ≤ 4194304 * 4194304 := Nat.mul_le_mul (by omega) (by omega)
    have hvv0 : 0 < v * v := Nat.mul_pos hv0 hv0
    have hml := Nat.mod_lt N hvv0
    have e1 : Int32.toInt64 (nI v) * Int32.toInt64 (nI v) = lZ ((v * v : Nat) : Int) := by
      rw [nI_iZ, iZ_l ⟨by omega, by omega⟩, lZ_mul, Int.natCast_mul]
    have e2 : lrm (Int32.toInt64 (nI N)) (lZ ((v * v : Nat) : Int)) = lZ ((N % (v * v) : Nat) : Int) := by
      rw [nI_iZ, iZ_l ⟨by omega, by omega⟩, lrm_Z ⟨by omega, by omega⟩ ⟨by omega, by omega⟩ (by omega), Int.tmod_eq_emod_of_nonneg (by omega)]; rfl
    rw [l_m_square_4, if_neg (nI_ge hil (by omega)), if_neg (gixZ (by omega) (by omega)), if_neg (gixZ (by omega) (by omega)), nI_clamp (by omega), hdai, e1, if_neg (lZ_ne0 ⟨by omega, by omega⟩ (by omega)), e2, nI_1]
    by_cases c : N % (v * v) = 0
    · rw [if_pos (by rw [c]; rfl), if_neg (gixZ (by omega) (by omega))]
      refine ih fu (i + 1) v (by omega) (by omega) (Nat.dvd_of_mod_eq_zero c) (fun j w hj hw _ => ?_)
      rcases Nat.lt_or_ge j i with h | h
      · have hs := List.pairwise_iff_getElem.mp (dvl_lt N) j i (by omega) hil h
        rw [List.getElem?_eq_getElem (by omega)] at hw
        rw [List.getElem?_eq_getElem hil] at hv
        have hw' := Option.some.inj hw
        have hv' := Option.some.inj hv
        omega
      · have : j = i := by omega
        subst this
        rw [hv] at hw
        cases hw
        exact Nat.le_refl _
    · rw [if_neg (fun h => c (by
        have := (lZ_eq (a := ((N % (v * v) : Nat) : Int)) (b := 0) ⟨Int.le_trans (by decide) (Int.natCast_nonneg _), by
          have : N % (v * v) ≤ N := Nat.mod_le _ _
          generalize N % (v * v) = g at this
          omega⟩ (by decide)).mp (h.trans (show (0 : Int64) = lZ 0 from rfl))
        generalize N % (v * v) = g at this
        omega))]
      refine ih fu (i + 1) b (by omega) (by omega) h1 (fun j w hj hw hww => ?_)
      rcases Nat.lt_or_ge j i with h | h
      · exact h2 j w h hw hww
      · have : j = i := by omega
        subst this
        rw [hv] at hw
        cases hw
        exact absurd (Nat.mod_eq_zero_of_dvd hww) c
theorem square_spec {F : Nat} {da : Nat → Int32} {t : List (Nat × Nat)} (hF : 2 ^ 31 ≤ F) (ht : fok t) (hN : fac t ≤ 4194304) (hda : row da (dvl (fac t))) : f_m_square F (nI (fac t)) (nI (dvl (fac t)).length) da = some (nI (gsq t)) := by
  have h0 := fac_pos ht
  have h360 := dvl_360 ht hN
  obtain ⟨b, k1, k2, k3⟩ := sq_loop (F := F) h0 hN h360 hda (dvl (fac t)).length F 0 1 (by omega) (by omega) (by simp) (fun j v h => by omega)
  have k1' : l_m_square_4 F (nI (fac t)) (nI (dvl (fac t)).length) da F 1 0 = some (nI b) := k1
  have e1 := k3 (gsq t) (gsq_dvd t)
  have hgp : 0 < gsq t := by
    rcases Nat.eq_zero_or_pos (gsq t) with h | h
    · have := gsq_dvd t
      rw [h] at this
      have := Nat.eq_zero_of_zero_dvd this
      omega
    · exact h
  have e2 := Nat.le_of_dvd hgp (gsq_max ht k2)
  unfold f_m_square
  rw [k1', show b = gsq t by omega]; rfl
/-- count: class and reference answer alike -/
theorem count_same {F : Nat} {t : List (Nat × Nat)} {pr ex da pa : Nat → Int32} {rl : Int32} (hF : 2 ^ 31 ≤ F) (ht : fok t) (hN : fac t ≤ 4194304) (hpr : row pr (t.map (fun x => x.1))) (hex : row ex (t.map (fun x => x.2))) (hda : row da (dvl (fac t))) (hpa : row pa (t.map (fun x => x.1))) (co w : Int32) :
    ∃ r : Int32, f_r_count F (nI (fac t)) (nI t.length) (nI (dvl (fac t)).length) rl pr ex w = some r ∧ f_m_count F co (nI (fac t)) (nI (dvl (fac t)).length) (nI t.length) rl da pa w = some (r, 0) := by
  unfold f_r_count f_m_count
  rw [coprimes_spec hF ht hN hpr hex, sqd_spec hF ht hN hpr hex, apart_spec hF ht hN hpa, square_spec hF ht hN hda]
  by_cases c0 : w = 0
  · rw [if_pos c0, if_pos c0]; exact ⟨_, rfl, rfl⟩
  · rw [if_neg c0, if_neg c0]
    by_cases c1 : w = 1
    · rw [if_pos c1, if_pos c1]; exact ⟨_, rfl, rfl⟩
    · rw [if_neg c1, if_neg c1]
      by_cases c2 : w = 2
      · rw [if_pos c2, if_pos c2]; exact ⟨_, rfl, rfl⟩
      · rw [if_neg c2, if_neg c2]
        by_cases c3 : w = 3
        · rw [if_pos c3, if_pos c3]; exact ⟨_, rfl, rfl⟩
        · rw [if_neg c3, if_neg c3]
          by_cases c4 : w = 4
          · rw [if_pos c4, if_pos c4]; exact ⟨_, rfl, rfl⟩
          · rw [if_neg c4, if_neg c4]
            by_cases c5 : w = 5
            · rw [if_pos c5, if_pos c5]; exact ⟨_, rfl, rfl⟩
            · rw [if_neg c5, if_neg c5]; exact ⟨_, rfl, rfl⟩
