/-! findDivisors, take: what the class's methods answer and hold -/
theorem mult_loop {F fa : Nat} {D : List Nat} (hf : fa < 2 ^ 31) : ∀ (k fu i : Nat) (S : List Nat) (dv : Nat → Int32), k < fu → i + k = D.length → row dv (D ++ S) → (D ++ S ++ (D.drop i).map (fun x => x * fa)).length ≤ 360 →
    ∃ dv', l_r_addMultiples_2 F (nI D.length) (nI fa) fu (nI i) (nI (D ++ S).length) dv = some (nI (D ++ S ++ (D.drop i).map (fun x => x * fa)).length, dv') ∧ row dv' (D ++ S ++ (D.drop i).map (fun x => x * fa)) := by
  intro k
  induction k with
  | zero =>
    intro fu i S dv hfu hi hR hle
    obtain ⟨fu, rfl⟩ : ∃ w, fu = w + 1 := ⟨fu - 1, by omega⟩
    rw [List.drop_eq_nil_of_le (by omega), List.map_nil, List.append_nil] at hle ⊢
    refine ⟨dv, ?_, hR⟩
    rw [List.length_append] at hle
    rw [l_r_addMultiples_2, if_pos (nI_le (by omega) (by omega))]
  | succ k ih =>
    intro fu i S dv hfu hi hR hle
    obtain ⟨fu, rfl⟩ : ∃ w, fu = w + 1 := ⟨fu - 1, by omega⟩
    have hiL : i < D.length := by omega
    obtain ⟨x, hx⟩ : ∃ x, D[i]? = some x := ⟨D[i], List.getElem?_eq_getElem hiL⟩
    have hdvi : dv i = nI x := row_get (row_app hR) hx
    have hdrop : D.drop i = x :: D.drop (i + 1) := by
      rw [List.drop_eq_getElem_cons hiL]
      congr 1
      rw [List.getElem?_eq_getElem hiL] at hx
      exact Option.some.inj hx
    rw [hdrop, List.map_cons] at hle ⊢
    have hl2 : (D ++ S).length < 360 := by
      rw [List.length_append] at hle
      simp at hle ⊢
      omega
    have hDl : D.length < 360 := by rw [List.length_append] at hl2; omega
    rw [l_r_addMultiples_2, if_neg (nI_ge hiL (by omega)), show (360 : Int32) = nI 360 from rfl, if_neg (nI_ge hl2 (by omega)), if_neg (gixZ (by omega) (by omega)), if_neg (gixZ (by omega) (by omega)), nI_clamp (n := i) (by omega), nI_clamp (n := (D ++ S).length) (by omega), hdvi, pk_mul, nI_1, nI_1]
    have := ih fu (i + 1) (S ++ [x * fa]) (upd dv (D ++ S).length (nI (x * fa))) (by omega) (by omega) (by rw [← List.append_assoc]; exact row_push hR _) (by simp at hle ⊢; omega)
    rw [← List.append_assoc D S, List.append_assoc (D ++ S)] at this
    rw [List.length_append (as := D ++ S) (bs := [x * fa])] at this
    exact this
theorem ext_pre (L : List Nat) (p : Nat) : ∀ n, ∃ S, ext L p n = L ++ S
  | 0 => ⟨[], by simp [ext]⟩
  | n + 1 => by
    obtain ⟨S, hS⟩ := ext_pre L p n
    exact ⟨S ++ L.map (fun d => d * p ^ (n + 1)), by rw [ext, hS, List.append_assoc]⟩
theorem pow_loop {F i p e : Nat} {pr ex : Nat → Int32} {D : List Nat} (hF : 2 ^ 31 ≤ F) (hi : i < 7) (hpr : pr i = nI p) (hex : ex i = nI e) (hp : 0 < p) (he : e < 2 ^ 31) (hpe : p ^ e < 2 ^ 31) (hle : (ext D p e).length ≤ 360) :
    ∀ (k fu j : Nat) (dv : Nat → Int32), k < fu → j + k = e → row dv (ext D p j) →
      ∃ dv', l_r_findDivisors_32 F (nI i) (nI D.length) pr ex fu (nI (p ^ j)) (nI j) (nI (ext D p j).length) dv = some (nI (ext D p e).length, dv') ∧ row dv' (ext D p e) := by
  have hD : D.length ≤ 360 := by
    have h1 := ext_len D p e
    have : 1 * D.length ≤ (e + 1) * D.length := Nat.mul_le_mul_right _ (by omega)
    omega
  intro k
  induction k with
  | zero =>
    intro fu j dv hfu hj hR
    obtain ⟨fu, rfl⟩ : ∃ w, fu = w + 1 := ⟨fu - 1, by omega⟩
    have : j = e := by omega
    subst this
    refine ⟨dv, ?_, hR⟩
    rw [l_r_findDivisors_32, if_neg (gixZ (by omega) (by omega)), nI_clamp (by omega), hex, if_pos (nI_le (Nat.le_refl _) he)]
  | succ k ih =>
    intro fu j dv hfu hj hR
    obtain ⟨fu, rfl⟩ : ∃ w, fu = w + 1 := ⟨fu - 1, by omega⟩
    obtain ⟨S, hS⟩ := ext_pre D p j
    have hpj : p ^ (j + 1) < 2 ^ 31 := Nat.lt_of_le_of_lt (Nat.pow_le_pow_right hp (by omega)) hpe
    have e1 : D ++ S ++ (D.drop 0).map (fun x => x * p ^ (j + 1)) = ext D p (j + 1) := by rw [List.drop_zero, ext, hS]
    have hl : (ext D p (j + 1)).length ≤ 360 := by
      rw [ext_len] at hle ⊢
      have : (j + 1 + 1) * D.length ≤ (e + 1) * D.length := Nat.mul_le_mul_right _ (by omega)
      omega
    obtain ⟨dv1, k1, k2⟩ := mult_loop (F := F) (fa := p ^ (j + 1)) (D := D) hpj D.length F 0 S dv (by omega) (by omega) (by rw [← hS]; exact hR) (by rw [e1]; exact hl)
    rw [e1] at k1 k2
    rw [← hS] at k1
    have k1' : f_r_addMultiples F (nI (ext D p j).length) dv (nI D.length) (nI (p ^ (j + 1))) = some (nI (ext D p (j + 1)).length, dv1) := by
      unfold f_r_addMultiples
      rw [show (0 : Int32) = nI 0 from rfl, k1]; rfl
    rw [l_r_findDivisors_32, if_neg (gixZ (by omega) (by omega)), nI_clamp (by omega), hex, if_neg (nI_ge (by omega) he), if_neg (gixZ (by omega) (by omega)), hpr, pk_mul, ← Nat.pow_succ, k1', nI_1]
    exact ih fu (j + 1) dv1 (by omega) (by omega) k2
theorem divs_loop {F : Nat} {pr ex : Nat → Int32} {t : List (Nat × Nat)} (hF : 2 ^ 31 ≤ F) (ht : fok t) (hN : fac t ≤ 4194304) (hpr : row pr (t.map (fun x => x.1))) (hex : row ex (t.map (fun x => x.2))) :
    ∀ (t2 t1 : List (Nat × Nat)) (fu : Nat) (D : List Nat) (dv : Nat → Int32), t = t1 ++ t2 → t2.length < fu → row dv D → isD D (fac t1) → D.length = ndv t1 →
      ∃ (D' : List Nat) (dv' : Nat → Int32), l_r_findDivisors_14 F (nI t.length) pr ex fu (nI t1.length) (nI D.length) dv = some (nI D'.length, dv') ∧ row dv' D' ∧ isD D' (fac t) ∧ D'.length = ndv t := by
  have hlen7 := len_7 ht hN
  have h360 := ndv_360 ht hN
  intro t2
  induction t2 with
  | nil =>
    intro t1 fu D dv hte hfu hR hD hDl
    obtain ⟨fu, rfl⟩ : ∃ w, fu = w + 1 := ⟨fu - 1, by omega⟩
    rw [List.append_nil] at hte
    subst hte
    refine ⟨D, dv, ?_, hR, hD, hDl⟩
    rw [l_r_findDivisors_14, if_pos (nI_le (Nat.le_refl _) (by omega))]
  | cons x t2 ih =>
    intro t1 fu D dv hte hfu hR hD hDl
    obtain ⟨fu, rfl⟩ : ∃ w, fu = w + 1 := ⟨fu - 1, by omega⟩
    have hxt : x ∈ t := by rw [hte]; exact List.mem_append_right _ List.mem_cons_self
    obtain ⟨hpx, hex1⟩ := ht.1 x hxt
    have hp0 : 0 < x.1 := by have := hpx.1; omega
    have hok1 : fok t1 := ⟨fun y hy => ht.1 y (by rw [hte]; exact List.mem_append_left _ hy), by
      have := ht.2
      rw [hte, List.pairwise_append] at this
      exact this.1⟩
    have hM := fac_pos hok1
    have hfac : fac t = fac t1 * x.1 ^ x.2 * fac t2 := by rw [hte, fac_app, fac, Nat.mul_assoc]
    have hnd2 : ndv t = ndv t1 * (x.2 + 1) * ndv t2 := by rw [hte, ndv_app, ndv, Nat.mul_assoc]
    have hf2 : 0 < fac t2 := by
      rcases Nat.eq_zero_or_pos (fac t2) with h | h
      · rw [h, Nat.mul_zero] at hfac
        have := fac_pos ht
        omega
      · exact h
    have hn2 : 0 < ndv t2 := by
      have : ∀ u : List (Nat × Nat), 0 < ndv u := by
        intro u
        induction u with
        | nil => decide
        | cons a u ih => exact Nat.mul_pos (Nat.succ_pos _) ih
      exact this t2
    have hpe : x.1 ^ x.2 ≤ 4194304 := by
      have h1 : 1 * x.1 ^ x.2 ≤ fac t1 * x.1 ^ x.2 := Nat.mul_le_mul_right _ hM
      have h2 : fac t1 * x.1 ^ x.2 * 1 ≤ fac t1 * x.1 ^ x.2 * fac t2 := Nat.mul_le_mul_left _ hf2
      omega
    have hnd : ¬ x.1 ∣ fac t1 := by
      intro h
      obtain ⟨y, hy, ey⟩ := fac_pm hpx (fun y hy => (hok1.1 y hy).1) h
      have := ht.2
      rw [hte, List.pairwise_append] at this
      have := this.2.2 y hy x List.mem_cons_self
      omega
    have hi : t1.length < t.length := by rw [hte]; simp
    have hget : t[t1.length]? = some x := by rw [hte, List.getElem?_append_right (Nat.le_refl _), Nat.sub_self]; rfl
    have hpri : pr t1.length = nI x.1 := row_get hpr (by rw [List.getElem?_map, hget]; rfl)
    have hexi : ex t1.length = nI x.2 := row_get hex (by rw [List.getElem?_map, hget]; rfl)
    have hx2 : x.2 < 2 ^ 31 := by
      have h1 : x.2 < 2 ^ x.2 := Nat.lt_two_pow_self
      have h2 : 2 ^ x.2 ≤ x.1 ^ x.2 := Nat.pow_le_pow_left hpx.1 _
      omega
    have hlen : (ext D x.1 x.2).length = ndv (t1 ++ [x]) := by
      rw [ext_len, hDl, ndv_app, Nat.mul_comm]
      simp [ndv]
    have hle : (ext D x.1 x.2).length ≤ 360 := by
      rw [ext_len, hDl, Nat.mul_comm]
      have : ndv t1 * (x.2 + 1) * 1 ≤ ndv t1 * (x.2 + 1) * ndv t2 := Nat.mul_le_mul_left _ hn2
      omega
    have hDle : D.length ≤ 360 := by
      have h1 := ext_len D x.1 x.2
      have : 1 * D.length ≤ (x.2 + 1) * D.length := Nat.mul_le_mul_right _ (by omega)
      omega
    obtain ⟨dv1, k1, k2⟩ := pow_loop (F := F) (D := D) hF (show t1.length < 7 by omega) hpri hexi hp0 hx2 (by omega) hle x.2 F 0 dv (by omega) (by omega) hR
    have k1' : l_r_findDivisors_32 F (nI t1.length) (nI D.length) pr ex F 1 0 (nI D.length) dv = some (nI (ext D x.1 x.2).length, dv1) := k1
    rw [l_r_findDivisors_14, if_neg (nI_ge hi (by omega)), k1', nI_1]
    have hD2 := isD_ext hpx hnd hD x.2
    have := ih (t1 ++ [x]) fu (ext D x.1 x.2) dv1 (by rw [hte, List.append_assoc]; rfl) (by simp at hfu; omega) k2 (by rw [fac_snoc]; exact hD2) hlen
    rw [List.length_append (as := t1)] at this
    exact this
/-- the divisors of N, in rising order -/
def dvl (N : Nat) : List Nat := (List.range' 1 N).filter (fun d => decide (N % d = 0))
theorem dvl_mem {N d : Nat} (hN : 0 < N) : d ∈ dvl N ↔ d ∣ N := by
  unfold dvl
  rw [List.mem_filter, List.mem_range'_1, decide_eq_true_iff]
  constructor
  · intro h; exact Nat.dvd_of_mod_eq_zero h.2
  · intro h
    have h1 := Nat.le_of_dvd hN h
    have h2 := Nat.pos_of_dvd_of_pos h hN
    exact ⟨⟨h2, by omega⟩, Nat.mod_eq_zero_of_dvd h⟩
theorem dvl_lt (N : Nat) : (dvl N).Pairwise (fun a b => a < b) := List.Pairwise.filter _ (List.pairwise_lt_range' (s := 1) (n := N))
theorem dvl_nd (N : Nat) : (dvl N).Nodup := (dvl_lt N).imp (fun h => Nat.ne_of_lt h)
theorem dvl_isD {D : List Nat} {N : Nat} (hN : 0 < N) (h : isD D N) : D.Perm (dvl N) := (List.perm_ext_iff_of_nodup h.1 (dvl_nd N)).mpr (fun x => by rw [h.2, dvl_mem hN])
theorem findDivisors_spec {F : Nat} {pr ex dv sp : Nat → Int32} {dc0 : Int32} {t : List (Nat × Nat)} (hF : 2 ^ 31 ≤ F) (ht : fok t) (hN : fac t ≤ 4194304) (hpr : row pr (t.map (fun x => x.1))) (hex : row ex (t.map (fun x => x.2))) :
    ∃ dv' sp' : Nat → Int32, f_r_findDivisors F (nI t.length) dc0 pr ex dv sp = some (nI (dvl (fac t)).length, dv', sp') ∧ row dv' (dvl (fac t)) ∧ (dvl (fac t)).length ≤ 360 := by
  have hpos := fac_pos ht
  have hlen7 := len_7 ht hN
  obtain ⟨D, dv1, k1, k2, k3, k4⟩ := divs_loop (F := F) hF ht hN hpr hex t [] F [1] (upd dv 0 (nI 1)) rfl (by omega) (row_push (L := []) (f := dv) rfl 1) isD_1 rfl
  have hperm := dvl_isD hpos k3
  have hD : D.length ≤ 360 := by rw [k4]; exact ndv_360 ht hN
  obtain ⟨dv2, sp2, s1, s2, s3⟩ := sort_spec (F := F) (n1 := 360) (size := D.length) hF (by decide) hD (by omega) dv1 sp
  have k1' : l_r_findDivisors_14 F (nI t.length) pr ex F 0 1 (upd dv (0 : Int32).toNatClampNeg 1) = some (nI D.length, dv1) := k1
  refine ⟨dv2, sp2, ?_, ?_, by rw [← hperm.length_eq]; exact hD⟩
  · unfold f_r_findDivisors
    rw [if_neg (by decide), k1']
    show (b2 (f_r_sortRising F 360 dv1 sp (nI D.length)) fun ra_3 sp_3 => some (nI D.length, ra_3, sp_3)) = _
    rw [s1, ← hperm.length_eq]; rfl
  · refine sort_row s2 ?_ hperm (dvl_lt _) (fun x hx => by
      have := Nat.le_of_dvd hpos ((dvl_mem hpos).mp hx)
      omega)
    rw [show D.map nI = seg dv1 0 D.length from k2.symm]
    exact s3
/-- take(n) -/
theorem take_spec {F N : Nat} (hF : 2 ^ 31 ≤ F) (hN0 : 0 < N) (hN : N ≤ 4194304) (nu pk dc rc : Int32) (pr ex dv sp : Nat → Int32) : ∃ (t : List (Nat × Nat)) (pr' ex' dv' sp' : Nat → Int32), f_r_take F nu pk dc rc pr ex dv sp (nI N) = some (some (nI t.length, nI N, nI t.length, nI (dvl N).length, 0, pr', ex', dv', sp')) ∧ fok t ∧ fac t = N ∧ row pr' (t.map (fun x => x.1)) ∧ row ex' (t.map (fun x => x.2)) ∧ row dv' (dvl N) ∧ (dvl N).length ≤ 360 := by
  obtain ⟨t, pr', ex', k1, k2, k3, k4, k5⟩ := findPrimes_spec hF hN0 hN pk pr ex
  subst k3
  obtain ⟨dv', sp', j1, j2, j3⟩ := findDivisors_spec (F := F) (dv := dv) (sp := sp) (dc0 := dc) hF k2 hN k4 k5
  refine ⟨t, pr', ex', dv', sp', ?_, k2, rfl, k4, k5, j2, j3⟩
  unfold f_r_take
  rw [show (1 : Int32) = nI 1 from rfl, if_neg (nI_nlt hN0 (by omega)), show (4194304 : Int32) = nI 4194304 from rfl, if_pos (nI_le hN (by omega)), k1]
  show sm (b3 (f_r_findDivisors F (nI t.length) dc pr' ex' dv sp) fun dc_4 dv_4 sp_4 => some (nI t.length, nI (fac t), nI t.length, dc_4, 0, pr', ex', dv_4, sp_4)) = _
  rw [j1]; rfl
