/-! the reference's take -/
def dP (N d : Nat) : Bool := decide (N % d = 0)
theorem dvl_eq (N : Nat) : dvl N = (List.range' 1 N).filter (dP N) := rfl
theorem dvl_360 {t : List (Nat × Nat)} (ht : fok t) (hN : fac t ≤ 4194304) : (dvl (fac t)).length ≤ 360 := by
  have h : ∀ (t2 : List (Nat × Nat)), fok t2 → isD (dvs [1] t2) (fac t2) ∧ (dvs [1] t2).length = ndv t2 := by
    have gen : ∀ (t2 t1 : List (Nat × Nat)) (L : List Nat), fok (t1 ++ t2) → isD L (fac t1) → L.length = ndv t1 → isD (dvs L t2) (fac (t1 ++ t2)) ∧ (dvs L t2).length = ndv (t1 ++ t2) := by
      intro t2
      induction t2 with
      | nil => intro t1 L h1 h2 h3; rw [List.append_nil]; exact ⟨h2, h3⟩
      | cons x t2 ih =>
        intro t1 L h1 h2 h3
        have hpx := (h1.1 x (List.mem_append_right _ List.mem_cons_self)).1
        have hnd : ¬ x.1 ∣ fac t1 := by
          intro h
          obtain ⟨y, hy, ey⟩ := fac_pm hpx (fun y hy => (h1.1 y (List.mem_append_left _ hy)).1) h
          have := h1.2
          rw [List.pairwise_append] at this
          have := this.2.2 y hy x List.mem_cons_self
          omega
        have e : t1 ++ x :: t2 = (t1 ++ [x]) ++ t2 := by simp
        rw [e] at h1 ⊢
        rw [dvs]
        refine ih (t1 ++ [x]) (ext L x.1 x.2) h1 (by rw [fac_snoc]; exact isD_ext hpx hnd h2 x.2) ?_
        rw [ext_len, h3, ndv_app, Nat.mul_comm]
        simp [ndv]
    intro t2 h2
    exact gen t2 [] [1] h2 isD_1 rfl
  obtain ⟨h1, h2⟩ := h t ht
  rw [← (dvl_isD (fac_pos ht) h1).length_eq, h2]
  exact ndv_360 ht hN
theorem mdiv_loop {F N : Nat} (h0 : 0 < N) (hN : N ≤ 4194304) (h360 : (dvl N).length ≤ 360) : ∀ (k fu i : Nat) (da : Nat → Int32), k < fu → i + k = N → row da ((List.range' 1 i).filter (dP N)) →
    ∃ da', l_m_take_47 F (nI N) fu (nI (i + 1)) (nI ((List.range' 1 i).filter (dP N)).length) da = some (nI (dvl N).length, da') ∧ row da' (dvl N) := by
  intro k
  induction k with
  | zero =>
    intro fu i da hfu hi hR
    obtain ⟨fu, rfl⟩ : ∃ z, fu = z + 1 := ⟨fu - 1, by omega⟩
    have : i = N := by omega
    subst this
    refine ⟨da, ?_, hR⟩
    rw [l_m_take_47, if_pos (nI_lt (by omega) (by omega)), dvl_eq]
  | succ k ih =>
    intro fu i da hfu hi hR
    obtain ⟨fu, rfl⟩ : ∃ z, fu = z + 1 := ⟨fu - 1, by omega⟩
    have hlen : ((List.range' 1 (i + 1)).filter (dP N)).length ≤ 360 := by
      refine Nat.le_trans ?_ h360
      refine List.Nodup.length_le_of_subset (List.Pairwise.filter _ List.nodup_range') (fun y hy => ?_)
      rw [dvl_eq, List.mem_filter, List.mem_range'_1]
      rw [List.mem_filter, List.mem_range'_1] at hy
      exact ⟨by omega, hy.2⟩
    have hr : List.range' 1 (i + 1) = List.range' 1 i ++ [i + 1] := by rw [List.range'_1_concat, Nat.add_comm 1 i]
    rw [l_m_take_47, if_neg (nI_nlt (by omega) (by omega)), if_neg (nI_ne0 (by omega) (by omega)), nI_rem (by omega) (by omega) (by omega), nI_1]
    have hml := Nat.mod_lt N (show 0 < i + 1 by omega)
    by_cases c : N % (i + 1) = 0
    · have e : (List.range' 1 (i + 1)).filter (dP N) = (List.range' 1 i).filter (dP N) ++ [i + 1] := by
        rw [hr, List.filter_append, List.filter_cons_of_pos (show dP N (i + 1) = true from decide_eq_true c), List.filter_nil]
      rw [e, List.length_append] at hlen
      have hl1 : ((List.range' 1 i).filter (dP N)).length < 360 := by simp at hlen ⊢; omega
      rw [if_pos (by rw [c]; rfl), if_neg (gixZ (by omega) (by omega)), nI_clamp (n := ((List.range' 1 i).filter (dP N)).length) (by omega), nI_1]
      have := ih fu (i + 1) (upd da ((List.range' 1 i).filter (dP N)).length (nI (i + 1))) (by omega) (by omega) (by rw [e]; exact row_push hR _)
      rw [e, List.length_append] at this
      exact this
    · have e : (List.range' 1 (i + 1)).filter (dP N) = (List.range' 1 i).filter (dP N) := by
        rw [hr, List.filter_append, List.filter_cons_of_neg (show ¬ dP N (i + 1) = true from fun h => c (of_decide_eq_true h)), List.filter_nil, List.append_nil]
      rw [if_neg (fun h => c ((nI_eq (by omega) (by decide)).mp (h.trans (show (0 : Int32) = nI 0 from rfl))))]
      have := ih fu (i + 1) da (by omega) (by omega) (by rw [e]; exact hR)
      rw [e] at this
      exact this
theorem mprime_loop {F N d : Nat} {da : Nat → Int32} (h0 : 0 < N) (hN : N ≤ 4194304) (h360 : (dvl N).length ≤ 360) (hda : row da (dvl N)) (hd : d ∣ N) : ∀ (k fu i : Nat), k < fu → i + k = (dvl N).length → (∀ j v, j < i → (dvl N)[j]? = some v → ¬ (1 < v ∧ v < d ∧ v ∣ d)) →
    ∃ r, l_m_isPrime_2 F (nI d) (nI (dvl N).length) da fu (nI i) = some r ∧ ((r = 1 ∧ pm d) ∨ (r = 0 ∧ ¬ pm d)) := by
  have hdN := Nat.le_of_dvd h0 hd
  have hd0 := Nat.pos_of_dvd_of_pos hd h0
  intro k
  induction k with
  | zero =>
    intro fu i hfu hi hno
    obtain ⟨fu, rfl⟩ : ∃ z, fu = z + 1 := ⟨fu - 1, by omega⟩
    rw [l_m_isPrime_2, if_pos (nI_le (by omega) (by omega)), show (1 : Int32) = nI 1 from rfl]
    by_cases c : d ≤ 1
    · rw [if_pos (nI_le c (by omega))]
      exact ⟨0, rfl, Or.inr ⟨rfl, fun h => by have := h.1; omega⟩⟩
    · rw [if_neg (nI_ge (by omega) (by omega))]
      refine ⟨nI 1, rfl, Or.inl ⟨rfl, by omega, fun v hv => ?_⟩⟩
      have hv0 := Nat.pos_of_dvd_of_pos hv hd0
      have hvd := Nat.le_of_dvd hd0 hv
      obtain ⟨j, hj⟩ := List.getElem?_of_mem ((dvl_mem h0).mpr (Nat.dvd_trans hv hd))
      have hjl := (List.getElem?_eq_some_iff.mp hj).1
      have := hno j v (by omega) hj
      by_cases c1 : v = 1
      · exact Or.inl c1
      · by_cases c2 : v = d
        · exact Or.inr c2
        · exact absurd ⟨by omega, by omega, hv⟩ this
  | succ k ih =>
    intro fu i hfu hi hno
    obtain ⟨fu, rfl⟩ : ∃ z, fu = z + 1 := ⟨fu - 1, by omega⟩
    have hil : i < (dvl N).length := by omega
    obtain ⟨v, hv⟩ : ∃ v, (dvl N)[i]? = some v := ⟨(dvl N)[i], List.getElem?_eq_getElem hil⟩
    have hvN := (dvl_mem h0).mp (List.mem_of_getElem? hv)
    have hv0 := Nat.pos_of_dvd_of_pos hvN h0
    have hvle := Nat.le_of_dvd h0 hvN
    have hdai : da i = nI v := row_get hda hv
    have next : ¬ (1 < v ∧ v < d ∧ v ∣ d) → ∃ r, l_m_isPrime_2 F (nI d) (nI (dvl N).length) da fu (nI i + 1) = some r ∧ ((r = 1 ∧ pm d) ∨ (r = 0 ∧ ¬ pm d)) := by
      intro hn
      rw [nI_1]
      refine ih fu (i + 1) (by omega) (by omega) (fun j w hj hw => ?_)
      rcases Nat.lt_or_ge j i with h | h
      · exact hno j w h hw
      · have : j = i := by omega
        subst this
        rw [hv] at hw
        cases hw
        exact hn
    rw [l_m_isPrime_2, if_neg (nI_ge hil (by omega)), if_neg (gixZ (by omega) (by omega)), nI_clamp (by omega), hdai, show (1 : Int32) = nI 1 from rfl]
    by_cases c1 : v ≤ 1
    · rw [if_pos (nI_le c1 (by omega))]
      exact next (by omega)
    · rw [if_neg (nI_ge (by omega) (by omega)), if_neg (gixZ (by omega) (by omega))]
      by_cases c2 : d ≤ v
      · rw [if_pos (nI_le c2 (by omega))]
        exact next (by omega)
      · rw [if_neg (nI_ge (by omega) (by omega)), if_neg (gixZ (by omega) (by omega)), if_neg (nI_ne0 hv0 (by omega)), nI_rem (by omega) hv0 (by omega)]
        have hml := Nat.mod_lt d hv0
        by_cases c3 : d % v = 0
        · rw [if_pos (by rw [c3]; rfl)]
          refine ⟨0, rfl, Or.inr ⟨rfl, fun h => ?_⟩⟩
          rcases h.2 v (Nat.dvd_of_mod_eq_zero c3) with g | g <;> omega
        · rw [if_neg (fun h => c3 ((nI_eq (by omega) (by decide)).mp (h.trans (show (0 : Int32) = nI 0 from rfl))))]
          exact next (fun h => c3 (Nat.mod_eq_zero_of_dvd h.2.2))
theorem mprime_spec {F N d : Nat} {da : Nat → Int32} (hF : 2 ^ 31 ≤ F) (h0 : 0 < N) (hN : N ≤ 4194304) (h360 : (dvl N).length ≤ 360) (hda : row da (dvl N)) (hd : d ∣ N) : ∃ r, f_m_isPrime F (nI (dvl N).length) da (nI d) = some r ∧ ((r = 1 ∧ pm d) ∨ (r = 0 ∧ ¬ pm d)) :=
  mprime_loop (F := F) h0 hN h360 hda hd (dvl N).length F 0 (by omega) (by omega) (fun j v h => by omega)
theorem mexp_loop {F p c : Nat} {x2 : Nat} {da : Nat → Int32} (hx : x2 < 400) (hda : da x2 = nI p) (hp : 2 ≤ p) (hp2 : p ≤ 4194304) (hc : c < 8) : ∀ (k fu l u : Nat) (ea : Nat → Int32), k < fu → l ≤ k → 0 < l → l ≤ 4194304 → ea c = nI u →
    ∃ (j l' : Nat) (ea' : Nat → Int32), l_m_take_154 F (nI x2) (nI c) da fu (nI l) ea = some ea' ∧ l = p ^ j * l' ∧ ¬ p ∣ l' ∧ ea' c = nI (u + j) ∧ ∀ i, i ≠ c → ea' i = ea i := by
  intro k
  induction k with
  | zero => intro fu l u ea hfu h1 h2; omega
  | succ k ih =>
    intro fu l u ea hfu h1 h2 h3 hu
    obtain ⟨fu, rfl⟩ : ∃ z, fu = z + 1 := ⟨fu - 1, by omega⟩
    rw [l_m_take_154, if_neg (gixZ (by omega) (by omega)), nI_clamp (n := x2) (by omega), hda, if_neg (nI_ne0 (by omega) (by omega)), nI_rem (by omega) (by omega) (by omega)]
    have hml := Nat.mod_lt l (show 0 < p by omega)
    by_cases c1 : l % p = 0
    · rw [if_pos (by rw [c1]; rfl), if_neg (gixZ (by omega) (by omega)), if_neg (gixZ (by omega) (by omega)), if_neg (gixZ (by omega) (by omega)), if_neg (nI_ne0 (by omega) (by omega)), nI_clamp (n := c) (by omega), hu, nI_1, pk_div (by omega) (by omega) (by omega)]
      have hd := Nat.div_add_mod l p
      rw [c1, Nat.add_zero] at hd
      have hq : 0 < l / p := by
        rcases Nat.eq_zero_or_pos (l / p) with h | h
        · rw [h, Nat.mul_zero] at hd; omega
        · exact h
      have hlt : 2 * (l / p) ≤ l := by
        have : 2 * (l / p) ≤ p * (l / p) := Nat.mul_le_mul_right _ hp
        omega
      obtain ⟨j, l', ea', k1, k2, k3, k4, k5⟩ := ih fu (l / p) (u + 1) (upd ea c (nI (u + 1))) (by omega) (by omega) hq (by omega) pk_us
      refine ⟨j + 1, l', ea', k1, by rw [← hd, k2, Nat.pow_succ]; grind, k3, by rw [k4]; congr 1; omega, fun i hi => by rw [k5 i hi]; exact pk_un hi⟩
    · rw [if_neg (fun h => c1 ((nI_eq (by omega) (by decide)).mp (h.trans (show (0 : Int32) = nI 0 from rfl))))]
      exact ⟨0, l, ea, rfl, by simp, fun h => c1 (Nat.mod_eq_zero_of_dvd h), hu, fun _ _ => rfl⟩
noncomputable def pmB (d : Nat) : Bool := by
  classical
  exact decide (pm d)
theorem pmB_iff {d : Nat} : pmB d = true ↔ pm d := by
  classical
  unfold pmB
  exact decide_eq_true_iff
theorem t_split {t : List (Nat × Nat)} (ht : fok t) {x : Nat × Nat} (hx : x ∈ t) : ∃ m, fac t = x.1 ^ x.2 * m ∧ ¬ x.1 ∣ m := by
  obtain ⟨a, b, rfl⟩ := List.append_of_mem hx
  refine ⟨fac a * fac b, by rw [fac_app, fac]; grind, fun h => ?_⟩
  have hpx := (ht.1 x hx).1
  have hpw := ht.2
  rw [List.pairwise_append, List.pairwise_cons] at hpw
  rcases pm_mul hpx h with h | h
  · obtain ⟨y, hy, ey⟩ := fac_pm hpx (fun y hy => (ht.1 y (List.mem_append_left _ hy)).1) h
    have := hpw.2.2 y hy x List.mem_cons_self
    omega
  · obtain ⟨y, hy, ey⟩ := fac_pm hpx (fun y hy => (ht.1 y (List.mem_append_right _ (List.mem_cons_of_mem _ hy))).1) h
    have := hpw.2.1.1 y hy
    omega
/-- the primes among the divisors are those of the list -/
theorem dvl_pm {t : List (Nat × Nat)} (ht : fok t) : (dvl (fac t)).filter pmB = t.map (fun x => x.1) := by
  have h0 := fac_pos ht
  have hlt : (t.map (fun x => x.1)).Pairwise (fun a b => a < b) := by rw [List.pairwise_map]; exact ht.2
  have hlt2 : ((dvl (fac t)).filter pmB).Pairwise (fun a b => a < b) := List.Pairwise.filter _ (dvl_lt _)
  refine List.Perm.eq_of_pairwise (le := fun a b => a < b) (fun a b _ _ x y => by omega) hlt2 hlt ?_
  rw [List.perm_ext_iff_of_nodup (hlt2.imp (fun h => Nat.ne_of_lt h)) (hlt.imp (fun h => Nat.ne_of_lt h))]
  intro p
  rw [List.mem_filter, dvl_mem h0, pmB_iff, List.mem_map]
  constructor
  · rintro ⟨h1, h2⟩
    obtain ⟨x, hx, e⟩ := fac_pm h2 (fun y hy => (ht.1 y hy).1) h1
    exact ⟨x, hx, e⟩
  · rintro ⟨x, hx, rfl⟩
    obtain ⟨h1, h2⟩ := ht.1 x hx
    obtain ⟨m, hm, -⟩ := t_split ht hx
    refine ⟨?_, h1⟩
    obtain ⟨e, he⟩ : ∃ e, x.2 = e + 1 := ⟨x.2 - 1, by omega⟩
    rw [hm, he, Nat.pow_succ]
    exact Nat.dvd_trans (Nat.dvd_mul_left x.1 (x.1 ^ e)) (Nat.dvd_mul_right _ _)
theorem mpr_loop {F : Nat} {t : List (Nat × Nat)} {da : Nat → Int32} (hF : 2 ^ 31 ≤ F) (ht : fok t) (hN : fac t ≤ 4194304) (hda : row da (dvl (fac t))) :
    ∀ (k fu i c : Nat) (pa ea : Nat → Int32), k < fu → i + k = (dvl (fac t)).length → ((dvl (fac t)).take i).filter pmB = (t.take c).map (fun x => x.1) → c ≤ t.length → row pa ((t.take c).map (fun x => x.1)) → row ea ((t.take c).map (fun x => x.2)) →
      ∃ pa' ea', l_m_take_100 F (nI (fac t)) (nI (dvl (fac t)).length) da fu (nI i) (nI c) pa ea = some (nI t.length, pa', ea') ∧ row pa' (t.map (fun x => x.1)) ∧ row ea' (t.map (fun x => x.2)) := by
  have h0 := fac_pos ht
  have h360 := dvl_360 ht hN
  have h7 := len_7 ht hN
  have hall := dvl_pm ht
  intro k
  induction k with
  | zero =>
    intro fu i c pa ea hfu hi hf hc h1 h2
    obtain ⟨fu, rfl⟩ : ∃ z, fu = z + 1 := ⟨fu - 1, by omega⟩
    rw [List.take_of_length_le (by omega), hall] at hf
    have hl := congrArg List.length hf
    rw [List.length_map, List.length_map, List.length_take] at hl
    have hct : t.take c = t := List.take_of_length_le (by omega)
    rw [hct] at h1 h2
    refine ⟨pa, ea, ?_, h1, h2⟩
    rw [l_m_take_100, if_pos (nI_le (by omega) (by omega)), show c = t.length by omega]
  | succ k ih =>
    intro fu i c pa ea hfu hi hf hc h1 h2
    obtain ⟨fu, rfl⟩ : ∃ z, fu = z + 1 := ⟨fu - 1, by omega⟩
    have hil : i < (dvl (fac t)).length := by omega
    obtain ⟨v, hv⟩ : ∃ v, (dvl (fac t))[i]? = some v := ⟨(dvl (fac t))[i], List.getElem?_eq_getElem hil⟩
    have hvN := (dvl_mem h0).mp (List.mem_of_getElem? hv)
    have hvle := Nat.le_of_dvd h0 hvN
    have hdai : da i = nI v := row_get hda hv
    have htake : (dvl (fac t)).take (i + 1) = (dvl (fac t)).take i ++ [v] := by rw [List.take_add_one, hv]; rfl
    have hdrop : (dvl (fac t)).drop i = v :: (dvl (fac t)).drop (i + 1) := by
      rw [List.drop_eq_getElem_cons hil]
      congr 1
      rw [List.getElem?_eq_getElem hil] at hv
      exact Option.some.inj hv
    obtain ⟨r, p1, p2⟩ := mprime_spec (F := F) hF h0 hN h360 hda hvN
    rw [l_m_take_100, if_neg (nI_ge hil (by omega)), if_neg (gixZ (by omega) (by omega)), nI_clamp (n := i) (by omega), hdai, p1]
    show ∃ pa' ea', (if r = 0 then l_m_take_100 F (nI (fac t)) (nI (dvl (fac t)).length) da fu (nI i + 1) (nI c) pa ea else if (nI i).toInt < 0 ∨ (400 : Int) ≤ (nI i).toInt then none else if (nI c).toInt < 0 ∨ (8 : Int) ≤ (nI c).toInt then none else if (nI c).toInt < 0 ∨ (8 : Int) ≤ (nI c).toInt then none else b1 (l_m_take_154 F (nI i) (nI c) da F (nI (fac t)) (upd ea (nI c).toNatClampNeg 0)) fun ea_8 => l_m_take_100 F (nI (fac t)) (nI (dvl (fac t)).length) da fu (nI i + 1) (nI c + 1) (upd pa (nI c).toNatClampNeg (nI v)) ea_8) = _ ∧ _
    rw [nI_1 i]
    rcases p2 with ⟨hr, hpm⟩ | ⟨hr, hpm⟩
    · subst hr
      -- the next prime of the list is v
      have hsplit : (t.take c).map (fun x => x.1) ++ v :: ((dvl (fac t)).drop (i + 1)).filter pmB = t.map (fun x => x.1) := by
        have e : (dvl (fac t)).filter pmB = ((dvl (fac t)).take i).filter pmB ++ ((dvl (fac t)).drop i).filter pmB := by rw [← List.filter_append, List.take_append_drop]
        rw [hall, hf, hdrop, List.filter_cons_of_pos (pmB_iff.mpr hpm)] at e
        exact e.symm
      have hlc : ((t.take c).map (fun x => x.1)).length = c := by rw [List.length_map, List.length_take]; omega
      have hgc : (t.map (fun x => x.1))[c]? = some v := by
        rw [← hsplit, List.getElem?_append_right (by omega), hlc, Nat.sub_self]; rfl
      rw [List.getElem?_map] at hgc
      obtain ⟨x, hx, hxv⟩ : ∃ x, t[c]? = some x ∧ x.1 = v := by
        cases h : t[c]? with
        | none => rw [h] at hgc; cases hgc
        | some x => rw [h] at hgc; exact ⟨x, rfl, Option.some.inj hgc⟩
      have hxt := List.mem_of_getElem? hx
      have hct : c < t.length := (List.getElem?_eq_some_iff.mp hx).1
      have htk : t.take (c + 1) = t.take c ++ [x] := by rw [List.take_add_one, hx]; rfl
      obtain ⟨m, hm, hnd⟩ := t_split ht hxt
      obtain ⟨j, l', ea', k1, k2, k3, k4, k5⟩ := mexp_loop (F := F) (p := v) (c := c) (x2 := i) (by omega) hdai hpm.1 (by omega) (by omega) (fac t) F (fac t) 0 (upd ea c (nI 0)) (by omega) (Nat.le_refl _) h0 hN pk_us
      have hj : j = x.2 := by
        rw [hxv] at hm hnd
        exact (pow_apart hpm (i := j) (j := x.2) (a := l') (b := m) k3 hnd (by rw [Nat.mul_comm, ← k2, hm, Nat.mul_comm])).1
      subst hj
      rw [if_neg (by decide), if_neg (gixZ (by omega) (by omega)), if_neg (gixZ (by omega) (by omega)), if_neg (gixZ (by omega) (by omega)), nI_clamp (n := c) (by omega), show (0 : Int32) = nI 0 from rfl, k1, nI_1 c]
      refine ih fu (i + 1) (c + 1) (upd pa c (nI v)) ea' (by omega) (by omega) ?_ (by omega) ?_ ?_
      · rw [htake, List.filter_append, List.filter_cons_of_pos (pmB_iff.mpr hpm), List.filter_nil, hf, htk, List.map_append, ← hxv]; rfl
      · have := row_push h1 v
        rw [hlc] at this
        rw [htk, List.map_append, List.map_cons, List.map_nil, hxv]
        exact this
      · have hl2 : ((t.take c).map (fun x => x.2)).length = c := by rw [List.length_map, List.length_take]; omega
        refine row_mk (fun z w hw => ?_)
        rw [htk, List.map_append] at hw
        rcases Nat.lt_or_ge z c with hz | hz
        · rw [List.getElem?_append_left (by omega)] at hw
          rw [k5 z (by omega), pk_un (by omega)]
          exact row_get h2 hw
        · rw [List.getElem?_append_right (by omega), hl2] at hw
          have hz2 := (List.getElem?_eq_some_iff.mp hw).1
          simp at hz2
          have : z = c := by omega
          subst this
          rw [Nat.sub_self] at hw
          cases hw
          rw [k4, Nat.zero_add]
    · subst hr
      rw [if_pos rfl]
      refine ih fu (i + 1) c pa ea (by omega) (by omega) ?_ hc h1 h2
      rw [htake, List.filter_append, List.filter_cons_of_neg (fun h => hpm (pmB_iff.mp h)), List.filter_nil, List.append_nil, hf]
/-- take of the reference -/
theorem mtake_spec {F : Nat} {t : List (Nat × Nat)} (hF : 2 ^ 31 ≤ F) (ht : fok t) (hN : fac t ≤ 4194304) (co nn dn pn fo : Int32) (da pa ea : Nat → Int32) :
    ∃ da' pa' ea', f_m_take F co nn dn pn fo da pa ea (nI (fac t)) = some (nI t.length, 0, nI (fac t), nI (dvl (fac t)).length, nI t.length, 0, da', pa', ea') ∧ row da' (dvl (fac t)) ∧ row pa' (t.map (fun x => x.1)) ∧ row ea' (t.map (fun x => x.2)) := by
  have h0 := fac_pos ht
  have h360 := dvl_360 ht hN
  obtain ⟨da', k1, k2⟩ := mdiv_loop (F := F) h0 hN h360 (fac t) F 0 da (by omega) (by omega) rfl
  obtain ⟨pa', ea', k3, k4, k5⟩ := mpr_loop (F := F) hF ht hN k2 (dvl (fac t)).length F 0 0 pa ea (by omega) (by omega) (by simp) (by omega) rfl rfl
  refine ⟨da', pa', ea', ?_, k2, k4, k5⟩
  unfold f_m_take
  rw [nI_iZ (fac t), iZ_l ⟨by omega, by omega⟩, show (1 : Int64) = lZ 1 from rfl, show (4194304 : Int64) = lZ 4194304 from rfl, min_in ⟨by omega, by omega⟩ (by decide) (by decide), if_pos (show (1 : Int) ≤ (fac t : Int) ∧ (fac t : Int) ≤ 4194304 by omega), ← nI_iZ (fac t)]
  show (if (1 : Int32) = 0 then some (0, 1, nn, dn, pn, fo, da, pa, ea) else b2 (l_m_take_47 F (nI (fac t)) F 1 0 da) fun dn_5 da_5 => b3 (l_m_take_100 F (nI (fac t)) dn_5 da_5 F 0 0 pa ea) fun pn_6 pa_6 ea_6 => some (pn_6, 0, nI (fac t), dn_5, pn_6, 0, da_5, pa_6, ea_6)) = _
  have k1' : l_m_take_47 F (nI (fac t)) F 1 0 da = some (nI (dvl (fac t)).length, da') := k1
  have k3' : l_m_take_100 F (nI (fac t)) (nI (dvl (fac t)).length) da' F 0 0 pa ea = some (nI t.length, pa', ea') := k3
  rw [if_neg (by decide), k1']
  show (b3 (l_m_take_100 F (nI (fac t)) (nI (dvl (fac t)).length) da' F 0 0 pa ea) fun pn_6 pa_6 ea_6 => some (pn_6, 0, nI (fac t), nI (dvl (fac t)).length, pn_6, 0, da', pa_6, ea_6)) = _
  rw [k3']; rfl
