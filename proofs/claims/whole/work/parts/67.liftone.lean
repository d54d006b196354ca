/-! lifting by one, and all roots modulo N -/
noncomputable def uo (M p : Nat) (d : Int) (x : Nat) : Nat := by
  classical
  exact if h : ∃ t : Nat, t < p ∧ cg ((M * p : Nat) : Int) (((x + t * M : Nat) : Int) * ((x + t * M : Nat) : Int)) d then x + Classical.choose h * M else x
theorem one_iff {M p x t : Nat} {d k : Int} (hM : 0 < M) (hd : p ∣ M) (hk : (x : Int) * x - d = M * k) : cg ((M * p : Nat) : Int) (((x + t * M : Nat) : Int) * ((x + t * M : Nat) : Int)) d ↔ (p : Int) ∣ k + 2 * x * t := by
  have l1 := lift_iff (M := (M : Int)) (p := (p : Int)) (x := (x : Int)) (t := (t : Int)) (d := d) (k := k) (by omega) (Int.ofNat_dvd.mpr hd) hk
  rw [Int.natCast_mul, show ((x + t * M : Nat) : Int) = (x : Int) + t * M by rw [Int.natCast_add, Int.natCast_mul], l1]
theorem one_uniq {M p x t u : Nat} {d k : Int} (hp : pm p) (hM : 0 < M) (hd : p ∣ M) (hk : (x : Int) * x - d = M * k) (h2 : ¬ (p : Int) ∣ 2 * x) (ht : t < p) (hu : u < p) (h3 : cg ((M * p : Nat) : Int) (((x + t * M : Nat) : Int) * ((x + t * M : Nat) : Int)) d) (h4 : cg ((M * p : Nat) : Int) (((x + u * M : Nat) : Int) * ((x + u * M : Nat) : Int)) d) : t = u := by
  rw [one_iff hM hd hk] at h3 h4
  have h5 := Int.dvd_sub h3 h4
  rw [show k + 2 * (x : Int) * t - (k + 2 * (x : Int) * u) = 2 * (x : Int) * ((t : Int) - u) by grind] at h5
  have h6 := (pm_mulZ hp h5).resolve_left h2
  exact nat_of_cg ht hu h6
theorem uo_eq {M p x t : Nat} {d k : Int} (hp : pm p) (hM : 0 < M) (hd : p ∣ M) (hk : (x : Int) * x - d = M * k) (h2 : ¬ (p : Int) ∣ 2 * x) (ht : t < p) (h3 : cg ((M * p : Nat) : Int) (((x + t * M : Nat) : Int) * ((x + t * M : Nat) : Int)) d) : uo M p d x = x + t * M := by
  have h : ∃ t : Nat, t < p ∧ cg ((M * p : Nat) : Int) (((x + t * M : Nat) : Int) * ((x + t * M : Nat) : Int)) d := ⟨t, ht, h3⟩
  unfold uo
  rw [dif_pos h]
  have hs := Classical.choose_spec h
  rw [one_uniq hp hM hd hk h2 hs.1 ht hs.2 h3]
/-- the one t, as the class reckons it -/
theorem one_t {p : Nat} {x k st : Int} (hp : 0 < p) (hst : cg p (st * (2 * x)) 1) : (p : Int) ∣ k + 2 * x * ((-st * (k % p)) % p) := by
  have h1 : cg p ((-st * (k % p)) % p) (-st * k) := cg_tr (cg_emod _ _) (cg_mul (cg_rf _ _) (cg_emod _ _))
  have h2 : cg p (k + 2 * x * ((-st * (k % p)) % p)) (k + 2 * x * (-st * k)) := cg_add (cg_rf _ _) (cg_mul (cg_rf _ _) h1)
  have h3 : cg p (k + 2 * x * (-st * k)) 0 := by
    have h4 := cg_sub (cg_rf p k) (cg_mul hst (cg_rf p k))
    rw [show k + 2 * x * (-st * k) = k - st * (2 * x) * k by grind]
    rw [show k - 1 * k = 0 by omega] at h4
    exact h4
  exact cg_0.mp (cg_tr h2 h3)
theorem isR_one {L : List Nat} {M p : Nat} {d : Int} (hp : pm p) (hM : 0 < M) (hd : p ∣ M) (h : isR L M d) (h2 : ∀ x ∈ L, ¬ (p : Int) ∣ 2 * x) : isR (L.map (uo M p d)) (M * p) d := by
  have ex : ∀ x ∈ L, ∃ t : Nat, t < p ∧ cg ((M * p : Nat) : Int) (((x + t * M : Nat) : Int) * ((x + t * M : Nat) : Int)) d ∧ uo M p d x = x + t * M := by
    intro x hx
    obtain ⟨k, hk⟩ := ((h.2 x).mp hx).2
    obtain ⟨st, hst⟩ := inv_ex hp (h2 x hx)
    have hp0 : 0 < p := by have := hp.1; omega
    have m0 := Int.emod_nonneg (-st * (k % p)) (show (p : Int) ≠ 0 by omega)
    have m1 := Int.emod_lt_of_pos (-st * (k % p)) (show (0 : Int) < p by omega)
    obtain ⟨t, ht⟩ : ∃ t : Nat, (-st * (k % p)) % p = t := ⟨((-st * (k % p)) % p).toNat, by omega⟩
    have h3 := one_t (k := k) hp0 hst
    rw [ht] at h3
    have h4 := (one_iff (t := t) hM hd hk).mpr h3
    exact ⟨t, by omega, h4, uo_eq hp hM hd hk (h2 x hx) (by omega) h4⟩
  refine isR_lift hM h ?_ (fun y => ?_)
  · rw [List.Nodup, List.pairwise_map]
    refine List.Pairwise.imp_of_mem (fun {a b} ha hb hab e => hab ?_) h.1
    obtain ⟨t, -, -, e1⟩ := ex a ha
    obtain ⟨u, -, -, e2⟩ := ex b hb
    rw [e1, e2] at e
    exact (dm_uniq ((h.2 a).mp ha).1 ((h.2 b).mp hb).1 e).1
  · rw [List.mem_map]
    constructor
    · rintro ⟨x, hx, rfl⟩
      obtain ⟨t, ht, hc, e⟩ := ex x hx
      exact ⟨x, hx, t, ht, e, by rw [e]; exact hc⟩
    · rintro ⟨x, hx, t, ht, rfl, hc⟩
      obtain ⟨k, hk⟩ := ((h.2 x).mp hx).2
      exact ⟨x, hx, uo_eq hp hM hd hk (h2 x hx) ht hc⟩
theorem one_loop {F M p : Nat} {d : Int} {L : List Nat} (hF : 2 ^ 31 ≤ F) (hp : pm p) (hd : p ∣ M) (hL : ∀ x ∈ L, x < M ∧ cg M ((x : Int) * x) d) (h2 : ∀ x ∈ L, ¬ (p : Int) ∣ 2 * x) (hM : 0 < M) (hMp : M * p ≤ 4194304) (d0 : 0 ≤ d) (d1 : d < 4194304) (hlen : L.length ≤ 4096) :
    ∀ (k fu i : Nat) (rt : Nat → Int32), k < fu → i + k = L.length → row rt ((L.take i).map (uo M p d) ++ L.drop i) →
      ∃ rt', l_r_liftByOne_3 F (iZ d) (iZ M) (iZ p) (nI L.length) fu (nI i) rt = some rt' ∧ row rt' (L.map (uo M p d)) := by
  have hp0 : 0 < p := by have := hp.1; omega
  have hMle : M ≤ 4194304 := by
    have : M * 1 ≤ M * p := Nat.mul_le_mul_left _ hp0
    omega
  have hple : p ≤ 4194304 := by
    have : 1 * p ≤ M * p := Nat.mul_le_mul_right _ hM
    omega
  intro k
  induction k with
  | zero =>
    intro fu i rt hfu hi hR
    obtain ⟨fu, rfl⟩ : ∃ w, fu = w + 1 := ⟨fu - 1, by omega⟩
    rw [List.take_of_length_le (by omega), List.drop_eq_nil_of_le (by omega), List.append_nil] at hR
    refine ⟨rt, ?_, hR⟩
    rw [l_r_liftByOne_3, if_pos (nI_le (by omega) (by omega))]
  | succ k ih =>
    intro fu i rt hfu hi hR
    obtain ⟨fu, rfl⟩ : ∃ w, fu = w + 1 := ⟨fu - 1, by omega⟩
    have hiL : i < L.length := by omega
    obtain ⟨x, hx⟩ : ∃ x, L[i]? = some x := ⟨L[i], List.getElem?_eq_getElem hiL⟩
    have hxL := List.mem_of_getElem? hx
    obtain ⟨hxM, q, hq⟩ := hL x hxL
    have hdrop : L.drop i = x :: L.drop (i + 1) := by
      rw [List.drop_eq_getElem_cons hiL]
      congr 1
      rw [List.getElem?_eq_getElem hiL] at hx
      exact Option.some.inj hx
    have htake : L.take (i + 1) = L.take i ++ [x] := by rw [List.take_add_one, hx]; rfl
    have hlt : ((L.take i).map (uo M p d)).length = i := by rw [List.length_map, List.length_take]; omega
    have hrti : rt i = nI x := row_get hR (by rw [List.getElem?_append_right (by omega), hlt, Nat.sub_self, hdrop]; rfl)
    obtain ⟨st, i1, i2⟩ := invert_spec (F := F) (by omega) (m := p) (a := 2 * (x : Int)) ⟨by omega, by omega⟩ (by omega) hple
    have hinv : 0 ≤ st ∧ st < p ∧ cg p (st * (2 * x)) 1 := by
      rcases i2 with h | h
      · exact h
      · obtain ⟨y, hy⟩ := inv_ex hp (h2 x hxL)
        exact absurd hy (h.2 y)
    have m0 := Int.emod_nonneg q (show (p : Int) ≠ 0 by omega)
    have m1 := Int.emod_lt_of_pos q (show (0 : Int) < p by omega)
    have in_pr : in64 (-st * (q % p)) := by
      have a1 : st * (q % p) ≤ 4194304 * (q % p) := Int.mul_le_mul_of_nonneg_right (by omega) m0
      have a2 : 0 ≤ st * (q % p) := Int.mul_nonneg hinv.1 m0
      rw [Int.neg_mul]
      exact ⟨by omega, by omega⟩
    have t0 := Int.emod_nonneg (-st * (q % p)) (show (p : Int) ≠ 0 by omega)
    have t1 := Int.emod_lt_of_pos (-st * (q % p)) (show (0 : Int) < p by omega)
    obtain ⟨t, ht⟩ : ∃ t : Nat, (-st * (q % p)) % p = t := ⟨((-st * (q % p)) % p).toNat, by omega⟩
    have h3 := one_t (k := q) hp0 hinv.2.2
    rw [ht] at h3
    have h4 := (one_iff (t := t) hM hd hq).mpr h3
    have huo := uo_eq hp hM hd hq (h2 x hxL) (by omega) h4
    rw [l_r_liftByOne_3, if_neg (nI_ge hiL (by omega)), if_neg (gixZ (by omega) (by omega)), nI_clamp (by omega), hrti, nI_iZ x, iZ_l ⟨by omega, by omega⟩, show (2 : Int64) = lZ 2 from rfl, lZ_mul, i1, excess_spec (F := F) (k := q) (by omega) (by omega) d0 d1 (by omega) (by omega) (by omega) (by omega) hq]
    show ∃ rt', (b1 (f_r_residue F ((-(Int32.toInt64 (iZ st))) * (Int32.toInt64 (iZ (q % p)))) (iZ p)) fun r5 => if (nI i).toInt < 0 ∨ (4096 : Int) ≤ (nI i).toInt then none else l_r_liftByOne_3 F (iZ d) (iZ M) (iZ p) (nI L.length) fu (nI i + 1) (upd rt i (iZ x + (r5 * iZ M)))) = some rt' ∧ _
    rw [iZ_l ⟨by omega, by omega⟩, iZ_l ⟨by omega, by omega⟩, lZ_neg, lZ_mul, residue_spec in_pr (by omega) (by omega), ht]
    show ∃ rt', (if (nI i).toInt < 0 ∨ (4096 : Int) ≤ (nI i).toInt then none else l_r_liftByOne_3 F (iZ d) (iZ M) (iZ p) (nI L.length) fu (nI i + 1) (upd rt i (iZ x + (iZ t * iZ M)))) = some rt' ∧ _
    rw [if_neg (gixZ (by omega) (by omega)), nI_1, iZ_mul, iZ_add, show (x : Int) + (t : Int) * (M : Int) = ((x + t * M : Nat) : Int) by rw [Int.natCast_add, Int.natCast_mul], ← nI_iZ, ← huo]
    refine ih fu (i + 1) _ (by omega) (by omega) ?_
    refine row_mk (fun j v hv => ?_)
    rw [htake, List.map_append, List.append_assoc] at hv
    rcases Nat.lt_trichotomy j i with hj | hj | hj
    · rw [pk_un (by omega)]
      refine row_get hR ?_
      rw [List.getElem?_append_left (by omega)] at hv ⊢
      exact hv
    · subst hj
      rw [List.getElem?_append_right (by omega), hlt, Nat.sub_self] at hv
      cases hv
      exact pk_us
    · rw [pk_un (by omega)]
      refine row_get hR ?_
      rw [List.getElem?_append_right (by omega), hlt] at hv ⊢
      rw [hdrop]
      obtain ⟨w, hw⟩ : ∃ w, j - i = w + 1 := ⟨j - i - 1, by omega⟩
      rw [hw] at hv ⊢
      exact hv
theorem one_spec {F M p : Nat} {d : Int} {L : List Nat} {rt : Nat → Int32} (hF : 2 ^ 31 ≤ F) (hrt : row rt L) (hR : isR L M d) (hp : pm p) (hM : 0 < M) (hMp : M * p ≤ 4194304) (d0 : 0 ≤ d) (d1 : d < 4194304) (hd : p ∣ M) (h2 : ∀ x ∈ L, ¬ (p : Int) ∣ 2 * x) :
    ∃ (L' : List Nat) (rt' : Nat → Int32), f_r_liftByOne F (nI L.length) rt (iZ d) (iZ M) (iZ p) = some rt' ∧ L'.length = L.length ∧ row rt' L' ∧ isR L' (M * p) d := by
  have hp0 : 0 < p := by have := hp.1; omega
  have hMle : M ≤ 4194304 := by
    have : M * 1 ≤ M * p := Nat.mul_le_mul_left _ hp0
    omega
  have hlen := isR_4096 hR hM hMle
  obtain ⟨rt', k1, k2⟩ := one_loop (F := F) hF hp hd (fun x hx => (hR.2 x).mp hx) h2 hM hMp d0 d1 hlen L.length F 0 rt (by omega) (by omega) (by simpa using hrt)
  refine ⟨L.map (uo M p d), rt', ?_, by simp, k2, isR_one hp hM hd hR h2⟩
  unfold f_r_liftByOne
  have k1' : l_r_liftByOne_3 F (iZ d) (iZ M) (iZ p) (nI L.length) F 0 rt = some rt' := k1
  rw [k1']; rfl
/-- liftRoots -/
theorem lift_spec {F M p : Nat} {d : Int} {L : List Nat} {rt : Nat → Int32} (hF : 2 ^ 31 ≤ F) (hrt : row rt L) (hR : isR L M d) (hp : pm p) (hM : 0 < M) (hMp : M * p ≤ 4194304) (d0 : 0 ≤ d) (d1 : d < 4194304) (hd : p ∣ M) :
    ∃ (L' : List Nat) (rt' : Nat → Int32), f_r_liftRoots F (nI L.length) rt (iZ d) (iZ M) (iZ p) = some (nI L'.length, rt') ∧ row rt' L' ∧ isR L' (M * p) d := by
  have hp0 : 0 < p := by have := hp.1; omega
  have hple : p ≤ 4194304 := by
    have : 1 * p ≤ M * p := Nat.mul_le_mul_right _ hM
    omega
  have hxd : ∀ x ∈ L, cg p ((x : Int) * x) d := by
    intro x hx
    obtain ⟨w, hw⟩ := hd
    have := ((hR.2 x).mp hx).2
    rw [hw, Int.natCast_mul] at this
    exact cg_left this
  unfold f_r_liftRoots
  by_cases c2 : p = 2
  · rw [if_pos (by rw [c2]; rfl)]
    obtain ⟨L', rt', k1, k2, k3⟩ := all_spec hF hrt hR hM hp0 hMp d0 d1 hd (fun x _ => by rw [c2]; exact Int.dvd_mul_right _ _)
    exact ⟨L', rt', by rw [k1]; rfl, k2, k3⟩
  · rw [if_neg (fun h => c2 (by
      have := (iZ_eq (a := (p : Int)) (b := 2) ⟨by omega, by omega⟩ (by decide)).mp (h.trans (show (2 : Int32) = iZ 2 from rfl))
      omega)), iZ_l ⟨by omega, by omega⟩, residue_spec ⟨by omega, by omega⟩ (by omega) (by omega)]
    have m0 := Int.emod_nonneg d (show (p : Int) ≠ 0 by omega)
    have m1 := Int.emod_lt_of_pos d (show (0 : Int) < p by omega)
    show ∃ (L' : List Nat) (rt' : Nat → Int32), (if iZ (d % p) = 0 then b2 (f_r_liftByAll F (nI L.length) rt (iZ d) (iZ M) (iZ p)) fun rc_6 rt_6 => some (rc_6, rt_6) else b1 (f_r_liftByOne F (nI L.length) rt (iZ d) (iZ M) (iZ p)) fun rt_5 => some (nI L.length, rt_5)) = _ ∧ _
    by_cases c : d % p = 0
    · rw [if_pos (by rw [c]; rfl)]
      have hpd : (p : Int) ∣ d := Int.dvd_of_emod_eq_zero c
      obtain ⟨L', rt', k1, k2, k3⟩ := all_spec hF hrt hR hM hp0 hMp d0 d1 hd (fun x hx => by
        have h1 : (p : Int) ∣ (x : Int) * x := cg_0.mp (cg_tr (hxd x hx) (cg_0.mpr hpd))
        refine Int.dvd_mul_of_dvd_right ?_
        rcases pm_mulZ hp h1 with h | h <;> exact h)
      exact ⟨L', rt', by rw [k1]; rfl, k2, k3⟩
    · rw [if_neg (fun h => c ((iZ_eq ⟨by omega, by omega⟩ (by decide)).mp (h.trans (show (0 : Int32) = iZ 0 from rfl))))]
      have ho : p % 2 = 1 := by
        rcases Nat.mod_two_eq_zero_or_one p with g | g
        · exact absurd (pm_dvd_pm pm_2 hp (Nat.dvd_of_mod_eq_zero g)).symm c2
        · exact g
      obtain ⟨L', rt', k1, k2, k3, k4⟩ := one_spec hF hrt hR hp hM hMp d0 d1 hd (fun x hx h => by
        rcases pm_mulZ hp h with g | g
        · exact two_nd hp ho g
        · exact c (Int.emod_eq_zero_of_dvd (cg_0.mp (cg_tr (cg_sy (hxd x hx)) (cg_0.mpr (Int.dvd_mul_of_dvd_left g))))))
      refine ⟨L', rt', ?_, k3, k4⟩
      rw [k1, k2]; rfl
