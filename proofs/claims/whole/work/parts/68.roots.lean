/-! roots: what the class's method answers and holds -/
theorem lift_loop {F p e i : Nat} {d : Int} {ex : Nat → Int32} (hF : 2 ^ 31 ≤ F) (hp : pm p) (hi : i < 7) (he : ex i = nI e) (he2 : e < 2 ^ 31) (d0 : 0 ≤ d) (d1 : d < 4194304) :
    ∀ (k fu j M : Nat) (L : List Nat) (rt : Nat → Int32), k < fu → j + k = e → 0 < M → p ∣ M → M * p ^ k ≤ 4194304 → row rt L → isR L M d →
      ∃ (L' : List Nat) (rt' : Nat → Int32), l_r_roots_71 F (iZ d) (nI i) (iZ p) ex fu (iZ M) (nI j) (nI L.length) rt = some (iZ ((M * p ^ k : Nat) : Int), nI L'.length, rt') ∧ row rt' L' ∧ isR L' (M * p ^ k) d := by
  have hp0 : 0 < p := by have := hp.1; omega
  intro k
  induction k with
  | zero =>
    intro fu j M L rt hfu hj hM hpM hMp hrt hR
    obtain ⟨fu, rfl⟩ : ∃ w, fu = w + 1 := ⟨fu - 1, by omega⟩
    refine ⟨L, rt, ?_, hrt, by simpa using hR⟩
    rw [l_r_roots_71, if_neg (gixZ (by omega) (by omega)), nI_clamp (by omega), he, if_pos (nI_le (by omega) (by omega)), Nat.pow_zero, Nat.mul_one]
  | succ k ih =>
    intro fu j M L rt hfu hj hM hpM hMp hrt hR
    obtain ⟨fu, rfl⟩ : ∃ w, fu = w + 1 := ⟨fu - 1, by omega⟩
    have e1 : M * p ^ (k + 1) = M * p * p ^ k := by rw [Nat.pow_succ]; grind
    have hMp1 : M * p ≤ 4194304 := by
      have : M * p * 1 ≤ M * p * p ^ k := Nat.mul_le_mul_left _ (Nat.pow_pos hp0)
      omega
    obtain ⟨L1, rt1, k1, k2, k3⟩ := lift_spec hF hrt hR hp hM hMp1 d0 d1 hpM
    rw [l_r_roots_71, if_neg (gixZ (by omega) (by omega)), nI_clamp (by omega), he, if_neg (nI_ge (by omega) (by omega)), k1, e1]
    show ∃ (L' : List Nat) (rt' : Nat → Int32), l_r_roots_71 F (iZ d) (nI i) (iZ p) ex fu (iZ M * iZ p) (nI j + 1) (nI L1.length) rt1 = _ ∧ _
    rw [iZ_mul, ← Int.natCast_mul, nI_1]
    exact ih fu (j + 1) (M * p) L1 rt1 (by omega) (by omega) (Nat.mul_pos hM hp0) (Nat.dvd_mul_left _ _) (by rw [← e1]; exact hMp) k2 k3
theorem isR_nil {M N : Nat} {d : Int} (h : isR [] M d) (hM : 0 < M) (hd : M ∣ N) : isR [] N d := by
  refine ⟨List.nodup_nil, fun y => ⟨fun h => absurd h List.not_mem_nil, fun hy => ?_⟩⟩
  exfalso
  obtain ⟨w, hw⟩ := hd
  have h2 := hy.2
  rw [hw, Int.natCast_mul] at h2
  have : y % M ∈ ([] : List Nat) := (h.2 _).mpr ⟨Nat.mod_lt _ hM, cg_tr (cg_mul (cg_nmod y M) (cg_nmod y M)) (cg_left h2)⟩
  exact absurd this List.not_mem_nil
theorem fac_snoc (t : List (Nat × Nat)) (x : Nat × Nat) : fac (t ++ [x]) = fac t * x.1 ^ x.2 := by rw [fac_app]; simp [fac]
theorem roots_loop {F : Nat} {d : Int} {pr ex : Nat → Int32} {t : List (Nat × Nat)} (hF : 2 ^ 31 ≤ F) (ht : fok t) (hN : fac t ≤ 4194304) (hpr : row pr (t.map (fun x => x.1))) (hex : row ex (t.map (fun x => x.2))) (d0 : 0 ≤ d) (d1 : d < 4194304) :
    ∀ (t2 t1 : List (Nat × Nat)) (fu : Nat) (L : List Nat) (rt sp : Nat → Int32), t = t1 ++ t2 → t2.length < fu → row rt L → isR L (fac t1) d →
      ∃ (L' : List Nat) (rt' sp' : Nat → Int32), l_r_roots_27 F (iZ d) (nI t.length) pr ex fu (iZ (fac t1)) (nI t1.length) (nI L.length) rt sp = some (nI L'.length, rt', sp') ∧ row rt' L' ∧ isR L' (fac t) d := by
  have hlen7 := len_7 ht hN
  intro t2
  induction t2 with
  | nil =>
    intro t1 fu L rt sp hte hfu hrt hR
    obtain ⟨fu, rfl⟩ : ∃ w, fu = w + 1 := ⟨fu - 1, by omega⟩
    rw [List.append_nil] at hte
    subst hte
    refine ⟨L, rt, sp, ?_, hrt, hR⟩
    rw [l_r_roots_27, if_pos (nI_le (Nat.le_refl _) (by omega))]
  | cons x t2 ih =>
    intro t1 fu L rt sp hte hfu hrt hR
    obtain ⟨fu, rfl⟩ : ∃ w, fu = w + 1 := ⟨fu - 1, by omega⟩
    have hxt : x ∈ t := by rw [hte]; exact List.mem_append_right _ List.mem_cons_self
    obtain ⟨hpx, hex1⟩ := ht.1 x hxt
    have hp0 : 0 < x.1 := by have := hpx.1; omega
    have hok1 : fok t1 := ⟨fun y hy => ht.1 y (by rw [hte]; exact List.mem_append_left _ hy), by
      have := ht.2
      rw [hte, List.pairwise_append] at this
      exact this.1⟩
    have hM := fac_pos hok1
    have hfac : fac t = fac t1 * x.1 ^ x.2 * fac t2 := by rw [hte, fac_app, fac, Nat.mul_assoc]
    have hf2 : 0 < fac t2 := by
      rcases Nat.eq_zero_or_pos (fac t2) with h | h
      · rw [h, Nat.mul_zero] at hfac
        have := fac_pos ht
        omega
      · exact h
    have hMpe : fac t1 * x.1 ^ x.2 ≤ 4194304 := by
      have : fac t1 * x.1 ^ x.2 * 1 ≤ fac t1 * x.1 ^ x.2 * fac t2 := Nat.mul_le_mul_left _ hf2
      omega
    obtain ⟨e, he⟩ : ∃ e, x.2 = e + 1 := ⟨x.2 - 1, by omega⟩
    have hpe : fac t1 * x.1 ^ x.2 = fac t1 * x.1 * x.1 ^ e := by rw [he, Nat.pow_succ]; grind
    have hMp : fac t1 * x.1 ≤ 4194304 := by
      have : fac t1 * x.1 * 1 ≤ fac t1 * x.1 * x.1 ^ e := Nat.mul_le_mul_left _ (Nat.pow_pos hp0)
      omega
    have hnd : ¬ x.1 ∣ fac t1 := by
      intro h
      obtain ⟨y, hy, ey⟩ := fac_pm hpx (fun y hy => (hok1.1 y hy).1) h
      have := ht.2
      rw [hte, List.pairwise_append] at this
      have := this.2.2 y hy x List.mem_cons_self
      omega
    have hi : t1.length < t.length := by rw [hte]; simp
    have hget : t[t1.length]? = some x := by rw [hte, List.getElem?_append_right (Nat.le_refl _), Nat.sub_self]; rfl
    have hpri : pr t1.length = nI x.1 := row_get hpr (by rw [List.getElem?_map, hget]; rfl)
    have hexi : ex t1.length = nI x.2 := row_get hex (by rw [List.getElem?_map, hget]; rfl)
    have hx2 : x.2 < 2 ^ 31 := by
      have h1 : x.2 < 2 ^ x.2 := Nat.lt_two_pow_self
      have h2 : 2 ^ x.2 ≤ x.1 ^ x.2 := Nat.pow_le_pow_left hpx.1 _
      have h3 : 1 * x.1 ^ x.2 ≤ fac t1 * x.1 ^ x.2 := Nat.mul_le_mul_right _ hM
      omega
    rw [l_r_roots_27, if_neg (nI_ge hi (by omega)), show (0 : Int32) = nI 0 from rfl]
    cases L with
    | nil =>
      rw [if_pos (show nI ([] : List Nat).length ≤ nI 0 from nI_le (Nat.le_refl _) (by omega))]
      exact ⟨[], rt, sp, rfl, rfl, isR_nil hR hM ⟨x.1 ^ x.2 * fac t2, by rw [hfac, Nat.mul_assoc]⟩⟩
    | cons y L =>
      have hlenL : (y :: L).length ≤ 4096 := isR_4096 hR hM (by
        have : fac t1 * 1 ≤ fac t1 * x.1 := Nat.mul_le_mul_left _ hp0
        omega)
      rw [if_neg (show ¬ nI (y :: L).length ≤ nI 0 from nI_ge (Nat.succ_pos _) (by omega)), if_neg (gixZ (by omega) (by omega)), nI_clamp (by omega), hpri, nI_iZ x.1]
      obtain ⟨L1, rt1, sp1, k1, k2, k3⟩ := join_spec (sp := sp) hF hpx hM hnd hMp d0 d1 hrt hR
      rw [k1]
      show ∃ (L' : List Nat) (rt' sp' : Nat → Int32), (b3 (l_r_roots_71 F (iZ d) (nI t1.length) (iZ x.1) ex F (iZ (fac t1) * iZ x.1) 1 (nI L1.length) rt1) fun x4_5 rc_5 rt_5 => l_r_roots_27 F (iZ d) (nI t.length) pr ex fu x4_5 (nI t1.length + 1) rc_5 rt_5 sp1) = _ ∧ _
      obtain ⟨L2, rt2, k4, k5, k6⟩ := lift_loop (F := F) (d := d) hF hpx (show t1.length < 7 by omega) hexi hx2 d0 d1 e F 1 (fac t1 * x.1) L1 rt1 (by omega) (by omega) (Nat.mul_pos hM hp0) (Nat.dvd_mul_left _ _) (by rw [← hpe]; exact hMpe) k2 k3
      rw [iZ_mul, ← Int.natCast_mul, show (1 : Int32) = nI 1 from rfl, k4]
      show ∃ (L' : List Nat) (rt' sp' : Nat → Int32), l_r_roots_27 F (iZ d) (nI t.length) pr ex fu (iZ ((fac t1 * x.1 * x.1 ^ e : Nat) : Int)) (nI t1.length + nI 1) (nI L2.length) rt2 sp1 = _ ∧ _
      have hsn : fac (t1 ++ [x]) = fac t1 * x.1 * x.1 ^ e := by rw [fac_snoc, hpe]
      have := ih (t1 ++ [x]) fu L2 rt2 sp1 (by rw [hte, List.append_assoc]; rfl) (by simp at hfu; omega) k5 (by rw [hsn]; exact k6)
      rw [hsn, List.length_append] at this
      rw [nI_add]
      exact this
/-- the sorted places, and the list that they hold -/
theorem sort_row {f : Nat → Int32} {L0 L1 : List Nat} (h1 : (seg f 0 L0.length).Pairwise (fun a b => a ≤ b)) (h2 : (seg f 0 L0.length).Perm (L0.map nI)) (h3 : L0.Perm L1) (h4 : L1.Pairwise (fun a b => a < b)) (h5 : ∀ x ∈ L1, x < 2 ^ 31) : row f L1 := by
  unfold row
  rw [← h3.length_eq]
  refine List.Perm.eq_of_pairwise (le := fun a b => a ≤ b) (fun a b _ _ x y => Int32.le_antisymm x y) h1 ?_ (h2.trans (h3.map nI))
  rw [List.pairwise_map]
  exact List.Pairwise.imp_of_mem (fun {a b} ha hb hab => nI_le (Nat.le_of_lt hab) (h5 b hb)) h4
theorem rtl_lt (d : Int) (M : Nat) : (rtl d M).Pairwise (fun a b => a < b) := List.Pairwise.filter _ List.pairwise_lt_range
theorem isR_cg {L : List Nat} {M : Nat} {d e : Int} (h : isR L M d) (hc : cg M d e) : isR L M e := ⟨h.1, fun x => by
  rw [h.2]
  exact ⟨fun g => ⟨g.1, cg_tr g.2 hc⟩, fun g => ⟨g.1, cg_tr g.2 (cg_sy hc)⟩⟩⟩
/-- roots(d): the roots of d modulo N, in rising order -/
theorem roots_spec {F : Nat} {d : Int} {rc0 : Int32} {pr ex rt sp : Nat → Int32} {t : List (Nat × Nat)} (hF : 2 ^ 31 ≤ F) (ht : fok t) (hN : fac t ≤ 4194304) (hpr : row pr (t.map (fun x => x.1))) (hex : row ex (t.map (fun x => x.2))) (hd : in64 d) :
    ∃ rt' sp' : Nat → Int32, f_r_roots F (nI (fac t)) (nI t.length) rc0 pr ex rt sp (lZ d) = some (nI (rtl d (fac t)).length, nI (rtl d (fac t)).length, rt', sp') ∧ row rt' (rtl d (fac t)) := by
  have hpos := fac_pos ht
  have m0 := Int.emod_nonneg d (show (fac t : Int) ≠ 0 by omega)
  have m1 := Int.emod_lt_of_pos d (show (0 : Int) < fac t by omega)
  have hc : cg (fac t) (d % (fac t : Nat)) d := cg_emod _ _
  unfold f_r_roots
  rw [nI_iZ (fac t), residue_spec hd (by omega) (by omega)]
  show ∃ rt' sp' : Nat → Int32, (if (0 : Int32).toInt < 0 ∨ (4096 : Int) ≤ (0 : Int32).toInt then none else b3 (l_r_roots_27 F (iZ (d % (fac t : Nat))) (nI t.length) pr ex F 1 0 1 (upd rt (0 : Int32).toNatClampNeg 0) sp) fun rc_3 rt_3 sp_3 => b2 (f_r_sortRising F 4096 rt_3 sp_3 rc_3) fun ra_4 sp_4 => some (rc_3, rc_3, ra_4, sp_4)) = _ ∧ _
  rw [if_neg (by decide)]
  have hlen7 := len_7 ht hN
  obtain ⟨L, rt1, sp1, k1, k2, k3⟩ := roots_loop (F := F) (d := d % (fac t : Nat)) hF ht hN hpr hex m0 (by omega) t [] F [0] (upd rt 0 (nI 0)) sp rfl (by omega) (row_push (L := []) (f := rt) rfl 0) ⟨by simp, fun x => by
    show x ∈ [0] ↔ x < 1 ∧ cg ((1 : Nat) : Int) _ _
    rw [List.mem_singleton]
    exact ⟨fun h => ⟨by omega, by unfold cg; exact Int.one_dvd _⟩, fun h => by omega⟩⟩
  have k1' : l_r_roots_27 F (iZ (d % (fac t : Nat))) (nI t.length) pr ex F 1 0 1 (upd rt (0 : Int32).toNatClampNeg 0) sp = some (nI L.length, rt1, sp1) := k1
  rw [k1']
  have hR := isR_cg k3 hc
  have hlen := isR_4096 hR hpos hN
  obtain ⟨rt2, sp2, s1, s2, s3⟩ := sort_spec (F := F) (n1 := 4096) (size := L.length) hF (by decide) hlen hlen rt1 sp1
  have hperm : L.Perm (rtl d (fac t)) := (List.perm_ext_iff_of_nodup hR.1 (rtl_nd _ _)).mpr (fun x => by rw [hR.2, rtl_mem])
  refine ⟨rt2, sp2, ?_, ?_⟩
  · show (b2 (f_r_sortRising F 4096 rt1 sp1 (nI L.length)) fun ra_4 sp_4 => some (nI L.length, nI L.length, ra_4, sp_4)) = _
    rw [s1, ← hperm.length_eq]; rfl
  · refine sort_row s2 ?_ hperm (rtl_lt _ _) (fun x hx => by have := (rtl_mem.mp hx).1; omega)
    rw [show L.map nI = seg rt1 0 L.length from k2.symm]
    exact s3
