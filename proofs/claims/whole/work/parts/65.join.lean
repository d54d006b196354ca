/-! joining the roots modulo M with those modulo a prime -/
theorem inv_ex {p : Nat} (hp : pm p) {a : Int} (h : ¬ (p : Int) ∣ a) : ∃ y : Int, cg p (y * a) 1 := by
  by_cases c2 : p = 2
  · subst c2
    refine ⟨1, ?_⟩
    rw [Int.one_mul]
    show ((2 : Nat) : Int) ∣ a - 1
    have : ¬ (2 : Int) ∣ a := h
    omega
  · have ho : p % 2 = 1 := by
      rcases Nat.mod_two_eq_zero_or_one p with g | g
      · exact absurd (pm_dvd_pm pm_2 hp (Nat.dvd_of_mod_eq_zero g)).symm c2
      · exact g
    have e := hf_odd ho
    have hp3 := three_le hp ho
    obtain ⟨k, hk⟩ : ∃ k, 2 * hf p = k + 1 := ⟨2 * hf p - 1, by omega⟩
    refine ⟨a ^ k, ?_⟩
    rw [← Int.pow_succ]
    show cg p (a ^ (k + 1)) 1
    rw [← hk]
    exact fermat hp ho h
theorem join_val {F M p x f : Nat} {st : Int} (hM : 0 < M) (hp : 0 < p) (hMp : M * p ≤ 4194304) (hx : x < M) (hf : f < p) (s0 : 0 ≤ st) (s1 : st < p) :
    ∃ r : Int32, f_r_residue F (Int32.toInt64 (iZ f - nI x) * Int32.toInt64 (iZ st)) (iZ p) = some r ∧ nI x + iZ M * r = nI (jN M p st x f) := by
  have hMle : M ≤ 4194304 := by
    have : M * 1 ≤ M * p := Nat.mul_le_mul_left _ hp
    omega
  have hple : p ≤ 4194304 := by
    have : 1 * p ≤ M * p := Nat.mul_le_mul_right _ hM
    omega
  have h1 : (((f : Int) - x).natAbs : Int) ≤ 4194304 := by omega
  have in_m : in64 (((f : Int) - x) * st) := by
    have a1 : ((f : Int) - x) * st ≤ 4194304 * st := Int.mul_le_mul_of_nonneg_right (by omega) s0
    have a2 : (-4194304) * st ≤ ((f : Int) - x) * st := Int.mul_le_mul_of_nonneg_right (by omega) s0
    exact ⟨by omega, by omega⟩
  refine ⟨iZ ((((f : Int) - x) * st) % p), ?_, ?_⟩
  · rw [nI_iZ, iZ_sub, iZ_l ⟨by omega, by omega⟩, iZ_l ⟨by omega, by omega⟩, lZ_mul, residue_spec in_m (by omega) (by omega)]
  · rw [nI_iZ, nI_iZ, iZ_mul, iZ_add, jN_Z hM hp hx]
    rfl
theorem join_loop {F M p f s : Nat} {st : Int} {sp : Nat → Int32} {L : List Nat} (hsp : row sp L) (hL : ∀ x ∈ L, x < M) (hM : 0 < M) (hp : 0 < p) (hMp : M * p ≤ 4194304) (hf : f < p) (hs : s < p) (s0 : 0 ≤ st) (s1 : st < p) (hlen : L.length ≤ 4096) :
    ∀ (k fu i : Nat) (R : List Nat) (rt : Nat → Int32), k < fu → i + k = L.length → row rt R → (R ++ (L.drop i).flatMap (jG M p st f s)).length ≤ 4096 →
      ∃ rt', l_r_joinRootsModuloPrime_61 F (iZ M) (iZ p) (iZ f) (iZ s) (iZ st) (nI L.length) sp fu (nI i) (nI R.length) rt = some (nI (R ++ (L.drop i).flatMap (jG M p st f s)).length, rt') ∧ row rt' (R ++ (L.drop i).flatMap (jG M p st f s)) := by
  have hple : p ≤ 4194304 := by
    have : 1 * p ≤ M * p := Nat.mul_le_mul_right _ hM
    omega
  intro k
  induction k with
  | zero =>
    intro fu i R rt hfu hi hR hle
    obtain ⟨fu, rfl⟩ : ∃ w, fu = w + 1 := ⟨fu - 1, by omega⟩
    have e : L.drop i = [] := List.drop_eq_nil_of_le (by omega)
    rw [e, List.flatMap_nil, List.append_nil]
    refine ⟨rt, ?_, hR⟩
    rw [l_r_joinRootsModuloPrime_61, if_pos (nI_le (by omega) (by omega))]
  | succ k ih =>
    intro fu i R rt hfu hi hR hle
    obtain ⟨fu, rfl⟩ : ∃ w, fu = w + 1 := ⟨fu - 1, by omega⟩
    have hiL : i < L.length := by omega
    obtain ⟨x, hx⟩ : ∃ x, L[i]? = some x := ⟨L[i], List.getElem?_eq_getElem hiL⟩
    have hxM : x < M := hL x (List.mem_of_getElem? hx)
    have hspi : sp i = nI x := row_get hsp hx
    have hdrop : L.drop i = x :: L.drop (i + 1) := by
      rw [List.drop_eq_getElem_cons hiL]
      congr 1
      rw [List.getElem?_eq_getElem hiL] at hx
      exact Option.some.inj hx
    rw [hdrop, List.flatMap_cons] at hle ⊢
    obtain ⟨r1, a1, a2⟩ := join_val (F := F) hM hp hMp hxM hf s0 s1
    obtain ⟨r2, c1, c2⟩ := join_val (F := F) hM hp hMp hxM hs s0 s1
    rw [l_r_joinRootsModuloPrime_61, if_neg (nI_ge hiL (by omega)), if_neg (gixZ (by omega) (by omega)), nI_clamp (by omega), hspi, a1, c1]
    show ∃ rt', (b2 (f_r_addRoot F (nI R.length) rt (nI x + iZ M * r1)) fun rc_4 rt_4 => if iZ s = iZ f then l_r_joinRootsModuloPrime_61 F (iZ M) (iZ p) (iZ f) (iZ s) (iZ st) (nI L.length) sp fu (nI i + 1) rc_4 rt_4 else b2 (f_r_addRoot F rc_4 rt_4 (nI x + iZ M * r2)) fun rc_7 rt_7 => l_r_joinRootsModuloPrime_61 F (iZ M) (iZ p) (iZ f) (iZ s) (iZ st) (nI L.length) sp fu (nI i + 1) rc_7 rt_7) = _ ∧ _
    rw [a2, c2, nI_1]
    by_cases c : s = f
    · have hg : jG M p st f s x = [jN M p st x f] := by unfold jG; rw [if_pos c]
      rw [hg] at hle ⊢
      rw [addRoot_spec (by simp at hle; omega)]
      show ∃ rt', (if iZ s = iZ f then _ else _) = _ ∧ _
      rw [if_pos (by rw [c])]
      have := ih fu (i + 1) (R ++ [jN M p st x f]) _ (by omega) (by omega) (row_push hR _) (by rw [List.append_assoc]; exact hle)
      rw [List.append_assoc] at this
      exact this
    · have hg : jG M p st f s x = [jN M p st x f, jN M p st x s] := by unfold jG; rw [if_neg c]
      rw [hg] at hle ⊢
      rw [addRoot_spec (by simp at hle; omega)]
      show ∃ rt', (if iZ s = iZ f then _ else b2 (f_r_addRoot F (nI (R ++ [jN M p st x f]).length) (upd rt R.length (nI (jN M p st x f))) (nI (jN M p st x s))) _) = _ ∧ _
      rw [if_neg (fun h => c (by
        have := (iZ_eq (a := (s : Int)) (b := (f : Int)) ⟨by omega, by omega⟩ ⟨by omega, by omega⟩).mp h
        omega)), addRoot_spec (by simp at hle ⊢; omega)]
      have := ih fu (i + 1) (R ++ [jN M p st x f] ++ [jN M p st x s]) _ (by omega) (by omega) (row_push (row_push hR _) _) (by rw [List.append_assoc, List.append_assoc]; exact hle)
      rw [show R ++ [jN M p st x f] ++ [jN M p st x s] ++ List.flatMap (jG M p st f s) (List.drop (i + 1) L) = R ++ ([jN M p st x f, jN M p st x s] ++ List.flatMap (jG M p st f s) (List.drop (i + 1) L)) by simp] at this
      exact this
theorem join_spec {F : Nat} (hF : 2 ^ 31 ≤ F) {M p : Nat} {d : Int} {L : List Nat} {rt sp : Nat → Int32} (hp : pm p) (hM : 0 < M) (hpM : ¬ p ∣ M) (hMp : M * p ≤ 4194304) (d0 : 0 ≤ d) (d1 : d < 4194304) (hrt : row rt L) (hR : isR L M d) :
    ∃ (L' : List Nat) (rt' sp' : Nat → Int32), f_r_joinRootsModuloPrime F (nI L.length) rt sp (iZ d) (iZ M) (iZ p) = some (nI L'.length, rt', sp') ∧ row rt' L' ∧ isR L' (M * p) d := by
  have hp0 : 0 < p := by have := hp.1; omega
  have hMle : M ≤ 4194304 := by
    have : M * 1 ≤ M * p := Nat.mul_le_mul_left _ hp0
    omega
  have hple : p ≤ 4194304 := by
    have : 1 * p ≤ M * p := Nat.mul_le_mul_right _ hM
    omega
  have q0 := Int.emod_nonneg d (show (p : Int) ≠ 0 by omega)
  have q1 := Int.emod_lt_of_pos d (show (0 : Int) < p by omega)
  have hcd : cg p (d % p) d := cg_emod _ _
  obtain ⟨x, e1, e2⟩ := rmp_spec (F := F) (by omega) hp hple q0 q1
  obtain ⟨st, i1, i2⟩ := invert_spec (F := F) (by omega) (m := p) (a := (M : Int)) ⟨by omega, by omega⟩ (by omega) hple
  have hx1 : -1 ≤ x ∧ x < p := by rcases e2 with h | h <;> omega
  have hinv : 0 ≤ st ∧ st < p ∧ cg p (st * M) 1 := by
    rcases i2 with h | h
    · exact h
    · obtain ⟨y, hy⟩ := inv_ex hp (a := (M : Int)) (fun g => hpM (Int.ofNat_dvd.mp g))
      exact absurd hy (h.2 y)
  unfold f_r_joinRootsModuloPrime
  rw [iZ_l ⟨by omega, by omega⟩, residue_spec ⟨by omega, by omega⟩ (by omega) (by omega)]
  show ∃ (L' : List Nat) (rt' sp' : Nat → Int32), (b1 (f_r_rootModuloPrime F (iZ (d % p)) (iZ p)) fun r2 => b1 (f_r_residue F (Int32.toInt64 (-r2)) (iZ p)) fun r3 => b1 (f_r_invert F (Int32.toInt64 (iZ M)) (iZ p)) fun r4 => b2 (f_r_swapRows F rt sp) fun rt_5 sp_5 => if r2 = (-1) then some (0, rt_5, sp_5) else if r4 = (-1) then some (0, rt_5, sp_5) else b2 (l_r_joinRootsModuloPrime_61 F (iZ M) (iZ p) r2 r3 r4 (nI L.length) sp_5 F 0 0 rt_5) fun rc_8 rt_8 => some (rc_8, rt_8, sp_5)) = _ ∧ _
  rw [e1]
  show ∃ (L' : List Nat) (rt' sp' : Nat → Int32), (b1 (f_r_residue F (Int32.toInt64 (-iZ x)) (iZ p)) fun r3 => b1 (f_r_invert F (Int32.toInt64 (iZ M)) (iZ p)) fun r4 => if iZ x = (-1) then some (0, sp, rt) else if r4 = (-1) then some (0, sp, rt) else b2 (l_r_joinRootsModuloPrime_61 F (iZ M) (iZ p) (iZ x) r3 r4 (nI L.length) rt F 0 0 sp) fun rc_8 rt_8 => some (rc_8, rt_8, rt)) = _ ∧ _
  rw [iZ_neg, iZ_l ⟨by omega, by omega⟩, residue_spec ⟨by omega, by omega⟩ (by omega) (by omega), iZ_l ⟨by omega, by omega⟩, i1]
  show ∃ (L' : List Nat) (rt' sp' : Nat → Int32), (if iZ x = (-1) then some (0, sp, rt) else if iZ st = (-1) then some (0, sp, rt) else b2 (l_r_joinRootsModuloPrime_61 F (iZ M) (iZ p) (iZ x) (iZ (-x % p)) (iZ st) (nI L.length) rt F 0 0 sp) fun rc_8 rt_8 => some (rc_8, rt_8, rt)) = _ ∧ _
  by_cases c : x = -1
  · have hno : ∀ y : Int, ¬ cg p (y * y) (d % p) := by
      rcases e2 with h | h
      · omega
      · exact h.2
    rw [if_pos (by rw [c]; rfl)]
    refine ⟨[], sp, rt, rfl, rfl, List.nodup_nil, fun y => ⟨fun h => absurd h List.not_mem_nil, fun h => ?_⟩⟩
    exfalso
    have h2 := h.2
    rw [Int.natCast_mul] at h2
    exact hno y (cg_tr (cg_right h2) (cg_sy hcd))
  · rw [if_neg (fun h => c ((iZ_eq ⟨by omega, by omega⟩ (by decide)).mp (h.trans (show (-1 : Int32) = iZ (-1) from rfl)))), if_neg (fun h => by
      have := (iZ_eq (a := st) (b := -1) ⟨by omega, by omega⟩ (by decide)).mp (h.trans (show (-1 : Int32) = iZ (-1) from rfl))
      omega)]
    obtain ⟨h0, h1, h2⟩ : 0 ≤ x ∧ x < p ∧ cg p (x * x) (d % p) := by
      rcases e2 with h | h
      · exact h
      · exact absurd h.1 c
    obtain ⟨f, rfl⟩ : ∃ f : Nat, x = f := ⟨x.toNat, by omega⟩
    have m0 := Int.emod_nonneg (-(f : Int)) (show (p : Int) ≠ 0 by omega)
    have m1 := Int.emod_lt_of_pos (-(f : Int)) (show (0 : Int) < p by omega)
    obtain ⟨s, hs⟩ : ∃ s : Nat, -(f : Int) % p = s := ⟨(-(f : Int) % p).toNat, by omega⟩
    have hcs : cg p (s : Int) (-f) := by rw [← hs]; exact cg_emod _ _
    rw [hs]
    have hR2 := isR_join (L := L) (st := st) (f := f) (s := s) hp hM hpM hR (by omega) (by omega) hcs (cg_tr h2 hcd) hinv.2.2
    have hlen := isR_4096 hR hM hMle
    have hlen2 := isR_4096 hR2 (Nat.mul_pos hM hp0) hMp
    obtain ⟨rt', k1, k2⟩ := join_loop (F := F) (M := M) (p := p) (f := f) (s := s) (st := st) hrt (fun y hy => ((hR.2 y).mp hy).1) hM hp0 hMp (by omega) (by omega) hinv.1 hinv.2.1 hlen L.length F 0 [] sp (by omega) (by omega) rfl (by simpa using hlen2)
    rw [List.drop_zero, List.nil_append] at k1 k2
    refine ⟨L.flatMap (jG M p st f s), rt', rt, ?_, k2, hR2⟩
    have k1' : l_r_joinRootsModuloPrime_61 F (iZ M) (iZ p) (iZ f) (iZ s) (iZ st) (nI L.length) rt F 0 0 sp = some (nI (L.flatMap (jG M p st f s)).length, rt') := k1
    rw [k1']; rfl
