/-! one turn of the law, in numbers: class and reference go on alike -/
def rf_I (nu pk dc rc : Int32) (pr ex dv rt : Nat → Int32) (nn dn pn fo : Int32) (da pa ea ro : Nat → Int32) : Prop :=
  ∃ (t : List (Nat × Nat)) (R : List Nat), fok t ∧ fac t ≤ 4194304 ∧ R.length ≤ 4096 ∧ (nu = nI (fac t) ∧ pk = nI t.length ∧ dc = nI (dvl (fac t)).length ∧ rc = nI R.length ∧ row pr (t.map (fun x => x.1)) ∧ row ex (t.map (fun x => x.2)) ∧ row dv (dvl (fac t)) ∧ row rt R) ∧
    (nn = nI (fac t) ∧ dn = nI (dvl (fac t)).length ∧ pn = nI t.length ∧ fo = nI R.length ∧ row da (dvl (fac t)) ∧ row pa (t.map (fun x => x.1)) ∧ row ea (t.map (fun x => x.2)) ∧ row ro R)
theorem b1s {α γ : Type} (a : α) (f : α → Option γ) : b1 (some a) f = f a := rfl
theorem get_same {F : Nat} {c1 c2 : Int} {f h : Nat → Int32} {L : List Nat} (hf : row f L) (hg : row h L) (h1 : (L.length : Int) ≤ c1) (h2 : (L.length : Int) ≤ c2) (hl : L.length ≤ 4096) (w : Int32) :
    ((if w < 0 then some none else if w < nI L.length then sm (if w.toInt < 0 ∨ c1 ≤ w.toInt then none else some (f w.toNatClampNeg)) else some none) = some none ∧ (b1 (f_m_in F (Int32.toInt64 w) 0 (Int32.toInt64 (nI L.length - 1))) fun r1 => if r1 = 0 then some ((0 : Int32), (1 : Int32)) else if w.toInt < 0 ∨ c2 ≤ w.toInt then none else some ((h w.toNatClampNeg), 0)) = some (0, 1)) ∨
    ∃ r : Int32, (if w < 0 then some none else if w < nI L.length then sm (if w.toInt < 0 ∨ c1 ≤ w.toInt then none else some (f w.toNatClampNeg)) else some none) = some (some r) ∧ (b1 (f_m_in F (Int32.toInt64 w) 0 (Int32.toInt64 (nI L.length - 1))) fun r1 => if r1 = 0 then some ((0 : Int32), (1 : Int32)) else if w.toInt < 0 ∨ c2 ≤ w.toInt then none else some ((h w.toNatClampNeg), 0)) = some (r, 0) := by
  obtain ⟨z, hz, rfl⟩ := iZ_ex w
  have hL : in32 ((L.length : Nat) : Int) := ⟨by omega, by omega⟩
  have e0 : (iZ z < 0) ↔ z < 0 := iZ_lt (b := 0) hz (by decide)
  have e1 : (iZ z < nI L.length) ↔ z < (L.length : Int) := by rw [nI_iZ]; exact iZ_lt hz hL
  have e2 : nI L.length - 1 = iZ ((L.length : Int) - 1) := by rw [nI_iZ, show (1 : Int32) = iZ 1 from rfl, iZ_sub]
  rw [e2, iZ_l hz, iZ_l ⟨by omega, by omega⟩, show (0 : Int64) = lZ 0 from rfl, min_in (in32_64 hz) (by decide) ⟨by omega, by omega⟩]
  by_cases c : 0 ≤ z ∧ z ≤ (L.length : Int) - 1
  · right
    obtain ⟨n, rfl⟩ : ∃ n : Nat, z = (n : Int) := ⟨z.toNat, by omega⟩
    have hn : n < L.length := by omega
    have hv := List.getElem?_eq_getElem hn
    rw [if_neg (fun q => by have := e0.mp q; omega), if_pos (e1.mpr (by omega)), if_pos c]
    rw [← nI_iZ, if_neg (gixZ (by omega) (by omega)), nI_clamp (by omega), row_get hf hv]
    refine ⟨nI L[n], rfl, ?_⟩
    rw [b1s, if_neg (by decide), if_neg (gixZ (by omega) (by omega)), row_get hg hv]
  · left
    rw [if_neg c]
    constructor
    · by_cases d : z < 0
      · rw [if_pos (e0.mpr d)]
      · rw [if_neg (fun q => d (e0.mp q)), if_neg (fun q => by have := e1.mp q; omega)]
    · rw [b1s, if_pos rfl]
/-- what a call that may throw leaves: code and answer alike -/
theorem step_r {f : Option (Option Int32)} {fm : Option (Int32 × Int32)} (o : Nat → Int64) (h : (f = some none ∧ fm = some (0, 1)) ∨ ∃ r : Int32, f = some (some r) ∧ fm = some (r, 0)) :
    ∃ (k b co : Int32) (o' : Nat → Int64), ((f = some none ∧ k = 1 ∧ o = o') ∨ (∃ rv : Int32, f = some (some rv) ∧ k = 0 ∧ o' = vp_updL o (0 : Int32).toNatClampNeg (Int32.toInt64 rv))) ∧ fm = some (b, co) ∧ co = k ∧ (k = 0 → o' (0 : Int32).toNatClampNeg = Int32.toInt64 b) := by
  rcases h with ⟨h1, h2⟩ | ⟨r, h1, h2⟩
  · exact ⟨1, 0, 1, o, Or.inl ⟨h1, rfl, rfl⟩, h2, rfl, fun q => absurd q (by decide)⟩
  · refine ⟨0, r, 0, _, Or.inr ⟨r, h1, rfl, rfl⟩, h2, rfl, fun _ => ?_⟩
    simp [vp_updL]
section STEPS
variable {nu pk dc rc : Int32} {pr ex dv rt : Nat → Int32} {nn dn pn fo : Int32} {da pa ea ro : Nat → Int32}
theorem step_prime {F : Nat} (h : rf_I nu pk dc rc pr ex dv rt nn dn pn fo da pa ea ro) (co w : Int32) : (f_r_prime F pk pr w = some none ∧ f_m_prime F co pn pa w = some (0, 1)) ∨ ∃ r : Int32, f_r_prime F pk pr w = some (some r) ∧ f_m_prime F co pn pa w = some (r, 0) := by
  obtain ⟨t, R, ht, hN, hR, ⟨h1, rfl, h3, h4, h5, h6, h7, h8⟩, ⟨k1, k2, rfl, k4, k5, k6, k7, k8⟩⟩ := h
  have := len_7 ht hN
  have g := get_same (F := F) (c1 := 7) (c2 := 8) h5 k6 (by rw [List.length_map]; omega) (by rw [List.length_map]; omega) (by rw [List.length_map]; omega) w
  rw [List.length_map] at g
  exact g
theorem step_exponent {F : Nat} (h : rf_I nu pk dc rc pr ex dv rt nn dn pn fo da pa ea ro) (co w : Int32) : (f_r_exponent F pk ex w = some none ∧ f_m_exponent F co pn ea w = some (0, 1)) ∨ ∃ r : Int32, f_r_exponent F pk ex w = some (some r) ∧ f_m_exponent F co pn ea w = some (r, 0) := by
  obtain ⟨t, R, ht, hN, hR, ⟨h1, rfl, h3, h4, h5, h6, h7, h8⟩, ⟨k1, k2, rfl, k4, k5, k6, k7, k8⟩⟩ := h
  have := len_7 ht hN
  have g := get_same (F := F) (c1 := 7) (c2 := 8) h6 k7 (by rw [List.length_map]; omega) (by rw [List.length_map]; omega) (by rw [List.length_map]; omega) w
  rw [List.length_map] at g
  exact g
theorem step_divisor {F : Nat} (h : rf_I nu pk dc rc pr ex dv rt nn dn pn fo da pa ea ro) (co w : Int32) : (f_r_divisor F dc dv w = some none ∧ f_m_divisor F co dn da w = some (0, 1)) ∨ ∃ r : Int32, f_r_divisor F dc dv w = some (some r) ∧ f_m_divisor F co dn da w = some (r, 0) := by
  obtain ⟨t, R, ht, hN, hR, ⟨h1, h2, rfl, h4, h5, h6, h7, h8⟩, ⟨k1, rfl, k3, k4, k5, k6, k7, k8⟩⟩ := h
  have := dvl_360 ht hN
  exact get_same (F := F) (c1 := 360) (c2 := 400) h7 k5 (by omega) (by omega) (by omega) w
theorem step_root {F : Nat} (h : rf_I nu pk dc rc pr ex dv rt nn dn pn fo da pa ea ro) (co w : Int32) : (f_r_root F rc rt w = some none ∧ f_m_root F co fo ro w = some (0, 1)) ∨ ∃ r : Int32, f_r_root F rc rt w = some (some r) ∧ f_m_root F co fo ro w = some (r, 0) := by
  obtain ⟨t, R, ht, hN, hR, ⟨h1, h2, h3, rfl, h5, h6, h7, h8⟩, ⟨k1, k2, k3, rfl, k5, k6, k7, k8⟩⟩ := h
  exact get_same (F := F) (c1 := 4096) (c2 := 4096) h8 k8 (by omega) (by omega) (by omega) w
theorem step_kronecker {F : Nat} (hF : 2 ^ 31 ≤ F) (co : Int32) (a : Int64) (w : Int32) : (f_r_kronecker F a w = some none ∧ f_m_kronecker F co a w = some (0, 1)) ∨ ∃ r : Int32, f_r_kronecker F a w = some (some r) ∧ f_m_kronecker F co a w = some (r, 0) := by
  obtain ⟨z, hz, rfl⟩ := iZ_ex w
  obtain ⟨y, hy, rfl⟩ := lZ_ex a
  exact kron_same hF hy hz co
theorem step_power {F : Nat} (hF : 2 ^ 31 ≤ F) (h : rf_I nu pk dc rc pr ex dv rt nn dn pn fo da pa ea ro) (co : Int32) (a b : Int64) : (f_r_power F nu a b = some none ∧ f_m_power F co nn a b = some (0, 1)) ∨ ∃ r : Int32, f_r_power F nu a b = some (some r) ∧ f_m_power F co nn a b = some (r, 0) := by
  obtain ⟨t, R, ht, hN, hR, ⟨rfl, h2, h3, h4, h5, h6, h7, h8⟩, ⟨rfl, k2, k3, k4, k5, k6, k7, k8⟩⟩ := h
  obtain ⟨z, hz, rfl⟩ := lZ_ex b
  obtain ⟨y, hy, rfl⟩ := lZ_ex a
  exact power_same hF (fac_pos ht) hN hy hz co
theorem step_inverse {F : Nat} (hF : 2 ^ 31 ≤ F) (h : rf_I nu pk dc rc pr ex dv rt nn dn pn fo da pa ea ro) (co : Int32) (a : Int64) : (f_r_inverse F nu a = some none ∧ f_m_inverse F co nn a = some (0, 1)) ∨ ∃ r : Int32, f_r_inverse F nu a = some (some r) ∧ f_m_inverse F co nn a = some (r, 0) := by
  obtain ⟨t, R, ht, hN, hR, ⟨rfl, h2, h3, h4, h5, h6, h7, h8⟩, ⟨rfl, k2, k3, k4, k5, k6, k7, k8⟩⟩ := h
  obtain ⟨y, hy, rfl⟩ := lZ_ex a
  exact inverse_same hF (fac_pos ht) hN hy co
theorem step_count {F : Nat} (hF : 2 ^ 31 ≤ F) (h : rf_I nu pk dc rc pr ex dv rt nn dn pn fo da pa ea ro) (co w : Int32) : ∃ r : Int32, f_r_count F nu pk dc rc pr ex w = some r ∧ f_m_count F co nn dn pn fo da pa w = some (r, 0) := by
  obtain ⟨t, R, ht, hN, hR, ⟨rfl, rfl, rfl, rfl, h5, h6, h7, h8⟩, ⟨rfl, rfl, rfl, rfl, k5, k6, k7, k8⟩⟩ := h
  exact count_same hF ht hN h5 h6 k5 k6 co w
theorem step_roots {F : Nat} (hF : 2 ^ 31 ≤ F) (h : rf_I nu pk dc rc pr ex dv rt nn dn pn fo da pa ea ro) (sp : Nat → Int32) (co : Int32) (a : Int64) : ∃ (r : Int32) (rt' sp' ro' : Nat → Int32), f_r_roots F nu pk rc pr ex rt sp a = some (r, r, rt', sp') ∧ f_m_roots F co nn fo ro a = some (r, 0, r, ro') ∧ rf_I nu pk dc r pr ex dv rt' nn dn pn r da pa ea ro' := by
  obtain ⟨t, R, ht, hN, hR, ⟨rfl, rfl, rfl, rfl, h5, h6, h7, h8⟩, ⟨rfl, rfl, rfl, rfl, k5, k6, k7, k8⟩⟩ := h
  obtain ⟨y, hy, rfl⟩ := lZ_ex a
  obtain ⟨rt', sp', a1, a2⟩ := roots_spec (rc0 := nI R.length) (rt := rt) (sp := sp) hF ht hN h5 h6 hy
  obtain ⟨ro', b1, b2⟩ := mroots_spec hF (fac_pos ht) hN hy co (nI R.length) ro
  have hl : (rtl y (fac t)).length ≤ 4096 := rc_4096 y (fac_pos ht) hN
  exact ⟨_, rt', sp', ro', a1, b1, t, rtl y (fac t), ht, hN, hl, ⟨rfl, rfl, rfl, rfl, h5, h6, h7, a2⟩, ⟨rfl, rfl, rfl, rfl, k5, k6, k7, b2⟩⟩
theorem step_take {F : Nat} (hF : 2 ^ 31 ≤ F) (h : rf_I nu pk dc rc pr ex dv rt nn dn pn fo da pa ea ro) (sp : Nat → Int32) (o : Nat → Int64) (co w : Int32) :
    ∃ (nu' pk' dc' rc' : Int32) (pr' ex' dv' sp' : Nat → Int32) (o' : Nat → Int64) (k b co' nn' dn' pn' fo' : Int32) (da' pa' ea' : Nat → Int32),
      ((f_r_take F nu pk dc rc pr ex dv sp w = some none ∧ k = 1 ∧ nu = nu' ∧ pk = pk' ∧ dc = dc' ∧ rc = rc' ∧ pr = pr' ∧ ex = ex' ∧ dv = dv' ∧ sp = sp' ∧ o = o') ∨ (∃ rv : Int32, f_r_take F nu pk dc rc pr ex dv sp w = some (some (rv, nu', pk', dc', rc', pr', ex', dv', sp')) ∧ k = 0 ∧ o' = vp_updL o (0 : Int32).toNatClampNeg (Int32.toInt64 rv))) ∧
      f_m_take F co nn dn pn fo da pa ea w = some (b, co', nn', dn', pn', fo', da', pa', ea') ∧ co' = k ∧ (k = 0 → o' (0 : Int32).toNatClampNeg = Int32.toInt64 b) ∧ rf_I nu' pk' dc' rc' pr' ex' dv' rt nn' dn' pn' fo' da' pa' ea' ro := by
  obtain ⟨z, hz, rfl⟩ := iZ_ex w
  by_cases c : 1 ≤ z ∧ z ≤ 4194304
  · obtain ⟨n, rfl⟩ : ∃ n : Nat, z = (n : Int) := ⟨z.toNat, by omega⟩
    rw [← nI_iZ]
    obtain ⟨t, pr', ex', dv', sp', a1, a2, a3, a4, a5, a6, a7⟩ := take_spec (F := F) (N := n) hF (by omega) (by omega) nu pk dc rc pr ex dv sp
    obtain ⟨da', pa', ea', b1, b2, b3, b4⟩ := mtake_spec (F := F) hF a2 (by omega) co nn dn pn fo da pa ea
    rw [a3] at b1 b2
    refine ⟨_, _, _, _, _, _, _, _, _, 0, _, _, _, _, _, _, _, _, _, Or.inr ⟨_, a1, rfl, rfl⟩, b1, rfl, fun _ => by simp [vp_updL], t, [], a2, by omega, by simp, ⟨by rw [a3], rfl, by rw [a3], rfl, a4, a5, by rw [a3]; exact a6, rfl⟩, ⟨by rw [a3], by rw [a3], rfl, rfl, by rw [a3]; exact b2, b3, b4, rfl⟩⟩
  · have e1 : f_r_take F nu pk dc rc pr ex dv sp (iZ z) = some none := by
      unfold f_r_take
      have d1 : (iZ z < 1) ↔ z < 1 := iZ_lt (b := 1) hz (by decide)
      have d2 : (iZ z ≤ 4194304) ↔ z ≤ 4194304 := iZ_le (b := 4194304) hz (by decide)
      by_cases d : z < 1
      · rw [if_pos (d1.mpr d)]
      · rw [if_neg (fun q => d (d1.mp q)), if_neg (fun q => by have := d2.mp q; omega)]
    have e2 : f_m_take F co nn dn pn fo da pa ea (iZ z) = some (0, 1, nn, dn, pn, fo, da, pa, ea) := by
      unfold f_m_take
      rw [iZ_l hz, show (1 : Int64) = lZ 1 from rfl, show (4194304 : Int64) = lZ 4194304 from rfl, min_in (in32_64 hz) (by decide) (by decide), if_neg c]
      rw [b1s, if_pos rfl]
    exact ⟨_, _, _, _, _, _, _, _, _, 1, _, _, _, _, _, _, _, _, _, Or.inl ⟨e1, rfl, rfl, rfl, rfl, rfl, rfl, rfl, rfl, rfl, rfl⟩, e2, rfl, fun q => absurd q (by decide), h⟩
end STEPS
theorem step_first (rt ro : Nat → Int32) (pr ex pa ea : Nat → Int32) : rf_I 1 0 1 0 pr ex (upd (fun _ => 0) (0 : Int32).toNatClampNeg 1) rt 1 1 0 0 (upd (fun _ => 0) (0 : Int32).toNatClampNeg 1) pa ea ro :=
  ⟨[], [], ⟨fun _ h => absurd h List.not_mem_nil, List.Pairwise.nil⟩, by decide, by decide, ⟨rfl, rfl, rfl, rfl, rfl, rfl, rfl, rfl⟩, ⟨rfl, rfl, rfl, rfl, rfl, rfl, rfl, rfl⟩⟩
