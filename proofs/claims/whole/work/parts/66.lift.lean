/-! lifting roots from M to M * p, where p goes into M -/
theorem isR_lift {L S : List Nat} {M p : Nat} {d : Int} (hM : 0 < M) (h : isR L M d) (hn : S.Nodup) (hS : ∀ y, y ∈ S ↔ ∃ x ∈ L, ∃ t, t < p ∧ y = x + t * M ∧ cg ((M * p : Nat) : Int) ((y : Int) * y) d) : isR S (M * p) d := by
  refine ⟨hn, fun y => ⟨fun hy => ?_, fun hy => ?_⟩⟩
  · obtain ⟨x, hx, t, ht, rfl, hc⟩ := (hS y).mp hy
    refine ⟨?_, hc⟩
    have hx1 := ((h.2 x).mp hx).1
    have h1 : (t + 1) * M ≤ p * M := Nat.mul_le_mul_right _ ht
    rw [Nat.add_mul, Nat.one_mul, Nat.mul_comm p M] at h1
    omega
  · have hy2 : cg ((M : Int) * (p : Int)) ((y : Int) * y) d := by rw [← Int.natCast_mul]; exact hy.2
    refine (hS y).mpr ⟨y % M, (h.2 _).mpr ⟨Nat.mod_lt _ hM, cg_tr (cg_mul (cg_nmod y M) (cg_nmod y M)) (cg_left hy2)⟩, y / M, Nat.div_lt_of_lt_mul hy.1, ?_, hy.2⟩
    have := Nat.div_add_mod y M
    rw [Nat.mul_comm] at this
    omega
/-- the numbers x + t * M for x in K and t from 0 to n -/
def tl (K : List Nat) (M : Nat) : Nat → List Nat
  | 0 => K
  | t + 1 => tl K M t ++ K.map (fun x => x + (t + 1) * M)
theorem tl_mem {K : List Nat} {M : Nat} : ∀ {n y : Nat}, y ∈ tl K M n ↔ ∃ x ∈ K, ∃ t, t ≤ n ∧ y = x + t * M
  | 0, y => by
    show y ∈ K ↔ _
    constructor
    · intro h; exact ⟨y, h, 0, Nat.le_refl 0, by omega⟩
    · rintro ⟨x, hx, t, ht, rfl⟩
      have : t = 0 := by omega
      subst this
      simpa using hx
  | n + 1, y => by
    rw [tl, List.mem_append, tl_mem, List.mem_map]
    constructor
    · rintro (⟨x, hx, t, ht, rfl⟩ | ⟨x, hx, rfl⟩)
      · exact ⟨x, hx, t, by omega, rfl⟩
      · exact ⟨x, hx, n + 1, Nat.le_refl _, rfl⟩
    · rintro ⟨x, hx, t, ht, rfl⟩
      rcases Nat.lt_or_ge t (n + 1) with h | h
      · exact Or.inl ⟨x, hx, t, by omega, rfl⟩
      · have : t = n + 1 := by omega
        subst this
        exact Or.inr ⟨x, hx, rfl⟩
theorem dm_uniq {M x y t u : Nat} (hx : x < M) (hy : y < M) (h : x + t * M = y + u * M) : x = y ∧ t = u := by
  have h1 : (x + t * M) % M = (y + u * M) % M := by rw [h]
  rw [Nat.add_mul_mod_self_right, Nat.add_mul_mod_self_right, Nat.mod_eq_of_lt hx, Nat.mod_eq_of_lt hy] at h1
  subst h1
  have h2 : t * M = u * M := by omega
  exact ⟨rfl, Nat.eq_of_mul_eq_mul_right (by omega) h2⟩
theorem tl_nd {K : List Nat} {M : Nat} (hK : K.Nodup) (hM : ∀ x ∈ K, x < M) : ∀ n, (tl K M n).Nodup
  | 0 => hK
  | n + 1 => by
    rw [tl, List.nodup_append]
    refine ⟨tl_nd hK hM n, ?_, ?_⟩
    · rw [List.Nodup, List.pairwise_map]
      exact List.Pairwise.imp_of_mem (fun {a b} ha hb hab h => hab (dm_uniq (hM a ha) (hM b hb) h).1) hK
    · intro x hx y hy hxy
      obtain ⟨a, ha, t, ht, e1⟩ := tl_mem.mp hx
      obtain ⟨b, hb, e2⟩ := List.mem_map.mp hy
      have := (dm_uniq (t := t) (u := n + 1) (hM a ha) (hM b hb) (by rw [← e1, hxy, e2])).2
      omega
/-- is x still a root modulo M * p? -/
def stays (M p : Nat) (d : Int) (x : Nat) : Bool := decide (((x : Int) * x - d) % ((M * p : Nat) : Int) = 0)
theorem stays_iff {M p : Nat} {d : Int} {x : Nat} : stays M p d x = true ↔ cg ((M * p : Nat) : Int) ((x : Int) * x) d := by
  unfold stays
  rw [decide_eq_true_iff]
  exact ⟨Int.dvd_of_emod_eq_zero, Int.emod_eq_zero_of_dvd⟩
theorem isR_all {L : List Nat} {M p : Nat} {d : Int} (hM : 0 < M) (hp : 0 < p) (hd : p ∣ M) (h : isR L M d) (h2 : ∀ x ∈ L, (p : Int) ∣ 2 * x) : isR (tl (L.filter (stays M p d)) M (p - 1)) (M * p) d := by
  refine isR_lift hM h (tl_nd (List.Pairwise.filter _ h.1) (fun x hx => ((h.2 x).mp (List.mem_filter.mp hx).1).1) _) (fun y => ?_)
  have key : ∀ x ∈ L, ∀ t : Nat, (cg ((M * p : Nat) : Int) ((x : Int) * x) d ↔ cg ((M * p : Nat) : Int) (((x + t * M : Nat) : Int) * ((x + t * M : Nat) : Int)) d) := by
    intro x hx t
    obtain ⟨k, hk⟩ := ((h.2 x).mp hx).2
    have l1 := lift_iff (M := (M : Int)) (p := (p : Int)) (x := (x : Int)) (t := (t : Int)) (d := d) (k := k) (by omega) (Int.ofNat_dvd.mpr hd) hk
    have l0 := lift_iff (M := (M : Int)) (p := (p : Int)) (x := (x : Int)) (t := 0) (d := d) (k := k) (by omega) (Int.ofNat_dvd.mpr hd) hk
    rw [Int.zero_mul, Int.add_zero, Int.mul_zero, Int.add_zero] at l0
    rw [Int.natCast_mul, show ((x + t * M : Nat) : Int) = (x : Int) + t * M by rw [Int.natCast_add, Int.natCast_mul], l0, l1]
    have h3 : (p : Int) ∣ 2 * x * t := Int.dvd_mul_of_dvd_left (h2 x hx)
    exact (Int.dvd_add_left h3).symm
  rw [tl_mem]
  constructor
  · rintro ⟨x, hx, t, ht, rfl⟩
    obtain ⟨h3, h4⟩ := List.mem_filter.mp hx
    exact ⟨x, h3, t, by omega, rfl, (key x h3 t).mp (stays_iff.mp h4)⟩
  · rintro ⟨x, hx, t, ht, rfl, hc⟩
    exact ⟨x, List.mem_filter.mpr ⟨hx, stays_iff.mpr ((key x hx t).mpr hc)⟩, t, by omega, rfl⟩
theorem keep_loop {F M p : Nat} {d : Int} {L : List Nat} {rt0 : Nat → Int32} (hrt : row rt0 L) (hL : ∀ x ∈ L, x < M ∧ cg M ((x : Int) * x) d) (hM : 0 < M) (hp : 0 < p) (hMp : M * p ≤ 4194304) (d0 : 0 ≤ d) (d1 : d < 4194304) (hlen : L.length ≤ 4096) :
    ∀ (k fu i : Nat) (rt : Nat → Int32), k < fu → i + k = L.length → row rt ((L.take i).filter (stays M p d)) → (∀ j, i ≤ j → rt j = rt0 j) →
      ∃ rt', l_r_liftByAll_6 F (iZ d) (iZ M) (iZ p) (nI L.length) fu (nI ((L.take i).filter (stays M p d)).length) (nI i) rt = some (nI (L.filter (stays M p d)).length, rt') ∧ row rt' (L.filter (stays M p d)) := by
  have hMle : M ≤ 4194304 := by
    have : M * 1 ≤ M * p := Nat.mul_le_mul_left _ hp
    omega
  have hple : p ≤ 4194304 := by
    have : 1 * p ≤ M * p := Nat.mul_le_mul_right _ hM
    omega
  intro k
  induction k with
  | zero =>
    intro fu i rt hfu hi hR hj
    obtain ⟨fu, rfl⟩ : ∃ w, fu = w + 1 := ⟨fu - 1, by omega⟩
    rw [List.take_of_length_le (by omega)] at hR ⊢
    refine ⟨rt, ?_, hR⟩
    rw [l_r_liftByAll_6, if_pos (nI_le (by omega) (by omega))]
  | succ k ih =>
    intro fu i rt hfu hi hR hj
    obtain ⟨fu, rfl⟩ : ∃ w, fu = w + 1 := ⟨fu - 1, by omega⟩
    have hiL : i < L.length := by omega
    obtain ⟨x, hx⟩ : ∃ x, L[i]? = some x := ⟨L[i], List.getElem?_eq_getElem hiL⟩
    obtain ⟨hxM, q, hq⟩ := hL x (List.mem_of_getElem? hx)
    have hrti : rt i = nI x := by rw [hj i (Nat.le_refl i)]; exact row_get hrt hx
    have htake : L.take (i + 1) = L.take i ++ [x] := by rw [List.take_add_one, hx]; rfl
    have hkl : ((L.take i).filter (stays M p d)).length ≤ i := Nat.le_trans (List.length_filter_le _ _) (by rw [List.length_take]; omega)
    rw [l_r_liftByAll_6, if_neg (nI_ge hiL (by omega)), if_neg (gixZ (by omega) (by omega)), nI_clamp (by omega), hrti, nI_iZ x, excess_spec (F := F) (k := q) (by omega) (by omega) d0 d1 (by omega) (by omega) (by omega) (by omega) hq]
    show ∃ rt', (if iZ (q % p) = 0 then if (nI i).toInt < 0 ∨ (4096 : Int) ≤ (nI i).toInt then none else if (nI ((L.take i).filter (stays M p d)).length).toInt < 0 ∨ (4096 : Int) ≤ (nI ((L.take i).filter (stays M p d)).length).toInt then none else l_r_liftByAll_6 F (iZ d) (iZ M) (iZ p) (nI L.length) fu (nI ((L.take i).filter (stays M p d)).length + 1) (nI i + 1) (upd rt (nI ((L.take i).filter (stays M p d)).length).toNatClampNeg (iZ x)) else l_r_liftByAll_6 F (iZ d) (iZ M) (iZ p) (nI L.length) fu (nI ((L.take i).filter (stays M p d)).length) (nI i + 1) rt) = _ ∧ _
    rw [nI_1 i, nI_1 ((L.take i).filter (stays M p d)).length, nI_clamp (n := ((L.take i).filter (stays M p d)).length) (by omega)]
    have m0 := Int.emod_nonneg q (show (p : Int) ≠ 0 by omega)
    have m1 := Int.emod_lt_of_pos q (show (0 : Int) < p by omega)
    have hst : stays M p d x = true ↔ q % p = 0 := by
      rw [stays_iff]
      unfold cg
      rw [hq, Int.natCast_mul, Int.mul_dvd_mul_iff_left (by omega)]
      exact ⟨Int.emod_eq_zero_of_dvd, Int.dvd_of_emod_eq_zero⟩
    by_cases c : q % p = 0
    · rw [if_pos (by rw [c]; rfl), if_neg (gixZ (by omega) (by omega)), if_neg (gixZ (by omega) (by omega)), ← nI_iZ]
      have e : (L.take (i + 1)).filter (stays M p d) = (L.take i).filter (stays M p d) ++ [x] := by
        rw [htake, List.filter_append, List.filter_cons_of_pos (hst.mpr c), List.filter_nil]
      have := ih fu (i + 1) (upd rt ((L.take i).filter (stays M p d)).length (nI x)) (by omega) (by omega) (by rw [e]; exact row_push hR x) (fun j h => by rw [pk_un (by omega)]; exact hj j (by omega))
      rw [e, List.length_append] at this
      exact this
    · rw [if_neg (fun h => c ((iZ_eq ⟨by omega, by omega⟩ (by decide)).mp (h.trans (show (0 : Int32) = iZ 0 from rfl))))]
      have e : (L.take (i + 1)).filter (stays M p d) = (L.take i).filter (stays M p d) := by
        rw [htake, List.filter_append, List.filter_cons_of_neg (fun h => c (hst.mp h)), List.filter_nil, List.append_nil]
      have := ih fu (i + 1) rt (by omega) (by omega) (by rw [e]; exact hR) (fun j h => hj j (by omega))
      rw [e] at this
      exact this
theorem all_in {F M t : Nat} {K : List Nat} (hKM : ∀ x ∈ K, x + t * M < 2 ^ 31) (htM : t * M < 2 ^ 31) (hK : K.length ≤ 4096) : ∀ (k fu i : Nat) (S : List Nat) (rt : Nat → Int32), k < fu → i + k = K.length → row rt (K ++ S) → (K ++ S ++ (K.drop i).map (fun x => x + t * M)).length ≤ 4096 →
    ∃ rt', l_r_liftByAll_72 F (nI M) (nI K.length) (nI t) fu (nI i) (nI (K ++ S).length) rt = some (nI (K ++ S ++ (K.drop i).map (fun x => x + t * M)).length, rt') ∧ row rt' (K ++ S ++ (K.drop i).map (fun x => x + t * M)) := by
  intro k
  induction k with
  | zero =>
    intro fu i S rt hfu hi hR hle
    obtain ⟨fu, rfl⟩ : ∃ w, fu = w + 1 := ⟨fu - 1, by omega⟩
    rw [List.drop_eq_nil_of_le (by omega), List.map_nil, List.append_nil]
    refine ⟨rt, ?_, hR⟩
    rw [l_r_liftByAll_72, if_pos (nI_le (by omega) (by omega))]
  | succ k ih =>
    intro fu i S rt hfu hi hR hle
    obtain ⟨fu, rfl⟩ : ∃ w, fu = w + 1 := ⟨fu - 1, by omega⟩
    have hiL : i < K.length := by omega
    obtain ⟨x, hx⟩ : ∃ x, K[i]? = some x := ⟨K[i], List.getElem?_eq_getElem hiL⟩
    have hrti : rt i = nI x := row_get (row_app hR) hx
    have hdrop : K.drop i = x :: K.drop (i + 1) := by
      rw [List.drop_eq_getElem_cons hiL]
      congr 1
      rw [List.getElem?_eq_getElem hiL] at hx
      exact Option.some.inj hx
    rw [hdrop, List.map_cons] at hle ⊢
    rw [l_r_liftByAll_72, if_neg (nI_ge hiL (by omega)), if_neg (gixZ (by omega) (by omega)), nI_clamp (by omega), hrti, pk_mul, nI_add, addRoot_spec (by simp at hle ⊢; omega), nI_1]
    have := ih fu (i + 1) (S ++ [x + t * M]) (upd rt (K ++ S).length (nI (x + t * M))) (by omega) (by omega) (by rw [← List.append_assoc]; exact row_push hR _) (by simp at hle ⊢; omega)
    rw [← List.append_assoc K S, List.append_assoc (K ++ S)] at this
    exact this
theorem all_loop {F M p : Nat} {K : List Nat} (hF : 2 ^ 31 ≤ F) (hKM : ∀ x ∈ K, x < M) (hM : 0 < M) (hMp : M * p ≤ 4194304) (hK : K.length ≤ 4096) (hle : (tl K M (p - 1)).length ≤ 4096) : ∀ (k fu t : Nat) (rt : Nat → Int32), k < fu → t + 1 + k = p → row rt (tl K M t) →
    ∃ rt', l_r_liftByAll_63 F (nI M) (nI p) (nI K.length) fu (nI (t + 1)) (nI (tl K M t).length) rt = some (nI (tl K M (p - 1)).length, rt') ∧ row rt' (tl K M (p - 1)) := by
  have hmono : ∀ j i, i ≤ j → (tl K M i).length ≤ (tl K M j).length := by
    intro j
    induction j with
    | zero => intro i hi; rw [show i = 0 by omega]; exact Nat.le_refl _
    | succ j ih =>
      intro i hi
      rcases Nat.lt_or_ge i (j + 1) with h | h
      · have := ih i (by omega)
        rw [tl, List.length_append]; omega
      · rw [show i = j + 1 by omega]; exact Nat.le_refl _
  have hpre : ∀ n, ∃ S, tl K M n = K ++ S := by
    intro n
    induction n with
    | zero => exact ⟨[], by simp [tl]⟩
    | succ n ih =>
      obtain ⟨S, hS⟩ := ih
      exact ⟨S ++ K.map (fun x => x + (n + 1) * M), by rw [tl, hS, List.append_assoc]⟩
  intro k
  induction k with
  | zero =>
    intro fu t rt hfu ht hR
    obtain ⟨fu, rfl⟩ : ∃ w, fu = w + 1 := ⟨fu - 1, by omega⟩
    have hple : p ≤ 4194304 := by
      have : 1 * p ≤ M * p := Nat.mul_le_mul_right _ hM
      omega
    have e : p - 1 = t := by omega
    rw [e]
    refine ⟨rt, ?_, hR⟩
    rw [l_r_liftByAll_63, if_pos (nI_le (by omega) (by omega))]
  | succ k ih =>
    intro fu t rt hfu ht hR
    obtain ⟨fu, rfl⟩ : ∃ w, fu = w + 1 := ⟨fu - 1, by omega⟩
    have hple : p ≤ 4194304 := by
      have : 1 * p ≤ M * p := Nat.mul_le_mul_right _ hM
      omega
    have hb : (t + 1) * M + M ≤ 4194304 := by
      have h1 : (t + 2) * M ≤ p * M := Nat.mul_le_mul_right _ (by omega)
      rw [Nat.mul_comm p M] at h1
      have h2 : (t + 2) * M = (t + 1) * M + M := by rw [show t + 2 = t + 1 + 1 by omega, Nat.add_mul, Nat.one_mul]
      omega
    obtain ⟨S, hS⟩ := hpre t
    have hR' : row rt (K ++ S) := by rw [← hS]; exact hR
    have e1 : K ++ S ++ (K.drop 0).map (fun x => x + (t + 1) * M) = tl K M (t + 1) := by rw [List.drop_zero, tl, hS]
    obtain ⟨rt1, k1, k2⟩ := all_in (F := F) (M := M) (t := t + 1) (K := K) (fun x hx => by have := hKM x hx; omega) (by omega) hK K.length F 0 S rt (by omega) (by omega) hR' (by rw [e1]; exact Nat.le_trans (hmono (p - 1) (t + 1) (by omega)) hle)
    rw [e1] at k1 k2
    rw [← hS] at k1
    rw [l_r_liftByAll_63, if_neg (nI_ge (by omega) (by omega)), show (0 : Int32) = nI 0 from rfl, k1, nI_1]
    exact ih fu (t + 1) rt1 (by omega) (by omega) k2
theorem all_spec {F M p : Nat} {d : Int} {L : List Nat} {rt : Nat → Int32} (hF : 2 ^ 31 ≤ F) (hrt : row rt L) (hR : isR L M d) (hM : 0 < M) (hp : 0 < p) (hMp : M * p ≤ 4194304) (d0 : 0 ≤ d) (d1 : d < 4194304) (hd : p ∣ M) (h2 : ∀ x ∈ L, (p : Int) ∣ 2 * x) :
    ∃ (L' : List Nat) (rt' : Nat → Int32), f_r_liftByAll F (nI L.length) rt (iZ d) (iZ M) (iZ p) = some (nI L'.length, rt') ∧ row rt' L' ∧ isR L' (M * p) d := by
  have hMle : M ≤ 4194304 := by
    have : M * 1 ≤ M * p := Nat.mul_le_mul_left _ hp
    omega
  have hlen := isR_4096 hR hM hMle
  have hR2 := isR_all hM hp hd hR h2
  have hlen2 := isR_4096 hR2 (Nat.mul_pos hM hp) hMp
  obtain ⟨rt1, k1, k2⟩ := keep_loop (F := F) (M := M) (p := p) hrt (fun x hx => (hR.2 x).mp hx) hM hp hMp d0 d1 hlen L.length F 0 rt (by omega) (by omega) rfl (fun _ _ => rfl)
  have hK : (L.filter (stays M p d)).length ≤ 4096 := Nat.le_trans (List.length_filter_le _ _) hlen
  obtain ⟨rt2, k3, k4⟩ := all_loop (F := F) (M := M) (p := p) hF (fun x hx => ((hR.2 x).mp (List.mem_filter.mp hx).1).1) hM hMp hK hlen2 (p - 1) F 0 rt1 (by
    have : 1 * p ≤ M * p := Nat.mul_le_mul_right _ hM
    omega) (by omega) k2
  refine ⟨_, rt2, ?_, k4, hR2⟩
  unfold f_r_liftByAll
  have k1' : l_r_liftByAll_6 F (iZ d) (iZ M) (iZ p) (nI L.length) F 0 0 rt = some (nI (L.filter (stays M p d)).length, rt1) := k1
  have k3' : l_r_liftByAll_63 F (iZ M) (iZ p) (nI (L.filter (stays M p d)).length) F 1 (nI (L.filter (stays M p d)).length) rt1 = some (nI (tl (L.filter (stays M p d)) M (p - 1)).length, rt2) := by
    rw [← nI_iZ, ← nI_iZ]; exact k3
  rw [k1']
  show (b2 (l_r_liftByAll_63 F (iZ M) (iZ p) (nI (L.filter (stays M p d)).length) F 1 (nI (L.filter (stays M p d)).length) rt1) fun rc_2 rt_2 => some (rc_2, rt_2)) = _
  rw [k3']; rfl
