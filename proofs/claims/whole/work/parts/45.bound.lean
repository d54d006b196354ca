/-! how many roots there are -/
def rtl (d : Int) (M : Nat) : List Nat := (List.range M).filter (fun x => decide (((x : Int) * x - d) % (M : Int) = 0))
theorem rtl_mem {d : Int} {M x : Nat} : x ∈ rtl d M ↔ x < M ∧ cg M ((x : Int) * x) d := by
  unfold rtl
  rw [List.mem_filter, List.mem_range, decide_eq_true_iff]
  exact ⟨fun h => ⟨h.1, Int.dvd_of_emod_eq_zero h.2⟩, fun h => ⟨h.1, Int.emod_eq_zero_of_dvd h.2⟩⟩
theorem rtl_nd (d : Int) (M : Nat) : (rtl d M).Nodup := List.Pairwise.filter _ List.nodup_range
def rc (d : Int) (M : Nat) : Nat := (rtl d M).length
def prs (l k : List Nat) : List (Nat × Nat) := l.flatMap (fun a => k.map (fun b => (a, b)))
theorem prs_len (k : List Nat) : ∀ l : List Nat, (prs l k).length = l.length * k.length
  | [] => by simp [prs]
  | a :: l => by
    have ih := prs_len k l
    unfold prs at ih ⊢
    rw [List.flatMap_cons, List.length_append, ih, List.length_map, List.length_cons, Nat.add_mul, Nat.one_mul, Nat.add_comm]
theorem prs_mem {l k : List Nat} {a b : Nat} (ha : a ∈ l) (hb : b ∈ k) : (a, b) ∈ prs l k :=
  List.mem_flatMap.mpr ⟨a, ha, List.mem_map.mpr ⟨b, hb, rfl⟩⟩
/-- a list no longer than another by a map that keeps things apart -/
theorem len_le_of_inj {α β : Type} {l : List α} {k : List β} (f : α → β) (h1 : l.Nodup) (h2 : ∀ x ∈ l, f x ∈ k) (h3 : ∀ x ∈ l, ∀ y ∈ l, f x = f y → x = y) : l.length ≤ k.length := by
  have : (l.map f).length ≤ k.length := by
    refine List.Nodup.length_le_of_subset ?_ (fun y hy => ?_)
    · rw [List.Nodup, List.pairwise_map]
      exact List.Pairwise.imp_of_mem (fun {a b} ha hb hab h => hab (h3 a ha b hb h)) h1
    · obtain ⟨x, hx, rfl⟩ := List.mem_map.mp hy
      exact h2 x hx
  rwa [List.length_map] at this
theorem cg_nmod (x M : Nat) : cg M ((x % M : Nat) : Int) x := by rw [Int.natCast_emod]; exact cg_emod _ _
theorem nat_of_cg {M x y : Nat} (hx : x < M) (hy : y < M) (h : cg M (x : Int) y) : x = y := by
  have := cg_eq h (by omega) (by omega)
  omega
theorem rc_mul {d : Int} {A B : Nat} (hA : 0 < A) (hB : 0 < B) (hc : Nat.Coprime A B) : rc d (A * B) ≤ rc d A * rc d B := by
  unfold rc
  rw [← prs_len]
  refine len_le_of_inj (fun x => (x % A, x % B)) (rtl_nd _ _) (fun x hx => ?_) (fun x hx y hy h => ?_)
  · rw [rtl_mem] at hx
    have h1 : cg A ((x : Int) * x) d := by have := hx.2; rw [Int.natCast_mul] at this; exact cg_left this
    have h2 : cg B ((x : Int) * x) d := by have := hx.2; rw [Int.natCast_mul] at this; exact cg_right this
    exact prs_mem (rtl_mem.mpr ⟨Nat.mod_lt _ hA, cg_tr (cg_mul (cg_nmod x A) (cg_nmod x A)) h1⟩) (rtl_mem.mpr ⟨Nat.mod_lt _ hB, cg_tr (cg_mul (cg_nmod x B) (cg_nmod x B)) h2⟩)
  · rw [rtl_mem] at hx hy
    rw [Prod.mk.injEq] at h
    refine nat_of_cg hx.1 hy.1 (cg_join hc ?_ ?_)
    · refine cg_tr (cg_sy (cg_nmod x A)) ?_
      rw [h.1]; exact cg_nmod y A
    · refine cg_tr (cg_sy (cg_nmod x B)) ?_
      rw [h.2]; exact cg_nmod y B
/-- d shares the prime p, and p * p goes into the modulus -/
theorem rc_up {p e : Nat} (hp : pm p) {d : Int} (hd : (p : Int) ∣ d) (hpos : 0 < rc d (p ^ (e + 2))) : ∃ d' : Int, rc d (p ^ (e + 2)) ≤ rc d' (p ^ e) * p := by
  have hp0 : 0 < p := by have := hp.1; omega
  have hpe : 0 < p ^ e := Nat.pow_pos hp0
  have hM : p ^ (e + 2) = p * p * p ^ e := by rw [Nat.pow_add, Nat.pow_two, Nat.mul_comm]
  have hdiv : ∀ x ∈ rtl d (p ^ (e + 2)), p ∣ x := by
    intro x hx
    rw [rtl_mem, hM, Int.natCast_mul, Int.natCast_mul] at hx
    have h1 : cg p ((x : Int) * x) d := cg_left (cg_left hx.2)
    have h2 : (p : Int) ∣ (x : Int) * x := cg_0.mp (cg_tr h1 (cg_0.mpr hd))
    rcases pm_mulZ hp h2 with h | h <;> exact Int.ofNat_dvd.mp h
  obtain ⟨x0, hx0⟩ := List.exists_mem_of_length_pos hpos
  obtain ⟨y0, rfl⟩ := hdiv x0 hx0
  have h3 : ((p * p : Nat) : Int) ∣ d := by
    rw [rtl_mem, hM, Int.natCast_mul] at hx0
    have h1 := cg_left hx0.2
    have h2 : ((p * p : Nat) : Int) ∣ ((p * y0 : Nat) : Int) * ((p * y0 : Nat) : Int) := ⟨(y0 : Int) * y0, by rw [Int.natCast_mul, Int.natCast_mul]; grind⟩
    exact cg_0.mp (cg_tr (cg_sy h1) (cg_0.mpr h2))
  obtain ⟨d', rfl⟩ := h3
  refine ⟨d', ?_⟩
  have hlen := prs_len (List.range p) (rtl d' (p ^ e))
  rw [List.length_range] at hlen
  unfold rc
  rw [← hlen]
  refine len_le_of_inj (fun x => (x / p % p ^ e, x / p / p ^ e)) (rtl_nd _ _) (fun x hx => ?_) (fun x hx y hy h => ?_)
  · obtain ⟨y, rfl⟩ := hdiv x hx
    rw [rtl_mem] at hx
    rw [Nat.mul_div_cancel_left _ hp0]
    refine prs_mem (rtl_mem.mpr ⟨Nat.mod_lt _ hpe, ?_⟩) (List.mem_range.mpr ?_)
    · refine cg_tr (cg_mul (cg_nmod y _) (cg_nmod y _)) ?_
      have h1 := hx.2
      rw [hM] at h1
      unfold cg at h1 ⊢
      rw [Int.natCast_mul (p * p) (p ^ e), show ((p * y : Nat) : Int) * ((p * y : Nat) : Int) - ((p * p : Nat) : Int) * d' = ((p * p : Nat) : Int) * ((y : Int) * y - d') by rw [Int.natCast_mul, Int.natCast_mul]; grind] at h1
      exact (Int.mul_dvd_mul_iff_left (by have := Nat.mul_pos hp0 hp0; omega)).mp h1
    · refine Nat.div_lt_of_lt_mul ?_
      have h1 := hx.1
      rw [hM, Nat.mul_assoc] at h1
      have := Nat.lt_of_mul_lt_mul_left h1
      rwa [Nat.mul_comm] at this
  · rw [Prod.mk.injEq] at h
    obtain ⟨a, rfl⟩ := hdiv x hx
    obtain ⟨b, rfl⟩ := hdiv y hy
    rw [Nat.mul_div_cancel_left _ hp0, Nat.mul_div_cancel_left _ hp0] at h
    have e1 := Nat.div_add_mod a (p ^ e)
    have e2 := Nat.div_add_mod b (p ^ e)
    rw [h.1, h.2] at e1
    rw [e1.symm.trans e2]
/-- an odd prime that does not go into d: two roots at most -/
theorem rc_two {p e : Nat} (hp : pm p) (ho : p % 2 = 1) {d : Int} (hd : ¬ (p : Int) ∣ d) : rc d (p ^ (e + 1)) ≤ 2 := by
  by_cases hpos : 0 < rc d (p ^ (e + 1))
  · obtain ⟨x, hx⟩ := List.exists_mem_of_length_pos hpos
    rw [rtl_mem] at hx
    have hsub : ∀ y ∈ rtl d (p ^ (e + 1)), y ∈ [x, p ^ (e + 1) - x] := by
      intro y hy
      rw [rtl_mem] at hy
      have h1 : cg ((p ^ (e + 1) : Nat) : Int) ((y : Int) * y) ((x : Int) * x) := cg_tr hy.2 (cg_sy hx.2)
      have hpx : ¬ (p : Int) ∣ x := by
        intro h
        have h2 := hx.2
        rw [Nat.pow_succ, Int.natCast_mul] at h2
        exact hd (cg_0.mp (cg_tr (cg_sy (cg_right h2)) (cg_0.mpr (Int.dvd_mul_of_dvd_left h))))
      have hmul : (p ^ (e + 1)) ∣ ((y : Int) - x).natAbs * ((y : Int) + x).natAbs := by
        rw [← Int.natAbs_mul, ← Int.ofNat_dvd_left, show ((y : Int) - x) * ((y : Int) + x) = (y : Int) * y - x * x by grind]
        exact h1
      by_cases h3 : p ∣ ((y : Int) - x).natAbs
      · have h4 : ¬ p ∣ ((y : Int) + x).natAbs := by
          intro h4
          have h5 := Int.dvd_sub (Int.ofNat_dvd_left.mpr h4) (Int.ofNat_dvd_left.mpr h3)
          rw [show ((y : Int) + x) - (y - x) = 2 * x by omega] at h5
          rcases pm_mulZ hp h5 with h6 | h6
          · exact two_nd hp ho h6
          · exact hpx h6
        have h5 := ((pm_cop hp h4).pow_left (e + 1)).dvd_of_dvd_mul_right hmul
        have h6 : cg ((p ^ (e + 1) : Nat) : Int) y x := Int.ofNat_dvd_left.mpr h5
        have := nat_of_cg hy.1 hx.1 h6
        rw [this]; exact List.mem_cons_self
      · have h5 := ((pm_cop hp h3).pow_left (e + 1)).dvd_of_dvd_mul_left hmul
        have h6 : ((p ^ (e + 1) : Nat) : Int) ∣ (y : Int) + x := Int.ofNat_dvd_left.mpr h5
        obtain ⟨k, hk⟩ := h6
        have hx0 : 0 < x := by
          rcases Nat.eq_zero_or_pos x with h | h
          · exact absurd (by rw [h]; exact Int.dvd_zero _) hpx
          · exact h
        have : (y : Int) = ((p ^ (e + 1) : Nat) : Int) - x := by
          refine cg_eq (n := ((p ^ (e + 1) : Nat) : Int)) ⟨k - 1, by rw [Int.mul_sub]; omega⟩ (by omega) (by omega)
        have h7 : y = p ^ (e + 1) - x := by omega
        rw [h7]; exact List.mem_cons_of_mem _ List.mem_cons_self
    exact List.Nodup.length_le_of_subset (rtl_nd _ _) hsub
  · omega
theorem rc_one (d : Int) : rc d 1 = 1 := by
  unfold rc rtl
  simp [List.range_succ, Int.emod_one]
theorem rc_p {p : Nat} (hp : pm p) {d : Int} (hd : (p : Int) ∣ d) : rc d p ≤ 1 := by
  refine List.Nodup.length_le_of_subset (l₂ := [0]) (rtl_nd _ _) (fun x hx => ?_)
  rw [rtl_mem] at hx
  have h2 : (p : Int) ∣ (x : Int) * x := cg_0.mp (cg_tr hx.2 (cg_0.mpr hd))
  have h3 : p ∣ x := by rcases pm_mulZ hp h2 with h | h <;> exact Int.ofNat_dvd.mp h
  have : x = 0 := Nat.eq_zero_of_dvd_of_lt h3 hx.1
  rw [this]; exact List.mem_cons_self
/-- odd primes: the square of the number of roots of a power of p, against that power -/
theorem rc_odd {p : Nat} (hp : pm p) (ho : p % 2 = 1) {u v : Nat} (huv : u ≤ v) (h4 : 4 * u ≤ v * p) : ∀ (e : Nat) (d : Int), u * (rc d (p ^ e) * rc d (p ^ e)) ≤ v * p ^ e
  | 0, d => by rw [Nat.pow_zero, rc_one]; omega
  | 1, d => by
    rw [Nat.pow_one]
    by_cases hd : (p : Int) ∣ d
    · have h1 := rc_p hp hd
      have h2 : rc d p * rc d p ≤ 1 * 1 := Nat.mul_le_mul h1 h1
      have h3 : u * (rc d p * rc d p) ≤ u * 1 := Nat.mul_le_mul_left _ h2
      omega
    · have h1 := rc_two (e := 0) hp ho hd
      rw [Nat.zero_add, Nat.pow_one] at h1
      have h2 : rc d p * rc d p ≤ 2 * 2 := Nat.mul_le_mul h1 h1
      have h3 : u * (rc d p * rc d p) ≤ u * (2 * 2) := Nat.mul_le_mul_left _ h2
      omega
  | e + 2, d => by
    have hp0 : 0 < p := by have := hp.1; omega
    by_cases hd : (p : Int) ∣ d
    · by_cases hpos : 0 < rc d (p ^ (e + 2))
      · obtain ⟨d', h1⟩ := rc_up hp hd hpos
        have ih := rc_odd hp ho huv h4 e d'
        have h2 := Nat.mul_le_mul h1 h1
        have h3 : u * (rc d (p ^ (e + 2)) * rc d (p ^ (e + 2))) ≤ u * (rc d' (p ^ e) * p * (rc d' (p ^ e) * p)) := Nat.mul_le_mul_left _ h2
        have h5 : u * (rc d' (p ^ e) * p * (rc d' (p ^ e) * p)) = (p * p) * (u * (rc d' (p ^ e) * rc d' (p ^ e))) := by grind
        have h6 : (p * p) * (u * (rc d' (p ^ e) * rc d' (p ^ e))) ≤ (p * p) * (v * p ^ e) := Nat.mul_le_mul_left _ ih
        have h7 : (p * p) * (v * p ^ e) = v * p ^ (e + 2) := by rw [Nat.pow_add, Nat.pow_two]; grind
        omega
      · have : rc d (p ^ (e + 2)) = 0 := by omega
        rw [this]; omega
    · have h1 := rc_two (e := e + 1) hp ho hd
      have h2 : rc d (p ^ (e + 2)) * rc d (p ^ (e + 2)) ≤ 2 * 2 := Nat.mul_le_mul h1 h1
      have h3 : u * (rc d (p ^ (e + 2)) * rc d (p ^ (e + 2))) ≤ u * (2 * 2) := Nat.mul_le_mul_left _ h2
      have h5 : v * p * 1 ≤ v * p * p ^ (e + 1) := Nat.mul_le_mul_left _ (Nat.pow_pos hp0)
      have h6 : v * p * p ^ (e + 1) = v * p ^ (e + 2) := by rw [Nat.pow_succ p (e + 1), Nat.mul_assoc, Nat.mul_comm p]
      omega
