/-! the reference's roots -/
def rP (d : Int) (N : Nat) (x : Nat) : Bool := decide (((x : Int) * x - d) % (N : Int) = 0)
theorem rP_iff {d : Int} {N x : Nat} : rP d N x = true ↔ ((x : Int) * x) % N = d % N := by
  unfold rP
  rw [decide_eq_true_iff]
  exact Int.emod_eq_emod_iff_emod_sub_eq_zero.symm
theorem rtl_eq (d : Int) (N : Nat) : rtl d N = (List.range N).filter (rP d N) := rfl
theorem mroots_loop {F N : Nat} (h0 : 0 < N) (hN : N ≤ 4194304) {d : Int} : ∀ (k fu x : Nat) (ro : Nat → Int32), k < fu → x + k = N → row ro ((List.range x).filter (rP d N)) →
    ∃ ro', l_m_roots_26 F (lZ (d % N)) (iZ N) fu (lZ (((x : Int) * x) % N)) (iZ x) (nI ((List.range x).filter (rP d N)).length) ro = some (nI (rtl d N).length, ro') ∧ row ro' (rtl d N) := by
  have in_N : in32 (N : Int) := ⟨by omega, by omega⟩
  have d0 := Int.emod_nonneg d (show (N : Int) ≠ 0 by omega)
  have d1 := Int.emod_lt_of_pos d (show (0 : Int) < N by omega)
  intro k
  induction k with
  | zero =>
    intro fu x ro hfu hx hR
    obtain ⟨fu, rfl⟩ : ∃ z, fu = z + 1 := ⟨fu - 1, by omega⟩
    have : x = N := by omega
    subst this
    refine ⟨ro, ?_, hR⟩
    rw [l_m_roots_26, if_pos ((iZ_le in_N in_N).mpr (by omega)), rtl_eq]
  | succ k ih =>
    intro fu x ro hfu hx hR
    obtain ⟨fu, rfl⟩ : ∃ z, fu = z + 1 := ⟨fu - 1, by omega⟩
    have m0 := Int.emod_nonneg ((x : Int) * x) (show (N : Int) ≠ 0 by omega)
    have m1 := Int.emod_lt_of_pos ((x : Int) * x) (show (0 : Int) < N by omega)
    have hlen : ((List.range (x + 1)).filter (rP d N)).length ≤ 4096 := by
      refine Nat.le_trans ?_ (rc_4096 d h0 hN)
      unfold rc
      refine List.Nodup.length_le_of_subset (List.Pairwise.filter _ List.nodup_range) (fun y hy => ?_)
      rw [rtl_eq, List.mem_filter, List.mem_range]
      rw [List.mem_filter, List.mem_range] at hy
      exact ⟨by omega, hy.2⟩
    have e2 : (((x : Int) * x) % N + 2 * x + 1) % N = (((x + 1 : Nat) : Int) * ((x + 1 : Nat) : Int)) % N := by
      refine emod_cg ?_
      have := cg_add (cg_add (cg_emod (N : Int) ((x : Int) * x)) (cg_rf N (2 * (x : Int)))) (cg_rf N 1)
      rw [show ((x + 1 : Nat) : Int) * ((x + 1 : Nat) : Int) = (x : Int) * x + 2 * x + 1 by rw [show ((x + 1 : Nat) : Int) = (x : Int) + 1 by omega]; grind]
      exact this
    rw [l_m_roots_26, if_neg (fun h => by
      have := (iZ_le in_N ⟨by omega, by omega⟩).mp h
      omega), iZ_l in_N, iZ_l ⟨by omega, by omega⟩, if_neg (lZ_ne0 ⟨by omega, by omega⟩ (by omega)), if_neg (lZ_ne0 ⟨by omega, by omega⟩ (by omega)), show (2 : Int64) = lZ 2 from rfl, lZ_mul, lZ_add, show (1 : Int64) = lZ 1 from rfl, lZ_add, lrm_Z ⟨by omega, by omega⟩ ⟨by omega, by omega⟩ (by omega), Int.tmod_eq_emod_of_nonneg (by omega), e2, show iZ (x : Int) + 1 = iZ ((x + 1 : Nat) : Int) by rw [show (1 : Int32) = iZ 1 from rfl, iZ_add]; rfl]
    by_cases c : ((x : Int) * x) % N = d % N
    · have e : (List.range (x + 1)).filter (rP d N) = (List.range x).filter (rP d N) ++ [x] := by
        rw [List.range_succ, List.filter_append, List.filter_cons_of_pos (rP_iff.mpr c), List.filter_nil]
      rw [e, List.length_append] at hlen
      have hl1 : ((List.range x).filter (rP d N)).length < 4096 := by simp at hlen ⊢; omega
      rw [if_pos (by rw [c]), if_neg (gixZ (by omega) (by omega)), nI_clamp (by omega), nI_1, ← nI_iZ x]
      have := ih fu (x + 1) (upd ro ((List.range x).filter (rP d N)).length (nI x)) (by omega) (by omega) (by rw [e]; exact row_push hR x)
      rw [e, List.length_append] at this
      exact this
    · have e : (List.range (x + 1)).filter (rP d N) = (List.range x).filter (rP d N) := by
        rw [List.range_succ, List.filter_append, List.filter_cons_of_neg (fun h => c (rP_iff.mp h)), List.filter_nil, List.append_nil]
      rw [if_neg (fun h => c ((lZ_eq ⟨by omega, by omega⟩ ⟨by omega, by omega⟩).mp h))]
      have := ih fu (x + 1) ro (by omega) (by omega) (by rw [e]; exact hR)
      rw [e] at this
      exact this
theorem mroots_spec {F N : Nat} (hF : 2 ^ 31 ≤ F) (h0 : 0 < N) (hN : N ≤ 4194304) {d : Int} (hd : in64 d) (co fo : Int32) (ro : Nat → Int32) : ∃ ro', f_m_roots F co (nI N) fo ro (lZ d) = some (nI (rtl d N).length, 0, nI (rtl d N).length, ro') ∧ row ro' (rtl d N) := by
  have in_N : in32 (N : Int) := ⟨by omega, by omega⟩
  obtain ⟨ro', k1, k2⟩ := mroots_loop (F := F) h0 hN (d := d) N F 0 ro (by omega) (by omega) rfl
  have e0 : (((0 : Nat) : Int) * ((0 : Nat) : Int)) % (N : Int) = 0 := by simp
  rw [e0] at k1
  refine ⟨ro', ?_, k2⟩
  rw [nI_iZ]
  unfold f_m_roots
  rw [iZ_l in_N, mrest_spec hd (by omega) (by omega)]
  show (b2 (l_m_roots_26 F (lZ (d % N)) (iZ N) F 0 0 0 ro) fun fo_2 ro_2 => some (fo_2, 0, fo_2, ro_2)) = _
  have k1' : l_m_roots_26 F (lZ (d % N)) (iZ N) F 0 0 0 ro = some (nI (rtl d N).length, ro') := k1
  rw [k1']; rfl
