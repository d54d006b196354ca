/-! rows of numbers, and the rows of roots that the class makes -/
/-- the first places of f hold the list -/
def row (f : Nat → Int32) (L : List Nat) : Prop := seg f 0 L.length = L.map nI
theorem seg_get {f : Nat → Int32} : ∀ {k a i : Nat}, i < k → (seg f a k)[i]? = some (f (a + i))
  | 0, _, _, h => absurd h (Nat.not_lt_zero _)
  | k + 1, a, 0, _ => by rw [seg_succ]; rfl
  | k + 1, a, i + 1, h => by rw [seg_succ, List.getElem?_cons_succ, seg_get (Nat.lt_of_succ_lt_succ h)]; congr 2; omega
theorem row_get {f : Nat → Int32} {L : List Nat} {i v : Nat} (h : row f L) (hv : L[i]? = some v) : f i = nI v := by
  have hi : i < L.length := (List.getElem?_eq_some_iff.mp hv).1
  have h1 := seg_get (f := f) (a := 0) hi
  rw [show seg f 0 L.length = L.map nI from h, List.getElem?_map, hv, Nat.zero_add] at h1
  exact (Option.some.inj h1).symm
theorem row_mk {f : Nat → Int32} {L : List Nat} (h : ∀ i v, L[i]? = some v → f i = nI v) : row f L := by
  refine List.ext_getElem? (fun i => ?_)
  rcases Nat.lt_or_ge i L.length with hi | hi
  · rw [seg_get hi, List.getElem?_map, Nat.zero_add]
    obtain ⟨v, hv⟩ : ∃ v, L[i]? = some v := ⟨L[i], List.getElem?_eq_getElem hi⟩
    rw [hv, h i v hv]; rfl
  · rw [List.getElem?_eq_none (by rw [seg_len]; exact hi), List.getElem?_eq_none (by rw [List.length_map]; exact hi)]
theorem row_push {f : Nat → Int32} {L : List Nat} (h : row f L) (v : Nat) : row (upd f L.length (nI v)) (L ++ [v]) := by
  refine row_mk (fun i w hw => ?_)
  rcases Nat.lt_or_ge i L.length with hi | hi
  · rw [List.getElem?_append_left hi] at hw
    rw [pk_un (by omega)]
    exact row_get h hw
  · rw [List.getElem?_append_right hi] at hw
    have h2 := (List.getElem?_eq_some_iff.mp hw).1
    simp at h2
    have : i = L.length := by omega
    subst this
    rw [Nat.sub_self] at hw
    cases hw
    exact pk_us
theorem row_app {f : Nat → Int32} {L K : List Nat} (h : row f (L ++ K)) : row f L := row_mk (fun i v hv => row_get h (by rw [List.getElem?_append_left (List.getElem?_eq_some_iff.mp hv).1]; exact hv))
theorem gixZ {n : Nat} {N : Int} (h : (n : Int) < N) (hn : n < 2 ^ 31) : ¬ ((nI n).toInt < 0 ∨ N ≤ (nI n).toInt) := by
  rw [nI_toInt hn]; omega
theorem addRoot_spec {F : Nat} {rt : Nat → Int32} {L : List Nat} (hl : L.length < 4096) (v : Nat) : f_r_addRoot F (nI L.length) rt (nI v) = some (nI (L ++ [v]).length, upd rt L.length (nI v)) := by
  unfold f_r_addRoot
  rw [show (4096 : Int32) = nI 4096 from rfl, if_neg (nI_ge hl (by decide)), if_neg (gixZ (by omega) (by omega)), nI_clamp (by omega), nI_1, List.length_append]
  rfl
theorem excess_spec {F : Nat} {x d M p k : Int} (x0 : 0 ≤ x) (x1 : x < 4194304) (d0 : 0 ≤ d) (d1 : d < 4194304) (M0 : 1 ≤ M) (M1 : M ≤ 4194304) (p0 : 1 ≤ p) (p1 : p ≤ 4194304) (hk : x * x - d = M * k) : f_r_excess F (iZ x) (iZ d) (iZ M) (iZ p) = some (iZ (k % p)) := by
  have in_x : in32 x := ⟨by omega, by omega⟩
  have in_d : in32 d := ⟨by omega, by omega⟩
  have in_M : in32 M := ⟨by omega, by omega⟩
  have hxx0 : 0 ≤ x * x := Int.mul_nonneg x0 x0
  have hxx : x * x ≤ 4194304 * x := Int.mul_le_mul_of_nonneg_right (by omega) x0
  have in_e : in64 (x * x - d) := ⟨by omega, by omega⟩
  have hq : (x * x - d).tdiv M = k := by rw [hk]; exact Int.mul_tdiv_cancel_left k (by omega)
  have in_k : in64 k := by
    have := lZ_in (lZ (x * x - d) / lZ M)
    rw [lZ_div in_e (in32_64 in_M) (by omega), hq] at this
    rcases Int.lt_or_le k 0 with h | h
    · have h1 : M * k ≤ 1 * k := Int.mul_le_mul_of_nonpos_right M0 (by omega)
      exact ⟨by omega, by omega⟩
    · have h1 : 1 * k ≤ M * k := Int.mul_le_mul_of_nonneg_right M0 h
      exact ⟨by omega, by omega⟩
  unfold f_r_excess
  rw [show (1 : Int32) = iZ 1 from rfl, if_pos ((iZ_le (by decide) in_M).mpr M0), iZ_l in_M, if_neg (fun h => by
    have := (lZ_eq (in32_64 in_M) (by decide)).mp (h.trans (show (0 : Int64) = lZ 0 from rfl))
    omega), iZ_l in_x, iZ_l in_d, lZ_mul, lZ_sub, lZ_div in_e (in32_64 in_M) (by omega), hq, residue_spec in_k p0 (by omega)]
  rfl
/-- L holds the roots of d modulo M, each once -/
def isR (L : List Nat) (M : Nat) (d : Int) : Prop := L.Nodup ∧ ∀ x, x ∈ L ↔ x < M ∧ cg M ((x : Int) * x) d
theorem isR_len {L : List Nat} {M : Nat} {d : Int} (h : isR L M d) : L.length = rc d M :=
  ((List.perm_ext_iff_of_nodup h.1 (rtl_nd d M)).mpr (fun x => by rw [h.2, rtl_mem])).length_eq
theorem isR_4096 {L : List Nat} {M : Nat} {d : Int} (h : isR L M d) (h0 : 0 < M) (h1 : M ≤ 4194304) : L.length ≤ 4096 := by rw [isR_len h]; exact rc_4096 d h0 h1
/-- as jn, of whole numbers from 0 on -/
def jN (M p : Nat) (st : Int) (x r : Nat) : Nat := (jn M p st x r).toNat
theorem jN_Z {M p : Nat} {st : Int} {x r : Nat} (hM : 0 < M) (hp : 0 < p) (hx : x < M) : ((jN M p st x r : Nat) : Int) = jn M p st x r := by
  unfold jN
  exact Int.toNat_of_nonneg (jn_in (by omega) (by omega) (by omega) (by omega)).1
def jG (M p : Nat) (st : Int) (f s : Nat) (x : Nat) : List Nat := if s = f then [jN M p st x f] else [jN M p st x f, jN M p st x s]
theorem isR_join {L : List Nat} {M p f s : Nat} {st d : Int} (hp : pm p) (hM : 0 < M) (hpM : ¬ p ∣ M) (h : isR L M d) (hf : f < p) (hs : s < p) (hfs : cg p (s : Int) (-f)) (hff : cg p ((f : Int) * f) d) (hst : cg p (st * M) 1) : isR (L.flatMap (jG M p st f s)) (M * p) d := by
  have hp0 : 0 < p := by have := hp.1; omega
  have hcop : Nat.Coprime M p := (pm_cop hp hpM).symm
  have hss : cg p ((s : Int) * s) d := by
    refine cg_tr (cg_mul hfs hfs) ?_
    rw [show (-(f : Int)) * -f = f * f by grind]; exact hff
  have key : ∀ x r : Nat, x ∈ L → cg p ((r : Int) * r) d → (jN M p st x r < M * p ∧ cg ((M * p : Nat) : Int) ((jN M p st x r : Int) * (jN M p st x r : Int)) d) ∧ jN M p st x r % M = x ∧ cg p (jN M p st x r : Int) r := by
    intro x r hx hr
    have hx1 := (h.2 x).mp hx
    have hz := jN_Z (st := st) (r := r) hM hp0 hx1.1
    have hin := jn_in (M := (M : Int)) (p := (p : Int)) (st := st) (x := (x : Int)) (r := (r : Int)) (by omega) (by omega) (by omega) (by omega)
    have hm : cg M (jN M p st x r : Int) x := by rw [hz]; exact jn_M _ _ _ _ _
    have hq : cg p (jN M p st x r : Int) r := by rw [hz]; exact jn_p hst
    refine ⟨⟨?_, ?_⟩, ?_, hq⟩
    · have := hin.2
      rw [← hz, ← Int.natCast_mul] at this
      omega
    · exact cg_join hcop (cg_tr (cg_mul hm hm) hx1.2) (cg_tr (cg_mul hq hq) hr)
    · exact nat_of_cg (Nat.mod_lt _ hM) hx1.1 (cg_tr (cg_nmod _ _) hm)
  have memG : ∀ x y : Nat, x ∈ L → y ∈ jG M p st f s x → ∃ r : Nat, (r = f ∨ r = s) ∧ y = jN M p st x r := by
    intro x y hx hy
    unfold jG at hy
    split at hy
    · exact ⟨f, Or.inl rfl, by simpa using hy⟩
    · simp at hy
      rcases hy with hy | hy
      · exact ⟨f, Or.inl rfl, hy⟩
      · exact ⟨s, Or.inr rfl, hy⟩
  refine ⟨?_, fun y => ⟨fun hy => ?_, fun hy => ?_⟩⟩
  · rw [List.Nodup, List.pairwise_flatMap]
    refine ⟨fun x hx => ?_, ?_⟩
    · unfold jG
      split
      · simp
      · rename_i hne
        rw [List.pairwise_cons]
        refine ⟨fun y hy e => ?_, by simp⟩
        rw [List.mem_singleton.mp hy] at e
        have k1 := (key x f hx hff).2.2
        have k2 := (key x s hx hss).2.2
        rw [e] at k1
        exact hne (nat_of_cg hs hf (cg_tr (cg_sy k2) k1))
    · refine List.Pairwise.imp_of_mem (fun {a b} ha hb hab x hx y hy e => hab ?_) h.1
      obtain ⟨r, hr, rfl⟩ := memG a x ha hx
      obtain ⟨r', hr', rfl⟩ := memG b y hb hy
      have k1 := (key a r ha (by rcases hr with rfl | rfl <;> assumption)).2.1
      have k2 := (key b r' hb (by rcases hr' with rfl | rfl <;> assumption)).2.1
      rw [e] at k1
      exact k1.symm.trans k2
  · obtain ⟨x, hx, hxy⟩ := List.mem_flatMap.mp hy
    obtain ⟨r, hr, rfl⟩ := memG x y hx hxy
    exact (key x r hx (by rcases hr with rfl | rfl <;> assumption)).1
  · have hy2 : cg ((M : Int) * (p : Int)) ((y : Int) * y) d := by rw [← Int.natCast_mul]; exact hy.2
    have hxL : y % M ∈ L := (h.2 _).mpr ⟨Nat.mod_lt _ hM, cg_tr (cg_mul (cg_nmod y M) (cg_nmod y M)) (cg_left hy2)⟩
    refine List.mem_flatMap.mpr ⟨y % M, hxL, ?_⟩
    have uniq : ∀ r : Nat, cg p (y : Int) r → y = jN M p st (y % M) r := by
      intro r hr
      have hz := jN_Z (st := st) (r := r) (p := p) hM hp0 (Nat.mod_lt y hM)
      have := jn_uniq (M := (M : Int)) (p := (p : Int)) (st := st) (x := ((y % M : Nat) : Int)) (r := (r : Int)) (y := (y : Int)) (by omega) (by omega) (by omega) (by have := Nat.mod_lt y hM; omega) hst (by omega) (by rw [← Int.natCast_mul]; have := hy.1; omega) (cg_sy (cg_nmod y M)) hr
      rw [← hz] at this
      omega
    unfold jG
    rcases rt_pm hp hff (cg_right hy2) with h1 | h1
    · have := uniq f h1
      split
      · rw [← this]; exact List.mem_singleton.mpr rfl
      · rw [← this]; exact List.mem_cons_self
    · have := uniq s (cg_tr h1 (cg_sy hfs))
      split
      · rename_i he
        rw [he] at this
        rw [← this]; exact List.mem_singleton.mpr rfl
      · rw [← this]; simp
