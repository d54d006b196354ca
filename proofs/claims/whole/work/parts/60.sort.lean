/-! sorting by merging: what the mirrors of isRising, mergeRuns and sortRising answer -/
def seg (f : Nat → Int32) (a k : Nat) : List Int32 := (List.range' a k).map f
theorem seg_0 (f : Nat → Int32) (a : Nat) : seg f a 0 = [] := rfl
theorem seg_succ (f : Nat → Int32) (a k : Nat) : seg f a (k + 1) = f a :: seg f (a + 1) k := by
  unfold seg; rw [List.range'_succ, List.map_cons]
theorem seg_len (f : Nat → Int32) (a k : Nat) : (seg f a k).length = k := by unfold seg; simp
theorem seg_mem {f : Nat → Int32} {a k : Nat} {x : Int32} : x ∈ seg f a k ↔ ∃ j, a ≤ j ∧ j < a + k ∧ f j = x := by
  unfold seg
  rw [List.mem_map]
  constructor
  · rintro ⟨j, hj, e⟩; rw [List.mem_range'_1] at hj; exact ⟨j, hj.1, hj.2, e⟩
  · rintro ⟨j, h1, h2, e⟩; exact ⟨j, List.mem_range'_1.mpr ⟨h1, h2⟩, e⟩
theorem seg_congr {f g : Nat → Int32} : ∀ {a k : Nat}, (∀ j, a ≤ j → j < a + k → f j = g j) → seg f a k = seg g a k
  | a, 0, _ => rfl
  | a, k + 1, h => by rw [seg_succ, seg_succ, h a (Nat.le_refl a) (by omega), seg_congr (fun j h1 h2 => h j (by omega) (by omega))]
theorem seg_app (f : Nat → Int32) (a j k : Nat) : seg f a (j + k) = seg f a j ++ seg f (a + j) k := by
  unfold seg
  rw [← List.map_append]
  congr 1
  rw [List.range'_append_1]
theorem i_tr {a b c : Int32} (h : a ≤ b) (g : b ≤ c) : a ≤ c := Int32.le_trans h g
theorem ic {n : Nat} (h : n < 2 ^ 31) : (nI n).toInt = (n : Int) := nI_toInt h
/-- the guard of an index -/
theorem gix {n N : Nat} (h : n < N) (hN : N < 2 ^ 31) : ¬ ((nI n).toInt < 0 ∨ (N : Int) ≤ (nI n).toInt) := by
  rw [nI_toInt (by omega)]; omega
theorem merge_loop {F n1 n2 mid en : Nat} {ra : Nat → Int32} (hn1 : n1 < 2 ^ 31) (hn2 : n2 < 2 ^ 31) (h1 : en ≤ n1) (h2 : en ≤ n2) (hm : mid ≤ en) :
    ∀ (k fu L R i : Nat) (tb : Nat → Int32), k < fu → i + k = en → L ≤ mid → mid ≤ R → R ≤ en → i + mid = L + R →
      (∀ a b, L ≤ a → a ≤ b → b < mid → ra a ≤ ra b) → (∀ a b, R ≤ a → a ≤ b → b < en → ra a ≤ ra b) →
      ∃ tb', l_r_mergeRuns_9 F n1 n2 (nI mid) (nI en) ra fu (nI L) (nI R) (nI i) tb = some tb' ∧ (∀ j, j < i ∨ en ≤ j → tb' j = tb j) ∧ (seg tb' i k).Perm (seg ra L (mid - L) ++ seg ra R (en - R)) ∧ (seg tb' i k).Pairwise (fun a b => a ≤ b) := by
  intro k
  induction k with
  | zero =>
    intro fu L R i tb hf hi hL hR hR2 he _ _
    obtain ⟨fu, rfl⟩ : ∃ z, fu = z + 1 := ⟨fu - 1, by omega⟩
    refine ⟨tb, ?_, fun _ _ => rfl, ?_, List.Pairwise.nil⟩
    · rw [l_r_mergeRuns_9, if_pos (nI_le (by omega) (by omega))]
    · rw [show mid - L = 0 by omega, show en - R = 0 by omega]; exact List.Perm.refl _
  | succ k ih =>
    intro fu L R i tb hf hi hL hR hR2 he sL sR
    obtain ⟨fu, rfl⟩ : ∃ z, fu = z + 1 := ⟨fu - 1, by omega⟩
    have hie : i < en := by omega
    -- taking from the left
    have left : L < mid → (∀ b, R ≤ b → b < en → ra L ≤ ra b) → ∃ tb', l_r_mergeRuns_9 F n1 n2 (nI mid) (nI en) ra fu (nI L + 1) (nI R) (nI i + 1) (upd tb (nI i).toNatClampNeg (ra (nI L).toNatClampNeg)) = some tb' ∧ (∀ j, j < i ∨ en ≤ j → tb' j = tb j) ∧ (seg tb' i (k + 1)).Perm (seg ra L (mid - L) ++ seg ra R (en - R)) ∧ (seg tb' i (k + 1)).Pairwise (fun a b => a ≤ b) := by
      intro hlt hle
      rw [nI_clamp (by omega), nI_clamp (by omega), nI_1, nI_1]
      obtain ⟨tb', e1, e2, e3, e4⟩ := ih fu (L + 1) R (i + 1) (upd tb i (ra L)) (by omega) (by omega) (by omega) hR hR2 (by omega) (fun a b x y z => sL a b (by omega) y z) sR
      have ei : tb' i = ra L := by rw [e2 i (Or.inl (by omega))]; exact pk_us
      refine ⟨tb', e1, fun j hj => ?_, ?_, ?_⟩
      · rw [e2 j (by omega)]; exact pk_un (by omega)
      · rw [seg_succ, ei, show mid - L = (mid - (L + 1)) + 1 by omega, seg_succ, List.cons_append]
        exact e3.cons _
      · rw [seg_succ, List.pairwise_cons]
        refine ⟨fun x hx => ?_, e4⟩
        rw [ei]
        rcases List.mem_append.mp (e3.mem_iff.mp hx) with h | h
        · obtain ⟨j, a1, a2, rfl⟩ := seg_mem.mp h
          exact sL L j (Nat.le_refl _) (by omega) (by omega)
        · obtain ⟨j, a1, a2, rfl⟩ := seg_mem.mp h
          exact hle j a1 (by omega)
    have right : R < en → (∀ b, L ≤ b → b < mid → ra R ≤ ra b) → ∃ tb', l_r_mergeRuns_9 F n1 n2 (nI mid) (nI en) ra fu (nI L) (nI R + 1) (nI i + 1) (upd tb (nI i).toNatClampNeg (ra (nI R).toNatClampNeg)) = some tb' ∧ (∀ j, j < i ∨ en ≤ j → tb' j = tb j) ∧ (seg tb' i (k + 1)).Perm (seg ra L (mid - L) ++ seg ra R (en - R)) ∧ (seg tb' i (k + 1)).Pairwise (fun a b => a ≤ b) := by
      intro hlt hle
      rw [nI_clamp (by omega), nI_clamp (by omega), nI_1, nI_1]
      obtain ⟨tb', e1, e2, e3, e4⟩ := ih fu L (R + 1) (i + 1) (upd tb i (ra R)) (by omega) (by omega) hL (by omega) (by omega) (by omega) sL (fun a b x y z => sR a b (by omega) y z)
      have ei : tb' i = ra R := by rw [e2 i (Or.inl (by omega))]; exact pk_us
      refine ⟨tb', e1, fun j hj => ?_, ?_, ?_⟩
      · rw [e2 j (by omega)]; exact pk_un (by omega)
      · rw [seg_succ, ei, show en - R = (en - (R + 1)) + 1 by omega, seg_succ]
        exact (e3.cons _).trans List.perm_middle.symm
      · rw [seg_succ, List.pairwise_cons]
        refine ⟨fun x hx => ?_, e4⟩
        rw [ei]
        rcases List.mem_append.mp (e3.mem_iff.mp hx) with h | h
        · obtain ⟨j, a1, a2, rfl⟩ := seg_mem.mp h
          exact hle j a1 (by omega)
        · obtain ⟨j, a1, a2, rfl⟩ := seg_mem.mp h
          exact sR R j (Nat.le_refl _) (by omega) (by omega)
    rw [l_r_mergeRuns_9, if_neg (nI_ge hie (by omega))]
    by_cases c1 : en ≤ R
    · rw [if_pos (nI_le c1 (by omega)), if_neg (gix (by omega) hn1), if_neg (gix (by omega) hn2)]
      exact left (by omega) (fun b x y => absurd y (by omega))
    · rw [if_neg (nI_ge (by omega) (by omega))]
      by_cases c2 : mid ≤ L
      · rw [if_pos (nI_le c2 (by omega)), if_neg (gix (by omega) hn1), if_neg (gix (by omega) hn2)]
        exact right (by omega) (fun b x y => absurd y (by omega))
      · rw [if_neg (nI_ge (by omega) (by omega)), if_neg (gix (by omega) hn1), if_neg (gix (by omega) hn1)]
        by_cases c3 : ra (nI R).toNatClampNeg < ra (nI L).toNatClampNeg
        · rw [if_pos c3, if_neg (gix (by omega) hn1), if_neg (gix (by omega) hn2)]
          rw [nI_clamp (by omega), nI_clamp (by omega)] at c3
          exact right (by omega) (fun b x y => i_tr (Int32.le_of_lt c3) (sL L b (Nat.le_refl _) x y))
        · rw [if_neg c3, if_neg (gix (by omega) hn1), if_neg (gix (by omega) hn2)]
          rw [nI_clamp (by omega), nI_clamp (by omega)] at c3
          exact left (by omega) (fun b x y => i_tr (Int32.not_lt.mp c3) (sR R b (Nat.le_refl _) x y))
theorem merge_spec {F n1 n2 st mid en : Nat} {ra tb : Nat → Int32} (hF : 2 ^ 31 ≤ F) (hn1 : n1 < 2 ^ 31) (hn2 : n2 < 2 ^ 31) (h1 : en ≤ n1) (h2 : en ≤ n2) (hs : st ≤ mid) (hm : mid ≤ en)
    (sL : ∀ a b, st ≤ a → a ≤ b → b < mid → ra a ≤ ra b) (sR : ∀ a b, mid ≤ a → a ≤ b → b < en → ra a ≤ ra b) :
    ∃ tb', f_r_mergeRuns F n1 n2 ra tb (nI st) (nI mid) (nI en) = some tb' ∧ (∀ j, j < st ∨ en ≤ j → tb' j = tb j) ∧ (seg tb' st (en - st)).Perm (seg ra st (en - st)) ∧ (seg tb' st (en - st)).Pairwise (fun a b => a ≤ b) := by
  obtain ⟨tb', e1, e2, e3, e4⟩ := merge_loop (F := F) hn1 hn2 h1 h2 hm (en - st) F st mid st tb (by omega) (by omega) hs (Nat.le_refl _) hm (by omega) sL sR
  refine ⟨tb', ?_, e2, ?_, e4⟩
  · unfold f_r_mergeRuns
    rw [e1]; rfl
  · refine e3.trans (List.Perm.of_eq ?_)
    rw [show en - st = (mid - st) + (en - mid) by omega, seg_app, show st + (mid - st) = mid by omega]
/-- sorted inside each block of w places -/
def Blk (f : Nat → Int32) (size w : Nat) : Prop := ∀ a b, a ≤ b → b < size → a / w = b / w → f a ≤ f b
theorem pair_idx {f : Nat → Int32} : ∀ {k a : Nat}, (seg f a k).Pairwise (fun a b => a ≤ b) → ∀ i j, a ≤ i → i ≤ j → j < a + k → f i ≤ f j
  | 0, a, _, i, j, h1, h2, h3 => by omega
  | k + 1, a, h, i, j, h1, h2, h3 => by
    rw [seg_succ, List.pairwise_cons] at h
    rcases Nat.lt_or_ge a i with h4 | h4
    · exact pair_idx h.2 i j h4 h2 (by omega)
    · have : i = a := by omega
      subst this
      rcases Nat.lt_or_ge i j with h5 | h5
      · exact h.1 _ (seg_mem.mpr ⟨j, by omega, by omega, rfl⟩)
      · have : j = i := by omega
        subst this
        exact Int32.le_refl _
theorem min_nI {a b : Nat} (ha : a < 2 ^ 31) (hb : b < 2 ^ 31) : (if nI a < nI b then nI a else nI b) = nI (min a b) := by
  rcases Nat.lt_or_ge a b with h | h
  · rw [if_pos (nI_lt h hb), Nat.min_eq_left (by omega)]
  · rw [if_neg (nI_nlt h ha), Nat.min_eq_right h]
/-- one pass: blocks of w become blocks of 2 * w -/
theorem pass_loop {F n1 size w : Nat} {ra : Nat → Int32} (hF : 2 ^ 31 ≤ F) (hn1 : n1 < 2 ^ 31) (hs1 : size ≤ n1) (hs2 : size ≤ 4096) (hw0 : 0 < w) (hw : w < 4096) (hB : Blk ra size w) :
    ∀ (k fu q : Nat) (sp : Nat → Int32), k < fu → size ≤ 2 * w * (q + k) → (∀ a b, a ≤ b → b < size → b < 2 * w * q → a / (2 * w) = b / (2 * w) → sp a ≤ sp b) → (seg sp 0 (min (2 * w * q) size)).Perm (seg ra 0 (min (2 * w * q) size)) → 2 * w * q < size + 2 * w →
      ∃ sp', l_r_sortRising_34 F n1 (nI size) (nI w) ra fu (nI (2 * w * q)) sp = some sp' ∧ Blk sp' size (2 * w) ∧ (seg sp' 0 size).Perm (seg ra 0 size) := by
  intro k
  induction k with
  | zero =>
    intro fu q sp hf hk h1 h2 h3
    obtain ⟨fu, rfl⟩ : ∃ z, fu = z + 1 := ⟨fu - 1, by omega⟩
    rw [Nat.add_zero] at hk
    refine ⟨sp, ?_, fun a b x y z => h1 a b x y (by omega) z, ?_⟩
    · rw [l_r_sortRising_34, if_pos (nI_le hk (by omega))]
    · rw [Nat.min_eq_right hk] at h2; exact h2
  | succ k ih =>
    intro fu q sp hf hk h1 h2 h3
    obtain ⟨fu, rfl⟩ : ∃ z, fu = z + 1 := ⟨fu - 1, by omega⟩
    by_cases hle : size ≤ 2 * w * q
    · refine ⟨sp, ?_, fun a b x y z => h1 a b x y (by omega) z, ?_⟩
      · rw [l_r_sortRising_34, if_pos (nI_le hle (by omega))]
      · rw [Nat.min_eq_right hle] at h2; exact h2
    · have e1 : nI (2 * w * q) + nI w = nI (2 * w * q + w) := nI_add _ _
      have hq1 : 2 * w * (q + 1) = 2 * w * q + 2 * w := by rw [Nat.mul_add, Nat.mul_one]
      generalize hst : 2 * w * q = st at *
      rw [l_r_sortRising_34, if_neg (nI_ge (by omega) (by omega)), e1, min_nI (by omega) (by omega), nI_add, min_nI (by omega) (by omega)]
      obtain ⟨tb', m1, m2, m3, m4⟩ := merge_spec (F := F) (n2 := 4096) (st := st) (mid := min size (st + w)) (en := min size (min size (st + w) + w)) (ra := ra) (tb := sp) hF hn1 (by omega) (by omega) (by omega) (by omega) (by omega)
        (fun a b x y z => hB a b y (by omega) (by
          have ea : a / w = 2 * q := by
            refine Nat.div_eq_of_lt_le ?_ ?_
            · rw [show 2 * q * w = 2 * w * q by grind]; omega
            · rw [show (2 * q + 1) * w = 2 * w * q + w by grind]; omega
          have eb : b / w = 2 * q := by
            refine Nat.div_eq_of_lt_le ?_ ?_
            · rw [show 2 * q * w = 2 * w * q by grind]; omega
            · rw [show (2 * q + 1) * w = 2 * w * q + w by grind]; omega
          rw [ea, eb]))
        (fun a b x y z => hB a b y (by omega) (by
          have ea : a / w = 2 * q + 1 := by
            refine Nat.div_eq_of_lt_le ?_ ?_
            · rw [show (2 * q + 1) * w = 2 * w * q + w by grind]; omega
            · rw [show (2 * q + 1 + 1) * w = 2 * w * q + 2 * w by grind]; omega
          have eb : b / w = 2 * q + 1 := by
            refine Nat.div_eq_of_lt_le ?_ ?_
            · rw [show (2 * q + 1) * w = 2 * w * q + w by grind]; omega
            · rw [show (2 * q + 1 + 1) * w = 2 * w * q + 2 * w by grind]; omega
          rw [ea, eb]))
      have hen : min size (min size (st + w) + w) = min (st + 2 * w) size := by omega
      rw [m1]
      rw [hen] at m2 m3 m4
      show ∃ sp', l_r_sortRising_34 F n1 (nI size) (nI w) ra fu (nI st + 2 * nI w) tb' = some sp' ∧ _
      have e2 : nI st + 2 * nI w = nI (2 * w * (q + 1)) := by
        rw [hq1, show (2 : Int32) = nI 2 from rfl, pk_mul, nI_add]
      rw [e2]
      refine ih fu (q + 1) tb' (by omega) (by rw [show q + 1 + k = q + (k + 1) by omega]; exact hk) ?_ ?_ (by omega)
      · intro a b x y z zz
        rw [hq1] at z
        rcases Nat.lt_or_ge b st with hb | hb
        · rw [m2 a (Or.inl (by omega)), m2 b (Or.inl hb)]
          exact h1 a b x y hb zz
        · have hbq : b / (2 * w) = q := Nat.div_eq_of_lt_le (by rw [Nat.mul_comm]; omega) (by rw [Nat.mul_comm]; omega)
          have haq : st ≤ a := by
            rw [hbq] at zz
            have := Nat.mul_div_le a (2 * w)
            rw [zz] at this
            omega
          exact pair_idx m4 a b haq x (by omega)
      · rw [hq1]
        have hmin : min (st + 2 * w) size = st + (min (st + 2 * w) size - st) := by omega
        rw [hmin, seg_app, seg_app, Nat.zero_add]
        refine List.Perm.append ?_ m3
        rw [Nat.min_eq_left (by omega)] at h2
        refine List.Perm.trans (List.Perm.of_eq (seg_congr (fun j a b => m2 j (Or.inl (by omega))))) h2
theorem idx_pair {f : Nat → Int32} : ∀ {k a : Nat}, (∀ i j, a ≤ i → i < j → j < a + k → f i ≤ f j) → (seg f a k).Pairwise (fun a b => a ≤ b)
  | 0, a, _ => List.Pairwise.nil
  | k + 1, a, h => by
    rw [seg_succ, List.pairwise_cons]
    refine ⟨fun x hx => ?_, idx_pair (fun i j h1 h2 h3 => h i j (by omega) h2 (by omega))⟩
    obtain ⟨j, a1, a2, rfl⟩ := seg_mem.mp hx
    exact h a j (Nat.le_refl a) (by omega) (by omega)
theorem sort_loop {F n1 size : Nat} (hF : 2 ^ 31 ≤ F) (hn1 : n1 < 2 ^ 31) (hs1 : size ≤ n1) (hs2 : size ≤ 4096) :
    ∀ (k fu w : Nat) (ra sp : Nat → Int32), k < fu → size ≤ w * 2 ^ k → 0 < w → w ≤ 8192 → Blk ra size w →
      ∃ ra' sp', l_r_sortRising_26 F n1 (nI size) fu (nI w) ra sp = some (ra', sp') ∧ (seg ra' 0 size).Pairwise (fun a b => a ≤ b) ∧ (seg ra' 0 size).Perm (seg ra 0 size) := by
  have fin : ∀ (fu w : Nat) (ra sp : Nat → Int32), size ≤ w → 0 < w → w ≤ 8192 → Blk ra size w → ∃ ra' sp', l_r_sortRising_26 F n1 (nI size) (fu + 1) (nI w) ra sp = some (ra', sp') ∧ (seg ra' 0 size).Pairwise (fun a b => a ≤ b) ∧ (seg ra' 0 size).Perm (seg ra 0 size) := by
    intro fu w ra sp h1 h0 h8 hB
    refine ⟨ra, sp, ?_, ?_, List.Perm.refl _⟩
    · rw [l_r_sortRising_26, if_pos (nI_le h1 (by omega))]
    · refine idx_pair (fun i j _ h2 h3 => hB i j (by omega) (by omega) ?_)
      rw [Nat.div_eq_of_lt (by omega), Nat.div_eq_of_lt (by omega)]
  intro k
  induction k with
  | zero =>
    intro fu w ra sp hf h1 h0 h8 hB
    obtain ⟨fu, rfl⟩ : ∃ z, fu = z + 1 := ⟨fu - 1, by omega⟩
    exact fin fu w ra sp (by simpa using h1) h0 h8 hB
  | succ k ih =>
    intro fu w ra sp hf h1 h0 h8 hB
    obtain ⟨fu, rfl⟩ : ∃ z, fu = z + 1 := ⟨fu - 1, by omega⟩
    by_cases hle : size ≤ w
    · exact fin fu w ra sp hle h0 h8 hB
    · obtain ⟨sp', p1, p2, p3⟩ := pass_loop (F := F) hF hn1 hs1 hs2 h0 (by omega) hB size F 0 sp (by omega) (by
        have : 1 * size ≤ 2 * w * size := Nat.mul_le_mul_right _ (by omega)
        rw [Nat.zero_add]
        omega) (fun a b _ _ h => absurd h (by omega)) (by simp [seg]) (by omega)
      rw [Nat.mul_zero] at p1
      rw [l_r_sortRising_26, if_neg (nI_ge (by omega) (by omega)), show (0 : Int32) = nI 0 from rfl, p1]
      show ∃ ra' sp'', (if nI 0 < nI 0 ∨ nI 0 < nI 0 ∨ nI size < nI 0 ∨ 4096 < (nI 0).toNatClampNeg + (nI size).toNatClampNeg ∨ n1 < (nI 0).toNatClampNeg + (nI size).toNatClampNeg then none else l_r_sortRising_26 F n1 (nI size) fu (nI w * 2) (va_cpy sp' ra (nI 0).toNatClampNeg (nI 0).toNatClampNeg (nI size).toNatClampNeg) sp') = some (ra', sp'') ∧ _
      rw [nI_clamp (n := 0) (by omega), nI_clamp (n := size) (by omega), if_neg (by
        rintro (h | h | h | h | h)
        · exact absurd h (nI_nlt (Nat.le_refl 0) (by omega))
        · exact absurd h (nI_nlt (Nat.le_refl 0) (by omega))
        · exact absurd h (nI_nlt (Nat.zero_le _) (by omega))
        · omega
        · omega)]
      have ec : ∀ j, j < size → va_cpy sp' ra 0 0 size j = sp' j := fun j hj => by rw [pk_cpy_in (by omega) (by omega)]; simp
      rw [show nI w * 2 = nI (2 * w) by rw [show (2 : Int32) = nI 2 from rfl, pk_mul, Nat.mul_comm]]
      obtain ⟨ra', sp'', q1, q2, q3⟩ := ih fu (2 * w) (va_cpy sp' ra 0 0 size) sp' (by omega) (by rw [Nat.pow_succ] at h1; rw [show 2 * w * 2 ^ k = w * (2 ^ k * 2) by grind]; exact h1) (by omega) (by omega)
        (fun a b x y z => by rw [ec a (by omega), ec b y]; exact p2 a b x y z)
      refine ⟨ra', sp'', q1, q2, q3.trans ?_⟩
      exact (List.Perm.of_eq (seg_congr (fun j _ h => ec j (by omega)))).trans p3
theorem rising_loop {F n1 size : Nat} {ra : Nat → Int32} (hn1 : n1 < 2 ^ 31) (hs1 : size ≤ n1) (hs2 : size ≤ 4096) :
    ∀ (k fu i : Nat), k < fu → 0 < i → i + k = max i size → (∀ j, 1 ≤ j → j < i → ra (j - 1) ≤ ra j) → i ≤ size + 1 →
      ∃ r, l_r_isRising_2 F n1 (nI size) ra fu (nI i) = some r ∧ (r = 0 ∨ ∀ j, 1 ≤ j → j < size → ra (j - 1) ≤ ra j) := by
  intro k
  induction k with
  | zero =>
    intro fu i hf h0 hi hs hi2
    obtain ⟨fu, rfl⟩ : ∃ z, fu = z + 1 := ⟨fu - 1, by omega⟩
    refine ⟨1, ?_, Or.inr (fun j a b => hs j a (by omega))⟩
    rw [l_r_isRising_2, if_pos (nI_le (by omega) (by omega))]
  | succ k ih =>
    intro fu i hf h0 hi hs hi2
    obtain ⟨fu, rfl⟩ : ∃ z, fu = z + 1 := ⟨fu - 1, by omega⟩
    have him : nI i - 1 = nI (i - 1) := by
      obtain ⟨z, rfl⟩ : ∃ z, i = z + 1 := ⟨i - 1, by omega⟩
      rw [nI_pred]; rfl
    rw [l_r_isRising_2, if_neg (nI_ge (by omega) (by omega)), him, if_neg (gix (by omega) hn1), if_neg (gix (by omega) hn1), nI_clamp (by omega), nI_clamp (by omega), nI_1]
    by_cases c : ra (i - 1) ≤ ra i
    · rw [if_pos c]
      refine ih fu (i + 1) (by omega) (by omega) (by omega) (fun j a b => ?_) (by omega)
      rcases Nat.lt_or_ge j i with h | h
      · exact hs j a h
      · have : j = i := by omega
        subst this; exact c
    · rw [if_neg c]
      exact ⟨0, rfl, Or.inl rfl⟩
theorem chain_le {f : Nat → Int32} {size : Nat} (h : ∀ j, 1 ≤ j → j < size → f (j - 1) ≤ f j) : ∀ k i, i + k < size → f i ≤ f (i + k)
  | 0, i, _ => Int32.le_refl _
  | k + 1, i, hk => i_tr (chain_le h k i (by omega)) (by have := h (i + (k + 1)) (by omega) hk; rwa [show i + (k + 1) - 1 = i + k by omega] at this)
/-- sortRising: the first size places in rising order, the same numbers -/
theorem sort_spec {F n1 size : Nat} (hF : 2 ^ 31 ≤ F) (hn1 : n1 < 2 ^ 31) (hs1 : size ≤ n1) (hs2 : size ≤ 4096) (ra sp : Nat → Int32) :
    ∃ ra' sp', f_r_sortRising F n1 ra sp (nI size) = some (ra', sp') ∧ (seg ra' 0 size).Pairwise (fun a b => a ≤ b) ∧ (seg ra' 0 size).Perm (seg ra 0 size) := by
  unfold f_r_sortRising
  rw [if_neg (nI_nlt hs1 hn1), if_neg (nI_nlt hs2 (by omega))]
  obtain ⟨r, e1, e2⟩ := rising_loop (F := F) (ra := ra) hn1 hs1 hs2 (size - 1) F 1 (by omega) (by omega) (by omega) (fun j a b => absurd b (by omega)) (by omega)
  have e3 : f_r_isRising F n1 ra (nI size) = some r := e1
  rw [e3]
  show ∃ ra' sp', (if r = 0 then b2 (l_r_sortRising_26 F n1 (nI size) F 1 ra sp) fun ra_5 sp_5 => some (ra_5, sp_5) else some (ra, sp)) = some (ra', sp') ∧ _
  by_cases c : r = 0
  · rw [if_pos c]
    obtain ⟨ra', sp', q1, q2, q3⟩ := sort_loop (F := F) hF hn1 hs1 hs2 12 F 1 ra sp (by omega) (by omega) (by omega) (by omega) (fun a b x y z => by
      rw [Nat.div_one, Nat.div_one] at z
      subst z; exact Int32.le_refl _)
    refine ⟨ra', sp', ?_, q2, q3⟩
    rw [show (1 : Int32) = nI 1 from rfl, q1]; rfl
  · rw [if_neg c]
    have hs := e2.resolve_left c
    refine ⟨ra, sp, rfl, idx_pair (fun i j _ h2 h3 => ?_), List.Perm.refl _⟩
    have := chain_le hs (j - i) i (by omega)
    rwa [show i + (j - i) = j by omega] at this
