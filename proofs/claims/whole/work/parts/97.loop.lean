set_option maxHeartbeats 4000000 in
set_option maxRecDepth 100000 in
theorem law_loop {p : Program} {l : Launch} {e : Env} {s : State} {m : MethodId} {below : List Frame} {meth : Method} {c : Code} {dC : Nat → ClassId} {dI : Nat → Nat → Nat} {b L : Nat} {xs : Nat → Int32} (hL : L ≤ 2560) (F : Nat) (hF : 2 ^ 31 ≤ F) (hlt : l.stackTraces = false) (C0 : lw_At p s m meth c b L xs) (cA cL : ClassId) (hK : va_K (dC, dI) vwCl [(cA, .int), (cL, .long)] s) :
    ∀ (n j : Nat), 5 * j ≤ L → L < 5 * j + n → ∀ (h0 h1 h2 h3 h4 h5 g0 g1 g2 g3 g4 qo : Nat) (nu pk dc rc : Int32) (pr ex dv rt sp : Nat → Int32) (co nn dn pn fo : Int32) (da pa ea ro : Nat → Int32) (o : Nat → Int64), rf_I nu pk dc rc pr ex dv rt nn dn pn fo da pa ea ro → ∀ (H : Heap) (locs : List Loc), va_P (dC, dI) vwCl [(h0, .inr (0, [.int nu, .int pk, .ref h1, .ref h2, .int dc, .ref h3, .int rc, .ref h4, .ref h5])), (h1, .inl (cA, 7, .inl pr)), (h2, .inl (cA, 7, .inl ex)), (h3, .inl (cA, 360, .inl dv)), (h4, .inl (cA, 4096, .inl rt)), (h5, .inl (cA, 4096, .inl sp)), (g0, .inr (1, [.int co, .int nn, .int dn, .ref g1, .int pn, .ref g2, .ref g3, .int fo, .ref g4])), (g1, .inl (cA, 400, .inl da)), (g2, .inl (cA, 8, .inl pa)), (g3, .inl (cA, 8, .inl ea)), (g4, .inl (cA, 4096, .inl ro)), (qo, .inl (cL, 1, .inr (.inl o)))] H → va_D (fun q : Nat => s.heap.size ≤ q) [(h0, .inr (0, [.int nu, .int pk, .ref h1, .ref h2, .int dc, .ref h3, .int rc, .ref h4, .ref h5])), (h1, .inl (cA, 7, .inl pr)), (h2, .inl (cA, 7, .inl ex)), (h3, .inl (cA, 360, .inl dv)), (h4, .inl (cA, 4096, .inl rt)), (h5, .inl (cA, 4096, .inl sp)), (g0, .inr (1, [.int co, .int nn, .int dn, .ref g1, .int pn, .ref g2, .ref g3, .int fo, .ref g4])), (g1, .inl (cA, 400, .inl da)), (g2, .inl (cA, 8, .inl pa)), (g3, .inl (cA, 8, .inl ea)), (g4, .inl (cA, 4096, .inl ro)), (qo, .inl (cL, 1, .inr (.inl o)))] → va_S (fun q : Nat => s.heap.size ≤ q) s.heap H locs → ∀ (ls : Array Slot) (x4 : Int32), x4 = nI (5 * j) → lv_has ls 7 [(0, .ref b), (1, .ref h0), (2, .ref g0), (3, .ref qo), (4, .int x4)] → W p l e room_1 s m #[Value.ref b] below meth c H locs (12 + j) (13097 + 6 * j) (lw_Z below #[Value.ref b] s) (F0 m 23 ls []) := by
  obtain ⟨hx, hb, hr, hml, hown, hts, hX, hbl, hlocks, hgv⟩ := id C0
  have hA : ∀ q : Nat, s.heap.size ≤ q → (fun q : Nat => s.heap.size ≤ q) q := fun _ h => h
  have hbA : ¬ (fun q : Nat => s.heap.size ≤ q) b := Nat.not_le.mpr hbl
  intro n
  induction n with
  | zero =>
    intro j h1 h2
    exact absurd h2 (by omega)
  | succ n ih =>
    intro j hj hjn h0 h1 h2 h3 h4 h5 g0 g1 g2 g3 g4 qo nu pk dc rc pr ex dv rt sp co nn dn pn fo da pa ea ro o hI H locs hP hD hS ls x4 ex4 hl
    refine lv_iload hx hb dLaw_23 (lv_at hl 4 rfl) ?_
    refine lv_aload_n hx hb dLaw_25 rfl (lv_at hl 0 rfl) ?_
    refine va_slen hx hb hX hbl hbA hS dLaw_26 ?_
    refine lv_iconst (v := 5) hx hb dLaw_27 (by decide) ?_
    refine lv_isub hx hb dLaw_28 ?_
    have hgt : (Int32.ofNat L - 5 < x4) ↔ (L : Int) - 5 < ((5 * j : Nat) : Int) := by
      rw [ex4, show Int32.ofNat L = nI L from rfl, nI_iZ, nI_iZ, show (5 : Int32) = iZ 5 from rfl, iZ_sub]
      exact iZ_lt ⟨by omega, by omega⟩ ⟨by omega, by omega⟩
    refine lv_icmp_gt (tgt := 780) hx hb dLaw_29 (by decide) (fun c1 => ?_) (fun c1 => ?_)
    · refine lv_iconst (v := 1) hx hb dLaw_780 (by decide) ?_
      refine va_forget (fun q hq => hS.2.2 q hq) ?_
      refine W.widen (k := 1044) (n := 21337) (by omega) (by omega) ?_
      exact lw_ret hx hb hr hlocks dLaw_781
    · have hle : 5 * j + 5 ≤ L := by
        rcases Nat.lt_or_ge L (5 * j + 5) with q | q
        · exact absurd (hgt.mpr (by omega)) c1
        · exact q
      have hx4 : ∀ d : Nat, d < 5 → vp_in (x4 + nI d) L := fun d hd => by
        rw [ex4, nI_add]
        exact vp_in_nI (by omega) (by omega)
      have hi0 : vp_in x4 L := by rw [ex4]; exact vp_in_nI (by omega) (by omega)
      have hi1 : vp_in (x4 + 1) L := hx4 1 (by omega)
      have hi2 : vp_in (x4 + 2) L := hx4 2 (by omega)
      have hi3 : vp_in (x4 + 3) L := hx4 3 (by omega)
      have hi4 : vp_in (x4 + 4) L := hx4 4 (by omega)
      have K : ∀ (h0 h1 h2 h3 h4 h5 g0 g1 g2 g3 g4 qo : Nat) (nu pk dc rc : Int32) (pr ex dv rt sp : Nat → Int32) (co nn dn pn fo : Int32) (da pa ea ro : Nat → Int32) (o : Nat → Int64), rf_I nu pk dc rc pr ex dv rt nn dn pn fo da pa ea ro → ∀ (H : Heap) (locs : List Loc), va_P (dC, dI) vwCl [(h0, .inr (0, [.int nu, .int pk, .ref h1, .ref h2, .int dc, .ref h3, .int rc, .ref h4, .ref h5])), (h1, .inl (cA, 7, .inl pr)), (h2, .inl (cA, 7, .inl ex)), (h3, .inl (cA, 360, .inl dv)), (h4, .inl (cA, 4096, .inl rt)), (h5, .inl (cA, 4096, .inl sp)), (g0, .inr (1, [.int co, .int nn, .int dn, .ref g1, .int pn, .ref g2, .ref g3, .int fo, .ref g4])), (g1, .inl (cA, 400, .inl da)), (g2, .inl (cA, 8, .inl pa)), (g3, .inl (cA, 8, .inl ea)), (g4, .inl (cA, 4096, .inl ro)), (qo, .inl (cL, 1, .inr (.inl o)))] H → va_D (fun q : Nat => s.heap.size ≤ q) [(h0, .inr (0, [.int nu, .int pk, .ref h1, .ref h2, .int dc, .ref h3, .int rc, .ref h4, .ref h5])), (h1, .inl (cA, 7, .inl pr)), (h2, .inl (cA, 7, .inl ex)), (h3, .inl (cA, 360, .inl dv)), (h4, .inl (cA, 4096, .inl rt)), (h5, .inl (cA, 4096, .inl sp)), (g0, .inr (1, [.int co, .int nn, .int dn, .ref g1, .int pn, .ref g2, .ref g3, .int fo, .ref g4])), (g1, .inl (cA, 400, .inl da)), (g2, .inl (cA, 8, .inl pa)), (g3, .inl (cA, 8, .inl ea)), (g4, .inl (cA, 4096, .inl ro)), (qo, .inl (cL, 1, .inr (.inl o)))] → va_S (fun q : Nat => s.heap.size ≤ q) s.heap H locs → ∀ (ls : Array Slot), lv_has ls 7 [(0, .ref b), (1, .ref h0), (2, .ref g0), (3, .ref qo), (4, .int x4)] → W p l e room_1 s m #[Value.ref b] below meth c H locs (12 + j + 1) (13097 + 6 * j + 6) (lw_Z below #[Value.ref b] s) (F0 m 774 ls []) := by
        intro h0 h1 h2 h3 h4 h5 g0 g1 g2 g3 g4 qo nu pk dc rc pr ex dv rt sp co nn dn pn fo da pa ea ro o hI H locs hP hD hS ls hl
        refine lv_iinc (v := x4 + 5) (lv' := [(4, .int (x4 + 5)), (0, .ref b), (1, .ref h0), (2, .ref g0), (3, .ref qo)]) hx hb dLaw_774 hl (k := 4) rfl rfl (by decide) rfl (fun ls hl => ?_)
        refine lv_goto (tgt := 23) hx hb dLaw_777 (by decide) ?_
        refine W.widen (k := 12 + (j + 1)) (n := 13097 + 6 * (j + 1)) (by omega) (by omega) ?_
        exact ih (j + 1) (by omega) (by omega) h0 h1 h2 h3 h4 h5 g0 g1 g2 g3 g4 qo nu pk dc rc pr ex dv rt sp co nn dn pn fo da pa ea ro o hI H locs hP hD hS ls (x4 + 5) (by rw [ex4, show (5 : Int32) = nI 5 from rfl, nI_add]; rfl) (lv_sub hl [1, 2, 3, 4, 0] rfl)
      refine lv_aload_n hx hb dLaw_32 rfl (lv_at hl 0 rfl) ?_
      refine lv_iload hx hb dLaw_33 (lv_at hl 4 rfl) ?_
      refine va_sld hx hb hX hbl hbA hS hi0 dLaw_35 ?_
      refine lv_bipush (v := 15) hx hb dLaw_36 (by decide) ?_
      refine lv_iand hx hb dLaw_38 ?_
      refine lv_topi (fun d ed => ?_)
      have hcc : 12 + j + 1 ≤ 1044 := by omega
      have hss : 13097 + 6 * j + 6 ≤ 21337 := by omega
      by_cases d0 : d = 0
      · refine lv_tableIn (tgt := 92) hx hb dLaw_39 (by rw [d0]; decide) (by rw [d0]; decide) (by rw [d0]; rfl) (by decide) ?_
        obtain ⟨nu', pk', dc', rc', pr', ex', dv', sp', o', k, bv, co', nn', dn', pn', fo', da', pa', ea', s1, s2, s3, s4, s5⟩ := step_take (F := F) hF hI sp o co (xs (x4 + 1).toNatClampNeg)
        exact lw_c0 F hlt C0 h0 h1 h2 h3 h4 h5 g0 g1 g2 g3 g4 qo cA cL hK nu pk dc rc pr ex dv rt sp co nn dn pn fo da pa ea ro o x4 _ rfl hi1 H locs hP hD hS ls hl (12 + j) (13097 + 6 * j) hcc hss nu' pk' dc' rc' pr' ex' dv' sp' o' k co' nn' dn' pn' fo' da' pa' ea' bv s1 s2 s3 s4 (fun H locs ls hP hD hS hl => K h0 h1 h2 h3 h4 h5 g0 g1 g2 g3 g4 qo nu' pk' dc' rc' pr' ex' dv' rt sp' co' nn' dn' pn' fo' da' pa' ea' ro o' s5 H locs hP hD hS ls hl)
      · skip
        by_cases d1 : d = 1
        · refine lv_tableIn (tgt := 148) hx hb dLaw_39 (by rw [d1]; decide) (by rw [d1]; decide) (by rw [d1]; rfl) (by decide) ?_
          obtain ⟨k, bv, co', o', s1, s2, s3, s4⟩ := step_r o (step_prime (F := F) hI co (xs (x4 + 1).toNatClampNeg))
          exact lw_c1 F hlt C0 h0 h1 h2 h3 h4 h5 g0 g1 g2 g3 g4 qo cA cL hK nu pk dc rc pr ex dv rt sp co nn dn pn fo da pa ea ro o x4 _ rfl hi1 H locs hP hD hS ls hl (12 + j) (13097 + 6 * j) hcc hss o' k co' bv s1 s2 s3 s4 (fun H locs ls hP hD hS hl => K h0 h1 h2 h3 h4 h5 g0 g1 g2 g3 g4 qo nu pk dc rc pr ex dv rt sp co' nn dn pn fo da pa ea ro o' hI H locs hP hD hS ls hl)
        · skip
          by_cases d2 : d = 2
          · refine lv_tableIn (tgt := 204) hx hb dLaw_39 (by rw [d2]; decide) (by rw [d2]; decide) (by rw [d2]; rfl) (by decide) ?_
            obtain ⟨k, bv, co', o', s1, s2, s3, s4⟩ := step_r o (step_exponent (F := F) hI co (xs (x4 + 1).toNatClampNeg))
            exact lw_c2 F hlt C0 h0 h1 h2 h3 h4 h5 g0 g1 g2 g3 g4 qo cA cL hK nu pk dc rc pr ex dv rt sp co nn dn pn fo da pa ea ro o x4 _ rfl hi1 H locs hP hD hS ls hl (12 + j) (13097 + 6 * j) hcc hss o' k co' bv s1 s2 s3 s4 (fun H locs ls hP hD hS hl => K h0 h1 h2 h3 h4 h5 g0 g1 g2 g3 g4 qo nu pk dc rc pr ex dv rt sp co' nn dn pn fo da pa ea ro o' hI H locs hP hD hS ls hl)
          · skip
            by_cases d3 : d = 3
            · refine lv_tableIn (tgt := 260) hx hb dLaw_39 (by rw [d3]; decide) (by rw [d3]; decide) (by rw [d3]; rfl) (by decide) ?_
              obtain ⟨k, bv, co', o', s1, s2, s3, s4⟩ := step_r o (step_divisor (F := F) hI co (xs (x4 + 1).toNatClampNeg))
              exact lw_c3 F hlt C0 h0 h1 h2 h3 h4 h5 g0 g1 g2 g3 g4 qo cA cL hK nu pk dc rc pr ex dv rt sp co nn dn pn fo da pa ea ro o x4 _ rfl hi1 H locs hP hD hS ls hl (12 + j) (13097 + 6 * j) hcc hss o' k co' bv s1 s2 s3 s4 (fun H locs ls hP hD hS hl => K h0 h1 h2 h3 h4 h5 g0 g1 g2 g3 g4 qo nu pk dc rc pr ex dv rt sp co' nn dn pn fo da pa ea ro o' hI H locs hP hD hS ls hl)
            · skip
              by_cases d4 : d = 4
              · refine lv_tableIn (tgt := 316) hx hb dLaw_39 (by rw [d4]; decide) (by rw [d4]; decide) (by rw [d4]; rfl) (by decide) ?_
                obtain ⟨r1, s1, s2⟩ := step_count (F := F) hF hI co (xs (x4 + 1).toNatClampNeg)
                exact lw_c4 F hlt C0 h0 h1 h2 h3 h4 h5 g0 g1 g2 g3 g4 qo cA cL hK nu pk dc rc pr ex dv rt sp co nn dn pn fo da pa ea ro o x4 _ rfl hi1 H locs hP hD hS ls hl (12 + j) (13097 + 6 * j) hcc hss 0 r1 s1 s2 (fun H locs ls hP hD hS hl => K h0 h1 h2 h3 h4 h5 g0 g1 g2 g3 g4 qo nu pk dc rc pr ex dv rt sp 0 nn dn pn fo da pa ea ro o hI H locs hP hD hS ls hl)
              · skip
                by_cases d5 : d = 5
                · refine lv_tableIn (tgt := 341) hx hb dLaw_39 (by rw [d5]; decide) (by rw [d5]; decide) (by rw [d5]; rfl) (by decide) ?_
                  obtain ⟨k, bv, co', o', s1, s2, s3, s4⟩ := step_r o (step_kronecker (F := F) hF co (((Int32.toInt64 (xs (x4 + 1).toNatClampNeg)) <<< (Int32.toInt64 (32 : Int32) &&& 63)) ||| ((Int32.toInt64 (xs (x4 + 2).toNatClampNeg)) &&& 4294967295)) (xs (x4 + 3).toNatClampNeg))
                  exact lw_c5 F hlt C0 h0 h1 h2 h3 h4 h5 g0 g1 g2 g3 g4 qo cA cL hK nu pk dc rc pr ex dv rt sp co nn dn pn fo da pa ea ro o x4 _ rfl hi1 _ rfl hi2 _ rfl hi3 H locs hP hD hS ls hl (12 + j) (13097 + 6 * j) hcc hss o' k co' bv s1 s2 s3 s4 (fun H locs ls hP hD hS hl => K h0 h1 h2 h3 h4 h5 g0 g1 g2 g3 g4 qo nu pk dc rc pr ex dv rt sp co' nn dn pn fo da pa ea ro o' hI H locs hP hD hS ls hl)
                · skip
                  by_cases d6 : d = 6
                  · refine lv_tableIn (tgt := 441) hx hb dLaw_39 (by rw [d6]; decide) (by rw [d6]; decide) (by rw [d6]; rfl) (by decide) ?_
                    obtain ⟨k, bv, co', o', s1, s2, s3, s4⟩ := step_r o (step_power (F := F) hF hI co (((Int32.toInt64 (xs (x4 + 1).toNatClampNeg)) <<< (Int32.toInt64 (32 : Int32) &&& 63)) ||| ((Int32.toInt64 (xs (x4 + 2).toNatClampNeg)) &&& 4294967295)) (((Int32.toInt64 (xs (x4 + 3).toNatClampNeg)) <<< (Int32.toInt64 (32 : Int32) &&& 63)) ||| ((Int32.toInt64 (xs (x4 + 4).toNatClampNeg)) &&& 4294967295)))
                    exact lw_c6 F hlt C0 h0 h1 h2 h3 h4 h5 g0 g1 g2 g3 g4 qo cA cL hK nu pk dc rc pr ex dv rt sp co nn dn pn fo da pa ea ro o x4 _ rfl hi1 _ rfl hi2 _ rfl hi3 _ rfl hi4 H locs hP hD hS ls hl (12 + j) (13097 + 6 * j) hcc hss o' k co' bv s1 s2 s3 s4 (fun H locs ls hP hD hS hl => K h0 h1 h2 h3 h4 h5 g0 g1 g2 g3 g4 qo nu pk dc rc pr ex dv rt sp co' nn dn pn fo da pa ea ro o' hI H locs hP hD hS ls hl)
                  · skip
                    by_cases d7 : d = 7
                    · refine lv_tableIn (tgt := 573) hx hb dLaw_39 (by rw [d7]; decide) (by rw [d7]; decide) (by rw [d7]; rfl) (by decide) ?_
                      obtain ⟨k, bv, co', o', s1, s2, s3, s4⟩ := step_r o (step_inverse (F := F) hF hI co (((Int32.toInt64 (xs (x4 + 1).toNatClampNeg)) <<< (Int32.toInt64 (32 : Int32) &&& 63)) ||| ((Int32.toInt64 (xs (x4 + 2).toNatClampNeg)) &&& 4294967295)))
                      exact lw_c7 F hlt C0 h0 h1 h2 h3 h4 h5 g0 g1 g2 g3 g4 qo cA cL hK nu pk dc rc pr ex dv rt sp co nn dn pn fo da pa ea ro o x4 _ rfl hi1 _ rfl hi2 H locs hP hD hS ls hl (12 + j) (13097 + 6 * j) hcc hss o' k co' bv s1 s2 s3 s4 (fun H locs ls hP hD hS hl => K h0 h1 h2 h3 h4 h5 g0 g1 g2 g3 g4 qo nu pk dc rc pr ex dv rt sp co' nn dn pn fo da pa ea ro o' hI H locs hP hD hS ls hl)
                    · skip
                      by_cases d8 : d = 8
                      · refine lv_tableIn (tgt := 661) hx hb dLaw_39 (by rw [d8]; decide) (by rw [d8]; decide) (by rw [d8]; rfl) (by decide) ?_
                        obtain ⟨r1, rt', sp', ro', s1, s2, s5⟩ := step_roots (F := F) hF hI sp co (((Int32.toInt64 (xs (x4 + 1).toNatClampNeg)) <<< (Int32.toInt64 (32 : Int32) &&& 63)) ||| ((Int32.toInt64 (xs (x4 + 2).toNatClampNeg)) &&& 4294967295))
                        exact lw_c8 F hlt C0 h0 h1 h2 h3 h4 h5 g0 g1 g2 g3 g4 qo cA cL hK nu pk dc rc pr ex dv rt sp co nn dn pn fo da pa ea ro o x4 _ rfl hi1 _ rfl hi2 H locs hP hD hS ls hl (12 + j) (13097 + 6 * j) hcc hss r1 rt' sp' 0 r1 ro' r1 s1 s2 (fun h4' h5' H locs ls hP hD hS hl => K h0 h1 h2 h3 h4' h5' g0 g1 g2 g3 g4 qo nu pk dc r1 pr ex dv rt' sp' 0 nn dn pn r1 da pa ea ro' o s5 H locs hP hD hS ls hl)
                      · skip
                        by_cases d9 : d = 9
                        · refine lv_tableIn (tgt := 718) hx hb dLaw_39 (by rw [d9]; decide) (by rw [d9]; decide) (by rw [d9]; rfl) (by decide) ?_
                          obtain ⟨k, bv, co', o', s1, s2, s3, s4⟩ := step_r o (step_root (F := F) hI co (xs (x4 + 1).toNatClampNeg))
                          exact lw_c9 F hlt C0 h0 h1 h2 h3 h4 h5 g0 g1 g2 g3 g4 qo cA cL hK nu pk dc rc pr ex dv rt sp co nn dn pn fo da pa ea ro o x4 _ rfl hi1 H locs hP hD hS ls hl (12 + j) (13097 + 6 * j) hcc hss o' k co' bv s1 s2 s3 s4 (fun H locs ls hP hD hS hl => K h0 h1 h2 h3 h4 h5 g0 g1 g2 g3 g4 qo nu pk dc rc pr ex dv rt sp co' nn dn pn fo da pa ea ro o' hI H locs hP hD hS ls hl)
                        · skip
                          refine lv_tableOut (tgt := 774) hx hb dLaw_39 (rf_swout9 d0 d1 d2 d3 d4 d5 d6 d7 d8 d9) (by decide) ?_
                          refine W.widen (k := 12 + j + 1) (n := 13097 + 6 * j + 6) (Nat.le_add_right _ _) (Nat.le_add_right _ _) ?_
                          exact K h0 h1 h2 h3 h4 h5 g0 g1 g2 g3 g4 qo nu pk dc rc pr ex dv rt sp co nn dn pn fo da pa ea ro o hI H locs hP hD hS ls hl
