def l_r_raise_24 (F : Nat) (x4 : Int32) : Nat → Int64 → Int64 → Int64 → Int32 → Option (Int64)
  | 0, _, _, _, _ => none
  | n + 1, x5, x7, x9, x11 => if 63 ≤ x11 then some x5 else if x9 ≤ 0 then some x5 else if (lrm x9 2) = 1 then b1 (f_r_residue F (x5 * x7) x4) fun r5 => b1 (f_r_residue F (x7 * x7) x4) fun r6 => l_r_raise_24 F x4 n (Int32.toInt64 r5) (Int32.toInt64 r6) (x9 / 2) (x11 + 1) else b1 (f_r_residue F (x7 * x7) x4) fun r4 => l_r_raise_24 F x4 n x5 (Int32.toInt64 r4) (x9 / 2) (x11 + 1)
set_option maxHeartbeats 4000000 in
set_option maxRecDepth 100000 in
theorem w_r_raise_24 {p : Program} {l : Launch} {e : Env} {s : State} {m : MethodId} {args : Array Value} {below : List Frame} {meth : Method} {c : Code} {A : Nat → Prop} {Q : State → Prop} {dC : Nat → ClassId} {dI : Nat → Nat → Nat} (F : Nat) (hx : p.tables.exec = Jvm.exec) (hb : c.code = cX0_raise) (hml : c.maxLocals = 12) (hown : s.vm.findClass RX0 = some m.cls) (hts : ∀ w ∈ wsX0_raise, w.before args s = true) (hA : ∀ q, s.heap.size ≤ q → A q)  (hK : va_K (dC, dI) vwCl [] s) (x4 : Int32) :
    ∀ (n : Nat) (x5 x7 x9 : Int64) (x11 : Int32) (x5' : Int64), l_r_raise_24 F x4 n x5 x7 x9 x11 = some x5' → ∀ (H : Heap) (locs : List Loc), va_P (dC, dI) vwCl [] H → va_D A [] → va_S A s.heap H locs → ∀ ls : Array Slot, lv_has ls 12 [(4, .int x4), (5, .long x5), (7, .long x7), (9, .long x9), (11, .int x11)] → (∀ (H : Heap) (locs : List Loc) (ls : Array Slot), va_P (dC, dI) vwCl [] H → va_D A [] → va_S A s.heap H locs → lv_has ls 12 [(5, .long x5')] → W p l e { frames := 1, cells := 0, slots := 0, locals := 24 } s m args below meth c H locs 0 0 Q (F0 m 89 ls [])) → W p l e { frames := 1, cells := 0, slots := 0, locals := 24 } s m args below meth c H locs 0 0 Q (F0 m 24 ls []) := by
  intro n
  induction n with
  | zero => intro x5 x7 x9 x11 x5' h; exact nomatch (show (none : Option _) = some _ from h)
  | succ n ih =>
    intro x5 x7 x9 x11 x5' h H locs hP hD hS ls hl K
    rw [l_r_raise_24] at h
    refine lv_iload hx hb dX0_raise_24 (lv_at hl 4 rfl) ?_
    refine lv_bipush (v := 63) hx hb dX0_raise_26 (by decide) ?_
    refine lv_icmp_ge (tgt := 89) hx hb dX0_raise_28 (by decide) (fun c1 => ?_) (fun c1 => ?_)
    · rw [if_pos c1] at h
      cases h
      exact K _ _ _ hP hD hS (lv_sub hl [1] rfl)
    · rw [if_neg c1] at h
      refine lv_lload hx hb dX0_raise_31 (lv_at hl 3 rfl) ?_
      refine lv_lconst (v := 0) hx hb dX0_raise_33 (by decide) ?_
      refine W.lcmp hx hb dX0_raise_34 ?_
      refine lv_if_le (tgt := 89) hx hb dX0_raise_35 (by decide) (fun c2 => ?_) (fun c2 => ?_)
      · rw [lg_cmp_le] at c2
        rw [if_pos c2] at h
        cases h
        exact K _ _ _ hP hD hS (lv_sub hl [1] rfl)
      · rw [lg_cmp_le] at c2
        rw [if_neg c2] at h
        refine lv_lload hx hb dX0_raise_38 (lv_at hl 3 rfl) ?_
        refine lv_ldc2 (v := 2) hx hb hown (hts _ (List.mem_of_getElem? (i := 5) rfl)) dX0_raise_40 ?_
        refine lv_lrem hx hb dX0_raise_43 (by decide) ?_
        refine lv_lconst (v := 1) hx hb dX0_raise_44 (by decide) ?_
        refine W.lcmp hx hb dX0_raise_45 ?_
        refine lv_if_ne (tgt := 62) hx hb dX0_raise_46 (by decide) (fun c3 => ?_) (fun c3 => ?_)
        · rw [lg_cmp_eq] at c3
          rw [if_neg c3] at h
          refine lv_lload hx hb dX0_raise_62 (lv_at hl 2 rfl) ?_
          refine lv_lload hx hb dX0_raise_64 (lv_at hl 2 rfl) ?_
          refine lv_lmul hx hb dX0_raise_66 ?_
          refine lv_iload hx hb dX0_raise_67 (lv_at hl 0 rfl) ?_
          obtain ⟨r4, hr4, h⟩ := rf_b1 h
          refine rf_ci (wn := (fun _ : Unit => [])) (wc := []) (wr := []) hP hD hS hA [] [] rfl rfl (by decide) (by decide) (va_runS (As := [.long (x7 * x7), .int x4]) (rest := []) ⟨hx, hb, hml, hown, hts⟩ (c_r_residue l dC dI _ F (x7 * x7) x4 r4 hr4) (va_cwS 2 hts gX0_raise_X0_residue rfl rfl rfl (by decide +kernel) ⟨Nat.le_of_ble_eq_true rfl, Nat.le_of_ble_eq_true rfl⟩) ⟨rf_blind, fun U hU hW => ⟨rfl, rf_pre (hP.sub (ws' := []) [] rfl) (hK.sub (tys' := []) [] rfl) (hD.sub (ws' := []) [] (by decide) rfl) U hU hW⟩⟩ rfl rfl hl.1 rfl (lv_room (Nat.le_of_ble_eq_true rfl)) dX0_raise_69 ⟨Nat.zero_le _, Nat.zero_le _⟩) (fun r4' u H locs hw hP hD hS => ?_)
          subst hw
          have hP : va_P (dC, dI) vwCl [] H := hP
          have hD : va_D A [] := hD
          refine lv_i2l (v := (Int32.toInt64 r4)) hx hb dX0_raise_72 rfl ?_
          refine lv_lstore (lv' := [(7, .long (Int32.toInt64 r4)), (4, .int x4), (5, .long x5), (9, .long x9), (11, .int x11)]) hx hb dX0_raise_73 hl (by decide) rfl (fun ls hl => ?_)
          refine lv_lload hx hb dX0_raise_75 (lv_at hl 3 rfl) ?_
          refine lv_ldc2 (v := 2) hx hb hown (hts _ (List.mem_of_getElem? (i := 5) rfl)) dX0_raise_77 ?_
          refine lv_ldiv hx hb dX0_raise_80 (by decide) ?_
          refine lv_lstore (lv' := [(9, .long (x9 / 2)), (7, .long (Int32.toInt64 r4)), (4, .int x4), (5, .long x5), (11, .int x11)]) hx hb dX0_raise_81 hl (by decide) rfl (fun ls hl => ?_)
          refine lv_iinc (v := (x11 + 1)) (lv' := [(11, .int (x11 + 1)), (9, .long (x9 / 2)), (7, .long (Int32.toInt64 r4)), (4, .int x4), (5, .long x5)]) hx hb dX0_raise_83 hl (k := 4) rfl rfl (by decide) rfl (fun ls hl => ?_)
          refine lv_goto (tgt := 24) hx hb dX0_raise_86 (by decide) ?_
          exact ih x5 (Int32.toInt64 r4) (x9 / 2) (x11 + 1) x5' h _ _ hP hD hS _ (lv_sub hl [3, 4, 2, 1, 0] rfl) K
        · rw [lg_cmp_eq] at c3
          rw [if_pos c3] at h
          refine lv_lload hx hb dX0_raise_49 (lv_at hl 1 rfl) ?_
          refine lv_lload hx hb dX0_raise_51 (lv_at hl 2 rfl) ?_
          refine lv_lmul hx hb dX0_raise_53 ?_
          refine lv_iload hx hb dX0_raise_54 (lv_at hl 0 rfl) ?_
          obtain ⟨r5, hr5, h⟩ := rf_b1 h
          refine rf_ci (wn := (fun _ : Unit => [])) (wc := []) (wr := []) hP hD hS hA [] [] rfl rfl (by decide) (by decide) (va_runS (As := [.long (x5 * x7), .int x4]) (rest := []) ⟨hx, hb, hml, hown, hts⟩ (c_r_residue l dC dI _ F (x5 * x7) x4 r5 hr5) (va_cwS 2 hts gX0_raise_X0_residue rfl rfl rfl (by decide +kernel) ⟨Nat.le_of_ble_eq_true rfl, Nat.le_of_ble_eq_true rfl⟩) ⟨rf_blind, fun U hU hW => ⟨rfl, rf_pre (hP.sub (ws' := []) [] rfl) (hK.sub (tys' := []) [] rfl) (hD.sub (ws' := []) [] (by decide) rfl) U hU hW⟩⟩ rfl rfl hl.1 rfl (lv_room (Nat.le_of_ble_eq_true rfl)) dX0_raise_56 ⟨Nat.zero_le _, Nat.zero_le _⟩) (fun r5' u H locs hw hP hD hS => ?_)
          subst hw
          have hP : va_P (dC, dI) vwCl [] H := hP
          have hD : va_D A [] := hD
          refine lv_i2l (v := (Int32.toInt64 r5)) hx hb dX0_raise_59 rfl ?_
          refine lv_lstore (lv' := [(5, .long (Int32.toInt64 r5)), (4, .int x4), (7, .long x7), (9, .long x9), (11, .int x11)]) hx hb dX0_raise_60 hl (by decide) rfl (fun ls hl => ?_)
          refine lv_lload hx hb dX0_raise_62 (lv_at hl 2 rfl) ?_
          refine lv_lload hx hb dX0_raise_64 (lv_at hl 2 rfl) ?_
          refine lv_lmul hx hb dX0_raise_66 ?_
          refine lv_iload hx hb dX0_raise_67 (lv_at hl 1 rfl) ?_
          obtain ⟨r6, hr6, h⟩ := rf_b1 h
          refine rf_ci (wn := (fun _ : Unit => [])) (wc := []) (wr := []) hP hD hS hA [] [] rfl rfl (by decide) (by decide) (va_runS (As := [.long (x7 * x7), .int x4]) (rest := []) ⟨hx, hb, hml, hown, hts⟩ (c_r_residue l dC dI _ F (x7 * x7) x4 r6 hr6) (va_cwS 2 hts gX0_raise_X0_residue rfl rfl rfl (by decide +kernel) ⟨Nat.le_of_ble_eq_true rfl, Nat.le_of_ble_eq_true rfl⟩) ⟨rf_blind, fun U hU hW => ⟨rfl, rf_pre (hP.sub (ws' := []) [] rfl) (hK.sub (tys' := []) [] rfl) (hD.sub (ws' := []) [] (by decide) rfl) U hU hW⟩⟩ rfl rfl hl.1 rfl (lv_room (Nat.le_of_ble_eq_true rfl)) dX0_raise_69 ⟨Nat.zero_le _, Nat.zero_le _⟩) (fun r6' u H locs hw hP hD hS => ?_)
          subst hw
          have hP : va_P (dC, dI) vwCl [] H := hP
          have hD : va_D A [] := hD
          refine lv_i2l (v := (Int32.toInt64 r6)) hx hb dX0_raise_72 rfl ?_
          refine lv_lstore (lv' := [(7, .long (Int32.toInt64 r6)), (5, .long (Int32.toInt64 r5)), (4, .int x4), (9, .long x9), (11, .int x11)]) hx hb dX0_raise_73 hl (by decide) rfl (fun ls hl => ?_)
          refine lv_lload hx hb dX0_raise_75 (lv_at hl 3 rfl) ?_
          refine lv_ldc2 (v := 2) hx hb hown (hts _ (List.mem_of_getElem? (i := 5) rfl)) dX0_raise_77 ?_
          refine lv_ldiv hx hb dX0_raise_80 (by decide) ?_
          refine lv_lstore (lv' := [(9, .long (x9 / 2)), (7, .long (Int32.toInt64 r6)), (5, .long (Int32.toInt64 r5)), (4, .int x4), (11, .int x11)]) hx hb dX0_raise_81 hl (by decide) rfl (fun ls hl => ?_)
          refine lv_iinc (v := (x11 + 1)) (lv' := [(11, .int (x11 + 1)), (9, .long (x9 / 2)), (7, .long (Int32.toInt64 r6)), (5, .long (Int32.toInt64 r5)), (4, .int x4)]) hx hb dX0_raise_83 hl (k := 4) rfl rfl (by decide) rfl (fun ls hl => ?_)
          refine lv_goto (tgt := 24) hx hb dX0_raise_86 (by decide) ?_
          exact ih (Int32.toInt64 r5) (Int32.toInt64 r6) (x9 / 2) (x11 + 1) x5' h _ _ hP hD hS _ (lv_sub hl [4, 3, 2, 1, 0] rfl) K
def f_r_raise (F : Nat) (p0 p1 : Int64) (p2 : Int32) : Option (Int32) := b1 (f_r_residue F 1 p2) fun r1 => b1 (f_r_residue F p0 p2) fun r2 => b1 (l_r_raise_24 F p2 F (Int32.toInt64 r1) (Int32.toInt64 r2) p1 0) fun x5_3 => some (Int64.toInt32 x5_3)
set_option maxHeartbeats 4000000 in
set_option maxRecDepth 100000 in
theorem c_r_raise (l : Launch) (dC : Nat → ClassId) (dI : Nat → Nat → Nat) (sz F : Nat)  (p0 p1 : Int64) (p2 rv : Int32) (h : f_r_raise F p0 p1 p2 = some rv) : Met l yX0_raise wsX0_raise { frames := 1, cells := 0, slots := 0, locals := 24 } (rf_Pc (dC, dI) [] [] sz [.long p0, .long p1, .int p2]) (va_Qi (fun (r : Int32) (_ : Unit) => rv = r) (fun (_ : Unit) t => va_P (dC, dI) vwCl [] t.heap ∧ va_D (va_A [] sz) []) (va_A [] sz)) 0 0 (va_A [] sz) := by
  refine Met.ofW (cc := cX0_raise) (maxL := 12) (ret := (some .int)) (by decide) rfl ?_
  intro p e s m args below meth c s₁ B hml hv
  obtain ⟨rfl, hsz, hP, hK, hD0⟩ := hv
  have hx := B.exec
  have hb := B.bytes
  have hr := B.returns
  have hts := atoms_spec (ws := wsX0_raise) B.pre
  have hown : s.vm.findClass RX0 = some m.cls := findClass_of_methodNamed B.named
  have hlocks := B.notSynchronized
  subst hsz
  have hD := hD0.self (sz := s.heap.size)
  generalize hAe : va_A [] s.heap.size = A at hD ⊢
  have hA : ∀ q : Nat, s.heap.size ≤ q → A q := fun q h => by rw [← hAe]; exact Or.inr h
  have hS : va_S A s.heap s.heap [] := va_S.rf
  have hl := lv_entry ([.long p0, .long p1, .int p2]) (n := 12) (Nat.le_of_ble_eq_true rfl)
  rw [lg_entry_eq]
  generalize (lg_sl ([.long p0, .long p1, .int p2]) ++ List.replicate (12 - (lg_sl ([.long p0, .long p1, .int p2])).length) Slot.unset).toArray = ls at hl ⊢
  have hl : lv_has ls 12 [(0, .long p0), (2, .long p1), (4, .int p2)] := hl
  unfold f_r_raise at h
  refine lv_lconst (v := 1) hx hb dX0_raise_0 (by decide) ?_
  refine lv_iload hx hb dX0_raise_1 (lv_at hl 2 rfl) ?_
  obtain ⟨r1, hr1, h⟩ := rf_b1 h
  refine rf_ci (wn := (fun _ : Unit => [])) (wc := []) (wr := []) hP hD hS hA [] [] rfl rfl (by decide) (by decide) (va_runS (As := [.long 1, .int p2]) (rest := []) ⟨hx, hb, hml, hown, hts⟩ (c_r_residue l dC dI _ F 1 p2 r1 hr1) (va_cwS 2 hts gX0_raise_X0_residue rfl rfl rfl (by decide +kernel) ⟨Nat.le_of_ble_eq_true rfl, Nat.le_of_ble_eq_true rfl⟩) ⟨rf_blind, fun U hU hW => ⟨rfl, rf_pre (hP.sub (ws' := []) [] rfl) (hK.sub (tys' := []) [] rfl) (hD.sub (ws' := []) [] (by decide) rfl) U hU hW⟩⟩ rfl rfl hl.1 rfl (lv_room (Nat.le_of_ble_eq_true rfl)) dX0_raise_3 ⟨Nat.zero_le _, Nat.zero_le _⟩) (fun r1' u H locs hw hP hD hS => ?_)
  subst hw
  have hP : va_P (dC, dI) vwCl [] H := hP
  have hD : va_D A [] := hD
  refine lv_i2l (v := (Int32.toInt64 r1)) hx hb dX0_raise_6 rfl ?_
  refine lv_lstore (lv' := [(5, .long (Int32.toInt64 r1)), (0, .long p0), (2, .long p1), (4, .int p2)]) hx hb dX0_raise_7 hl (by decide) rfl (fun ls hl => ?_)
  refine lv_lload_n hx hb dX0_raise_9 rfl (lv_at hl 1 rfl) ?_
  refine lv_iload hx hb dX0_raise_10 (lv_at hl 3 rfl) ?_
  obtain ⟨r2, hr2, h⟩ := rf_b1 h
  refine rf_ci (wn := (fun _ : Unit => [])) (wc := []) (wr := []) hP hD hS hA [] [] rfl rfl (by decide) (by decide) (va_runS (As := [.long p0, .int p2]) (rest := []) ⟨hx, hb, hml, hown, hts⟩ (c_r_residue l dC dI _ F p0 p2 r2 hr2) (va_cwS 2 hts gX0_raise_X0_residue rfl rfl rfl (by decide +kernel) ⟨Nat.le_of_ble_eq_true rfl, Nat.le_of_ble_eq_true rfl⟩) ⟨rf_blind, fun U hU hW => ⟨rfl, rf_pre (hP.sub (ws' := []) [] rfl) (hK.sub (tys' := []) [] rfl) (hD.sub (ws' := []) [] (by decide) rfl) U hU hW⟩⟩ rfl rfl hl.1 rfl (lv_room (Nat.le_of_ble_eq_true rfl)) dX0_raise_12 ⟨Nat.zero_le _, Nat.zero_le _⟩) (fun r2' u H locs hw hP hD hS => ?_)
  subst hw
  have hP : va_P (dC, dI) vwCl [] H := hP
  have hD : va_D A [] := hD
  refine lv_i2l (v := (Int32.toInt64 r2)) hx hb dX0_raise_15 rfl ?_
  refine lv_lstore (lv' := [(7, .long (Int32.toInt64 r2)), (5, .long (Int32.toInt64 r1)), (0, .long p0), (2, .long p1), (4, .int p2)]) hx hb dX0_raise_16 hl (by decide) rfl (fun ls hl => ?_)
  refine lv_lload_n hx hb dX0_raise_18 rfl (lv_at hl 3 rfl) ?_
  refine lv_lstore (lv' := [(9, .long p1), (7, .long (Int32.toInt64 r2)), (5, .long (Int32.toInt64 r1)), (0, .long p0), (2, .long p1), (4, .int p2)]) hx hb dX0_raise_19 hl (by decide) rfl (fun ls hl => ?_)
  refine lv_iconst (v := 0) hx hb dX0_raise_21 (by decide) ?_
  refine lv_istore (lv' := [(11, .int 0), (9, .long p1), (7, .long (Int32.toInt64 r2)), (5, .long (Int32.toInt64 r1)), (0, .long p0), (2, .long p1), (4, .int p2)]) hx hb dX0_raise_22 hl (by decide) rfl (fun ls hl => ?_)
  obtain ⟨x5_3, hr3, h⟩ := rf_b1 h
  refine w_r_raise_24 F hx hb hml hown hts hA hK p2 F (Int32.toInt64 r1) (Int32.toInt64 r2) p1 0 x5_3 hr3 _ _ hP hD hS _ (lv_sub hl [6, 3, 2, 1, 0] rfl) (fun H locs ls hP hD hS hl => ?_)
  refine lv_lload hx hb dX0_raise_89 (lv_at hl 0 rfl) ?_
  refine lv_l2i (v := (Int64.toInt32 x5_3)) hx hb dX0_raise_91 rfl ?_
  cases h
  exact W.iret hx hb hr (fun t ht hW => ⟨⟨_, (), rfl, rfl, by rw [ht]; exact hP, hD⟩, hS.F ht⟩) hS.2.2 dX0_raise_92
def f_r_power (F : Nat) (nu : Int32) (p0 p1 : Int64) : Option (Option (Int32)) := if 0 ≤ p1 then sm (b1 (f_r_raise F p0 p1 nu) fun r2 => some r2) else some none
set_option maxHeartbeats 4000000 in
set_option maxRecDepth 100000 in
theorem c_r_power (l : Launch) (dC : Nat → ClassId) (dI : Nat → Nat → Nat) (sz F : Nat) (h0 h1 h2 h3 h4 h5 : Nat) (cA : ClassId) (nu pk dc rc : Int32) (pr ex dv rt sp : Nat → Int32) (p0 p1 : Int64) (rv : Int32) (h : f_r_power F nu p0 p1 = some (some rv)) : Met l yX0_power wsX0_power { frames := 2, cells := 0, slots := 0, locals := 55 } (rf_Pc (dC, dI) [(cA, .int)] [(h0, .inr (0, [.int nu, .int pk, .ref h1, .ref h2, .int dc, .ref h3, .int rc, .ref h4, .ref h5])), (h1, .inl (cA, 7, .inl pr)), (h2, .inl (cA, 7, .inl ex)), (h3, .inl (cA, 360, .inl dv)), (h4, .inl (cA, 4096, .inl rt)), (h5, .inl (cA, 4096, .inl sp))] sz [.ref h0, .long p0, .long p1]) (va_Qi (fun (r : Int32) (_ : Unit) => rv = r) (fun (_ : Unit) t => va_P (dC, dI) vwCl [(h0, .inr (0, [.int nu, .int pk, .ref h1, .ref h2, .int dc, .ref h3, .int rc, .ref h4, .ref h5])), (h1, .inl (cA, 7, .inl pr)), (h2, .inl (cA, 7, .inl ex)), (h3, .inl (cA, 360, .inl dv)), (h4, .inl (cA, 4096, .inl rt)), (h5, .inl (cA, 4096, .inl sp))] t.heap ∧ va_D (va_A [(h0, .inr (0, [.int nu, .int pk, .ref h1, .ref h2, .int dc, .ref h3, .int rc, .ref h4, .ref h5])), (h1, .inl (cA, 7, .inl pr)), (h2, .inl (cA, 7, .inl ex)), (h3, .inl (cA, 360, .inl dv)), (h4, .inl (cA, 4096, .inl rt)), (h5, .inl (cA, 4096, .inl sp))] sz) [(h0, .inr (0, [.int nu, .int pk, .ref h1, .ref h2, .int dc, .ref h3, .int rc, .ref h4, .ref h5])), (h1, .inl (cA, 7, .inl pr)), (h2, .inl (cA, 7, .inl ex)), (h3, .inl (cA, 360, .inl dv)), (h4, .inl (cA, 4096, .inl rt)), (h5, .inl (cA, 4096, .inl sp))]) (va_A [(h0, .inr (0, [.int nu, .int pk, .ref h1, .ref h2, .int dc, .ref h3, .int rc, .ref h4, .ref h5])), (h1, .inl (cA, 7, .inl pr)), (h2, .inl (cA, 7, .inl ex)), (h3, .inl (cA, 360, .inl dv)), (h4, .inl (cA, 4096, .inl rt)), (h5, .inl (cA, 4096, .inl sp))] sz)) 0 0 (va_A [(h0, .inr (0, [.int nu, .int pk, .ref h1, .ref h2, .int dc, .ref h3, .int rc, .ref h4, .ref h5])), (h1, .inl (cA, 7, .inl pr)), (h2, .inl (cA, 7, .inl ex)), (h3, .inl (cA, 360, .inl dv)), (h4, .inl (cA, 4096, .inl rt)), (h5, .inl (cA, 4096, .inl sp))] sz) := by
  refine Met.ofW (cc := cX0_power) (maxL := 5) (ret := (some .int)) (by decide) rfl ?_
  intro p e s m args below meth c s₁ B hml hv
  obtain ⟨rfl, hsz, hP, hK, hD0⟩ := hv
  have hx := B.exec
  have hb := B.bytes
  have hr := B.returns
  have hts := atoms_spec (ws := wsX0_power) B.pre
  have hown : s.vm.findClass RX0 = some m.cls := findClass_of_methodNamed B.named
  have hlocks := B.notSynchronized
  subst hsz
  have hD := hD0.self (sz := s.heap.size)
  generalize hAe : va_A [(h0, .inr (0, [.int nu, .int pk, .ref h1, .ref h2, .int dc, .ref h3, .int rc, .ref h4, .ref h5])), (h1, .inl (cA, 7, .inl pr)), (h2, .inl (cA, 7, .inl ex)), (h3, .inl (cA, 360, .inl dv)), (h4, .inl (cA, 4096, .inl rt)), (h5, .inl (cA, 4096, .inl sp))] s.heap.size = A at hD ⊢
  have hA : ∀ q : Nat, s.heap.size ≤ q → A q := fun q h => by rw [← hAe]; exact Or.inr h
  have hS : va_S A s.heap s.heap [] := va_S.rf
  have hl := lv_entry ([.ref h0, .long p0, .long p1]) (n := 5) (Nat.le_of_ble_eq_true rfl)
  rw [lg_entry_eq]
  generalize (lg_sl ([.ref h0, .long p0, .long p1]) ++ List.replicate (5 - (lg_sl ([.ref h0, .long p0, .long p1])).length) Slot.unset).toArray = ls at hl ⊢
  have hl : lv_has ls 5 [(0, .ref h0), (1, .long p0), (3, .long p1)] := hl
  unfold f_r_power at h
  refine lv_lload_n hx hb dX0_power_0 rfl (lv_at hl 2 rfl) ?_
  refine lv_lconst (v := 0) hx hb dX0_power_1 (by decide) ?_
  refine W.lcmp hx hb dX0_power_2 ?_
  refine lv_if_ge (tgt := 16) hx hb dX0_power_3 (by decide) (fun c1 => ?_) (fun c1 => ?_)
  · rw [lg_cmp_ge] at c1
    rw [if_pos c1] at h
    have h := rf_sm h
    refine lv_lload_n hx hb dX0_power_16 rfl (lv_at hl 1 rfl) ?_
    refine lv_lload_n hx hb dX0_power_17 rfl (lv_at hl 2 rfl) ?_
    refine lv_aload_n hx hb dX0_power_18 rfl (lv_at hl 0 rfl) ?_
    refine va_get (D := (dC, dI)) (ci := 0) (v := .int nu) (C := RX0) (T := TX0) (N := 9) hx hb hts (fun _ h => List.mem_cons_of_mem _ (List.mem_append_right _ h)) hown hK hP 0 rfl rfl 0 (by decide) (hts _ (List.mem_of_getElem? (i := 1) rfl)) (fun _ h9 => h9) rfl dX0_power_19 ?_
    obtain ⟨r2, hr2, h⟩ := rf_b1 h
    refine rf_ci (wn := (fun _ : Unit => [])) (wc := []) (wr := [(h0, .inr (0, [.int nu, .int pk, .ref h1, .ref h2, .int dc, .ref h3, .int rc, .ref h4, .ref h5])), (h1, .inl (cA, 7, .inl pr)), (h2, .inl (cA, 7, .inl ex)), (h3, .inl (cA, 360, .inl dv)), (h4, .inl (cA, 4096, .inl rt)), (h5, .inl (cA, 4096, .inl sp))]) hP hD hS hA [] [0, 1, 2, 3, 4, 5] rfl rfl (by decide) (by decide) (va_runS (As := [.long p0, .long p1, .int nu]) (rest := []) ⟨hx, hb, hml, hown, hts⟩ (c_r_raise l dC dI _ F p0 p1 nu r2 hr2) (va_cwS 3 hts gX0_power_X0_raise rfl rfl rfl (by decide +kernel) ⟨Nat.le_of_ble_eq_true rfl, Nat.le_of_ble_eq_true rfl⟩) ⟨rf_blind, fun U hU hW => ⟨rfl, rf_pre (hP.sub (ws' := []) [] rfl) (hK.sub (tys' := []) [] rfl) (hD.sub (ws' := []) [] (by decide) rfl) U hU hW⟩⟩ rfl rfl hl.1 rfl (lv_room (Nat.le_of_ble_eq_true rfl)) dX0_power_22 ⟨Nat.zero_le _, Nat.zero_le _⟩) (fun r2' u H locs hw hP hD hS => ?_)
    subst hw
    have hP : va_P (dC, dI) vwCl [(h0, .inr (0, [.int nu, .int pk, .ref h1, .ref h2, .int dc, .ref h3, .int rc, .ref h4, .ref h5])), (h1, .inl (cA, 7, .inl pr)), (h2, .inl (cA, 7, .inl ex)), (h3, .inl (cA, 360, .inl dv)), (h4, .inl (cA, 4096, .inl rt)), (h5, .inl (cA, 4096, .inl sp))] H := hP
    have hD : va_D A [(h0, .inr (0, [.int nu, .int pk, .ref h1, .ref h2, .int dc, .ref h3, .int rc, .ref h4, .ref h5])), (h1, .inl (cA, 7, .inl pr)), (h2, .inl (cA, 7, .inl ex)), (h3, .inl (cA, 360, .inl dv)), (h4, .inl (cA, 4096, .inl rt)), (h5, .inl (cA, 4096, .inl sp))] := hD
    cases h
    exact W.iret hx hb hr (fun t ht hW => ⟨⟨_, (), rfl, rfl, by rw [ht]; exact hP, hD⟩, hS.F ht⟩) hS.2.2 dX0_power_25
  · rw [lg_cmp_ge] at c1
    rw [if_neg c1] at h
    cases h
def l_r_invert_18 (F : Nat) : Nat → Int32 → Int32 → Int32 → Int32 → Int32 → Option (Int32 × Int32)
  | 0, _, _, _, _, _ => none
  | n + 1, x3, x4, x5, x6, x7 => if 64 ≤ x7 then some (x3, x4) else if x5 ≤ 0 then some (x3, x4) else if x5 = 0 then none else l_r_invert_18 F n x5 x6 (x3 - ((x3 / x5) * x5)) (x4 - ((x3 / x5) * x6)) (x7 + 1)
set_option maxHeartbeats 4000000 in
set_option maxRecDepth 100000 in
theorem w_r_invert_18 {p : Program} {l : Launch} {e : Env} {s : State} {m : MethodId} {args : Array Value} {below : List Frame} {meth : Method} {c : Code} {A : Nat → Prop} {Q : State → Prop} {dC : Nat → ClassId} {dI : Nat → Nat → Nat} (F : Nat) (hx : p.tables.exec = Jvm.exec) (hb : c.code = cX0_invert) (hml : c.maxLocals = 11) (hown : s.vm.findClass RX0 = some m.cls) (hts : ∀ w ∈ wsX0_invert, w.before args s = true) (hA : ∀ q, s.heap.size ≤ q → A q)  (hK : va_K (dC, dI) vwCl [] s) (x2 : Int32) :
    ∀ (n : Nat) (x3 x4 x5 x6 x7 x3' x4' : Int32), l_r_invert_18 F n x3 x4 x5 x6 x7 = some (x3', x4') → ∀ (H : Heap) (locs : List Loc), va_P (dC, dI) vwCl [] H → va_D A [] → va_S A s.heap H locs → ∀ ls : Array Slot, lv_has ls 11 [(2, .int x2), (3, .int x3), (4, .int x4), (5, .int x5), (6, .int x6), (7, .int x7)] → (∀ (H : Heap) (locs : List Loc) (ls : Array Slot), va_P (dC, dI) vwCl [] H → va_D A [] → va_S A s.heap H locs → lv_has ls 11 [(2, .int x2), (3, .int x3'), (4, .int x4')] → W p l e { frames := 1, cells := 0, slots := 0, locals := 24 } s m args below meth c H locs 0 0 Q (F0 m 76 ls [])) → W p l e { frames := 1, cells := 0, slots := 0, locals := 24 } s m args below meth c H locs 0 0 Q (F0 m 18 ls []) := by
  intro n
  induction n with
  | zero => intro x3 x4 x5 x6 x7 x3' x4' h; exact nomatch (show (none : Option _) = some _ from h)
  | succ n ih =>
    intro x3 x4 x5 x6 x7 x3' x4' h H locs hP hD hS ls hl K
    rw [l_r_invert_18] at h
    refine lv_iload hx hb dX0_invert_18 (lv_at hl 5 rfl) ?_
    refine lv_bipush (v := 64) hx hb dX0_invert_20 (by decide) ?_
    refine lv_icmp_ge (tgt := 76) hx hb dX0_invert_22 (by decide) (fun c1 => ?_) (fun c1 => ?_)
    · rw [if_pos c1] at h
      cases h
      exact K _ _ _ hP hD hS (lv_sub hl [0, 1, 2] rfl)
    · rw [if_neg c1] at h
      refine lv_iload hx hb dX0_invert_25 (lv_at hl 3 rfl) ?_
      refine lv_if_le (tgt := 76) hx hb dX0_invert_27 (by decide) (fun c2 => ?_) (fun c2 => ?_)
      · rw [if_pos c2] at h
        cases h
        exact K _ _ _ hP hD hS (lv_sub hl [0, 1, 2] rfl)
      · rw [if_neg c2] at h
        refine lv_iload_n hx hb dX0_invert_30 rfl (lv_at hl 1 rfl) ?_
        refine lv_iload hx hb dX0_invert_31 (lv_at hl 3 rfl) ?_
        obtain ⟨g3, h⟩ := rf_gd h
        refine lv_idiv hx hb dX0_invert_33 g3 ?_
        refine lv_istore (lv' := [(8, .int (x3 / x5)), (2, .int x2), (3, .int x3), (4, .int x4), (5, .int x5), (6, .int x6), (7, .int x7)]) hx hb dX0_invert_34 hl (by decide) rfl (fun ls hl => ?_)
        refine lv_iload_n hx hb dX0_invert_36 rfl (lv_at hl 2 rfl) ?_
        refine lv_iload hx hb dX0_invert_37 (lv_at hl 0 rfl) ?_
        refine lv_iload hx hb dX0_invert_39 (lv_at hl 4 rfl) ?_
        refine lv_imul hx hb dX0_invert_41 ?_
        refine lv_isub hx hb dX0_invert_42 ?_
        refine lv_istore (lv' := [(9, .int (x3 - ((x3 / x5) * x5))), (8, .int (x3 / x5)), (2, .int x2), (3, .int x3), (4, .int x4), (5, .int x5), (6, .int x6), (7, .int x7)]) hx hb dX0_invert_43 hl (by decide) rfl (fun ls hl => ?_)
        refine lv_iload hx hb dX0_invert_45 (lv_at hl 4 rfl) ?_
        refine lv_iload hx hb dX0_invert_47 (lv_at hl 1 rfl) ?_
        refine lv_iload hx hb dX0_invert_49 (lv_at hl 6 rfl) ?_
        refine lv_imul hx hb dX0_invert_51 ?_
        refine lv_isub hx hb dX0_invert_52 ?_
        refine lv_istore (lv' := [(10, .int (x4 - ((x3 / x5) * x6))), (9, .int (x3 - ((x3 / x5) * x5))), (8, .int (x3 / x5)), (2, .int x2), (3, .int x3), (4, .int x4), (5, .int x5), (6, .int x6), (7, .int x7)]) hx hb dX0_invert_53 hl (by decide) rfl (fun ls hl => ?_)
        refine lv_iload hx hb dX0_invert_55 (lv_at hl 6 rfl) ?_
        refine lv_istore_n (lv' := [(3, .int x5), (10, .int (x4 - ((x3 / x5) * x6))), (9, .int (x3 - ((x3 / x5) * x5))), (8, .int (x3 / x5)), (2, .int x2), (4, .int x4), (5, .int x5), (6, .int x6), (7, .int x7)]) hx hb dX0_invert_57 rfl hl (by decide) rfl (fun ls hl => ?_)
        refine lv_iload hx hb dX0_invert_58 (lv_at hl 7 rfl) ?_
        refine lv_istore (lv' := [(4, .int x6), (3, .int x5), (10, .int (x4 - ((x3 / x5) * x6))), (9, .int (x3 - ((x3 / x5) * x5))), (8, .int (x3 / x5)), (2, .int x2), (5, .int x5), (6, .int x6), (7, .int x7)]) hx hb dX0_invert_60 hl (by decide) rfl (fun ls hl => ?_)
        refine lv_iload hx hb dX0_invert_62 (lv_at hl 3 rfl) ?_
        refine lv_istore (lv' := [(5, .int (x3 - ((x3 / x5) * x5))), (4, .int x6), (3, .int x5), (10, .int (x4 - ((x3 / x5) * x6))), (9, .int (x3 - ((x3 / x5) * x5))), (8, .int (x3 / x5)), (2, .int x2), (6, .int x6), (7, .int x7)]) hx hb dX0_invert_64 hl (by decide) rfl (fun ls hl => ?_)
        refine lv_iload hx hb dX0_invert_66 (lv_at hl 3 rfl) ?_
        refine lv_istore (lv' := [(6, .int (x4 - ((x3 / x5) * x6))), (5, .int (x3 - ((x3 / x5) * x5))), (4, .int x6), (3, .int x5), (10, .int (x4 - ((x3 / x5) * x6))), (9, .int (x3 - ((x3 / x5) * x5))), (8, .int (x3 / x5)), (2, .int x2), (7, .int x7)]) hx hb dX0_invert_68 hl (by decide) rfl (fun ls hl => ?_)
        refine lv_iinc (v := (x7 + 1)) (lv' := [(7, .int (x7 + 1)), (6, .int (x4 - ((x3 / x5) * x6))), (5, .int (x3 - ((x3 / x5) * x5))), (4, .int x6), (3, .int x5), (10, .int (x4 - ((x3 / x5) * x6))), (9, .int (x3 - ((x3 / x5) * x5))), (8, .int (x3 / x5)), (2, .int x2)]) hx hb dX0_invert_70 hl (k := 8) rfl rfl (by decide) rfl (fun ls hl => ?_)
        refine lv_goto (tgt := 18) hx hb dX0_invert_73 (by decide) ?_
        exact ih x5 x6 (x3 - ((x3 / x5) * x5)) (x4 - ((x3 / x5) * x6)) (x7 + 1) x3' x4' h _ _ hP hD hS _ (lv_sub hl [8, 4, 3, 2, 1, 0] rfl) K
def f_r_invert (F : Nat) (p0 : Int64) (p1 : Int32) : Option (Int32) := b1 (f_r_residue F p0 p1) fun r1 => b2 (l_r_invert_18 F F p1 0 r1 1 0) fun x3_2 x4_2 => if x3_2 = 1 then b1 (f_r_residue F (Int32.toInt64 x4_2) p1) fun r4 => some r4 else some (-1)
set_option maxHeartbeats 4000000 in
set_option maxRecDepth 100000 in
theorem c_r_invert (l : Launch) (dC : Nat → ClassId) (dI : Nat → Nat → Nat) (sz F : Nat)  (p0 : Int64) (p1 rv : Int32) (h : f_r_invert F p0 p1 = some rv) : Met l yX0_invert wsX0_invert { frames := 1, cells := 0, slots := 0, locals := 24 } (rf_Pc (dC, dI) [] [] sz [.long p0, .int p1]) (va_Qi (fun (r : Int32) (_ : Unit) => rv = r) (fun (_ : Unit) t => va_P (dC, dI) vwCl [] t.heap ∧ va_D (va_A [] sz) []) (va_A [] sz)) 0 0 (va_A [] sz) := by
  refine Met.ofW (cc := cX0_invert) (maxL := 11) (ret := (some .int)) (by decide) rfl ?_
  intro p e s m args below meth c s₁ B hml hv
  obtain ⟨rfl, hsz, hP, hK, hD0⟩ := hv
  have hx := B.exec
  have hb := B.bytes
  have hr := B.returns
  have hts := atoms_spec (ws := wsX0_invert) B.pre
  have hown : s.vm.findClass RX0 = some m.cls := findClass_of_methodNamed B.named
  have hlocks := B.notSynchronized
  subst hsz
  have hD := hD0.self (sz := s.heap.size)
  generalize hAe : va_A [] s.heap.size = A at hD ⊢
  have hA : ∀ q : Nat, s.heap.size ≤ q → A q := fun q h => by rw [← hAe]; exact Or.inr h
  have hS : va_S A s.heap s.heap [] := va_S.rf
  have hl := lv_entry ([.long p0, .int p1]) (n := 11) (Nat.le_of_ble_eq_true rfl)
  rw [lg_entry_eq]
  generalize (lg_sl ([.long p0, .int p1]) ++ List.replicate (11 - (lg_sl ([.long p0, .int p1])).length) Slot.unset).toArray = ls at hl ⊢
  have hl : lv_has ls 11 [(0, .long p0), (2, .int p1)] := hl
  unfold f_r_invert at h
  refine lv_iload_n hx hb dX0_invert_0 rfl (lv_at hl 1 rfl) ?_
  refine lv_istore_n (lv' := [(3, .int p1), (0, .long p0), (2, .int p1)]) hx hb dX0_invert_1 rfl hl (by decide) rfl (fun ls hl => ?_)
  refine lv_iconst (v := 0) hx hb dX0_invert_2 (by decide) ?_
  refine lv_istore (lv' := [(4, .int 0), (3, .int p1), (0, .long p0), (2, .int p1)]) hx hb dX0_invert_3 hl (by decide) rfl (fun ls hl => ?_)
  refine lv_lload_n hx hb dX0_invert_5 rfl (lv_at hl 2 rfl) ?_
  refine lv_iload_n hx hb dX0_invert_6 rfl (lv_at hl 3 rfl) ?_
  obtain ⟨r1, hr1, h⟩ := rf_b1 h
  refine rf_ci (wn := (fun _ : Unit => [])) (wc := []) (wr := []) hP hD hS hA [] [] rfl rfl (by decide) (by decide) (va_runS (As := [.long p0, .int p1]) (rest := []) ⟨hx, hb, hml, hown, hts⟩ (c_r_residue l dC dI _ F p0 p1 r1 hr1) (va_cwS 2 hts gX0_invert_X0_residue rfl rfl rfl (by decide +kernel) ⟨Nat.le_of_ble_eq_true rfl, Nat.le_of_ble_eq_true rfl⟩) ⟨rf_blind, fun U hU hW => ⟨rfl, rf_pre (hP.sub (ws' := []) [] rfl) (hK.sub (tys' := []) [] rfl) (hD.sub (ws' := []) [] (by decide) rfl) U hU hW⟩⟩ rfl rfl hl.1 rfl (lv_room (Nat.le_of_ble_eq_true rfl)) dX0_invert_7 ⟨Nat.zero_le _, Nat.zero_le _⟩) (fun r1' u H locs hw hP hD hS => ?_)
  subst hw
  have hP : va_P (dC, dI) vwCl [] H := hP
  have hD : va_D A [] := hD
  refine lv_istore (lv' := [(5, .int r1), (4, .int 0), (3, .int p1), (0, .long p0), (2, .int p1)]) hx hb dX0_invert_10 hl (by decide) rfl (fun ls hl => ?_)
  refine lv_iconst (v := 1) hx hb dX0_invert_12 (by decide) ?_
  refine lv_istore (lv' := [(6, .int 1), (5, .int r1), (4, .int 0), (3, .int p1), (0, .long p0), (2, .int p1)]) hx hb dX0_invert_13 hl (by decide) rfl (fun ls hl => ?_)
  refine lv_iconst (v := 0) hx hb dX0_invert_15 (by decide) ?_
  refine lv_istore (lv' := [(7, .int 0), (6, .int 1), (5, .int r1), (4, .int 0), (3, .int p1), (0, .long p0), (2, .int p1)]) hx hb dX0_invert_16 hl (by decide) rfl (fun ls hl => ?_)
  obtain ⟨x3_2, x4_2, hr2, h⟩ := rf_b2 h
  refine w_r_invert_18 F hx hb hml hown hts hA hK p1 F p1 0 r1 1 0 x3_2 x4_2 hr2 _ _ hP hD hS _ (lv_sub hl [6, 4, 3, 2, 1, 0] rfl) (fun H locs ls hP hD hS hl => ?_)
  refine lv_iload_n hx hb dX0_invert_76 rfl (lv_at hl 1 rfl) ?_
  refine lv_iconst (v := 1) hx hb dX0_invert_77 (by decide) ?_
  refine lv_icmp_ne (tgt := 91) hx hb dX0_invert_78 (by decide) (fun c3 => ?_) (fun c3 => ?_)
  · rw [if_neg c3] at h
    refine lv_iconst (v := (-1)) hx hb dX0_invert_91 (by decide) ?_
    cases h
    exact W.iret hx hb hr (fun t ht hW => ⟨⟨_, (), rfl, rfl, by rw [ht]; exact hP, hD⟩, hS.F ht⟩) hS.2.2 dX0_invert_92
  · rw [if_pos c3] at h
    refine lv_iload hx hb dX0_invert_81 (lv_at hl 2 rfl) ?_
    refine lv_i2l (v := (Int32.toInt64 x4_2)) hx hb dX0_invert_83 rfl ?_
    refine lv_iload_n hx hb dX0_invert_84 rfl (lv_at hl 0 rfl) ?_
    obtain ⟨r4, hr4, h⟩ := rf_b1 h
    refine rf_ci (wn := (fun _ : Unit => [])) (wc := []) (wr := []) hP hD hS hA [] [] rfl rfl (by decide) (by decide) (va_runS (As := [.long (Int32.toInt64 x4_2), .int p1]) (rest := []) ⟨hx, hb, hml, hown, hts⟩ (c_r_residue l dC dI _ F (Int32.toInt64 x4_2) p1 r4 hr4) (va_cwS 2 hts gX0_invert_X0_residue rfl rfl rfl (by decide +kernel) ⟨Nat.le_of_ble_eq_true rfl, Nat.le_of_ble_eq_true rfl⟩) ⟨rf_blind, fun U hU hW => ⟨rfl, rf_pre (hP.sub (ws' := []) [] rfl) (hK.sub (tys' := []) [] rfl) (hD.sub (ws' := []) [] (by decide) rfl) U hU hW⟩⟩ rfl rfl hl.1 rfl (lv_room (Nat.le_of_ble_eq_true rfl)) dX0_invert_85 ⟨Nat.zero_le _, Nat.zero_le _⟩) (fun r4' u H locs hw hP hD hS => ?_)
    subst hw
    have hP : va_P (dC, dI) vwCl [] H := hP
    have hD : va_D A [] := hD
    refine lv_goto (tgt := 92) hx hb dX0_invert_88 (by decide) ?_
    cases h
    exact W.iret hx hb hr (fun t ht hW => ⟨⟨_, (), rfl, rfl, by rw [ht]; exact hP, hD⟩, hS.F ht⟩) hS.2.2 dX0_invert_92
def f_r_inverse (F : Nat) (nu : Int32) (p0 : Int64) : Option (Option (Int32)) := b1 (f_r_invert F p0 nu) fun r1 => if r1 = (-1) then some none else sm (some r1)
set_option maxHeartbeats 4000000 in
set_option maxRecDepth 100000 in
theorem c_r_inverse (l : Launch) (dC : Nat → ClassId) (dI : Nat → Nat → Nat) (sz F : Nat) (h0 h1 h2 h3 h4 h5 : Nat) (cA : ClassId) (nu pk dc rc : Int32) (pr ex dv rt sp : Nat → Int32) (p0 : Int64) (rv : Int32) (h : f_r_inverse F nu p0 = some (some rv)) : Met l yX0_inverse wsX0_inverse { frames := 2, cells := 0, slots := 0, locals := 54 } (rf_Pc (dC, dI) [(cA, .int)] [(h0, .inr (0, [.int nu, .int pk, .ref h1, .ref h2, .int dc, .ref h3, .int rc, .ref h4, .ref h5])), (h1, .inl (cA, 7, .inl pr)), (h2, .inl (cA, 7, .inl ex)), (h3, .inl (cA, 360, .inl dv)), (h4, .inl (cA, 4096, .inl rt)), (h5, .inl (cA, 4096, .inl sp))] sz [.ref h0, .long p0]) (va_Qi (fun (r : Int32) (_ : Unit) => rv = r) (fun (_ : Unit) t => va_P (dC, dI) vwCl [(h0, .inr (0, [.int nu, .int pk, .ref h1, .ref h2, .int dc, .ref h3, .int rc, .ref h4, .ref h5])), (h1, .inl (cA, 7, .inl pr)), (h2, .inl (cA, 7, .inl ex)), (h3, .inl (cA, 360, .inl dv)), (h4, .inl (cA, 4096, .inl rt)), (h5, .inl (cA, 4096, .inl sp))] t.heap ∧ va_D (va_A [(h0, .inr (0, [.int nu, .int pk, .ref h1, .ref h2, .int dc, .ref h3, .int rc, .ref h4, .ref h5])), (h1, .inl (cA, 7, .inl pr)), (h2, .inl (cA, 7, .inl ex)), (h3, .inl (cA, 360, .inl dv)), (h4, .inl (cA, 4096, .inl rt)), (h5, .inl (cA, 4096, .inl sp))] sz) [(h0, .inr (0, [.int nu, .int pk, .ref h1, .ref h2, .int dc, .ref h3, .int rc, .ref h4, .ref h5])), (h1, .inl (cA, 7, .inl pr)), (h2, .inl (cA, 7, .inl ex)), (h3, .inl (cA, 360, .inl dv)), (h4, .inl (cA, 4096, .inl rt)), (h5, .inl (cA, 4096, .inl sp))]) (va_A [(h0, .inr (0, [.int nu, .int pk, .ref h1, .ref h2, .int dc, .ref h3, .int rc, .ref h4, .ref h5])), (h1, .inl (cA, 7, .inl pr)), (h2, .inl (cA, 7, .inl ex)), (h3, .inl (cA, 360, .inl dv)), (h4, .inl (cA, 4096, .inl rt)), (h5, .inl (cA, 4096, .inl sp))] sz)) 0 0 (va_A [(h0, .inr (0, [.int nu, .int pk, .ref h1, .ref h2, .int dc, .ref h3, .int rc, .ref h4, .ref h5])), (h1, .inl (cA, 7, .inl pr)), (h2, .inl (cA, 7, .inl ex)), (h3, .inl (cA, 360, .inl dv)), (h4, .inl (cA, 4096, .inl rt)), (h5, .inl (cA, 4096, .inl sp))] sz) := by
  refine Met.ofW (cc := cX0_inverse) (maxL := 4) (ret := (some .int)) (by decide) rfl ?_
  intro p e s m args below meth c s₁ B hml hv
  obtain ⟨rfl, hsz, hP, hK, hD0⟩ := hv
  have hx := B.exec
  have hb := B.bytes
  have hr := B.returns
  have hts := atoms_spec (ws := wsX0_inverse) B.pre
  have hown : s.vm.findClass RX0 = some m.cls := findClass_of_methodNamed B.named
  have hlocks := B.notSynchronized
  subst hsz
  have hD := hD0.self (sz := s.heap.size)
  generalize hAe : va_A [(h0, .inr (0, [.int nu, .int pk, .ref h1, .ref h2, .int dc, .ref h3, .int rc, .ref h4, .ref h5])), (h1, .inl (cA, 7, .inl pr)), (h2, .inl (cA, 7, .inl ex)), (h3, .inl (cA, 360, .inl dv)), (h4, .inl (cA, 4096, .inl rt)), (h5, .inl (cA, 4096, .inl sp))] s.heap.size = A at hD ⊢
  have hA : ∀ q : Nat, s.heap.size ≤ q → A q := fun q h => by rw [← hAe]; exact Or.inr h
  have hS : va_S A s.heap s.heap [] := va_S.rf
  have hl := lv_entry ([.ref h0, .long p0]) (n := 4) (Nat.le_of_ble_eq_true rfl)
  rw [lg_entry_eq]
  generalize (lg_sl ([.ref h0, .long p0]) ++ List.replicate (4 - (lg_sl ([.ref h0, .long p0])).length) Slot.unset).toArray = ls at hl ⊢
  have hl : lv_has ls 4 [(0, .ref h0), (1, .long p0)] := hl
  unfold f_r_inverse at h
  refine lv_lload_n hx hb dX0_inverse_0 rfl (lv_at hl 1 rfl) ?_
  refine lv_aload_n hx hb dX0_inverse_1 rfl (lv_at hl 0 rfl) ?_
  refine va_get (D := (dC, dI)) (ci := 0) (v := .int nu) (C := RX0) (T := TX0) (N := 9) hx hb hts (fun _ h => List.mem_cons_of_mem _ (List.mem_append_right _ h)) hown hK hP 0 rfl rfl 0 (by decide) (hts _ (List.mem_of_getElem? (i := 1) rfl)) (fun _ h9 => h9) rfl dX0_inverse_2 ?_
  obtain ⟨r1, hr1, h⟩ := rf_b1 h
  refine rf_ci (wn := (fun _ : Unit => [])) (wc := []) (wr := [(h0, .inr (0, [.int nu, .int pk, .ref h1, .ref h2, .int dc, .ref h3, .int rc, .ref h4, .ref h5])), (h1, .inl (cA, 7, .inl pr)), (h2, .inl (cA, 7, .inl ex)), (h3, .inl (cA, 360, .inl dv)), (h4, .inl (cA, 4096, .inl rt)), (h5, .inl (cA, 4096, .inl sp))]) hP hD hS hA [] [0, 1, 2, 3, 4, 5] rfl rfl (by decide) (by decide) (va_runS (As := [.long p0, .int nu]) (rest := []) ⟨hx, hb, hml, hown, hts⟩ (c_r_invert l dC dI _ F p0 nu r1 hr1) (va_cwS 2 hts gX0_inverse_X0_invert rfl rfl rfl (by decide +kernel) ⟨Nat.le_of_ble_eq_true rfl, Nat.le_of_ble_eq_true rfl⟩) ⟨rf_blind, fun U hU hW => ⟨rfl, rf_pre (hP.sub (ws' := []) [] rfl) (hK.sub (tys' := []) [] rfl) (hD.sub (ws' := []) [] (by decide) rfl) U hU hW⟩⟩ rfl rfl hl.1 rfl (lv_room (Nat.le_of_ble_eq_true rfl)) dX0_inverse_5 ⟨Nat.zero_le _, Nat.zero_le _⟩) (fun r1' u H locs hw hP hD hS => ?_)
  subst hw
  have hP : va_P (dC, dI) vwCl [(h0, .inr (0, [.int nu, .int pk, .ref h1, .ref h2, .int dc, .ref h3, .int rc, .ref h4, .ref h5])), (h1, .inl (cA, 7, .inl pr)), (h2, .inl (cA, 7, .inl ex)), (h3, .inl (cA, 360, .inl dv)), (h4, .inl (cA, 4096, .inl rt)), (h5, .inl (cA, 4096, .inl sp))] H := hP
  have hD : va_D A [(h0, .inr (0, [.int nu, .int pk, .ref h1, .ref h2, .int dc, .ref h3, .int rc, .ref h4, .ref h5])), (h1, .inl (cA, 7, .inl pr)), (h2, .inl (cA, 7, .inl ex)), (h3, .inl (cA, 360, .inl dv)), (h4, .inl (cA, 4096, .inl rt)), (h5, .inl (cA, 4096, .inl sp))] := hD
  refine lv_istore_n (lv' := [(3, .int r1), (0, .ref h0), (1, .long p0)]) hx hb dX0_inverse_8 rfl hl (by decide) rfl (fun ls hl => ?_)
  refine lv_iload_n hx hb dX0_inverse_9 rfl (lv_at hl 0 rfl) ?_
  refine lv_iconst (v := (-1)) hx hb dX0_inverse_10 (by decide) ?_
  refine lv_icmp_ne (tgt := 24) hx hb dX0_inverse_11 (by decide) (fun c2 => ?_) (fun c2 => ?_)
  · rw [if_neg c2] at h
    have h := rf_sm h
    refine lv_iload_n hx hb dX0_inverse_24 rfl (lv_at hl 0 rfl) ?_
    cases h
    exact W.iret hx hb hr (fun t ht hW => ⟨⟨_, (), rfl, rfl, by rw [ht]; exact hP, hD⟩, hS.F ht⟩) hS.2.2 dX0_inverse_25
  · rw [if_pos c2] at h
    cases h
def l_r_nonresidue_2 (F : Nat) (x0 : Int32) : Nat → Int32 → Option (Int32)
  | 0, _ => none
  | n + 1, x1 => if x0 ≤ x1 then some x1 else b1 (f_r_jacobi F (Int32.toInt64 x1) x0) fun r2 => if r2 = (-1) then some x1 else l_r_nonresidue_2 F x0 n (x1 + 1)
set_option maxHeartbeats 4000000 in
set_option maxRecDepth 100000 in
theorem w_r_nonresidue_2 {p : Program} {l : Launch} {e : Env} {s : State} {m : MethodId} {args : Array Value} {below : List Frame} {meth : Method} {c : Code} {A : Nat → Prop} {Q : State → Prop} {dC : Nat → ClassId} {dI : Nat → Nat → Nat} (F : Nat) (hx : p.tables.exec = Jvm.exec) (hb : c.code = cX0_nonresidue) (hml : c.maxLocals = 2) (hown : s.vm.findClass RX0 = some m.cls) (hts : ∀ w ∈ wsX0_nonresidue, w.before args s = true) (hA : ∀ q, s.heap.size ≤ q → A q)  (hK : va_K (dC, dI) vwCl [] s) (x0 : Int32) :
    ∀ (n : Nat) (x1 x1' : Int32), l_r_nonresidue_2 F x0 n x1 = some x1' → ∀ (H : Heap) (locs : List Loc), va_P (dC, dI) vwCl [] H → va_D A [] → va_S A s.heap H locs → ∀ ls : Array Slot, lv_has ls 2 [(0, .int x0), (1, .int x1)] → (∀ (H : Heap) (locs : List Loc) (ls : Array Slot), va_P (dC, dI) vwCl [] H → va_D A [] → va_S A s.heap H locs → lv_has ls 2 [(1, .int x1')] → W p l e { frames := 2, cells := 0, slots := 0, locals := 51 } s m args below meth c H locs 0 0 Q (F0 m 23 ls [])) → W p l e { frames := 2, cells := 0, slots := 0, locals := 51 } s m args below meth c H locs 0 0 Q (F0 m 2 ls []) := by
  intro n
  induction n with
  | zero => intro x1 x1' h; exact nomatch (show (none : Option _) = some _ from h)
  | succ n ih =>
    intro x1 x1' h H locs hP hD hS ls hl K
    rw [l_r_nonresidue_2] at h
    refine lv_iload_n hx hb dX0_nonresidue_2 rfl (lv_at hl 1 rfl) ?_
    refine lv_iload_n hx hb dX0_nonresidue_3 rfl (lv_at hl 0 rfl) ?_
    refine lv_icmp_ge (tgt := 23) hx hb dX0_nonresidue_4 (by decide) (fun c1 => ?_) (fun c1 => ?_)
    · rw [if_pos c1] at h
      cases h
      exact K _ _ _ hP hD hS (lv_sub hl [1] rfl)
    · rw [if_neg c1] at h
      refine lv_iload_n hx hb dX0_nonresidue_7 rfl (lv_at hl 1 rfl) ?_
      refine lv_i2l (v := (Int32.toInt64 x1)) hx hb dX0_nonresidue_8 rfl ?_
      refine lv_iload_n hx hb dX0_nonresidue_9 rfl (lv_at hl 0 rfl) ?_
      obtain ⟨r2, hr2, h⟩ := rf_b1 h
      refine rf_ci (wn := (fun _ : Unit => [])) (wc := []) (wr := []) hP hD hS hA [] [] rfl rfl (by decide) (by decide) (va_runS (As := [.long (Int32.toInt64 x1), .int x0]) (rest := []) ⟨hx, hb, hml, hown, hts⟩ (c_r_jacobi l dC dI _ F (Int32.toInt64 x1) x0 r2 hr2) (va_cwS 2 hts gX0_nonresidue_X0_jacobi rfl rfl rfl (by decide +kernel) ⟨Nat.le_of_ble_eq_true rfl, Nat.le_of_ble_eq_true rfl⟩) ⟨rf_blind, fun U hU hW => ⟨rfl, rf_pre (hP.sub (ws' := []) [] rfl) (hK.sub (tys' := []) [] rfl) (hD.sub (ws' := []) [] (by decide) rfl) U hU hW⟩⟩ rfl rfl hl.1 rfl (lv_room (Nat.le_of_ble_eq_true rfl)) dX0_nonresidue_10 ⟨Nat.zero_le _, Nat.zero_le _⟩) (fun r2' u H locs hw hP hD hS => ?_)
      subst hw
      have hP : va_P (dC, dI) vwCl [] H := hP
      have hD : va_D A [] := hD
      refine lv_iconst (v := (-1)) hx hb dX0_nonresidue_13 (by decide) ?_
      refine lv_icmp_eq (tgt := 23) hx hb dX0_nonresidue_14 (by decide) (fun c3 => ?_) (fun c3 => ?_)
      · rw [if_pos c3] at h
        cases h
        exact K _ _ _ hP hD hS (lv_sub hl [1] rfl)
      · rw [if_neg c3] at h
        refine lv_iinc (v := (x1 + 1)) (lv' := [(1, .int (x1 + 1)), (0, .int x0)]) hx hb dX0_nonresidue_17 hl (k := 1) rfl rfl (by decide) rfl (fun ls hl => ?_)
        refine lv_goto (tgt := 2) hx hb dX0_nonresidue_20 (by decide) ?_
        exact ih (x1 + 1) x1' h _ _ hP hD hS _ (lv_sub hl [1, 0] rfl) K
def f_r_nonresidue (F : Nat) (p0 : Int32) : Option (Int32) := b1 (l_r_nonresidue_2 F p0 F 2) fun x1_1 => some x1_1
set_option maxHeartbeats 4000000 in
set_option maxRecDepth 100000 in
theorem c_r_nonresidue (l : Launch) (dC : Nat → ClassId) (dI : Nat → Nat → Nat) (sz F : Nat)  (p0 rv : Int32) (h : f_r_nonresidue F p0 = some rv) : Met l yX0_nonresidue wsX0_nonresidue { frames := 2, cells := 0, slots := 0, locals := 51 } (rf_Pc (dC, dI) [] [] sz [.int p0]) (va_Qi (fun (r : Int32) (_ : Unit) => rv = r) (fun (_ : Unit) t => va_P (dC, dI) vwCl [] t.heap ∧ va_D (va_A [] sz) []) (va_A [] sz)) 0 0 (va_A [] sz) := by
  refine Met.ofW (cc := cX0_nonresidue) (maxL := 2) (ret := (some .int)) (by decide) rfl ?_
  intro p e s m args below meth c s₁ B hml hv
  obtain ⟨rfl, hsz, hP, hK, hD0⟩ := hv
  have hx := B.exec
  have hb := B.bytes
  have hr := B.returns
  have hts := atoms_spec (ws := wsX0_nonresidue) B.pre
  have hown : s.vm.findClass RX0 = some m.cls := findClass_of_methodNamed B.named
  have hlocks := B.notSynchronized
  subst hsz
  have hD := hD0.self (sz := s.heap.size)
  generalize hAe : va_A [] s.heap.size = A at hD ⊢
  have hA : ∀ q : Nat, s.heap.size ≤ q → A q := fun q h => by rw [← hAe]; exact Or.inr h
  have hS : va_S A s.heap s.heap [] := va_S.rf
  have hl := lv_entry ([.int p0]) (n := 2) (Nat.le_of_ble_eq_true rfl)
  rw [lg_entry_eq]
  generalize (lg_sl ([.int p0]) ++ List.replicate (2 - (lg_sl ([.int p0])).length) Slot.unset).toArray = ls at hl ⊢
  have hl : lv_has ls 2 [(0, .int p0)] := hl
  unfold f_r_nonresidue at h
  refine lv_iconst (v := 2) hx hb dX0_nonresidue_0 (by decide) ?_
  refine lv_istore_n (lv' := [(1, .int 2), (0, .int p0)]) hx hb dX0_nonresidue_1 rfl hl (by decide) rfl (fun ls hl => ?_)
  obtain ⟨x1_1, hr1, h⟩ := rf_b1 h
  refine w_r_nonresidue_2 F hx hb hml hown hts hA hK p0 F 2 x1_1 hr1 _ _ hP hD hS _ (lv_sub hl [1, 0] rfl) (fun H locs ls hP hD hS hl => ?_)
  refine lv_iload_n hx hb dX0_nonresidue_23 rfl (lv_at hl 0 rfl) ?_
  cases h
  exact W.iret hx hb hr (fun t ht hW => ⟨⟨_, (), rfl, rfl, by rw [ht]; exact hP, hD⟩, hS.F ht⟩) hS.2.2 dX0_nonresidue_24
def l_r_rootByTonelli_43 (F : Nat) (x1 : Int32) : Nat → Int64 → Int64 → Int64 → Int32 → Option (Int64)
  | 0, _, _, _, _ => none
  | n + 1, x4, x6, x8, x10 => if x10 ≤ 1 then some x4 else b1 (f_r_residue F (x8 * x8) x1) fun r2 => b1 (f_r_raise F x6 ((1 : Int64) <<< (Int32.toInt64 (x10 - 2) &&& 63)) x1) fun r3 => if r3 = 1 then l_r_rootByTonelli_43 F x1 n x4 x6 (Int32.toInt64 r2) (x10 + (-1)) else b1 (f_r_residue F (x4 * x8) x1) fun r5 => b1 (f_r_residue F (x6 * (Int32.toInt64 r2)) x1) fun r6 => l_r_rootByTonelli_43 F x1 n (Int32.toInt64 r5) (Int32.toInt64 r6) (Int32.toInt64 r2) (x10 + (-1))
set_option maxHeartbeats 4000000 in
set_option maxRecDepth 100000 in
theorem w_r_rootByTonelli_43 {p : Program} {l : Launch} {e : Env} {s : State} {m : MethodId} {args : Array Value} {below : List Frame} {meth : Method} {c : Code} {A : Nat → Prop} {Q : State → Prop} {dC : Nat → ClassId} {dI : Nat → Nat → Nat} (F : Nat) (hx : p.tables.exec = Jvm.exec) (hb : c.code = cX0_rootByTonelli) (hml : c.maxLocals = 13) (hown : s.vm.findClass RX0 = some m.cls) (hts : ∀ w ∈ wsX0_rootByTonelli, w.before args s = true) (hA : ∀ q, s.heap.size ≤ q → A q)  (hK : va_K (dC, dI) vwCl [] s) (x1 : Int32) :
    ∀ (n : Nat) (x4 x6 x8 : Int64) (x10 : Int32) (x4' : Int64), l_r_rootByTonelli_43 F x1 n x4 x6 x8 x10 = some x4' → ∀ (H : Heap) (locs : List Loc), va_P (dC, dI) vwCl [] H → va_D A [] → va_S A s.heap H locs → ∀ ls : Array Slot, lv_has ls 13 [(1, .int x1), (4, .long x4), (6, .long x6), (8, .long x8), (10, .int x10)] → (∀ (H : Heap) (locs : List Loc) (ls : Array Slot), va_P (dC, dI) vwCl [] H → va_D A [] → va_S A s.heap H locs → lv_has ls 13 [(4, .long x4')] → W p l e { frames := 3, cells := 0, slots := 0, locals := 72 } s m args below meth c H locs 0 0 Q (F0 m 111 ls [])) → W p l e { frames := 3, cells := 0, slots := 0, locals := 72 } s m args below meth c H locs 0 0 Q (F0 m 43 ls []) := by
  intro n
  induction n with
  | zero => intro x4 x6 x8 x10 x4' h; exact nomatch (show (none : Option _) = some _ from h)
  | succ n ih =>
    intro x4 x6 x8 x10 x4' h H locs hP hD hS ls hl K
    rw [l_r_rootByTonelli_43] at h
    refine lv_iload hx hb dX0_rootByTonelli_43 (lv_at hl 4 rfl) ?_
    refine lv_iconst (v := 1) hx hb dX0_rootByTonelli_45 (by decide) ?_
    refine lv_icmp_le (tgt := 111) hx hb dX0_rootByTonelli_46 (by decide) (fun c1 => ?_) (fun c1 => ?_)
    · rw [if_pos c1] at h
      cases h
      exact K _ _ _ hP hD hS (lv_sub hl [1] rfl)
    · rw [if_neg c1] at h
      refine lv_lload hx hb dX0_rootByTonelli_49 (lv_at hl 3 rfl) ?_
      refine lv_lload hx hb dX0_rootByTonelli_51 (lv_at hl 3 rfl) ?_
      refine lv_lmul hx hb dX0_rootByTonelli_53 ?_
      refine lv_iload_n hx hb dX0_rootByTonelli_54 rfl (lv_at hl 0 rfl) ?_
      obtain ⟨r2, hr2, h⟩ := rf_b1 h
      refine rf_ci (wn := (fun _ : Unit => [])) (wc := []) (wr := []) hP hD hS hA [] [] rfl rfl (by decide) (by decide) (va_runS (As := [.long (x8 * x8), .int x1]) (rest := []) ⟨hx, hb, hml, hown, hts⟩ (c_r_residue l dC dI _ F (x8 * x8) x1 r2 hr2) (va_cwS 2 hts gX0_rootByTonelli_X0_residue rfl rfl rfl (by decide +kernel) ⟨Nat.le_of_ble_eq_true rfl, Nat.le_of_ble_eq_true rfl⟩) ⟨rf_blind, fun U hU hW => ⟨rfl, rf_pre (hP.sub (ws' := []) [] rfl) (hK.sub (tys' := []) [] rfl) (hD.sub (ws' := []) [] (by decide) rfl) U hU hW⟩⟩ rfl rfl hl.1 rfl (lv_room (Nat.le_of_ble_eq_true rfl)) dX0_rootByTonelli_55 ⟨Nat.zero_le _, Nat.zero_le _⟩) (fun r2' u H locs hw hP hD hS => ?_)
      subst hw
      have hP : va_P (dC, dI) vwCl [] H := hP
      have hD : va_D A [] := hD
      refine lv_i2l (v := (Int32.toInt64 r2)) hx hb dX0_rootByTonelli_58 rfl ?_
      refine lv_lstore (lv' := [(11, .long (Int32.toInt64 r2)), (1, .int x1), (4, .long x4), (6, .long x6), (8, .long x8), (10, .int x10)]) hx hb dX0_rootByTonelli_59 hl (by decide) rfl (fun ls hl => ?_)
      refine lv_lload hx hb dX0_rootByTonelli_61 (lv_at hl 3 rfl) ?_
      refine lv_lconst (v := 1) hx hb dX0_rootByTonelli_63 (by decide) ?_
      refine lv_iload hx hb dX0_rootByTonelli_64 (lv_at hl 5 rfl) ?_
      refine lv_iconst (v := 2) hx hb dX0_rootByTonelli_66 (by decide) ?_
      refine lv_isub hx hb dX0_rootByTonelli_67 ?_
      refine lv_lshl (v := ((1 : Int64) <<< (Int32.toInt64 (x10 - 2) &&& 63))) hx hb dX0_rootByTonelli_68 rfl ?_
      refine lv_iload_n hx hb dX0_rootByTonelli_69 rfl (lv_at hl 1 rfl) ?_
      obtain ⟨r3, hr3, h⟩ := rf_b1 h
      refine rf_ci (wn := (fun _ : Unit => [])) (wc := []) (wr := []) hP hD hS hA [] [] rfl rfl (by decide) (by decide) (va_runS (As := [.long x6, .long ((1 : Int64) <<< (Int32.toInt64 (x10 - 2) &&& 63)), .int x1]) (rest := []) ⟨hx, hb, hml, hown, hts⟩ (c_r_raise l dC dI _ F x6 ((1 : Int64) <<< (Int32.toInt64 (x10 - 2) &&& 63)) x1 r3 hr3) (va_cwS 3 hts gX0_rootByTonelli_X0_raise rfl rfl rfl (by decide +kernel) ⟨Nat.le_of_ble_eq_true rfl, Nat.le_of_ble_eq_true rfl⟩) ⟨rf_blind, fun U hU hW => ⟨rfl, rf_pre (hP.sub (ws' := []) [] rfl) (hK.sub (tys' := []) [] rfl) (hD.sub (ws' := []) [] (by decide) rfl) U hU hW⟩⟩ rfl rfl hl.1 rfl (lv_room (Nat.le_of_ble_eq_true rfl)) dX0_rootByTonelli_70 ⟨Nat.zero_le _, Nat.zero_le _⟩) (fun r3' u H locs hw hP hD hS => ?_)
      subst hw
      have hP : va_P (dC, dI) vwCl [] H := hP
      have hD : va_D A [] := hD
      refine lv_iconst (v := 1) hx hb dX0_rootByTonelli_73 (by decide) ?_
      refine lv_icmp_eq (tgt := 101) hx hb dX0_rootByTonelli_74 (by decide) (fun c4 => ?_) (fun c4 => ?_)
      · rw [if_pos c4] at h
        refine lv_lload hx hb dX0_rootByTonelli_101 (lv_at hl 0 rfl) ?_
        refine lv_lstore (lv' := [(8, .long (Int32.toInt64 r2)), (11, .long (Int32.toInt64 r2)), (1, .int x1), (4, .long x4), (6, .long x6), (10, .int x10)]) hx hb dX0_rootByTonelli_103 hl (by decide) rfl (fun ls hl => ?_)
        refine lv_iinc (v := (x10 + (-1))) (lv' := [(10, .int (x10 + (-1))), (8, .long (Int32.toInt64 r2)), (11, .long (Int32.toInt64 r2)), (1, .int x1), (4, .long x4), (6, .long x6)]) hx hb dX0_rootByTonelli_105 hl (k := 5) rfl rfl (by decide) rfl (fun ls hl => ?_)
        refine lv_goto (tgt := 43) hx hb dX0_rootByTonelli_108 (by decide) ?_
        exact ih x4 x6 (Int32.toInt64 r2) (x10 + (-1)) x4' h _ _ hP hD hS _ (lv_sub hl [3, 4, 5, 1, 0] rfl) K
      · rw [if_neg c4] at h
        refine lv_lload hx hb dX0_rootByTonelli_77 (lv_at hl 2 rfl) ?_
        refine lv_lload hx hb dX0_rootByTonelli_79 (lv_at hl 4 rfl) ?_
        refine lv_lmul hx hb dX0_rootByTonelli_81 ?_
        refine lv_iload_n hx hb dX0_rootByTonelli_82 rfl (lv_at hl 1 rfl) ?_
        obtain ⟨r5, hr5, h⟩ := rf_b1 h
        refine rf_ci (wn := (fun _ : Unit => [])) (wc := []) (wr := []) hP hD hS hA [] [] rfl rfl (by decide) (by decide) (va_runS (As := [.long (x4 * x8), .int x1]) (rest := []) ⟨hx, hb, hml, hown, hts⟩ (c_r_residue l dC dI _ F (x4 * x8) x1 r5 hr5) (va_cwS 2 hts gX0_rootByTonelli_X0_residue rfl rfl rfl (by decide +kernel) ⟨Nat.le_of_ble_eq_true rfl, Nat.le_of_ble_eq_true rfl⟩) ⟨rf_blind, fun U hU hW => ⟨rfl, rf_pre (hP.sub (ws' := []) [] rfl) (hK.sub (tys' := []) [] rfl) (hD.sub (ws' := []) [] (by decide) rfl) U hU hW⟩⟩ rfl rfl hl.1 rfl (lv_room (Nat.le_of_ble_eq_true rfl)) dX0_rootByTonelli_83 ⟨Nat.zero_le _, Nat.zero_le _⟩) (fun r5' u H locs hw hP hD hS => ?_)
        subst hw
        have hP : va_P (dC, dI) vwCl [] H := hP
        have hD : va_D A [] := hD
        refine lv_i2l (v := (Int32.toInt64 r5)) hx hb dX0_rootByTonelli_86 rfl ?_
        refine lv_lstore (lv' := [(4, .long (Int32.toInt64 r5)), (11, .long (Int32.toInt64 r2)), (1, .int x1), (6, .long x6), (8, .long x8), (10, .int x10)]) hx hb dX0_rootByTonelli_87 hl (by decide) rfl (fun ls hl => ?_)
        refine lv_lload hx hb dX0_rootByTonelli_89 (lv_at hl 3 rfl) ?_
        refine lv_lload hx hb dX0_rootByTonelli_91 (lv_at hl 1 rfl) ?_
        refine lv_lmul hx hb dX0_rootByTonelli_93 ?_
        refine lv_iload_n hx hb dX0_rootByTonelli_94 rfl (lv_at hl 2 rfl) ?_
        obtain ⟨r6, hr6, h⟩ := rf_b1 h
        refine rf_ci (wn := (fun _ : Unit => [])) (wc := []) (wr := []) hP hD hS hA [] [] rfl rfl (by decide) (by decide) (va_runS (As := [.long (x6 * (Int32.toInt64 r2)), .int x1]) (rest := []) ⟨hx, hb, hml, hown, hts⟩ (c_r_residue l dC dI _ F (x6 * (Int32.toInt64 r2)) x1 r6 hr6) (va_cwS 2 hts gX0_rootByTonelli_X0_residue rfl rfl rfl (by decide +kernel) ⟨Nat.le_of_ble_eq_true rfl, Nat.le_of_ble_eq_true rfl⟩) ⟨rf_blind, fun U hU hW => ⟨rfl, rf_pre (hP.sub (ws' := []) [] rfl) (hK.sub (tys' := []) [] rfl) (hD.sub (ws' := []) [] (by decide) rfl) U hU hW⟩⟩ rfl rfl hl.1 rfl (lv_room (Nat.le_of_ble_eq_true rfl)) dX0_rootByTonelli_95 ⟨Nat.zero_le _, Nat.zero_le _⟩) (fun r6' u H locs hw hP hD hS => ?_)
        subst hw
        have hP : va_P (dC, dI) vwCl [] H := hP
        have hD : va_D A [] := hD
        refine lv_i2l (v := (Int32.toInt64 r6)) hx hb dX0_rootByTonelli_98 rfl ?_
        refine lv_lstore (lv' := [(6, .long (Int32.toInt64 r6)), (4, .long (Int32.toInt64 r5)), (11, .long (Int32.toInt64 r2)), (1, .int x1), (8, .long x8), (10, .int x10)]) hx hb dX0_rootByTonelli_99 hl (by decide) rfl (fun ls hl => ?_)
        refine lv_lload hx hb dX0_rootByTonelli_101 (lv_at hl 2 rfl) ?_
        refine lv_lstore (lv' := [(8, .long (Int32.toInt64 r2)), (6, .long (Int32.toInt64 r6)), (4, .long (Int32.toInt64 r5)), (11, .long (Int32.toInt64 r2)), (1, .int x1), (10, .int x10)]) hx hb dX0_rootByTonelli_103 hl (by decide) rfl (fun ls hl => ?_)
        refine lv_iinc (v := (x10 + (-1))) (lv' := [(10, .int (x10 + (-1))), (8, .long (Int32.toInt64 r2)), (6, .long (Int32.toInt64 r6)), (4, .long (Int32.toInt64 r5)), (11, .long (Int32.toInt64 r2)), (1, .int x1)]) hx hb dX0_rootByTonelli_105 hl (k := 5) rfl rfl (by decide) rfl (fun ls hl => ?_)
        refine lv_goto (tgt := 43) hx hb dX0_rootByTonelli_108 (by decide) ?_
        exact ih (Int32.toInt64 r5) (Int32.toInt64 r6) (Int32.toInt64 r2) (x10 + (-1)) x4' h _ _ hP hD hS _ (lv_sub hl [5, 3, 2, 1, 0] rfl) K
def f_r_rootByTonelli (F : Nat) (p0 p1 p2 p3 : Int32) : Option (Int32) := b1 (f_r_raise F (Int32.toInt64 p0) (Int32.toInt64 ((p2 + 1) / 2)) p1) fun r1 => b1 (f_r_raise F (Int32.toInt64 p0) (Int32.toInt64 p2) p1) fun r2 => b1 (f_r_nonresidue F p1) fun r3 => b1 (f_r_raise F (Int32.toInt64 r3) (Int32.toInt64 p2) p1) fun r4 => b1 (l_r_rootByTonelli_43 F p1 F (Int32.toInt64 r1) (Int32.toInt64 r2) (Int32.toInt64 r4) p3) fun x4_5 => some (Int64.toInt32 x4_5)
set_option maxHeartbeats 4000000 in
set_option maxRecDepth 100000 in
theorem c_r_rootByTonelli (l : Launch) (dC : Nat → ClassId) (dI : Nat → Nat → Nat) (sz F : Nat)  (p0 p1 p2 p3 rv : Int32) (h : f_r_rootByTonelli F p0 p1 p2 p3 = some rv) : Met l yX0_rootByTonelli wsX0_rootByTonelli { frames := 3, cells := 0, slots := 0, locals := 72 } (rf_Pc (dC, dI) [] [] sz [.int p0, .int p1, .int p2, .int p3]) (va_Qi (fun (r : Int32) (_ : Unit) => rv = r) (fun (_ : Unit) t => va_P (dC, dI) vwCl [] t.heap ∧ va_D (va_A [] sz) []) (va_A [] sz)) 0 0 (va_A [] sz) := by
  refine Met.ofW (cc := cX0_rootByTonelli) (maxL := 13) (ret := (some .int)) (by decide) rfl ?_
  intro p e s m args below meth c s₁ B hml hv
  obtain ⟨rfl, hsz, hP, hK, hD0⟩ := hv
  have hx := B.exec
  have hb := B.bytes
  have hr := B.returns
  have hts := atoms_spec (ws := wsX0_rootByTonelli) B.pre
  have hown : s.vm.findClass RX0 = some m.cls := findClass_of_methodNamed B.named
  have hlocks := B.notSynchronized
  subst hsz
  have hD := hD0.self (sz := s.heap.size)
  generalize hAe : va_A [] s.heap.size = A at hD ⊢
  have hA : ∀ q : Nat, s.heap.size ≤ q → A q := fun q h => by rw [← hAe]; exact Or.inr h
  have hS : va_S A s.heap s.heap [] := va_S.rf
  have hl := lv_entry ([.int p0, .int p1, .int p2, .int p3]) (n := 13) (Nat.le_of_ble_eq_true rfl)
  rw [lg_entry_eq]
  generalize (lg_sl ([.int p0, .int p1, .int p2, .int p3]) ++ List.replicate (13 - (lg_sl ([.int p0, .int p1, .int p2, .int p3])).length) Slot.unset).toArray = ls at hl ⊢
  have hl : lv_has ls 13 [(0, .int p0), (1, .int p1), (2, .int p2), (3, .int p3)] := hl
  unfold f_r_rootByTonelli at h
  refine lv_iload_n hx hb dX0_rootByTonelli_0 rfl (lv_at hl 0 rfl) ?_
  refine lv_i2l (v := (Int32.toInt64 p0)) hx hb dX0_rootByTonelli_1 rfl ?_
  refine lv_iload_n hx hb dX0_rootByTonelli_2 rfl (lv_at hl 2 rfl) ?_
  refine lv_iconst (v := 1) hx hb dX0_rootByTonelli_3 (by decide) ?_
  refine lv_iadd hx hb dX0_rootByTonelli_4 ?_
  refine lv_iconst (v := 2) hx hb dX0_rootByTonelli_5 (by decide) ?_
  refine lv_idiv hx hb dX0_rootByTonelli_6 (by decide) ?_
  refine lv_i2l (v := (Int32.toInt64 ((p2 + 1) / 2))) hx hb dX0_rootByTonelli_7 rfl ?_
  refine lv_iload_n hx hb dX0_rootByTonelli_8 rfl (lv_at hl 1 rfl) ?_
  obtain ⟨r1, hr1, h⟩ := rf_b1 h
  refine rf_ci (wn := (fun _ : Unit => [])) (wc := []) (wr := []) hP hD hS hA [] [] rfl rfl (by decide) (by decide) (va_runS (As := [.long (Int32.toInt64 p0), .long (Int32.toInt64 ((p2 + 1) / 2)), .int p1]) (rest := []) ⟨hx, hb, hml, hown, hts⟩ (c_r_raise l dC dI _ F (Int32.toInt64 p0) (Int32.toInt64 ((p2 + 1) / 2)) p1 r1 hr1) (va_cwS 3 hts gX0_rootByTonelli_X0_raise rfl rfl rfl (by decide +kernel) ⟨Nat.le_of_ble_eq_true rfl, Nat.le_of_ble_eq_true rfl⟩) ⟨rf_blind, fun U hU hW => ⟨rfl, rf_pre (hP.sub (ws' := []) [] rfl) (hK.sub (tys' := []) [] rfl) (hD.sub (ws' := []) [] (by decide) rfl) U hU hW⟩⟩ rfl rfl hl.1 rfl (lv_room (Nat.le_of_ble_eq_true rfl)) dX0_rootByTonelli_9 ⟨Nat.zero_le _, Nat.zero_le _⟩) (fun r1' u H locs hw hP hD hS => ?_)
  subst hw
  have hP : va_P (dC, dI) vwCl [] H := hP
  have hD : va_D A [] := hD
  refine lv_i2l (v := (Int32.toInt64 r1)) hx hb dX0_rootByTonelli_12 rfl ?_
  refine lv_lstore (lv' := [(4, .long (Int32.toInt64 r1)), (0, .int p0), (1, .int p1), (2, .int p2), (3, .int p3)]) hx hb dX0_rootByTonelli_13 hl (by decide) rfl (fun ls hl => ?_)
  refine lv_iload_n hx hb dX0_rootByTonelli_15 rfl (lv_at hl 1 rfl) ?_
  refine lv_i2l (v := (Int32.toInt64 p0)) hx hb dX0_rootByTonelli_16 rfl ?_
  refine lv_iload_n hx hb dX0_rootByTonelli_17 rfl (lv_at hl 3 rfl) ?_
  refine lv_i2l (v := (Int32.toInt64 p2)) hx hb dX0_rootByTonelli_18 rfl ?_
  refine lv_iload_n hx hb dX0_rootByTonelli_19 rfl (lv_at hl 2 rfl) ?_
  obtain ⟨r2, hr2, h⟩ := rf_b1 h
  refine rf_ci (wn := (fun _ : Unit => [])) (wc := []) (wr := []) hP hD hS hA [] [] rfl rfl (by decide) (by decide) (va_runS (As := [.long (Int32.toInt64 p0), .long (Int32.toInt64 p2), .int p1]) (rest := []) ⟨hx, hb, hml, hown, hts⟩ (c_r_raise l dC dI _ F (Int32.toInt64 p0) (Int32.toInt64 p2) p1 r2 hr2) (va_cwS 3 hts gX0_rootByTonelli_X0_raise rfl rfl rfl (by decide +kernel) ⟨Nat.le_of_ble_eq_true rfl, Nat.le_of_ble_eq_true rfl⟩) ⟨rf_blind, fun U hU hW => ⟨rfl, rf_pre (hP.sub (ws' := []) [] rfl) (hK.sub (tys' := []) [] rfl) (hD.sub (ws' := []) [] (by decide) rfl) U hU hW⟩⟩ rfl rfl hl.1 rfl (lv_room (Nat.le_of_ble_eq_true rfl)) dX0_rootByTonelli_20 ⟨Nat.zero_le _, Nat.zero_le _⟩) (fun r2' u H locs hw hP hD hS => ?_)
  subst hw
  have hP : va_P (dC, dI) vwCl [] H := hP
  have hD : va_D A [] := hD
  refine lv_i2l (v := (Int32.toInt64 r2)) hx hb dX0_rootByTonelli_23 rfl ?_
  refine lv_lstore (lv' := [(6, .long (Int32.toInt64 r2)), (4, .long (Int32.toInt64 r1)), (0, .int p0), (1, .int p1), (2, .int p2), (3, .int p3)]) hx hb dX0_rootByTonelli_24 hl (by decide) rfl (fun ls hl => ?_)
  refine lv_iload_n hx hb dX0_rootByTonelli_26 rfl (lv_at hl 3 rfl) ?_
  obtain ⟨r3, hr3, h⟩ := rf_b1 h
  refine rf_ci (wn := (fun _ : Unit => [])) (wc := []) (wr := []) hP hD hS hA [] [] rfl rfl (by decide) (by decide) (va_runS (As := [.int p1]) (rest := []) ⟨hx, hb, hml, hown, hts⟩ (c_r_nonresidue l dC dI _ F p1 r3 hr3) (va_cwS 1 hts gX0_rootByTonelli_X0_nonresidue rfl rfl rfl (by decide +kernel) ⟨Nat.le_of_ble_eq_true rfl, Nat.le_of_ble_eq_true rfl⟩) ⟨rf_blind, fun U hU hW => ⟨rfl, rf_pre (hP.sub (ws' := []) [] rfl) (hK.sub (tys' := []) [] rfl) (hD.sub (ws' := []) [] (by decide) rfl) U hU hW⟩⟩ rfl rfl hl.1 rfl (lv_room (Nat.le_of_ble_eq_true rfl)) dX0_rootByTonelli_27 ⟨Nat.zero_le _, Nat.zero_le _⟩) (fun r3' u H locs hw hP hD hS => ?_)
  subst hw
  have hP : va_P (dC, dI) vwCl [] H := hP
  have hD : va_D A [] := hD
  refine lv_i2l (v := (Int32.toInt64 r3)) hx hb dX0_rootByTonelli_30 rfl ?_
  refine lv_iload_n hx hb dX0_rootByTonelli_31 rfl (lv_at hl 4 rfl) ?_
  refine lv_i2l (v := (Int32.toInt64 p2)) hx hb dX0_rootByTonelli_32 rfl ?_
  refine lv_iload_n hx hb dX0_rootByTonelli_33 rfl (lv_at hl 3 rfl) ?_
  obtain ⟨r4, hr4, h⟩ := rf_b1 h
  refine rf_ci (wn := (fun _ : Unit => [])) (wc := []) (wr := []) hP hD hS hA [] [] rfl rfl (by decide) (by decide) (va_runS (As := [.long (Int32.toInt64 r3), .long (Int32.toInt64 p2), .int p1]) (rest := []) ⟨hx, hb, hml, hown, hts⟩ (c_r_raise l dC dI _ F (Int32.toInt64 r3) (Int32.toInt64 p2) p1 r4 hr4) (va_cwS 3 hts gX0_rootByTonelli_X0_raise rfl rfl rfl (by decide +kernel) ⟨Nat.le_of_ble_eq_true rfl, Nat.le_of_ble_eq_true rfl⟩) ⟨rf_blind, fun U hU hW => ⟨rfl, rf_pre (hP.sub (ws' := []) [] rfl) (hK.sub (tys' := []) [] rfl) (hD.sub (ws' := []) [] (by decide) rfl) U hU hW⟩⟩ rfl rfl hl.1 rfl (lv_room (Nat.le_of_ble_eq_true rfl)) dX0_rootByTonelli_34 ⟨Nat.zero_le _, Nat.zero_le _⟩) (fun r4' u H locs hw hP hD hS => ?_)
  subst hw
  have hP : va_P (dC, dI) vwCl [] H := hP
  have hD : va_D A [] := hD
  refine lv_i2l (v := (Int32.toInt64 r4)) hx hb dX0_rootByTonelli_37 rfl ?_
  refine lv_lstore (lv' := [(8, .long (Int32.toInt64 r4)), (6, .long (Int32.toInt64 r2)), (4, .long (Int32.toInt64 r1)), (0, .int p0), (1, .int p1), (2, .int p2), (3, .int p3)]) hx hb dX0_rootByTonelli_38 hl (by decide) rfl (fun ls hl => ?_)
  refine lv_iload_n hx hb dX0_rootByTonelli_40 rfl (lv_at hl 6 rfl) ?_
  refine lv_istore (lv' := [(10, .int p3), (8, .long (Int32.toInt64 r4)), (6, .long (Int32.toInt64 r2)), (4, .long (Int32.toInt64 r1)), (0, .int p0), (1, .int p1), (2, .int p2), (3, .int p3)]) hx hb dX0_rootByTonelli_41 hl (by decide) rfl (fun ls hl => ?_)
  obtain ⟨x4_5, hr5, h⟩ := rf_b1 h
  refine w_r_rootByTonelli_43 F hx hb hml hown hts hA hK p1 F (Int32.toInt64 r1) (Int32.toInt64 r2) (Int32.toInt64 r4) p3 x4_5 hr5 _ _ hP hD hS _ (lv_sub hl [5, 3, 2, 1, 0] rfl) (fun H locs ls hP hD hS hl => ?_)
  refine lv_lload hx hb dX0_rootByTonelli_111 (lv_at hl 0 rfl) ?_
  refine lv_l2i (v := (Int64.toInt32 x4_5)) hx hb dX0_rootByTonelli_113 rfl ?_
  cases h
  exact W.iret hx hb hr (fun t ht hW => ⟨⟨_, (), rfl, rfl, by rw [ht]; exact hP, hD⟩, hS.F ht⟩) hS.2.2 dX0_rootByTonelli_114
def l_r_rootModuloPrime_29 (F : Nat) : Nat → Int32 → Int32 → Option (Int32 × Int32)
  | 0, _, _ => none
  | n + 1, x2, x3 => if 22 ≤ x3 then some (x2, x3) else if (irm x2 2) = 0 then l_r_rootModuloPrime_29 F n (x2 / 2) (x3 + 1) else some (x2, x3)
set_option maxHeartbeats 4000000 in
set_option maxRecDepth 100000 in
theorem w_r_rootModuloPrime_29 {p : Program} {l : Launch} {e : Env} {s : State} {m : MethodId} {args : Array Value} {below : List Frame} {meth : Method} {c : Code} {A : Nat → Prop} {Q : State → Prop} {dC : Nat → ClassId} {dI : Nat → Nat → Nat} (F : Nat) (hx : p.tables.exec = Jvm.exec) (hb : c.code = cX0_rootModuloPrime) (hml : c.maxLocals = 4) (hown : s.vm.findClass RX0 = some m.cls) (hts : ∀ w ∈ wsX0_rootModuloPrime, w.before args s = true) (hA : ∀ q, s.heap.size ≤ q → A q)  (hK : va_K (dC, dI) vwCl [] s) (x0 x1 : Int32) :
    ∀ (n : Nat) (x2 x3 x2' x3' : Int32), l_r_rootModuloPrime_29 F n x2 x3 = some (x2', x3') → ∀ (H : Heap) (locs : List Loc), va_P (dC, dI) vwCl [] H → va_D A [] → va_S A s.heap H locs → ∀ ls : Array Slot, lv_has ls 4 [(0, .int x0), (1, .int x1), (2, .int x2), (3, .int x3)] → (∀ (H : Heap) (locs : List Loc) (ls : Array Slot), va_P (dC, dI) vwCl [] H → va_D A [] → va_S A s.heap H locs → lv_has ls 4 [(0, .int x0), (1, .int x1), (2, .int x2'), (3, .int x3')] → W p l e { frames := 4, cells := 0, slots := 0, locals := 104 } s m args below meth c H locs 0 0 Q (F0 m 51 ls [])) → W p l e { frames := 4, cells := 0, slots := 0, locals := 104 } s m args below meth c H locs 0 0 Q (F0 m 29 ls []) := by
  intro n
  induction n with
  | zero => intro x2 x3 x2' x3' h; exact nomatch (show (none : Option _) = some _ from h)
  | succ n ih =>
    intro x2 x3 x2' x3' h H locs hP hD hS ls hl K
    rw [l_r_rootModuloPrime_29] at h
    refine lv_iload_n hx hb dX0_rootModuloPrime_29 rfl (lv_at hl 3 rfl) ?_
    refine lv_bipush (v := 22) hx hb dX0_rootModuloPrime_30 (by decide) ?_
    refine lv_icmp_ge (tgt := 51) hx hb dX0_rootModuloPrime_32 (by decide) (fun c1 => ?_) (fun c1 => ?_)
    · rw [if_pos c1] at h
      cases h
      exact K _ _ _ hP hD hS (lv_sub hl [0, 1, 2, 3] rfl)
    · rw [if_neg c1] at h
      refine lv_iload_n hx hb dX0_rootModuloPrime_35 rfl (lv_at hl 2 rfl) ?_
      refine lv_iconst (v := 2) hx hb dX0_rootModuloPrime_36 (by decide) ?_
      refine lv_irem hx hb dX0_rootModuloPrime_37 (by decide) ?_
      refine lv_if_ne (tgt := 51) hx hb dX0_rootModuloPrime_38 (by decide) (fun c2 => ?_) (fun c2 => ?_)
      · rw [if_neg c2] at h
        cases h
        exact K _ _ _ hP hD hS (lv_sub hl [0, 1, 2, 3] rfl)
      · rw [if_pos c2] at h
        refine lv_iload_n hx hb dX0_rootModuloPrime_41 rfl (lv_at hl 2 rfl) ?_
        refine lv_iconst (v := 2) hx hb dX0_rootModuloPrime_42 (by decide) ?_
        refine lv_idiv hx hb dX0_rootModuloPrime_43 (by decide) ?_
        refine lv_istore_n (lv' := [(2, .int (x2 / 2)), (0, .int x0), (1, .int x1), (3, .int x3)]) hx hb dX0_rootModuloPrime_44 rfl hl (by decide) rfl (fun ls hl => ?_)
        refine lv_iinc (v := (x3 + 1)) (lv' := [(3, .int (x3 + 1)), (2, .int (x2 / 2)), (0, .int x0), (1, .int x1)]) hx hb dX0_rootModuloPrime_45 hl (k := 3) rfl rfl (by decide) rfl (fun ls hl => ?_)
        refine lv_goto (tgt := 29) hx hb dX0_rootModuloPrime_48 (by decide) ?_
        exact ih (x2 / 2) (x3 + 1) x2' x3' h _ _ hP hD hS _ (lv_sub hl [2, 3, 1, 0] rfl) K
def f_r_rootModuloPrime (F : Nat) (p0 p1 : Int32) : Option (Int32) := if p1 = 2 then some p0 else if p0 = 0 then some p0 else b1 (f_r_jacobi F (Int32.toInt64 p0) p1) fun r3 => if r3 = 1 then b2 (l_r_rootModuloPrime_29 F F (p1 - 1) 0) fun x2_5 x3_5 => b1 (f_r_rootByTonelli F p0 p1 x2_5 x3_5) fun r6 => some r6 else some (-1)
set_option maxHeartbeats 4000000 in
set_option maxRecDepth 100000 in
theorem c_r_rootModuloPrime (l : Launch) (dC : Nat → ClassId) (dI : Nat → Nat → Nat) (sz F : Nat)  (p0 p1 rv : Int32) (h : f_r_rootModuloPrime F p0 p1 = some rv) : Met l yX0_rootModuloPrime wsX0_rootModuloPrime { frames := 4, cells := 0, slots := 0, locals := 104 } (rf_Pc (dC, dI) [] [] sz [.int p0, .int p1]) (va_Qi (fun (r : Int32) (_ : Unit) => rv = r) (fun (_ : Unit) t => va_P (dC, dI) vwCl [] t.heap ∧ va_D (va_A [] sz) []) (va_A [] sz)) 0 0 (va_A [] sz) := by
  refine Met.ofW (cc := cX0_rootModuloPrime) (maxL := 4) (ret := (some .int)) (by decide) rfl ?_
  intro p e s m args below meth c s₁ B hml hv
  obtain ⟨rfl, hsz, hP, hK, hD0⟩ := hv
  have hx := B.exec
  have hb := B.bytes
  have hr := B.returns
  have hts := atoms_spec (ws := wsX0_rootModuloPrime) B.pre
  have hown : s.vm.findClass RX0 = some m.cls := findClass_of_methodNamed B.named
  have hlocks := B.notSynchronized
  subst hsz
  have hD := hD0.self (sz := s.heap.size)
  generalize hAe : va_A [] s.heap.size = A at hD ⊢
  have hA : ∀ q : Nat, s.heap.size ≤ q → A q := fun q h => by rw [← hAe]; exact Or.inr h
  have hS : va_S A s.heap s.heap [] := va_S.rf
  have hl := lv_entry ([.int p0, .int p1]) (n := 4) (Nat.le_of_ble_eq_true rfl)
  rw [lg_entry_eq]
  generalize (lg_sl ([.int p0, .int p1]) ++ List.replicate (4 - (lg_sl ([.int p0, .int p1])).length) Slot.unset).toArray = ls at hl ⊢
  have hl : lv_has ls 4 [(0, .int p0), (1, .int p1)] := hl
  unfold f_r_rootModuloPrime at h
  refine lv_iload_n hx hb dX0_rootModuloPrime_0 rfl (lv_at hl 1 rfl) ?_
  refine lv_iconst (v := 2) hx hb dX0_rootModuloPrime_1 (by decide) ?_
  refine lv_icmp_eq (tgt := 9) hx hb dX0_rootModuloPrime_2 (by decide) (fun c1 => ?_) (fun c1 => ?_)
  · rw [if_pos c1] at h
    refine lv_iload_n hx hb dX0_rootModuloPrime_9 rfl (lv_at hl 0 rfl) ?_
    cases h
    exact W.iret hx hb hr (fun t ht hW => ⟨⟨_, (), rfl, rfl, by rw [ht]; exact hP, hD⟩, hS.F ht⟩) hS.2.2 dX0_rootModuloPrime_10
  · rw [if_neg c1] at h
    refine lv_iload_n hx hb dX0_rootModuloPrime_5 rfl (lv_at hl 0 rfl) ?_
    refine lv_if_ne (tgt := 11) hx hb dX0_rootModuloPrime_6 (by decide) (fun c2 => ?_) (fun c2 => ?_)
    · rw [if_neg c2] at h
      refine lv_iload_n hx hb dX0_rootModuloPrime_11 rfl (lv_at hl 0 rfl) ?_
      refine lv_i2l (v := (Int32.toInt64 p0)) hx hb dX0_rootModuloPrime_12 rfl ?_
      refine lv_iload_n hx hb dX0_rootModuloPrime_13 rfl (lv_at hl 1 rfl) ?_
      obtain ⟨r3, hr3, h⟩ := rf_b1 h
      refine rf_ci (wn := (fun _ : Unit => [])) (wc := []) (wr := []) hP hD hS hA [] [] rfl rfl (by decide) (by decide) (va_runS (As := [.long (Int32.toInt64 p0), .int p1]) (rest := []) ⟨hx, hb, hml, hown, hts⟩ (c_r_jacobi l dC dI _ F (Int32.toInt64 p0) p1 r3 hr3) (va_cwS 2 hts gX0_rootModuloPrime_X0_jacobi rfl rfl rfl (by decide +kernel) ⟨Nat.le_of_ble_eq_true rfl, Nat.le_of_ble_eq_true rfl⟩) ⟨rf_blind, fun U hU hW => ⟨rfl, rf_pre (hP.sub (ws' := []) [] rfl) (hK.sub (tys' := []) [] rfl) (hD.sub (ws' := []) [] (by decide) rfl) U hU hW⟩⟩ rfl rfl hl.1 rfl (lv_room (Nat.le_of_ble_eq_true rfl)) dX0_rootModuloPrime_14 ⟨Nat.zero_le _, Nat.zero_le _⟩) (fun r3' u H locs hw hP hD hS => ?_)
      subst hw
      have hP : va_P (dC, dI) vwCl [] H := hP
      have hD : va_D A [] := hD
      refine lv_iconst (v := 1) hx hb dX0_rootModuloPrime_17 (by decide) ?_
      refine lv_icmp_eq (tgt := 23) hx hb dX0_rootModuloPrime_18 (by decide) (fun c4 => ?_) (fun c4 => ?_)
      · rw [if_pos c4] at h
        refine lv_iload_n hx hb dX0_rootModuloPrime_23 rfl (lv_at hl 1 rfl) ?_
        refine lv_iconst (v := 1) hx hb dX0_rootModuloPrime_24 (by decide) ?_
        refine lv_isub hx hb dX0_rootModuloPrime_25 ?_
        refine lv_istore_n (lv' := [(2, .int (p1 - 1)), (0, .int p0), (1, .int p1)]) hx hb dX0_rootModuloPrime_26 rfl hl (by decide) rfl (fun ls hl => ?_)
        refine lv_iconst (v := 0) hx hb dX0_rootModuloPrime_27 (by decide) ?_
        refine lv_istore_n (lv' := [(3, .int 0), (2, .int (p1 - 1)), (0, .int p0), (1, .int p1)]) hx hb dX0_rootModuloPrime_28 rfl hl (by decide) rfl (fun ls hl => ?_)
        obtain ⟨x2_5, x3_5, hr5, h⟩ := rf_b2 h
        refine w_r_rootModuloPrime_29 F hx hb hml hown hts hA hK p0 p1 F (p1 - 1) 0 x2_5 x3_5 hr5 _ _ hP hD hS _ (lv_sub hl [2, 3, 1, 0] rfl) (fun H locs ls hP hD hS hl => ?_)
        refine lv_iload_n hx hb dX0_rootModuloPrime_51 rfl (lv_at hl 0 rfl) ?_
        refine lv_iload_n hx hb dX0_rootModuloPrime_52 rfl (lv_at hl 1 rfl) ?_
        refine lv_iload_n hx hb dX0_rootModuloPrime_53 rfl (lv_at hl 2 rfl) ?_
        refine lv_iload_n hx hb dX0_rootModuloPrime_54 rfl (lv_at hl 3 rfl) ?_
        obtain ⟨r6, hr6, h⟩ := rf_b1 h
        refine rf_ci (wn := (fun _ : Unit => [])) (wc := []) (wr := []) hP hD hS hA [] [] rfl rfl (by decide) (by decide) (va_runS (As := [.int p0, .int p1, .int x2_5, .int x3_5]) (rest := []) ⟨hx, hb, hml, hown, hts⟩ (c_r_rootByTonelli l dC dI _ F p0 p1 x2_5 x3_5 r6 hr6) (va_cwS 4 hts gX0_rootModuloPrime_X0_rootByTonelli rfl rfl rfl (by decide +kernel) ⟨Nat.le_of_ble_eq_true rfl, Nat.le_of_ble_eq_true rfl⟩) ⟨rf_blind, fun U hU hW => ⟨rfl, rf_pre (hP.sub (ws' := []) [] rfl) (hK.sub (tys' := []) [] rfl) (hD.sub (ws' := []) [] (by decide) rfl) U hU hW⟩⟩ rfl rfl hl.1 rfl (lv_room (Nat.le_of_ble_eq_true rfl)) dX0_rootModuloPrime_55 ⟨Nat.zero_le _, Nat.zero_le _⟩) (fun r6' u H locs hw hP hD hS => ?_)
        subst hw
        have hP : va_P (dC, dI) vwCl [] H := hP
        have hD : va_D A [] := hD
        cases h
        exact W.iret hx hb hr (fun t ht hW => ⟨⟨_, (), rfl, rfl, by rw [ht]; exact hP, hD⟩, hS.F ht⟩) hS.2.2 dX0_rootModuloPrime_58
      · rw [if_neg c4] at h
        refine lv_iconst (v := (-1)) hx hb dX0_rootModuloPrime_21 (by decide) ?_
        cases h
        exact W.iret hx hb hr (fun t ht hW => ⟨⟨_, (), rfl, rfl, by rw [ht]; exact hP, hD⟩, hS.F ht⟩) hS.2.2 dX0_rootModuloPrime_22
    · rw [if_pos c2] at h
      refine lv_iload_n hx hb dX0_rootModuloPrime_9 rfl (lv_at hl 0 rfl) ?_
      cases h
      exact W.iret hx hb hr (fun t ht hW => ⟨⟨_, (), rfl, rfl, by rw [ht]; exact hP, hD⟩, hS.F ht⟩) hS.2.2 dX0_rootModuloPrime_10
def f_r_swapRows (F : Nat) (rt sp : Nat → Int32) : Option ((Nat → Int32) × (Nat → Int32)) := some (sp, rt)
set_option maxHeartbeats 4000000 in
set_option maxRecDepth 100000 in
theorem c_r_swapRows (l : Launch) (dC : Nat → ClassId) (dI : Nat → Nat → Nat) (sz F : Nat) (h0 h1 h2 h3 h4 h5 : Nat) (cA : ClassId) (nu pk dc rc : Int32) (pr ex dv rt sp rt' sp' : Nat → Int32) (h : f_r_swapRows F rt sp = some (rt', sp')) : Met l yX0_swapRows wsX0_swapRows { frames := 0, cells := 0, slots := 0, locals := 0 } (rf_Pc (dC, dI) [(cA, .int)] [(h0, .inr (0, [.int nu, .int pk, .ref h1, .ref h2, .int dc, .ref h3, .int rc, .ref h4, .ref h5])), (h1, .inl (cA, 7, .inl pr)), (h2, .inl (cA, 7, .inl ex)), (h3, .inl (cA, 360, .inl dv)), (h4, .inl (cA, 4096, .inl rt)), (h5, .inl (cA, 4096, .inl sp))] sz [.ref h0]) (va_Qv (fun u : Nat × Nat => True) (fun (u : Nat × Nat) t => va_P (dC, dI) vwCl [(h0, .inr (0, [.int nu, .int pk, .ref h1, .ref h2, .int dc, .ref h3, .int rc, .ref u.1, .ref u.2])), (h1, .inl (cA, 7, .inl pr)), (h2, .inl (cA, 7, .inl ex)), (h3, .inl (cA, 360, .inl dv)), (u.1, .inl (cA, 4096, .inl rt')), (u.2, .inl (cA, 4096, .inl sp'))] t.heap ∧ va_D (va_A [(h0, .inr (0, [.int nu, .int pk, .ref h1, .ref h2, .int dc, .ref h3, .int rc, .ref h4, .ref h5])), (h1, .inl (cA, 7, .inl pr)), (h2, .inl (cA, 7, .inl ex)), (h3, .inl (cA, 360, .inl dv)), (h4, .inl (cA, 4096, .inl rt)), (h5, .inl (cA, 4096, .inl sp))] sz) [(h0, .inr (0, [.int nu, .int pk, .ref h1, .ref h2, .int dc, .ref h3, .int rc, .ref u.1, .ref u.2])), (h1, .inl (cA, 7, .inl pr)), (h2, .inl (cA, 7, .inl ex)), (h3, .inl (cA, 360, .inl dv)), (u.1, .inl (cA, 4096, .inl rt')), (u.2, .inl (cA, 4096, .inl sp'))]) (va_A [(h0, .inr (0, [.int nu, .int pk, .ref h1, .ref h2, .int dc, .ref h3, .int rc, .ref h4, .ref h5])), (h1, .inl (cA, 7, .inl pr)), (h2, .inl (cA, 7, .inl ex)), (h3, .inl (cA, 360, .inl dv)), (h4, .inl (cA, 4096, .inl rt)), (h5, .inl (cA, 4096, .inl sp))] sz)) 0 0 (va_A [(h0, .inr (0, [.int nu, .int pk, .ref h1, .ref h2, .int dc, .ref h3, .int rc, .ref h4, .ref h5])), (h1, .inl (cA, 7, .inl pr)), (h2, .inl (cA, 7, .inl ex)), (h3, .inl (cA, 360, .inl dv)), (h4, .inl (cA, 4096, .inl rt)), (h5, .inl (cA, 4096, .inl sp))] sz) := by
  refine Met.ofW (cc := cX0_swapRows) (maxL := 2) (ret := none) (by decide) rfl ?_
  intro p e s m args below meth c s₁ B hml hv
  obtain ⟨rfl, hsz, hP, hK, hD0⟩ := hv
  have hx := B.exec
  have hb := B.bytes
  have hr := B.returns
  have hts := atoms_spec (ws := wsX0_swapRows) B.pre
  have hown : s.vm.findClass RX0 = some m.cls := findClass_of_methodNamed B.named
  have hlocks := B.notSynchronized
  subst hsz
  have hD := hD0.self (sz := s.heap.size)
  generalize hAe : va_A [(h0, .inr (0, [.int nu, .int pk, .ref h1, .ref h2, .int dc, .ref h3, .int rc, .ref h4, .ref h5])), (h1, .inl (cA, 7, .inl pr)), (h2, .inl (cA, 7, .inl ex)), (h3, .inl (cA, 360, .inl dv)), (h4, .inl (cA, 4096, .inl rt)), (h5, .inl (cA, 4096, .inl sp))] s.heap.size = A at hD ⊢
  have hA : ∀ q : Nat, s.heap.size ≤ q → A q := fun q h => by rw [← hAe]; exact Or.inr h
  have hS : va_S A s.heap s.heap [] := va_S.rf
  have hl := lv_entry ([.ref h0]) (n := 2) (Nat.le_of_ble_eq_true rfl)
  rw [lg_entry_eq]
  generalize (lg_sl ([.ref h0]) ++ List.replicate (2 - (lg_sl ([.ref h0])).length) Slot.unset).toArray = ls at hl ⊢
  have hl : lv_has ls 2 [(0, .ref h0)] := hl
  unfold f_r_swapRows at h
  refine lv_aload_n hx hb dX0_swapRows_0 rfl (lv_at hl 0 rfl) ?_
  refine va_get (D := (dC, dI)) (ci := 0) (v := .ref h4) (C := RX0) (T := TX0) (N := 9) hx hb hts (fun _ h => List.mem_cons_of_mem _ (List.mem_append_right _ h)) hown hK hP 0 rfl rfl 7 (by decide) (hts _ (List.mem_of_getElem? (i := 1) rfl)) (fun _ h9 => h9) rfl dX0_swapRows_1 ?_
  refine lv_astore_n (lv' := [(1, .ref h4), (0, .ref h0)]) hx hb dX0_swapRows_4 rfl hl (by decide) rfl (fun ls hl => ?_)
  refine lv_aload_n hx hb dX0_swapRows_5 rfl (lv_at hl 1 rfl) ?_
  refine lv_aload_n hx hb dX0_swapRows_6 rfl (lv_at hl 1 rfl) ?_
  refine va_get (D := (dC, dI)) (ci := 0) (v := .ref h5) (C := RX0) (T := TX0) (N := 9) hx hb hts (fun _ h => List.mem_cons_of_mem _ (List.mem_append_right _ h)) hown hK hP 0 rfl rfl 8 (by decide) (hts _ (List.mem_of_getElem? (i := 2) rfl)) (fun _ h9 => h9) rfl dX0_swapRows_7 ?_
  refine va_put (D := (dC, dI)) (ci := 0) (v := .ref h5) (ty := (.array .int)) (C := RX0) (T := TX0) (N := 9) hx hb hts (fun _ h => List.mem_cons_of_mem _ (List.mem_append_right _ h)) tyX0 tyX0_ok nX0 hown hK hP hD hS 0 rfl rfl 7 (by decide) (hts _ (List.mem_of_getElem? (i := 1) rfl)) (fun _ h9 => h9) rfl (by decide +kernel) rfl rfl (Nat.le_of_ble_eq_true rfl) dX0_swapRows_10 (fun H locs hP hD hS => ?_)
  have hP : va_P (dC, dI) vwCl [(h0, .inr (0, [.int nu, .int pk, .ref h1, .ref h2, .int dc, .ref h3, .int rc, .ref h5, .ref h5])), (h1, .inl (cA, 7, .inl pr)), (h2, .inl (cA, 7, .inl ex)), (h3, .inl (cA, 360, .inl dv)), (h4, .inl (cA, 4096, .inl rt)), (h5, .inl (cA, 4096, .inl sp))] H := hP
  have hD : va_D A [(h0, .inr (0, [.int nu, .int pk, .ref h1, .ref h2, .int dc, .ref h3, .int rc, .ref h5, .ref h5])), (h1, .inl (cA, 7, .inl pr)), (h2, .inl (cA, 7, .inl ex)), (h3, .inl (cA, 360, .inl dv)), (h4, .inl (cA, 4096, .inl rt)), (h5, .inl (cA, 4096, .inl sp))] := hD
  refine lv_aload_n hx hb dX0_swapRows_13 rfl (lv_at hl 1 rfl) ?_
  refine lv_aload_n hx hb dX0_swapRows_14 rfl (lv_at hl 0 rfl) ?_
  refine va_put (D := (dC, dI)) (ci := 0) (v := .ref h4) (ty := (.array .int)) (C := RX0) (T := TX0) (N := 9) hx hb hts (fun _ h => List.mem_cons_of_mem _ (List.mem_append_right _ h)) tyX0 tyX0_ok nX0 hown hK hP hD hS 0 rfl rfl 8 (by decide) (hts _ (List.mem_of_getElem? (i := 2) rfl)) (fun _ h9 => h9) rfl (by decide +kernel) rfl rfl (Nat.le_of_ble_eq_true rfl) dX0_swapRows_15 (fun H locs hP hD hS => ?_)
  have hP : va_P (dC, dI) vwCl [(h0, .inr (0, [.int nu, .int pk, .ref h1, .ref h2, .int dc, .ref h3, .int rc, .ref h5, .ref h4])), (h1, .inl (cA, 7, .inl pr)), (h2, .inl (cA, 7, .inl ex)), (h3, .inl (cA, 360, .inl dv)), (h4, .inl (cA, 4096, .inl rt)), (h5, .inl (cA, 4096, .inl sp))] H := hP
  have hD : va_D A [(h0, .inr (0, [.int nu, .int pk, .ref h1, .ref h2, .int dc, .ref h3, .int rc, .ref h5, .ref h4])), (h1, .inl (cA, 7, .inl pr)), (h2, .inl (cA, 7, .inl ex)), (h3, .inl (cA, 360, .inl dv)), (h4, .inl (cA, 4096, .inl rt)), (h5, .inl (cA, 4096, .inl sp))] := hD
  have hP : va_P (dC, dI) vwCl [(h0, .inr (0, [.int nu, .int pk, .ref h1, .ref h2, .int dc, .ref h3, .int rc, .ref h5, .ref h4])), (h1, .inl (cA, 7, .inl pr)), (h2, .inl (cA, 7, .inl ex)), (h3, .inl (cA, 360, .inl dv)), (h5, .inl (cA, 4096, .inl sp)), (h4, .inl (cA, 4096, .inl rt))] H := hP.sub [0, 1, 2, 3, 5, 4] rfl
  have hD : va_D A [(h0, .inr (0, [.int nu, .int pk, .ref h1, .ref h2, .int dc, .ref h3, .int rc, .ref h5, .ref h4])), (h1, .inl (cA, 7, .inl pr)), (h2, .inl (cA, 7, .inl ex)), (h3, .inl (cA, 360, .inl dv)), (h5, .inl (cA, 4096, .inl sp)), (h4, .inl (cA, 4096, .inl rt))] := hD.sub [0, 1, 2, 3, 5, 4] (by decide) rfl
  cases h
  exact W.vret hx hb hr (fun t ht hW => ⟨⟨(h5, h4), rfl, trivial, by rw [ht]; exact hP, hD⟩, hS.F ht⟩) hS.2.2 dX0_swapRows_18
def f_r_addRoot (F : Nat) (rc : Int32) (rt : Nat → Int32) (p0 : Int32) : Option (Int32 × (Nat → Int32)) := if 4096 ≤ rc then some (rc, rt) else if rc.toInt < 0 ∨ (4096 : Int) ≤ rc.toInt then none else some ((rc + 1), (upd rt rc.toNatClampNeg p0))
set_option maxHeartbeats 4000000 in
set_option maxRecDepth 100000 in
theorem c_r_addRoot (l : Launch) (dC : Nat → ClassId) (dI : Nat → Nat → Nat) (sz F : Nat) (h0 h1 h2 h3 h4 h5 : Nat) (cA : ClassId) (nu pk dc rc : Int32) (pr ex dv rt sp : Nat → Int32) (p0 rc' : Int32) (rt' : Nat → Int32) (h : f_r_addRoot F rc rt p0 = some (rc', rt')) : Met l yX0_addRoot wsX0_addRoot { frames := 0, cells := 0, slots := 0, locals := 0 } (rf_Pc (dC, dI) [(cA, .int)] [(h0, .inr (0, [.int nu, .int pk, .ref h1, .ref h2, .int dc, .ref h3, .int rc, .ref h4, .ref h5])), (h1, .inl (cA, 7, .inl pr)), (h2, .inl (cA, 7, .inl ex)), (h3, .inl (cA, 360, .inl dv)), (h4, .inl (cA, 4096, .inl rt)), (h5, .inl (cA, 4096, .inl sp))] sz [.ref h0, .int p0]) (va_Qv (fun _ : Unit => True) (fun (_ : Unit) t => va_P (dC, dI) vwCl [(h0, .inr (0, [.int nu, .int pk, .ref h1, .ref h2, .int dc, .ref h3, .int rc', .ref h4, .ref h5])), (h1, .inl (cA, 7, .inl pr)), (h2, .inl (cA, 7, .inl ex)), (h3, .inl (cA, 360, .inl dv)), (h4, .inl (cA, 4096, .inl rt')), (h5, .inl (cA, 4096, .inl sp))] t.heap ∧ va_D (va_A [(h0, .inr (0, [.int nu, .int pk, .ref h1, .ref h2, .int dc, .ref h3, .int rc, .ref h4, .ref h5])), (h1, .inl (cA, 7, .inl pr)), (h2, .inl (cA, 7, .inl ex)), (h3, .inl (cA, 360, .inl dv)), (h4, .inl (cA, 4096, .inl rt)), (h5, .inl (cA, 4096, .inl sp))] sz) [(h0, .inr (0, [.int nu, .int pk, .ref h1, .ref h2, .int dc, .ref h3, .int rc', .ref h4, .ref h5])), (h1, .inl (cA, 7, .inl pr)), (h2, .inl (cA, 7, .inl ex)), (h3, .inl (cA, 360, .inl dv)), (h4, .inl (cA, 4096, .inl rt')), (h5, .inl (cA, 4096, .inl sp))]) (va_A [(h0, .inr (0, [.int nu, .int pk, .ref h1, .ref h2, .int dc, .ref h3, .int rc, .ref h4, .ref h5])), (h1, .inl (cA, 7, .inl pr)), (h2, .inl (cA, 7, .inl ex)), (h3, .inl (cA, 360, .inl dv)), (h4, .inl (cA, 4096, .inl rt)), (h5, .inl (cA, 4096, .inl sp))] sz)) 0 0 (va_A [(h0, .inr (0, [.int nu, .int pk, .ref h1, .ref h2, .int dc, .ref h3, .int rc, .ref h4, .ref h5])), (h1, .inl (cA, 7, .inl pr)), (h2, .inl (cA, 7, .inl ex)), (h3, .inl (cA, 360, .inl dv)), (h4, .inl (cA, 4096, .inl rt)), (h5, .inl (cA, 4096, .inl sp))] sz) := by
  refine Met.ofW (cc := cX0_addRoot) (maxL := 2) (ret := none) (by decide) rfl ?_
  intro p e s m args below meth c s₁ B hml hv
  obtain ⟨rfl, hsz, hP, hK, hD0⟩ := hv
  have hx := B.exec
  have hb := B.bytes
  have hr := B.returns
  have hts := atoms_spec (ws := wsX0_addRoot) B.pre
  have hown : s.vm.findClass RX0 = some m.cls := findClass_of_methodNamed B.named
  have hlocks := B.notSynchronized
  subst hsz
  have hD := hD0.self (sz := s.heap.size)
  generalize hAe : va_A [(h0, .inr (0, [.int nu, .int pk, .ref h1, .ref h2, .int dc, .ref h3, .int rc, .ref h4, .ref h5])), (h1, .inl (cA, 7, .inl pr)), (h2, .inl (cA, 7, .inl ex)), (h3, .inl (cA, 360, .inl dv)), (h4, .inl (cA, 4096, .inl rt)), (h5, .inl (cA, 4096, .inl sp))] s.heap.size = A at hD ⊢
  have hA : ∀ q : Nat, s.heap.size ≤ q → A q := fun q h => by rw [← hAe]; exact Or.inr h
  have hS : va_S A s.heap s.heap [] := va_S.rf
  have hl := lv_entry ([.ref h0, .int p0]) (n := 2) (Nat.le_of_ble_eq_true rfl)
  rw [lg_entry_eq]
  generalize (lg_sl ([.ref h0, .int p0]) ++ List.replicate (2 - (lg_sl ([.ref h0, .int p0])).length) Slot.unset).toArray = ls at hl ⊢
  have hl : lv_has ls 2 [(0, .ref h0), (1, .int p0)] := hl
  unfold f_r_addRoot at h
  refine lv_aload_n hx hb dX0_addRoot_0 rfl (lv_at hl 0 rfl) ?_
  refine va_get (D := (dC, dI)) (ci := 0) (v := .int rc) (C := RX0) (T := TX0) (N := 9) hx hb hts (fun _ h => List.mem_cons_of_mem _ (List.mem_append_right _ h)) hown hK hP 0 rfl rfl 6 (by decide) (hts _ (List.mem_of_getElem? (i := 1) rfl)) (fun _ h9 => h9) rfl dX0_addRoot_1 ?_
  refine lv_sipush (v := 4096) hx hb dX0_addRoot_4 (by decide) ?_
  refine lv_icmp_ge (tgt := 30) hx hb dX0_addRoot_7 (by decide) (fun c1 => ?_) (fun c1 => ?_)
  · rw [if_pos c1] at h
    cases h
    exact W.vret hx hb hr (fun t ht hW => ⟨⟨(), rfl, trivial, by rw [ht]; exact hP, hD⟩, hS.F ht⟩) hS.2.2 dX0_addRoot_30
  · rw [if_neg c1] at h
    refine lv_aload_n hx hb dX0_addRoot_10 rfl (lv_at hl 0 rfl) ?_
    refine va_get (D := (dC, dI)) (ci := 0) (v := .ref h4) (C := RX0) (T := TX0) (N := 9) hx hb hts (fun _ h => List.mem_cons_of_mem _ (List.mem_append_right _ h)) hown hK hP 0 rfl rfl 7 (by decide) (hts _ (List.mem_of_getElem? (i := 2) rfl)) (fun _ h9 => h9) rfl dX0_addRoot_11 ?_
    refine lv_aload_n hx hb dX0_addRoot_14 rfl (lv_at hl 0 rfl) ?_
    refine va_get (D := (dC, dI)) (ci := 0) (v := .int rc) (C := RX0) (T := TX0) (N := 9) hx hb hts (fun _ h => List.mem_cons_of_mem _ (List.mem_append_right _ h)) hown hK hP 0 rfl rfl 6 (by decide) (hts _ (List.mem_of_getElem? (i := 1) rfl)) (fun _ h9 => h9) rfl dX0_addRoot_15 ?_
    refine lv_iload_n hx hb dX0_addRoot_18 rfl (lv_at hl 1 rfl) ?_
    obtain ⟨g2, h⟩ := rf_gd h
    refine va_iast hx hb hK hP hD hS 4 0 rfl rfl (rf_in g2) dX0_addRoot_19 (fun H locs hP hD hS => ?_)
    have hP : va_P (dC, dI) vwCl [(h0, .inr (0, [.int nu, .int pk, .ref h1, .ref h2, .int dc, .ref h3, .int rc, .ref h4, .ref h5])), (h1, .inl (cA, 7, .inl pr)), (h2, .inl (cA, 7, .inl ex)), (h3, .inl (cA, 360, .inl dv)), (h4, .inl (cA, 4096, .inl (upd rt rc.toNatClampNeg p0))), (h5, .inl (cA, 4096, .inl sp))] H := hP
    have hD : va_D A [(h0, .inr (0, [.int nu, .int pk, .ref h1, .ref h2, .int dc, .ref h3, .int rc, .ref h4, .ref h5])), (h1, .inl (cA, 7, .inl pr)), (h2, .inl (cA, 7, .inl ex)), (h3, .inl (cA, 360, .inl dv)), (h4, .inl (cA, 4096, .inl (upd rt rc.toNatClampNeg p0))), (h5, .inl (cA, 4096, .inl sp))] := hD
    refine lv_aload_n hx hb dX0_addRoot_20 rfl (lv_at hl 0 rfl) ?_
    refine lv_dup hx hb dX0_addRoot_21 rfl ?_
    refine va_get (D := (dC, dI)) (ci := 0) (v := .int rc) (C := RX0) (T := TX0) (N := 9) hx hb hts (fun _ h => List.mem_cons_of_mem _ (List.mem_append_right _ h)) hown hK hP 0 rfl rfl 6 (by decide) (hts _ (List.mem_of_getElem? (i := 1) rfl)) (fun _ h9 => h9) rfl dX0_addRoot_22 ?_
    refine lv_iconst (v := 1) hx hb dX0_addRoot_25 (by decide) ?_
    refine lv_iadd hx hb dX0_addRoot_26 ?_
    refine va_put (D := (dC, dI)) (ci := 0) (v := .int (rc + 1)) (ty := .int) (C := RX0) (T := TX0) (N := 9) hx hb hts (fun _ h => List.mem_cons_of_mem _ (List.mem_append_right _ h)) tyX0 tyX0_ok nX0 hown hK hP hD hS 0 rfl rfl 6 (by decide) (hts _ (List.mem_of_getElem? (i := 1) rfl)) (fun _ h9 => h9) rfl (by decide +kernel) rfl rfl (Nat.le_of_ble_eq_true rfl) dX0_addRoot_27 (fun H locs hP hD hS => ?_)
    have hP : va_P (dC, dI) vwCl [(h0, .inr (0, [.int nu, .int pk, .ref h1, .ref h2, .int dc, .ref h3, .int (rc + 1), .ref h4, .ref h5])), (h1, .inl (cA, 7, .inl pr)), (h2, .inl (cA, 7, .inl ex)), (h3, .inl (cA, 360, .inl dv)), (h4, .inl (cA, 4096, .inl (upd rt rc.toNatClampNeg p0))), (h5, .inl (cA, 4096, .inl sp))] H := hP
    have hD : va_D A [(h0, .inr (0, [.int nu, .int pk, .ref h1, .ref h2, .int dc, .ref h3, .int (rc + 1), .ref h4, .ref h5])), (h1, .inl (cA, 7, .inl pr)), (h2, .inl (cA, 7, .inl ex)), (h3, .inl (cA, 360, .inl dv)), (h4, .inl (cA, 4096, .inl (upd rt rc.toNatClampNeg p0))), (h5, .inl (cA, 4096, .inl sp))] := hD
    cases h
    exact W.vret hx hb hr (fun t ht hW => ⟨⟨(), rfl, trivial, by rw [ht]; exact hP, hD⟩, hS.F ht⟩) hS.2.2 dX0_addRoot_30
