def l_m_inverse_21 (F : Nat) (x3 : Int64) (nn : Int32) : Nat → Int64 → Int32 → Int32 → Option (Int32 × Int32)
  | 0, _, _, _ => none
  | n + 1, x5, x7, co => if nn ≤ x7 then b2 (f_m_raise F co 1) fun r2 co_2 => some (r2, co_2) else if (Int32.toInt64 nn) = 0 then none else if x5 = (lrm 1 (Int32.toInt64 nn)) then some (x7, co) else if (Int32.toInt64 nn) = 0 then none else l_m_inverse_21 F x3 nn n (lrm (x5 + x3) (Int32.toInt64 nn)) (x7 + 1) co
set_option maxHeartbeats 4000000 in
set_option maxRecDepth 100000 in
theorem w_m_inverse_21 {p : Program} {l : Launch} {e : Env} {s : State} {m : MethodId} {args : Array Value} {below : List Frame} {meth : Method} {c : Code} {A : Nat → Prop} {Q : State → Prop} {dC : Nat → ClassId} {dI : Nat → Nat → Nat} (F : Nat) (hx : p.tables.exec = Jvm.exec) (hb : c.code = cX1_inverse) (hml : c.maxLocals = 8) (hown : s.vm.findClass RX1 = some m.cls) (hts : ∀ w ∈ wsX1_inverse, w.before args s = true) (hA : ∀ q, s.heap.size ≤ q → A q) (h0 h1 h2 h3 h4 : Nat) (cA : ClassId) (hK : va_K (dC, dI) vwCl [(cA, .int)] s) (x3 : Int64) (nn dn pn fo : Int32) (da pa ea ro : Nat → Int32) :
    ∀ (n : Nat) (x5 : Int64) (x7 co rv co' : Int32), l_m_inverse_21 F x3 nn n x5 x7 co = some (rv, co') → ∀ (H : Heap) (locs : List Loc), va_P (dC, dI) vwCl [(h0, .inr (1, [.int co, .int nn, .int dn, .ref h1, .int pn, .ref h2, .ref h3, .int fo, .ref h4])), (h1, .inl (cA, 400, .inl da)), (h2, .inl (cA, 8, .inl pa)), (h3, .inl (cA, 8, .inl ea)), (h4, .inl (cA, 4096, .inl ro))] H → va_D A [(h0, .inr (1, [.int co, .int nn, .int dn, .ref h1, .int pn, .ref h2, .ref h3, .int fo, .ref h4])), (h1, .inl (cA, 400, .inl da)), (h2, .inl (cA, 8, .inl pa)), (h3, .inl (cA, 8, .inl ea)), (h4, .inl (cA, 4096, .inl ro))] → va_S A s.heap H locs → ∀ ls : Array Slot, lv_has ls 8 [(0, .ref h0), (3, .long x3), (5, .long x5), (7, .int x7)] → (∀ (pc : Nat) (H : Heap) (locs : List Loc) (ls : Array Slot), decode cX1_inverse pc = .ok (.ireturn, 1) → va_P (dC, dI) vwCl [(h0, .inr (1, [.int co', .int nn, .int dn, .ref h1, .int pn, .ref h2, .ref h3, .int fo, .ref h4])), (h1, .inl (cA, 400, .inl da)), (h2, .inl (cA, 8, .inl pa)), (h3, .inl (cA, 8, .inl ea)), (h4, .inl (cA, 4096, .inl ro))] H → va_D A [(h0, .inr (1, [.int co', .int nn, .int dn, .ref h1, .int pn, .ref h2, .ref h3, .int fo, .ref h4])), (h1, .inl (cA, 400, .inl da)), (h2, .inl (cA, 8, .inl pa)), (h3, .inl (cA, 8, .inl ea)), (h4, .inl (cA, 4096, .inl ro))] → va_S A s.heap H locs → W p l e { frames := 1, cells := 0, slots := 0, locals := 25 } s m args below meth c H locs 0 0 Q (F0 m pc ls [.int rv])) → W p l e { frames := 1, cells := 0, slots := 0, locals := 25 } s m args below meth c H locs 0 0 Q (F0 m 21 ls []) := by
  intro n
  induction n with
  | zero => intro x5 x7 co rv co' h; exact nomatch (show (none : Option _) = some _ from h)
  | succ n ih =>
    intro x5 x7 co rv co' h H locs hP hD hS ls hl K
    rw [l_m_inverse_21] at h
    refine lv_iload hx hb dX1_inverse_21 (lv_at hl 3 rfl) ?_
    refine lv_aload_n hx hb dX1_inverse_23 rfl (lv_at hl 0 rfl) ?_
    refine va_get (D := (dC, dI)) (ci := 1) (v := .int nn) (C := RX1) (T := TX1) (N := 9) hx hb hts (fun _ h => List.mem_cons_of_mem _ (List.mem_append_right _ h)) hown hK hP 0 rfl rfl 1 (by decide) (hts _ (List.mem_of_getElem? (i := 2) rfl)) (fun _ h9 => h9) rfl dX1_inverse_24 ?_
    refine lv_icmp_ge (tgt := 64) hx hb dX1_inverse_27 (by decide) (fun c1 => ?_) (fun c1 => ?_)
    · rw [if_pos c1] at h
      refine lv_aload_n hx hb dX1_inverse_64 rfl (lv_at hl 0 rfl) ?_
      refine lv_iconst (v := 1) hx hb dX1_inverse_65 (by decide) ?_
      obtain ⟨r2, co_2, hr2, h⟩ := rf_b2 h
      refine rf_ci (wn := (fun _ : Unit => [(h0, .inr (1, [.int co_2, .int nn, .int dn, .ref h1, .int pn, .ref h2, .ref h3, .int fo, .ref h4])), (h1, .inl (cA, 400, .inl da)), (h2, .inl (cA, 8, .inl pa)), (h3, .inl (cA, 8, .inl ea)), (h4, .inl (cA, 4096, .inl ro))])) (wc := [(h0, .inr (1, [.int co, .int nn, .int dn, .ref h1, .int pn, .ref h2, .ref h3, .int fo, .ref h4])), (h1, .inl (cA, 400, .inl da)), (h2, .inl (cA, 8, .inl pa)), (h3, .inl (cA, 8, .inl ea)), (h4, .inl (cA, 4096, .inl ro))]) (wr := []) hP hD hS hA [0, 1, 2, 3, 4] [] rfl rfl (by decide) (by decide) (va_runV (As := [.int 1]) (rest := []) ⟨hx, hb, hml, hown, hts⟩ (c_m_raise l dC dI _ F h0 h1 h2 h3 h4 cA co nn dn pn fo da pa ea ro 1 r2 co_2 hr2) (cwV 1 hts gX1_inverse_X1_raise rfl rfl rfl (by decide +kernel) ⟨Nat.le_of_ble_eq_true rfl, Nat.le_of_ble_eq_true rfl⟩) ⟨rf_blind, va_recv hK hP (ci := 1) (q0 := 0) rfl rfl, fun U hU hW => ⟨rfl, rf_pre (hP.sub (ws' := [(h0, .inr (1, [.int co, .int nn, .int dn, .ref h1, .int pn, .ref h2, .ref h3, .int fo, .ref h4])), (h1, .inl (cA, 400, .inl da)), (h2, .inl (cA, 8, .inl pa)), (h3, .inl (cA, 8, .inl ea)), (h4, .inl (cA, 4096, .inl ro))]) [0, 1, 2, 3, 4] rfl) (hK.sub (tys' := [(cA, .int)]) [0] rfl) (hD.sub (ws' := [(h0, .inr (1, [.int co, .int nn, .int dn, .ref h1, .int pn, .ref h2, .ref h3, .int fo, .ref h4])), (h1, .inl (cA, 400, .inl da)), (h2, .inl (cA, 8, .inl pa)), (h3, .inl (cA, 8, .inl ea)), (h4, .inl (cA, 4096, .inl ro))]) [0, 1, 2, 3, 4] (by decide) rfl) U hU hW⟩⟩ rfl rfl hl.1 rfl (lv_room (Nat.le_of_ble_eq_true rfl)) dX1_inverse_66 ⟨Nat.zero_le _, Nat.zero_le _⟩) (fun r2' u H locs hw hP hD hS => ?_)
      subst hw
      have hP : va_P (dC, dI) vwCl [(h0, .inr (1, [.int co_2, .int nn, .int dn, .ref h1, .int pn, .ref h2, .ref h3, .int fo, .ref h4])), (h1, .inl (cA, 400, .inl da)), (h2, .inl (cA, 8, .inl pa)), (h3, .inl (cA, 8, .inl ea)), (h4, .inl (cA, 4096, .inl ro))] H := hP
      have hD : va_D A [(h0, .inr (1, [.int co_2, .int nn, .int dn, .ref h1, .int pn, .ref h2, .ref h3, .int fo, .ref h4])), (h1, .inl (cA, 400, .inl da)), (h2, .inl (cA, 8, .inl pa)), (h3, .inl (cA, 8, .inl ea)), (h4, .inl (cA, 4096, .inl ro))] := hD
      cases h
      exact K 69 _ _ _ dX1_inverse_69 hP hD hS
    · rw [if_neg c1] at h
      refine lv_lload hx hb dX1_inverse_30 (lv_at hl 2 rfl) ?_
      refine lv_lconst (v := 1) hx hb dX1_inverse_32 (by decide) ?_
      refine lv_aload_n hx hb dX1_inverse_33 rfl (lv_at hl 0 rfl) ?_
      refine va_get (D := (dC, dI)) (ci := 1) (v := .int nn) (C := RX1) (T := TX1) (N := 9) hx hb hts (fun _ h => List.mem_cons_of_mem _ (List.mem_append_right _ h)) hown hK hP 0 rfl rfl 1 (by decide) (hts _ (List.mem_of_getElem? (i := 2) rfl)) (fun _ h9 => h9) rfl dX1_inverse_34 ?_
      refine lv_i2l (v := (Int32.toInt64 nn)) hx hb dX1_inverse_37 rfl ?_
      obtain ⟨g3, h⟩ := rf_gd h
      refine lv_lrem hx hb dX1_inverse_38 g3 ?_
      refine W.lcmp hx hb dX1_inverse_39 ?_
      refine lv_if_ne (tgt := 46) hx hb dX1_inverse_40 (by decide) (fun c4 => ?_) (fun c4 => ?_)
      · rw [lg_cmp_eq] at c4
        rw [if_neg c4] at h
        refine lv_lload hx hb dX1_inverse_46 (lv_at hl 2 rfl) ?_
        refine lv_lload_n hx hb dX1_inverse_48 rfl (lv_at hl 1 rfl) ?_
        refine lv_ladd hx hb dX1_inverse_49 ?_
        refine lv_aload_n hx hb dX1_inverse_50 rfl (lv_at hl 0 rfl) ?_
        refine va_get (D := (dC, dI)) (ci := 1) (v := .int nn) (C := RX1) (T := TX1) (N := 9) hx hb hts (fun _ h => List.mem_cons_of_mem _ (List.mem_append_right _ h)) hown hK hP 0 rfl rfl 1 (by decide) (hts _ (List.mem_of_getElem? (i := 2) rfl)) (fun _ h9 => h9) rfl dX1_inverse_51 ?_
        refine lv_i2l (v := (Int32.toInt64 nn)) hx hb dX1_inverse_54 rfl ?_
        obtain ⟨g5, h⟩ := rf_gd h
        refine lv_lrem hx hb dX1_inverse_55 g5 ?_
        refine lv_lstore (lv' := [(5, .long (lrm (x5 + x3) (Int32.toInt64 nn))), (0, .ref h0), (3, .long x3), (7, .int x7)]) hx hb dX1_inverse_56 hl (by decide) rfl (fun ls hl => ?_)
        refine lv_iinc (v := (x7 + 1)) (lv' := [(7, .int (x7 + 1)), (5, .long (lrm (x5 + x3) (Int32.toInt64 nn))), (0, .ref h0), (3, .long x3)]) hx hb dX1_inverse_58 hl (k := 3) rfl rfl (by decide) rfl (fun ls hl => ?_)
        refine lv_goto (tgt := 21) hx hb dX1_inverse_61 (by decide) ?_
        exact ih (lrm (x5 + x3) (Int32.toInt64 nn)) (x7 + 1) co rv co' h _ _ hP hD hS _ (lv_sub hl [2, 3, 1, 0] rfl) K
      · rw [lg_cmp_eq] at c4
        rw [if_pos c4] at h
        refine lv_iload hx hb dX1_inverse_43 (lv_at hl 3 rfl) ?_
        cases h
        exact K 45 _ _ _ dX1_inverse_45 hP hD hS
def f_m_inverse (F : Nat) (co nn : Int32) (p0 : Int64) : Option (Int32 × Int32) := b1 (f_m_rest F p0 (Int32.toInt64 nn)) fun r1 => l_m_inverse_21 F r1 nn F 0 0 0
set_option maxHeartbeats 4000000 in
set_option maxRecDepth 100000 in
theorem c_m_inverse (l : Launch) (dC : Nat → ClassId) (dI : Nat → Nat → Nat) (sz F : Nat) (h0 h1 h2 h3 h4 : Nat) (cA : ClassId) (co nn dn pn fo : Int32) (da pa ea ro : Nat → Int32) (p0 : Int64) (rv co' : Int32) (h : f_m_inverse F co nn p0 = some (rv, co')) : Met l yX1_inverse wsX1_inverse { frames := 1, cells := 0, slots := 0, locals := 25 } (rf_Pc (dC, dI) [(cA, .int)] [(h0, .inr (1, [.int co, .int nn, .int dn, .ref h1, .int pn, .ref h2, .ref h3, .int fo, .ref h4])), (h1, .inl (cA, 400, .inl da)), (h2, .inl (cA, 8, .inl pa)), (h3, .inl (cA, 8, .inl ea)), (h4, .inl (cA, 4096, .inl ro))] sz [.ref h0, .long p0]) (va_Qi (fun (r : Int32) (_ : Unit) => rv = r) (fun (_ : Unit) t => va_P (dC, dI) vwCl [(h0, .inr (1, [.int co', .int nn, .int dn, .ref h1, .int pn, .ref h2, .ref h3, .int fo, .ref h4])), (h1, .inl (cA, 400, .inl da)), (h2, .inl (cA, 8, .inl pa)), (h3, .inl (cA, 8, .inl ea)), (h4, .inl (cA, 4096, .inl ro))] t.heap ∧ va_D (va_A [(h0, .inr (1, [.int co, .int nn, .int dn, .ref h1, .int pn, .ref h2, .ref h3, .int fo, .ref h4])), (h1, .inl (cA, 400, .inl da)), (h2, .inl (cA, 8, .inl pa)), (h3, .inl (cA, 8, .inl ea)), (h4, .inl (cA, 4096, .inl ro))] sz) [(h0, .inr (1, [.int co', .int nn, .int dn, .ref h1, .int pn, .ref h2, .ref h3, .int fo, .ref h4])), (h1, .inl (cA, 400, .inl da)), (h2, .inl (cA, 8, .inl pa)), (h3, .inl (cA, 8, .inl ea)), (h4, .inl (cA, 4096, .inl ro))]) (va_A [(h0, .inr (1, [.int co, .int nn, .int dn, .ref h1, .int pn, .ref h2, .ref h3, .int fo, .ref h4])), (h1, .inl (cA, 400, .inl da)), (h2, .inl (cA, 8, .inl pa)), (h3, .inl (cA, 8, .inl ea)), (h4, .inl (cA, 4096, .inl ro))] sz)) 0 0 (va_A [(h0, .inr (1, [.int co, .int nn, .int dn, .ref h1, .int pn, .ref h2, .ref h3, .int fo, .ref h4])), (h1, .inl (cA, 400, .inl da)), (h2, .inl (cA, 8, .inl pa)), (h3, .inl (cA, 8, .inl ea)), (h4, .inl (cA, 4096, .inl ro))] sz) := by
  refine Met.ofW (cc := cX1_inverse) (maxL := 8) (ret := (some .int)) (by decide) rfl ?_
  intro p e s m args below meth c s₁ B hml hv
  obtain ⟨rfl, hsz, hP, hK, hD0⟩ := hv
  have hx := B.exec
  have hb := B.bytes
  have hr := B.returns
  have hts := atoms_spec (ws := wsX1_inverse) B.pre
  have hown : s.vm.findClass RX1 = some m.cls := findClass_of_methodNamed B.named
  have hlocks := B.notSynchronized
  subst hsz
  have hD := hD0.self (sz := s.heap.size)
  generalize hAe : va_A [(h0, .inr (1, [.int co, .int nn, .int dn, .ref h1, .int pn, .ref h2, .ref h3, .int fo, .ref h4])), (h1, .inl (cA, 400, .inl da)), (h2, .inl (cA, 8, .inl pa)), (h3, .inl (cA, 8, .inl ea)), (h4, .inl (cA, 4096, .inl ro))] s.heap.size = A at hD ⊢
  have hA : ∀ q : Nat, s.heap.size ≤ q → A q := fun q h => by rw [← hAe]; exact Or.inr h
  have hS : va_S A s.heap s.heap [] := va_S.rf
  have hl := lv_entry ([.ref h0, .long p0]) (n := 8) (Nat.le_of_ble_eq_true rfl)
  rw [lg_entry_eq]
  generalize (lg_sl ([.ref h0, .long p0]) ++ List.replicate (8 - (lg_sl ([.ref h0, .long p0])).length) Slot.unset).toArray = ls at hl ⊢
  have hl : lv_has ls 8 [(0, .ref h0), (1, .long p0)] := hl
  unfold f_m_inverse at h
  refine lv_aload_n hx hb dX1_inverse_0 rfl (lv_at hl 0 rfl) ?_
  refine lv_iconst (v := 0) hx hb dX1_inverse_1 (by decide) ?_
  refine va_put (D := (dC, dI)) (ci := 1) (v := .int 0) (ty := .int) (C := RX1) (T := TX1) (N := 9) hx hb hts (fun _ h => List.mem_cons_of_mem _ (List.mem_append_right _ h)) tyX1 tyX1_ok nX1 hown hK hP hD hS 0 rfl rfl 0 (by decide) (hts _ (List.mem_of_getElem? (i := 1) rfl)) (fun _ h9 => h9) rfl (by decide +kernel) rfl rfl (Nat.le_of_ble_eq_true rfl) dX1_inverse_2 (fun H locs hP hD hS => ?_)
  have hP : va_P (dC, dI) vwCl [(h0, .inr (1, [.int 0, .int nn, .int dn, .ref h1, .int pn, .ref h2, .ref h3, .int fo, .ref h4])), (h1, .inl (cA, 400, .inl da)), (h2, .inl (cA, 8, .inl pa)), (h3, .inl (cA, 8, .inl ea)), (h4, .inl (cA, 4096, .inl ro))] H := hP
  have hD : va_D A [(h0, .inr (1, [.int 0, .int nn, .int dn, .ref h1, .int pn, .ref h2, .ref h3, .int fo, .ref h4])), (h1, .inl (cA, 400, .inl da)), (h2, .inl (cA, 8, .inl pa)), (h3, .inl (cA, 8, .inl ea)), (h4, .inl (cA, 4096, .inl ro))] := hD
  refine lv_lload_n hx hb dX1_inverse_5 rfl (lv_at hl 1 rfl) ?_
  refine lv_aload_n hx hb dX1_inverse_6 rfl (lv_at hl 0 rfl) ?_
  refine va_get (D := (dC, dI)) (ci := 1) (v := .int nn) (C := RX1) (T := TX1) (N := 9) hx hb hts (fun _ h => List.mem_cons_of_mem _ (List.mem_append_right _ h)) hown hK hP 0 rfl rfl 1 (by decide) (hts _ (List.mem_of_getElem? (i := 2) rfl)) (fun _ h9 => h9) rfl dX1_inverse_7 ?_
  refine lv_i2l (v := (Int32.toInt64 nn)) hx hb dX1_inverse_10 rfl ?_
  obtain ⟨r1, hr1, h⟩ := rf_b1 h
  refine rf_cl (wn := (fun _ : Unit => [])) (wc := []) (wr := [(h0, .inr (1, [.int 0, .int nn, .int dn, .ref h1, .int pn, .ref h2, .ref h3, .int fo, .ref h4])), (h1, .inl (cA, 400, .inl da)), (h2, .inl (cA, 8, .inl pa)), (h3, .inl (cA, 8, .inl ea)), (h4, .inl (cA, 4096, .inl ro))]) hP hD hS hA [] [0, 1, 2, 3, 4] rfl rfl (by decide) (by decide) (va_runS (As := [.long p0, .long (Int32.toInt64 nn)]) (rest := []) ⟨hx, hb, hml, hown, hts⟩ (c_m_rest l dC dI _ F p0 (Int32.toInt64 nn) r1 hr1) (va_cwS 2 hts gX1_inverse_X1_rest rfl rfl rfl (by decide +kernel) ⟨Nat.le_of_ble_eq_true rfl, Nat.le_of_ble_eq_true rfl⟩) ⟨rf_blind, fun U hU hW => ⟨rfl, rf_pre (hP.sub (ws' := []) [] rfl) (hK.sub (tys' := []) [] rfl) (hD.sub (ws' := []) [] (by decide) rfl) U hU hW⟩⟩ rfl rfl hl.1 rfl (lv_room (Nat.le_of_ble_eq_true rfl)) dX1_inverse_11 ⟨Nat.zero_le _, Nat.zero_le _⟩) (fun r1' u H locs hw hP hD hS => ?_)
  subst hw
  have hP : va_P (dC, dI) vwCl [(h0, .inr (1, [.int 0, .int nn, .int dn, .ref h1, .int pn, .ref h2, .ref h3, .int fo, .ref h4])), (h1, .inl (cA, 400, .inl da)), (h2, .inl (cA, 8, .inl pa)), (h3, .inl (cA, 8, .inl ea)), (h4, .inl (cA, 4096, .inl ro))] H := hP
  have hD : va_D A [(h0, .inr (1, [.int 0, .int nn, .int dn, .ref h1, .int pn, .ref h2, .ref h3, .int fo, .ref h4])), (h1, .inl (cA, 400, .inl da)), (h2, .inl (cA, 8, .inl pa)), (h3, .inl (cA, 8, .inl ea)), (h4, .inl (cA, 4096, .inl ro))] := hD
  refine lv_lstore_n (lv' := [(3, .long r1), (0, .ref h0), (1, .long p0)]) hx hb dX1_inverse_14 rfl hl (by decide) rfl (fun ls hl => ?_)
  refine lv_lconst (v := 0) hx hb dX1_inverse_15 (by decide) ?_
  refine lv_lstore (lv' := [(5, .long 0), (3, .long r1), (0, .ref h0), (1, .long p0)]) hx hb dX1_inverse_16 hl (by decide) rfl (fun ls hl => ?_)
  refine lv_iconst (v := 0) hx hb dX1_inverse_18 (by decide) ?_
  refine lv_istore (lv' := [(7, .int 0), (5, .long 0), (3, .long r1), (0, .ref h0), (1, .long p0)]) hx hb dX1_inverse_19 hl (by decide) rfl (fun ls hl => ?_)
  refine w_m_inverse_21 F hx hb hml hown hts hA h0 h1 h2 h3 h4 cA hK r1 nn dn pn fo da pa ea ro F 0 0 0 rv co' h _ _ hP hD hS _ (lv_sub hl [3, 2, 1, 0] rfl) (fun pc H locs ls hdg hP hD hS => ?_)
  exact W.iret hx hb hr (fun t ht hW => ⟨⟨_, (), rfl, rfl, by rw [ht]; exact hP, hD⟩, hS.F ht⟩) hS.2.2 hdg
def l_m_roots_26 (F : Nat) (x3 : Int64) (nn : Int32) : Nat → Int64 → Int32 → Int32 → (Nat → Int32) → Option (Int32 × (Nat → Int32))
  | 0, _, _, _, _ => none
  | n + 1, x5, x7, fo, ro => if nn ≤ x7 then some (fo, ro) else if x5 = x3 then if fo.toInt < 0 ∨ (4096 : Int) ≤ fo.toInt then none else if (Int32.toInt64 nn) = 0 then none else l_m_roots_26 F x3 nn n (lrm ((x5 + (2 * (Int32.toInt64 x7))) + 1) (Int32.toInt64 nn)) (x7 + 1) (fo + 1) (upd ro fo.toNatClampNeg x7) else if (Int32.toInt64 nn) = 0 then none else l_m_roots_26 F x3 nn n (lrm ((x5 + (2 * (Int32.toInt64 x7))) + 1) (Int32.toInt64 nn)) (x7 + 1) fo ro
set_option maxHeartbeats 4000000 in
set_option maxRecDepth 100000 in
theorem w_m_roots_26 {p : Program} {l : Launch} {e : Env} {s : State} {m : MethodId} {args : Array Value} {below : List Frame} {meth : Method} {c : Code} {A : Nat → Prop} {Q : State → Prop} {dC : Nat → ClassId} {dI : Nat → Nat → Nat} (F : Nat) (hx : p.tables.exec = Jvm.exec) (hb : c.code = cX1_roots) (hml : c.maxLocals = 8) (hown : s.vm.findClass RX1 = some m.cls) (hts : ∀ w ∈ wsX1_roots, w.before args s = true) (hA : ∀ q, s.heap.size ≤ q → A q) (h0 h1 h2 h3 h4 : Nat) (cA : ClassId) (hK : va_K (dC, dI) vwCl [(cA, .int)] s) (x3 : Int64) (co nn dn pn : Int32) (da pa ea : Nat → Int32) :
    ∀ (n : Nat) (x5 : Int64) (x7 fo : Int32) (ro : Nat → Int32) (fo' : Int32) (ro' : Nat → Int32), l_m_roots_26 F x3 nn n x5 x7 fo ro = some (fo', ro') → ∀ (H : Heap) (locs : List Loc), va_P (dC, dI) vwCl [(h0, .inr (1, [.int co, .int nn, .int dn, .ref h1, .int pn, .ref h2, .ref h3, .int fo, .ref h4])), (h1, .inl (cA, 400, .inl da)), (h2, .inl (cA, 8, .inl pa)), (h3, .inl (cA, 8, .inl ea)), (h4, .inl (cA, 4096, .inl ro))] H → va_D A [(h0, .inr (1, [.int co, .int nn, .int dn, .ref h1, .int pn, .ref h2, .ref h3, .int fo, .ref h4])), (h1, .inl (cA, 400, .inl da)), (h2, .inl (cA, 8, .inl pa)), (h3, .inl (cA, 8, .inl ea)), (h4, .inl (cA, 4096, .inl ro))] → va_S A s.heap H locs → ∀ ls : Array Slot, lv_has ls 8 [(0, .ref h0), (3, .long x3), (5, .long x5), (7, .int x7)] → (∀ (H : Heap) (locs : List Loc) (ls : Array Slot), va_P (dC, dI) vwCl [(h0, .inr (1, [.int co, .int nn, .int dn, .ref h1, .int pn, .ref h2, .ref h3, .int fo', .ref h4])), (h1, .inl (cA, 400, .inl da)), (h2, .inl (cA, 8, .inl pa)), (h3, .inl (cA, 8, .inl ea)), (h4, .inl (cA, 4096, .inl ro'))] H → va_D A [(h0, .inr (1, [.int co, .int nn, .int dn, .ref h1, .int pn, .ref h2, .ref h3, .int fo', .ref h4])), (h1, .inl (cA, 400, .inl da)), (h2, .inl (cA, 8, .inl pa)), (h3, .inl (cA, 8, .inl ea)), (h4, .inl (cA, 4096, .inl ro'))] → va_S A s.heap H locs → lv_has ls 8 [(0, .ref h0)] → W p l e { frames := 1, cells := 0, slots := 0, locals := 25 } s m args below meth c H locs 0 0 Q (F0 m 89 ls [])) → W p l e { frames := 1, cells := 0, slots := 0, locals := 25 } s m args below meth c H locs 0 0 Q (F0 m 26 ls []) := by
  intro n
  induction n with
  | zero => intro x5 x7 fo ro fo' ro' h; exact nomatch (show (none : Option _) = some _ from h)
  | succ n ih =>
    intro x5 x7 fo ro fo' ro' h H locs hP hD hS ls hl K
    rw [l_m_roots_26] at h
    refine lv_iload hx hb dX1_roots_26 (lv_at hl 3 rfl) ?_
    refine lv_aload_n hx hb dX1_roots_28 rfl (lv_at hl 0 rfl) ?_
    refine va_get (D := (dC, dI)) (ci := 1) (v := .int nn) (C := RX1) (T := TX1) (N := 9) hx hb hts (fun _ h => List.mem_cons_of_mem _ (List.mem_append_right _ h)) hown hK hP 0 rfl rfl 1 (by decide) (hts _ (List.mem_of_getElem? (i := 2) rfl)) (fun _ h9 => h9) rfl dX1_roots_29 ?_
    refine lv_icmp_ge (tgt := 89) hx hb dX1_roots_32 (by decide) (fun c1 => ?_) (fun c1 => ?_)
    · rw [if_pos c1] at h
      cases h
      exact K _ _ _ hP hD hS (lv_sub hl [0] rfl)
    · rw [if_neg c1] at h
      refine lv_lload hx hb dX1_roots_35 (lv_at hl 2 rfl) ?_
      refine lv_lload_n hx hb dX1_roots_37 rfl (lv_at hl 1 rfl) ?_
      refine W.lcmp hx hb dX1_roots_38 ?_
      refine lv_if_ne (tgt := 63) hx hb dX1_roots_39 (by decide) (fun c2 => ?_) (fun c2 => ?_)
      · rw [lg_cmp_eq] at c2
        rw [if_neg c2] at h
        refine lv_lload hx hb dX1_roots_63 (lv_at hl 2 rfl) ?_
        refine lv_ldc2 (v := 2) hx hb hown (hts _ (List.mem_of_getElem? (i := 8) rfl)) dX1_roots_65 ?_
        refine lv_iload hx hb dX1_roots_68 (lv_at hl 3 rfl) ?_
        refine lv_i2l (v := (Int32.toInt64 x7)) hx hb dX1_roots_70 rfl ?_
        refine lv_lmul hx hb dX1_roots_71 ?_
        refine lv_ladd hx hb dX1_roots_72 ?_
        refine lv_lconst (v := 1) hx hb dX1_roots_73 (by decide) ?_
        refine lv_ladd hx hb dX1_roots_74 ?_
        refine lv_aload_n hx hb dX1_roots_75 rfl (lv_at hl 0 rfl) ?_
        refine va_get (D := (dC, dI)) (ci := 1) (v := .int nn) (C := RX1) (T := TX1) (N := 9) hx hb hts (fun _ h => List.mem_cons_of_mem _ (List.mem_append_right _ h)) hown hK hP 0 rfl rfl 1 (by decide) (hts _ (List.mem_of_getElem? (i := 2) rfl)) (fun _ h9 => h9) rfl dX1_roots_76 ?_
        refine lv_i2l (v := (Int32.toInt64 nn)) hx hb dX1_roots_79 rfl ?_
        obtain ⟨g3, h⟩ := rf_gd h
        refine lv_lrem hx hb dX1_roots_80 g3 ?_
        refine lv_lstore (lv' := [(5, .long (lrm ((x5 + (2 * (Int32.toInt64 x7))) + 1) (Int32.toInt64 nn))), (0, .ref h0), (3, .long x3), (7, .int x7)]) hx hb dX1_roots_81 hl (by decide) rfl (fun ls hl => ?_)
        refine lv_iinc (v := (x7 + 1)) (lv' := [(7, .int (x7 + 1)), (5, .long (lrm ((x5 + (2 * (Int32.toInt64 x7))) + 1) (Int32.toInt64 nn))), (0, .ref h0), (3, .long x3)]) hx hb dX1_roots_83 hl (k := 3) rfl rfl (by decide) rfl (fun ls hl => ?_)
        refine lv_goto (tgt := 26) hx hb dX1_roots_86 (by decide) ?_
        exact ih (lrm ((x5 + (2 * (Int32.toInt64 x7))) + 1) (Int32.toInt64 nn)) (x7 + 1) fo ro fo' ro' h _ _ hP hD hS _ (lv_sub hl [2, 3, 1, 0] rfl) K
      · rw [lg_cmp_eq] at c2
        rw [if_pos c2] at h
        refine lv_aload_n hx hb dX1_roots_42 rfl (lv_at hl 0 rfl) ?_
        refine va_get (D := (dC, dI)) (ci := 1) (v := .ref h4) (C := RX1) (T := TX1) (N := 9) hx hb hts (fun _ h => List.mem_cons_of_mem _ (List.mem_append_right _ h)) hown hK hP 0 rfl rfl 8 (by decide) (hts _ (List.mem_of_getElem? (i := 9) rfl)) (fun _ h9 => h9) rfl dX1_roots_43 ?_
        refine lv_aload_n hx hb dX1_roots_46 rfl (lv_at hl 0 rfl) ?_
        refine va_get (D := (dC, dI)) (ci := 1) (v := .int fo) (C := RX1) (T := TX1) (N := 9) hx hb hts (fun _ h => List.mem_cons_of_mem _ (List.mem_append_right _ h)) hown hK hP 0 rfl rfl 7 (by decide) (hts _ (List.mem_of_getElem? (i := 7) rfl)) (fun _ h9 => h9) rfl dX1_roots_47 ?_
        refine lv_iload hx hb dX1_roots_50 (lv_at hl 3 rfl) ?_
        obtain ⟨g4, h⟩ := rf_gd h
        refine va_iast hx hb hK hP hD hS 4 0 rfl rfl (rf_in g4) dX1_roots_52 (fun H locs hP hD hS => ?_)
        have hP : va_P (dC, dI) vwCl [(h0, .inr (1, [.int co, .int nn, .int dn, .ref h1, .int pn, .ref h2, .ref h3, .int fo, .ref h4])), (h1, .inl (cA, 400, .inl da)), (h2, .inl (cA, 8, .inl pa)), (h3, .inl (cA, 8, .inl ea)), (h4, .inl (cA, 4096, .inl (upd ro fo.toNatClampNeg x7)))] H := hP
        have hD : va_D A [(h0, .inr (1, [.int co, .int nn, .int dn, .ref h1, .int pn, .ref h2, .ref h3, .int fo, .ref h4])), (h1, .inl (cA, 400, .inl da)), (h2, .inl (cA, 8, .inl pa)), (h3, .inl (cA, 8, .inl ea)), (h4, .inl (cA, 4096, .inl (upd ro fo.toNatClampNeg x7)))] := hD
        refine lv_aload_n hx hb dX1_roots_53 rfl (lv_at hl 0 rfl) ?_
        refine lv_dup hx hb dX1_roots_54 rfl ?_
        refine va_get (D := (dC, dI)) (ci := 1) (v := .int fo) (C := RX1) (T := TX1) (N := 9) hx hb hts (fun _ h => List.mem_cons_of_mem _ (List.mem_append_right _ h)) hown hK hP 0 rfl rfl 7 (by decide) (hts _ (List.mem_of_getElem? (i := 7) rfl)) (fun _ h9 => h9) rfl dX1_roots_55 ?_
        refine lv_iconst (v := 1) hx hb dX1_roots_58 (by decide) ?_
        refine lv_iadd hx hb dX1_roots_59 ?_
        refine va_put (D := (dC, dI)) (ci := 1) (v := .int (fo + 1)) (ty := .int) (C := RX1) (T := TX1) (N := 9) hx hb hts (fun _ h => List.mem_cons_of_mem _ (List.mem_append_right _ h)) tyX1 tyX1_ok nX1 hown hK hP hD hS 0 rfl rfl 7 (by decide) (hts _ (List.mem_of_getElem? (i := 7) rfl)) (fun _ h9 => h9) rfl (by decide +kernel) rfl rfl (Nat.le_of_ble_eq_true rfl) dX1_roots_60 (fun H locs hP hD hS => ?_)
        have hP : va_P (dC, dI) vwCl [(h0, .inr (1, [.int co, .int nn, .int dn, .ref h1, .int pn, .ref h2, .ref h3, .int (fo + 1), .ref h4])), (h1, .inl (cA, 400, .inl da)), (h2, .inl (cA, 8, .inl pa)), (h3, .inl (cA, 8, .inl ea)), (h4, .inl (cA, 4096, .inl (upd ro fo.toNatClampNeg x7)))] H := hP
        have hD : va_D A [(h0, .inr (1, [.int co, .int nn, .int dn, .ref h1, .int pn, .ref h2, .ref h3, .int (fo + 1), .ref h4])), (h1, .inl (cA, 400, .inl da)), (h2, .inl (cA, 8, .inl pa)), (h3, .inl (cA, 8, .inl ea)), (h4, .inl (cA, 4096, .inl (upd ro fo.toNatClampNeg x7)))] := hD
        refine lv_lload hx hb dX1_roots_63 (lv_at hl 2 rfl) ?_
        refine lv_ldc2 (v := 2) hx hb hown (hts _ (List.mem_of_getElem? (i := 8) rfl)) dX1_roots_65 ?_
        refine lv_iload hx hb dX1_roots_68 (lv_at hl 3 rfl) ?_
        refine lv_i2l (v := (Int32.toInt64 x7)) hx hb dX1_roots_70 rfl ?_
        refine lv_lmul hx hb dX1_roots_71 ?_
        refine lv_ladd hx hb dX1_roots_72 ?_
        refine lv_lconst (v := 1) hx hb dX1_roots_73 (by decide) ?_
        refine lv_ladd hx hb dX1_roots_74 ?_
        refine lv_aload_n hx hb dX1_roots_75 rfl (lv_at hl 0 rfl) ?_
        refine va_get (D := (dC, dI)) (ci := 1) (v := .int nn) (C := RX1) (T := TX1) (N := 9) hx hb hts (fun _ h => List.mem_cons_of_mem _ (List.mem_append_right _ h)) hown hK hP 0 rfl rfl 1 (by decide) (hts _ (List.mem_of_getElem? (i := 2) rfl)) (fun _ h9 => h9) rfl dX1_roots_76 ?_
        refine lv_i2l (v := (Int32.toInt64 nn)) hx hb dX1_roots_79 rfl ?_
        obtain ⟨g5, h⟩ := rf_gd h
        refine lv_lrem hx hb dX1_roots_80 g5 ?_
        refine lv_lstore (lv' := [(5, .long (lrm ((x5 + (2 * (Int32.toInt64 x7))) + 1) (Int32.toInt64 nn))), (0, .ref h0), (3, .long x3), (7, .int x7)]) hx hb dX1_roots_81 hl (by decide) rfl (fun ls hl => ?_)
        refine lv_iinc (v := (x7 + 1)) (lv' := [(7, .int (x7 + 1)), (5, .long (lrm ((x5 + (2 * (Int32.toInt64 x7))) + 1) (Int32.toInt64 nn))), (0, .ref h0), (3, .long x3)]) hx hb dX1_roots_83 hl (k := 3) rfl rfl (by decide) rfl (fun ls hl => ?_)
        refine lv_goto (tgt := 26) hx hb dX1_roots_86 (by decide) ?_
        exact ih (lrm ((x5 + (2 * (Int32.toInt64 x7))) + 1) (Int32.toInt64 nn)) (x7 + 1) (fo + 1) (upd ro fo.toNatClampNeg x7) fo' ro' h _ _ hP hD hS _ (lv_sub hl [2, 3, 1, 0] rfl) K
def f_m_roots (F : Nat) (co nn fo : Int32) (ro : Nat → Int32) (p0 : Int64) : Option (Int32 × Int32 × Int32 × (Nat → Int32)) := b1 (f_m_rest F p0 (Int32.toInt64 nn)) fun r1 => b2 (l_m_roots_26 F r1 nn F 0 0 0 ro) fun fo_2 ro_2 => some (fo_2, 0, fo_2, ro_2)
set_option maxHeartbeats 4000000 in
set_option maxRecDepth 100000 in
theorem c_m_roots (l : Launch) (dC : Nat → ClassId) (dI : Nat → Nat → Nat) (sz F : Nat) (h0 h1 h2 h3 h4 : Nat) (cA : ClassId) (co nn dn pn fo : Int32) (da pa ea ro : Nat → Int32) (p0 : Int64) (rv co' fo' : Int32) (ro' : Nat → Int32) (h : f_m_roots F co nn fo ro p0 = some (rv, co', fo', ro')) : Met l yX1_roots wsX1_roots { frames := 1, cells := 0, slots := 0, locals := 25 } (rf_Pc (dC, dI) [(cA, .int)] [(h0, .inr (1, [.int co, .int nn, .int dn, .ref h1, .int pn, .ref h2, .ref h3, .int fo, .ref h4])), (h1, .inl (cA, 400, .inl da)), (h2, .inl (cA, 8, .inl pa)), (h3, .inl (cA, 8, .inl ea)), (h4, .inl (cA, 4096, .inl ro))] sz [.ref h0, .long p0]) (va_Qi (fun (r : Int32) (_ : Unit) => rv = r) (fun (_ : Unit) t => va_P (dC, dI) vwCl [(h0, .inr (1, [.int co', .int nn, .int dn, .ref h1, .int pn, .ref h2, .ref h3, .int fo', .ref h4])), (h1, .inl (cA, 400, .inl da)), (h2, .inl (cA, 8, .inl pa)), (h3, .inl (cA, 8, .inl ea)), (h4, .inl (cA, 4096, .inl ro'))] t.heap ∧ va_D (va_A [(h0, .inr (1, [.int co, .int nn, .int dn, .ref h1, .int pn, .ref h2, .ref h3, .int fo, .ref h4])), (h1, .inl (cA, 400, .inl da)), (h2, .inl (cA, 8, .inl pa)), (h3, .inl (cA, 8, .inl ea)), (h4, .inl (cA, 4096, .inl ro))] sz) [(h0, .inr (1, [.int co', .int nn, .int dn, .ref h1, .int pn, .ref h2, .ref h3, .int fo', .ref h4])), (h1, .inl (cA, 400, .inl da)), (h2, .inl (cA, 8, .inl pa)), (h3, .inl (cA, 8, .inl ea)), (h4, .inl (cA, 4096, .inl ro'))]) (va_A [(h0, .inr (1, [.int co, .int nn, .int dn, .ref h1, .int pn, .ref h2, .ref h3, .int fo, .ref h4])), (h1, .inl (cA, 400, .inl da)), (h2, .inl (cA, 8, .inl pa)), (h3, .inl (cA, 8, .inl ea)), (h4, .inl (cA, 4096, .inl ro))] sz)) 0 0 (va_A [(h0, .inr (1, [.int co, .int nn, .int dn, .ref h1, .int pn, .ref h2, .ref h3, .int fo, .ref h4])), (h1, .inl (cA, 400, .inl da)), (h2, .inl (cA, 8, .inl pa)), (h3, .inl (cA, 8, .inl ea)), (h4, .inl (cA, 4096, .inl ro))] sz) := by
  refine Met.ofW (cc := cX1_roots) (maxL := 8) (ret := (some .int)) (by decide) rfl ?_
  intro p e s m args below meth c s₁ B hml hv
  obtain ⟨rfl, hsz, hP, hK, hD0⟩ := hv
  have hx := B.exec
  have hb := B.bytes
  have hr := B.returns
  have hts := atoms_spec (ws := wsX1_roots) B.pre
  have hown : s.vm.findClass RX1 = some m.cls := findClass_of_methodNamed B.named
  have hlocks := B.notSynchronized
  subst hsz
  have hD := hD0.self (sz := s.heap.size)
  generalize hAe : va_A [(h0, .inr (1, [.int co, .int nn, .int dn, .ref h1, .int pn, .ref h2, .ref h3, .int fo, .ref h4])), (h1, .inl (cA, 400, .inl da)), (h2, .inl (cA, 8, .inl pa)), (h3, .inl (cA, 8, .inl ea)), (h4, .inl (cA, 4096, .inl ro))] s.heap.size = A at hD ⊢
  have hA : ∀ q : Nat, s.heap.size ≤ q → A q := fun q h => by rw [← hAe]; exact Or.inr h
  have hS : va_S A s.heap s.heap [] := va_S.rf
  have hl := lv_entry ([.ref h0, .long p0]) (n := 8) (Nat.le_of_ble_eq_true rfl)
  rw [lg_entry_eq]
  generalize (lg_sl ([.ref h0, .long p0]) ++ List.replicate (8 - (lg_sl ([.ref h0, .long p0])).length) Slot.unset).toArray = ls at hl ⊢
  have hl : lv_has ls 8 [(0, .ref h0), (1, .long p0)] := hl
  unfold f_m_roots at h
  refine lv_aload_n hx hb dX1_roots_0 rfl (lv_at hl 0 rfl) ?_
  refine lv_iconst (v := 0) hx hb dX1_roots_1 (by decide) ?_
  refine va_put (D := (dC, dI)) (ci := 1) (v := .int 0) (ty := .int) (C := RX1) (T := TX1) (N := 9) hx hb hts (fun _ h => List.mem_cons_of_mem _ (List.mem_append_right _ h)) tyX1 tyX1_ok nX1 hown hK hP hD hS 0 rfl rfl 0 (by decide) (hts _ (List.mem_of_getElem? (i := 1) rfl)) (fun _ h9 => h9) rfl (by decide +kernel) rfl rfl (Nat.le_of_ble_eq_true rfl) dX1_roots_2 (fun H locs hP hD hS => ?_)
  have hP : va_P (dC, dI) vwCl [(h0, .inr (1, [.int 0, .int nn, .int dn, .ref h1, .int pn, .ref h2, .ref h3, .int fo, .ref h4])), (h1, .inl (cA, 400, .inl da)), (h2, .inl (cA, 8, .inl pa)), (h3, .inl (cA, 8, .inl ea)), (h4, .inl (cA, 4096, .inl ro))] H := hP
  have hD : va_D A [(h0, .inr (1, [.int 0, .int nn, .int dn, .ref h1, .int pn, .ref h2, .ref h3, .int fo, .ref h4])), (h1, .inl (cA, 400, .inl da)), (h2, .inl (cA, 8, .inl pa)), (h3, .inl (cA, 8, .inl ea)), (h4, .inl (cA, 4096, .inl ro))] := hD
  refine lv_lload_n hx hb dX1_roots_5 rfl (lv_at hl 1 rfl) ?_
  refine lv_aload_n hx hb dX1_roots_6 rfl (lv_at hl 0 rfl) ?_
  refine va_get (D := (dC, dI)) (ci := 1) (v := .int nn) (C := RX1) (T := TX1) (N := 9) hx hb hts (fun _ h => List.mem_cons_of_mem _ (List.mem_append_right _ h)) hown hK hP 0 rfl rfl 1 (by decide) (hts _ (List.mem_of_getElem? (i := 2) rfl)) (fun _ h9 => h9) rfl dX1_roots_7 ?_
  refine lv_i2l (v := (Int32.toInt64 nn)) hx hb dX1_roots_10 rfl ?_
  obtain ⟨r1, hr1, h⟩ := rf_b1 h
  refine rf_cl (wn := (fun _ : Unit => [])) (wc := []) (wr := [(h0, .inr (1, [.int 0, .int nn, .int dn, .ref h1, .int pn, .ref h2, .ref h3, .int fo, .ref h4])), (h1, .inl (cA, 400, .inl da)), (h2, .inl (cA, 8, .inl pa)), (h3, .inl (cA, 8, .inl ea)), (h4, .inl (cA, 4096, .inl ro))]) hP hD hS hA [] [0, 1, 2, 3, 4] rfl rfl (by decide) (by decide) (va_runS (As := [.long p0, .long (Int32.toInt64 nn)]) (rest := []) ⟨hx, hb, hml, hown, hts⟩ (c_m_rest l dC dI _ F p0 (Int32.toInt64 nn) r1 hr1) (va_cwS 2 hts gX1_roots_X1_rest rfl rfl rfl (by decide +kernel) ⟨Nat.le_of_ble_eq_true rfl, Nat.le_of_ble_eq_true rfl⟩) ⟨rf_blind, fun U hU hW => ⟨rfl, rf_pre (hP.sub (ws' := []) [] rfl) (hK.sub (tys' := []) [] rfl) (hD.sub (ws' := []) [] (by decide) rfl) U hU hW⟩⟩ rfl rfl hl.1 rfl (lv_room (Nat.le_of_ble_eq_true rfl)) dX1_roots_11 ⟨Nat.zero_le _, Nat.zero_le _⟩) (fun r1' u H locs hw hP hD hS => ?_)
  subst hw
  have hP : va_P (dC, dI) vwCl [(h0, .inr (1, [.int 0, .int nn, .int dn, .ref h1, .int pn, .ref h2, .ref h3, .int fo, .ref h4])), (h1, .inl (cA, 400, .inl da)), (h2, .inl (cA, 8, .inl pa)), (h3, .inl (cA, 8, .inl ea)), (h4, .inl (cA, 4096, .inl ro))] H := hP
  have hD : va_D A [(h0, .inr (1, [.int 0, .int nn, .int dn, .ref h1, .int pn, .ref h2, .ref h3, .int fo, .ref h4])), (h1, .inl (cA, 400, .inl da)), (h2, .inl (cA, 8, .inl pa)), (h3, .inl (cA, 8, .inl ea)), (h4, .inl (cA, 4096, .inl ro))] := hD
  refine lv_lstore_n (lv' := [(3, .long r1), (0, .ref h0), (1, .long p0)]) hx hb dX1_roots_14 rfl hl (by decide) rfl (fun ls hl => ?_)
  refine lv_lconst (v := 0) hx hb dX1_roots_15 (by decide) ?_
  refine lv_lstore (lv' := [(5, .long 0), (3, .long r1), (0, .ref h0), (1, .long p0)]) hx hb dX1_roots_16 hl (by decide) rfl (fun ls hl => ?_)
  refine lv_aload_n hx hb dX1_roots_18 rfl (lv_at hl 2 rfl) ?_
  refine lv_iconst (v := 0) hx hb dX1_roots_19 (by decide) ?_
  refine va_put (D := (dC, dI)) (ci := 1) (v := .int 0) (ty := .int) (C := RX1) (T := TX1) (N := 9) hx hb hts (fun _ h => List.mem_cons_of_mem _ (List.mem_append_right _ h)) tyX1 tyX1_ok nX1 hown hK hP hD hS 0 rfl rfl 7 (by decide) (hts _ (List.mem_of_getElem? (i := 7) rfl)) (fun _ h9 => h9) rfl (by decide +kernel) rfl rfl (Nat.le_of_ble_eq_true rfl) dX1_roots_20 (fun H locs hP hD hS => ?_)
  have hP : va_P (dC, dI) vwCl [(h0, .inr (1, [.int 0, .int nn, .int dn, .ref h1, .int pn, .ref h2, .ref h3, .int 0, .ref h4])), (h1, .inl (cA, 400, .inl da)), (h2, .inl (cA, 8, .inl pa)), (h3, .inl (cA, 8, .inl ea)), (h4, .inl (cA, 4096, .inl ro))] H := hP
  have hD : va_D A [(h0, .inr (1, [.int 0, .int nn, .int dn, .ref h1, .int pn, .ref h2, .ref h3, .int 0, .ref h4])), (h1, .inl (cA, 400, .inl da)), (h2, .inl (cA, 8, .inl pa)), (h3, .inl (cA, 8, .inl ea)), (h4, .inl (cA, 4096, .inl ro))] := hD
  refine lv_iconst (v := 0) hx hb dX1_roots_23 (by decide) ?_
  refine lv_istore (lv' := [(7, .int 0), (5, .long 0), (3, .long r1), (0, .ref h0), (1, .long p0)]) hx hb dX1_roots_24 hl (by decide) rfl (fun ls hl => ?_)
  obtain ⟨fo_2, ro_2, hr2, h⟩ := rf_b2 h
  refine w_m_roots_26 F hx hb hml hown hts hA h0 h1 h2 h3 h4 cA hK r1 0 nn dn pn da pa ea F 0 0 0 ro fo_2 ro_2 hr2 _ _ hP hD hS _ (lv_sub hl [3, 2, 1, 0] rfl) (fun H locs ls hP hD hS hl => ?_)
  refine lv_aload_n hx hb dX1_roots_89 rfl (lv_at hl 0 rfl) ?_
  refine va_get (D := (dC, dI)) (ci := 1) (v := .int fo_2) (C := RX1) (T := TX1) (N := 9) hx hb hts (fun _ h => List.mem_cons_of_mem _ (List.mem_append_right _ h)) hown hK hP 0 rfl rfl 7 (by decide) (hts _ (List.mem_of_getElem? (i := 7) rfl)) (fun _ h9 => h9) rfl dX1_roots_90 ?_
  cases h
  exact W.iret hx hb hr (fun t ht hW => ⟨⟨_, (), rfl, rfl, by rw [ht]; exact hP, hD⟩, hS.F ht⟩) hS.2.2 dX1_roots_93
def f_m_root (F : Nat) (co fo : Int32) (ro : Nat → Int32) (p0 : Int32) : Option (Int32 × Int32) := b1 (f_m_in F (Int32.toInt64 p0) 0 (Int32.toInt64 (fo - 1))) fun r1 => if r1 = 0 then some (0, 1) else if p0.toInt < 0 ∨ (4096 : Int) ≤ p0.toInt then none else some ((ro p0.toNatClampNeg), 0)
set_option maxHeartbeats 4000000 in
set_option maxRecDepth 100000 in
theorem c_m_root (l : Launch) (dC : Nat → ClassId) (dI : Nat → Nat → Nat) (sz F : Nat) (h0 h1 h2 h3 h4 : Nat) (cA : ClassId) (co nn dn pn fo : Int32) (da pa ea ro : Nat → Int32) (p0 rv co' : Int32) (h : f_m_root F co fo ro p0 = some (rv, co')) : Met l yX1_root wsX1_root { frames := 1, cells := 0, slots := 0, locals := 25 } (rf_Pc (dC, dI) [(cA, .int)] [(h0, .inr (1, [.int co, .int nn, .int dn, .ref h1, .int pn, .ref h2, .ref h3, .int fo, .ref h4])), (h1, .inl (cA, 400, .inl da)), (h2, .inl (cA, 8, .inl pa)), (h3, .inl (cA, 8, .inl ea)), (h4, .inl (cA, 4096, .inl ro))] sz [.ref h0, .int p0]) (va_Qi (fun (r : Int32) (_ : Unit) => rv = r) (fun (_ : Unit) t => va_P (dC, dI) vwCl [(h0, .inr (1, [.int co', .int nn, .int dn, .ref h1, .int pn, .ref h2, .ref h3, .int fo, .ref h4])), (h1, .inl (cA, 400, .inl da)), (h2, .inl (cA, 8, .inl pa)), (h3, .inl (cA, 8, .inl ea)), (h4, .inl (cA, 4096, .inl ro))] t.heap ∧ va_D (va_A [(h0, .inr (1, [.int co, .int nn, .int dn, .ref h1, .int pn, .ref h2, .ref h3, .int fo, .ref h4])), (h1, .inl (cA, 400, .inl da)), (h2, .inl (cA, 8, .inl pa)), (h3, .inl (cA, 8, .inl ea)), (h4, .inl (cA, 4096, .inl ro))] sz) [(h0, .inr (1, [.int co', .int nn, .int dn, .ref h1, .int pn, .ref h2, .ref h3, .int fo, .ref h4])), (h1, .inl (cA, 400, .inl da)), (h2, .inl (cA, 8, .inl pa)), (h3, .inl (cA, 8, .inl ea)), (h4, .inl (cA, 4096, .inl ro))]) (va_A [(h0, .inr (1, [.int co, .int nn, .int dn, .ref h1, .int pn, .ref h2, .ref h3, .int fo, .ref h4])), (h1, .inl (cA, 400, .inl da)), (h2, .inl (cA, 8, .inl pa)), (h3, .inl (cA, 8, .inl ea)), (h4, .inl (cA, 4096, .inl ro))] sz)) 0 0 (va_A [(h0, .inr (1, [.int co, .int nn, .int dn, .ref h1, .int pn, .ref h2, .ref h3, .int fo, .ref h4])), (h1, .inl (cA, 400, .inl da)), (h2, .inl (cA, 8, .inl pa)), (h3, .inl (cA, 8, .inl ea)), (h4, .inl (cA, 4096, .inl ro))] sz) := by
  refine Met.ofW (cc := cX1_root) (maxL := 2) (ret := (some .int)) (by decide) rfl ?_
  intro p e s m args below meth c s₁ B hml hv
  obtain ⟨rfl, hsz, hP, hK, hD0⟩ := hv
  have hx := B.exec
  have hb := B.bytes
  have hr := B.returns
  have hts := atoms_spec (ws := wsX1_root) B.pre
  have hown : s.vm.findClass RX1 = some m.cls := findClass_of_methodNamed B.named
  have hlocks := B.notSynchronized
  subst hsz
  have hD := hD0.self (sz := s.heap.size)
  generalize hAe : va_A [(h0, .inr (1, [.int co, .int nn, .int dn, .ref h1, .int pn, .ref h2, .ref h3, .int fo, .ref h4])), (h1, .inl (cA, 400, .inl da)), (h2, .inl (cA, 8, .inl pa)), (h3, .inl (cA, 8, .inl ea)), (h4, .inl (cA, 4096, .inl ro))] s.heap.size = A at hD ⊢
  have hA : ∀ q : Nat, s.heap.size ≤ q → A q := fun q h => by rw [← hAe]; exact Or.inr h
  have hS : va_S A s.heap s.heap [] := va_S.rf
  have hl := lv_entry ([.ref h0, .int p0]) (n := 2) (Nat.le_of_ble_eq_true rfl)
  rw [lg_entry_eq]
  generalize (lg_sl ([.ref h0, .int p0]) ++ List.replicate (2 - (lg_sl ([.ref h0, .int p0])).length) Slot.unset).toArray = ls at hl ⊢
  have hl : lv_has ls 2 [(0, .ref h0), (1, .int p0)] := hl
  unfold f_m_root at h
  refine lv_aload_n hx hb dX1_root_0 rfl (lv_at hl 0 rfl) ?_
  refine lv_iload_n hx hb dX1_root_1 rfl (lv_at hl 1 rfl) ?_
  refine lv_i2l (v := (Int32.toInt64 p0)) hx hb dX1_root_2 rfl ?_
  refine lv_lconst (v := 0) hx hb dX1_root_3 (by decide) ?_
  refine lv_aload_n hx hb dX1_root_4 rfl (lv_at hl 0 rfl) ?_
  refine va_get (D := (dC, dI)) (ci := 1) (v := .int fo) (C := RX1) (T := TX1) (N := 9) hx hb hts (fun _ h => List.mem_cons_of_mem _ (List.mem_append_right _ h)) hown hK hP 0 rfl rfl 7 (by decide) (hts _ (List.mem_of_getElem? (i := 1) rfl)) (fun _ h9 => h9) rfl dX1_root_5 ?_
  refine lv_iconst (v := 1) hx hb dX1_root_8 (by decide) ?_
  refine lv_isub hx hb dX1_root_9 ?_
  refine lv_i2l (v := (Int32.toInt64 (fo - 1))) hx hb dX1_root_10 rfl ?_
  obtain ⟨r1, hr1, h⟩ := rf_b1 h
  refine rf_ci (wn := (fun _ : Unit => [])) (wc := []) (wr := [(h0, .inr (1, [.int co, .int nn, .int dn, .ref h1, .int pn, .ref h2, .ref h3, .int fo, .ref h4])), (h1, .inl (cA, 400, .inl da)), (h2, .inl (cA, 8, .inl pa)), (h3, .inl (cA, 8, .inl ea)), (h4, .inl (cA, 4096, .inl ro))]) hP hD hS hA [] [0, 1, 2, 3, 4] rfl rfl (by decide) (by decide) (va_runS (As := [.long (Int32.toInt64 p0), .long 0, .long (Int32.toInt64 (fo - 1))]) (rest := [.ref h0]) ⟨hx, hb, hml, hown, hts⟩ (c_m_in l dC dI _ F (Int32.toInt64 p0) 0 (Int32.toInt64 (fo - 1)) r1 hr1) (va_cwS 3 hts gX1_root_X1_in rfl rfl rfl (by decide +kernel) ⟨Nat.le_of_ble_eq_true rfl, Nat.le_of_ble_eq_true rfl⟩) ⟨rf_blind, fun U hU hW => ⟨rfl, rf_pre (hP.sub (ws' := []) [] rfl) (hK.sub (tys' := []) [] rfl) (hD.sub (ws' := []) [] (by decide) rfl) U hU hW⟩⟩ rfl rfl hl.1 rfl (lv_room (Nat.le_of_ble_eq_true rfl)) dX1_root_11 ⟨Nat.zero_le _, Nat.zero_le _⟩) (fun r1' u H locs hw hP hD hS => ?_)
  subst hw
  have hP : va_P (dC, dI) vwCl [(h0, .inr (1, [.int co, .int nn, .int dn, .ref h1, .int pn, .ref h2, .ref h3, .int fo, .ref h4])), (h1, .inl (cA, 400, .inl da)), (h2, .inl (cA, 8, .inl pa)), (h3, .inl (cA, 8, .inl ea)), (h4, .inl (cA, 4096, .inl ro))] H := hP
  have hD : va_D A [(h0, .inr (1, [.int co, .int nn, .int dn, .ref h1, .int pn, .ref h2, .ref h3, .int fo, .ref h4])), (h1, .inl (cA, 400, .inl da)), (h2, .inl (cA, 8, .inl pa)), (h3, .inl (cA, 8, .inl ea)), (h4, .inl (cA, 4096, .inl ro))] := hD
  refine lv_if_eq (tgt := 21) hx hb dX1_root_14 (by decide) (fun c2 => ?_) (fun c2 => ?_)
  · rw [if_pos c2] at h
    refine lv_iconst (v := 1) hx hb dX1_root_21 (by decide) ?_
    refine va_put (D := (dC, dI)) (ci := 1) (v := .int 1) (ty := .int) (C := RX1) (T := TX1) (N := 9) hx hb hts (fun _ h => List.mem_cons_of_mem _ (List.mem_append_right _ h)) tyX1 tyX1_ok nX1 hown hK hP hD hS 0 rfl rfl 0 (by decide) (hts _ (List.mem_of_getElem? (i := 6) rfl)) (fun _ h9 => h9) rfl (by decide +kernel) rfl rfl (Nat.le_of_ble_eq_true rfl) dX1_root_22 (fun H locs hP hD hS => ?_)
    have hP : va_P (dC, dI) vwCl [(h0, .inr (1, [.int 1, .int nn, .int dn, .ref h1, .int pn, .ref h2, .ref h3, .int fo, .ref h4])), (h1, .inl (cA, 400, .inl da)), (h2, .inl (cA, 8, .inl pa)), (h3, .inl (cA, 8, .inl ea)), (h4, .inl (cA, 4096, .inl ro))] H := hP
    have hD : va_D A [(h0, .inr (1, [.int 1, .int nn, .int dn, .ref h1, .int pn, .ref h2, .ref h3, .int fo, .ref h4])), (h1, .inl (cA, 400, .inl da)), (h2, .inl (cA, 8, .inl pa)), (h3, .inl (cA, 8, .inl ea)), (h4, .inl (cA, 4096, .inl ro))] := hD
    refine lv_aload_n hx hb dX1_root_25 rfl (lv_at hl 0 rfl) ?_
    refine va_get (D := (dC, dI)) (ci := 1) (v := .int 1) (C := RX1) (T := TX1) (N := 9) hx hb hts (fun _ h => List.mem_cons_of_mem _ (List.mem_append_right _ h)) hown hK hP 0 rfl rfl 0 (by decide) (hts _ (List.mem_of_getElem? (i := 6) rfl)) (fun _ h9 => h9) rfl dX1_root_26 ?_
    refine lv_if_le (tgt := 36) hx hb dX1_root_29 (by decide) (fun c3 => ?_) (fun c3 => ?_)
    · exact absurd c3 (by decide)
    · skip
      refine lv_iconst (v := 0) hx hb dX1_root_32 (by decide) ?_
      refine lv_goto (tgt := 42) hx hb dX1_root_33 (by decide) ?_
      cases h
      exact W.iret hx hb hr (fun t ht hW => ⟨⟨_, (), rfl, rfl, by rw [ht]; exact hP, hD⟩, hS.F ht⟩) hS.2.2 dX1_root_42
  · rw [if_neg c2] at h
    refine lv_iconst (v := 0) hx hb dX1_root_17 (by decide) ?_
    refine lv_goto (tgt := 22) hx hb dX1_root_18 (by decide) ?_
    refine va_put (D := (dC, dI)) (ci := 1) (v := .int 0) (ty := .int) (C := RX1) (T := TX1) (N := 9) hx hb hts (fun _ h => List.mem_cons_of_mem _ (List.mem_append_right _ h)) tyX1 tyX1_ok nX1 hown hK hP hD hS 0 rfl rfl 0 (by decide) (hts _ (List.mem_of_getElem? (i := 6) rfl)) (fun _ h9 => h9) rfl (by decide +kernel) rfl rfl (Nat.le_of_ble_eq_true rfl) dX1_root_22 (fun H locs hP hD hS => ?_)
    have hP : va_P (dC, dI) vwCl [(h0, .inr (1, [.int 0, .int nn, .int dn, .ref h1, .int pn, .ref h2, .ref h3, .int fo, .ref h4])), (h1, .inl (cA, 400, .inl da)), (h2, .inl (cA, 8, .inl pa)), (h3, .inl (cA, 8, .inl ea)), (h4, .inl (cA, 4096, .inl ro))] H := hP
    have hD : va_D A [(h0, .inr (1, [.int 0, .int nn, .int dn, .ref h1, .int pn, .ref h2, .ref h3, .int fo, .ref h4])), (h1, .inl (cA, 400, .inl da)), (h2, .inl (cA, 8, .inl pa)), (h3, .inl (cA, 8, .inl ea)), (h4, .inl (cA, 4096, .inl ro))] := hD
    refine lv_aload_n hx hb dX1_root_25 rfl (lv_at hl 0 rfl) ?_
    refine va_get (D := (dC, dI)) (ci := 1) (v := .int 0) (C := RX1) (T := TX1) (N := 9) hx hb hts (fun _ h => List.mem_cons_of_mem _ (List.mem_append_right _ h)) hown hK hP 0 rfl rfl 0 (by decide) (hts _ (List.mem_of_getElem? (i := 6) rfl)) (fun _ h9 => h9) rfl dX1_root_26 ?_
    refine lv_if_le (tgt := 36) hx hb dX1_root_29 (by decide) (fun c4 => ?_) (fun c4 => ?_)
    · skip
      refine lv_aload_n hx hb dX1_root_36 rfl (lv_at hl 0 rfl) ?_
      refine va_get (D := (dC, dI)) (ci := 1) (v := .ref h4) (C := RX1) (T := TX1) (N := 9) hx hb hts (fun _ h => List.mem_cons_of_mem _ (List.mem_append_right _ h)) hown hK hP 0 rfl rfl 8 (by decide) (hts _ (List.mem_of_getElem? (i := 7) rfl)) (fun _ h9 => h9) rfl dX1_root_37 ?_
      refine lv_iload_n hx hb dX1_root_40 rfl (lv_at hl 1 rfl) ?_
      obtain ⟨g5, h⟩ := rf_gd h
      refine va_iald hx hb hK hP 4 0 rfl rfl (rf_in g5) dX1_root_41 ?_
      cases h
      exact W.iret hx hb hr (fun t ht hW => ⟨⟨_, (), rfl, rfl, by rw [ht]; exact hP, hD⟩, hS.F ht⟩) hS.2.2 dX1_root_42
    · exact absurd c4 (by decide)
