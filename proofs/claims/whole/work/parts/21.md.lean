def l_m_square_4 (F : Nat) (nn dn : Int32) (da : Nat → Int32) : Nat → Int32 → Int32 → Option (Int32)
  | 0, _, _ => none
  | n + 1, x1, x2 => if dn ≤ x2 then some x1 else if x2.toInt < 0 ∨ (400 : Int) ≤ x2.toInt then none else if x2.toInt < 0 ∨ (400 : Int) ≤ x2.toInt then none else if ((Int32.toInt64 (da x2.toNatClampNeg)) * (Int32.toInt64 (da x2.toNatClampNeg))) = 0 then none else if (lrm (Int32.toInt64 nn) ((Int32.toInt64 (da x2.toNatClampNeg)) * (Int32.toInt64 (da x2.toNatClampNeg)))) = 0 then if x2.toInt < 0 ∨ (400 : Int) ≤ x2.toInt then none else l_m_square_4 F nn dn da n (da x2.toNatClampNeg) (x2 + 1) else l_m_square_4 F nn dn da n x1 (x2 + 1)
set_option maxHeartbeats 4000000 in
set_option maxRecDepth 100000 in
theorem w_m_square_4 {p : Program} {l : Launch} {e : Env} {s : State} {m : MethodId} {args : Array Value} {below : List Frame} {meth : Method} {c : Code} {A : Nat → Prop} {Q : State → Prop} {dC : Nat → ClassId} {dI : Nat → Nat → Nat} (F : Nat) (hx : p.tables.exec = Jvm.exec) (hb : c.code = cX1_square) (hml : c.maxLocals = 3) (hown : s.vm.findClass RX1 = some m.cls) (hts : ∀ w ∈ wsX1_square, w.before args s = true) (hA : ∀ q, s.heap.size ≤ q → A q) (h0 h1 h2 h3 h4 : Nat) (cA : ClassId) (hK : va_K (dC, dI) vwCl [(cA, .int)] s) (co nn dn pn fo : Int32) (da pa ea ro : Nat → Int32) :
    ∀ (n : Nat) (x1 x2 x1' : Int32), l_m_square_4 F nn dn da n x1 x2 = some x1' → ∀ (H : Heap) (locs : List Loc), va_P (dC, dI) vwCl [(h0, .inr (1, [.int co, .int nn, .int dn, .ref h1, .int pn, .ref h2, .ref h3, .int fo, .ref h4])), (h1, .inl (cA, 400, .inl da)), (h2, .inl (cA, 8, .inl pa)), (h3, .inl (cA, 8, .inl ea)), (h4, .inl (cA, 4096, .inl ro))] H → va_D A [(h0, .inr (1, [.int co, .int nn, .int dn, .ref h1, .int pn, .ref h2, .ref h3, .int fo, .ref h4])), (h1, .inl (cA, 400, .inl da)), (h2, .inl (cA, 8, .inl pa)), (h3, .inl (cA, 8, .inl ea)), (h4, .inl (cA, 4096, .inl ro))] → va_S A s.heap H locs → ∀ ls : Array Slot, lv_has ls 3 [(0, .ref h0), (1, .int x1), (2, .int x2)] → (∀ (H : Heap) (locs : List Loc) (ls : Array Slot), va_P (dC, dI) vwCl [(h0, .inr (1, [.int co, .int nn, .int dn, .ref h1, .int pn, .ref h2, .ref h3, .int fo, .ref h4])), (h1, .inl (cA, 400, .inl da)), (h2, .inl (cA, 8, .inl pa)), (h3, .inl (cA, 8, .inl ea)), (h4, .inl (cA, 4096, .inl ro))] H → va_D A [(h0, .inr (1, [.int co, .int nn, .int dn, .ref h1, .int pn, .ref h2, .ref h3, .int fo, .ref h4])), (h1, .inl (cA, 400, .inl da)), (h2, .inl (cA, 8, .inl pa)), (h3, .inl (cA, 8, .inl ea)), (h4, .inl (cA, 4096, .inl ro))] → va_S A s.heap H locs → lv_has ls 3 [(1, .int x1')] → W p l e { frames := 0, cells := 0, slots := 0, locals := 0 } s m args below meth c H locs 0 0 Q (F0 m 51 ls [])) → W p l e { frames := 0, cells := 0, slots := 0, locals := 0 } s m args below meth c H locs 0 0 Q (F0 m 4 ls []) := by
  intro n
  induction n with
  | zero => intro x1 x2 x1' h; exact nomatch (show (none : Option _) = some _ from h)
  | succ n ih =>
    intro x1 x2 x1' h H locs hP hD hS ls hl K
    rw [l_m_square_4] at h
    refine lv_iload_n hx hb dX1_square_4 rfl (lv_at hl 2 rfl) ?_
    refine lv_aload_n hx hb dX1_square_5 rfl (lv_at hl 0 rfl) ?_
    refine va_get (D := (dC, dI)) (ci := 1) (v := .int dn) (C := RX1) (T := TX1) (N := 9) hx hb hts (fun _ h => List.mem_cons_of_mem _ (List.mem_append_right _ h)) hown hK hP 0 rfl rfl 2 (by decide) (hts _ (List.mem_of_getElem? (i := 1) rfl)) (fun _ h9 => h9) rfl dX1_square_6 ?_
    refine lv_icmp_ge (tgt := 51) hx hb dX1_square_9 (by decide) (fun c1 => ?_) (fun c1 => ?_)
    · rw [if_pos c1] at h
      cases h
      exact K _ _ _ hP hD hS (lv_sub hl [1] rfl)
    · rw [if_neg c1] at h
      refine lv_aload_n hx hb dX1_square_12 rfl (lv_at hl 0 rfl) ?_
      refine va_get (D := (dC, dI)) (ci := 1) (v := .int nn) (C := RX1) (T := TX1) (N := 9) hx hb hts (fun _ h => List.mem_cons_of_mem _ (List.mem_append_right _ h)) hown hK hP 0 rfl rfl 1 (by decide) (hts _ (List.mem_of_getElem? (i := 2) rfl)) (fun _ h9 => h9) rfl dX1_square_13 ?_
      refine lv_i2l (v := (Int32.toInt64 nn)) hx hb dX1_square_16 rfl ?_
      refine lv_aload_n hx hb dX1_square_17 rfl (lv_at hl 0 rfl) ?_
      refine va_get (D := (dC, dI)) (ci := 1) (v := .ref h1) (C := RX1) (T := TX1) (N := 9) hx hb hts (fun _ h => List.mem_cons_of_mem _ (List.mem_append_right _ h)) hown hK hP 0 rfl rfl 3 (by decide) (hts _ (List.mem_of_getElem? (i := 3) rfl)) (fun _ h9 => h9) rfl dX1_square_18 ?_
      refine lv_iload_n hx hb dX1_square_21 rfl (lv_at hl 2 rfl) ?_
      obtain ⟨g2, h⟩ := rf_gd h
      refine va_iald hx hb hK hP 1 0 rfl rfl (rf_in g2) dX1_square_22 ?_
      refine lv_i2l (v := (Int32.toInt64 (da x2.toNatClampNeg))) hx hb dX1_square_23 rfl ?_
      refine lv_aload_n hx hb dX1_square_24 rfl (lv_at hl 0 rfl) ?_
      refine va_get (D := (dC, dI)) (ci := 1) (v := .ref h1) (C := RX1) (T := TX1) (N := 9) hx hb hts (fun _ h => List.mem_cons_of_mem _ (List.mem_append_right _ h)) hown hK hP 0 rfl rfl 3 (by decide) (hts _ (List.mem_of_getElem? (i := 3) rfl)) (fun _ h9 => h9) rfl dX1_square_25 ?_
      refine lv_iload_n hx hb dX1_square_28 rfl (lv_at hl 2 rfl) ?_
      obtain ⟨g3, h⟩ := rf_gd h
      refine va_iald hx hb hK hP 1 0 rfl rfl (rf_in g3) dX1_square_29 ?_
      refine lv_i2l (v := (Int32.toInt64 (da x2.toNatClampNeg))) hx hb dX1_square_30 rfl ?_
      refine lv_lmul hx hb dX1_square_31 ?_
      obtain ⟨g4, h⟩ := rf_gd h
      refine lv_lrem hx hb dX1_square_32 g4 ?_
      refine lv_lconst (v := 0) hx hb dX1_square_33 (by decide) ?_
      refine W.lcmp hx hb dX1_square_34 ?_
      refine lv_if_ne (tgt := 45) hx hb dX1_square_35 (by decide) (fun c5 => ?_) (fun c5 => ?_)
      · rw [lg_cmp_eq] at c5
        rw [if_neg c5] at h
        refine lv_iinc (v := (x2 + 1)) (lv' := [(2, .int (x2 + 1)), (0, .ref h0), (1, .int x1)]) hx hb dX1_square_45 hl (k := 2) rfl rfl (by decide) rfl (fun ls hl => ?_)
        refine lv_goto (tgt := 4) hx hb dX1_square_48 (by decide) ?_
        exact ih x1 (x2 + 1) x1' h _ _ hP hD hS _ (lv_sub hl [1, 2, 0] rfl) K
      · rw [lg_cmp_eq] at c5
        rw [if_pos c5] at h
        refine lv_aload_n hx hb dX1_square_38 rfl (lv_at hl 0 rfl) ?_
        refine va_get (D := (dC, dI)) (ci := 1) (v := .ref h1) (C := RX1) (T := TX1) (N := 9) hx hb hts (fun _ h => List.mem_cons_of_mem _ (List.mem_append_right _ h)) hown hK hP 0 rfl rfl 3 (by decide) (hts _ (List.mem_of_getElem? (i := 3) rfl)) (fun _ h9 => h9) rfl dX1_square_39 ?_
        refine lv_iload_n hx hb dX1_square_42 rfl (lv_at hl 2 rfl) ?_
        obtain ⟨g6, h⟩ := rf_gd h
        refine va_iald hx hb hK hP 1 0 rfl rfl (rf_in g6) dX1_square_43 ?_
        refine lv_istore_n (lv' := [(1, .int (da x2.toNatClampNeg)), (0, .ref h0), (2, .int x2)]) hx hb dX1_square_44 rfl hl (by decide) rfl (fun ls hl => ?_)
        refine lv_iinc (v := (x2 + 1)) (lv' := [(2, .int (x2 + 1)), (1, .int (da x2.toNatClampNeg)), (0, .ref h0)]) hx hb dX1_square_45 hl (k := 2) rfl rfl (by decide) rfl (fun ls hl => ?_)
        refine lv_goto (tgt := 4) hx hb dX1_square_48 (by decide) ?_
        exact ih (da x2.toNatClampNeg) (x2 + 1) x1' h _ _ hP hD hS _ (lv_sub hl [2, 1, 0] rfl) K
def f_m_square (F : Nat) (nn dn : Int32) (da : Nat → Int32) : Option (Int32) := b1 (l_m_square_4 F nn dn da F 1 0) fun x1_1 => some x1_1
set_option maxHeartbeats 4000000 in
set_option maxRecDepth 100000 in
theorem c_m_square (l : Launch) (dC : Nat → ClassId) (dI : Nat → Nat → Nat) (sz F : Nat) (h0 h1 h2 h3 h4 : Nat) (cA : ClassId) (co nn dn pn fo : Int32) (da pa ea ro : Nat → Int32) (rv : Int32) (h : f_m_square F nn dn da = some rv) : Met l yX1_square wsX1_square { frames := 0, cells := 0, slots := 0, locals := 0 } (rf_Pc (dC, dI) [(cA, .int)] [(h0, .inr (1, [.int co, .int nn, .int dn, .ref h1, .int pn, .ref h2, .ref h3, .int fo, .ref h4])), (h1, .inl (cA, 400, .inl da)), (h2, .inl (cA, 8, .inl pa)), (h3, .inl (cA, 8, .inl ea)), (h4, .inl (cA, 4096, .inl ro))] sz [.ref h0]) (va_Qi (fun (r : Int32) (_ : Unit) => rv = r) (fun (_ : Unit) t => va_P (dC, dI) vwCl [(h0, .inr (1, [.int co, .int nn, .int dn, .ref h1, .int pn, .ref h2, .ref h3, .int fo, .ref h4])), (h1, .inl (cA, 400, .inl da)), (h2, .inl (cA, 8, .inl pa)), (h3, .inl (cA, 8, .inl ea)), (h4, .inl (cA, 4096, .inl ro))] t.heap ∧ va_D (va_A [(h0, .inr (1, [.int co, .int nn, .int dn, .ref h1, .int pn, .ref h2, .ref h3, .int fo, .ref h4])), (h1, .inl (cA, 400, .inl da)), (h2, .inl (cA, 8, .inl pa)), (h3, .inl (cA, 8, .inl ea)), (h4, .inl (cA, 4096, .inl ro))] sz) [(h0, .inr (1, [.int co, .int nn, .int dn, .ref h1, .int pn, .ref h2, .ref h3, .int fo, .ref h4])), (h1, .inl (cA, 400, .inl da)), (h2, .inl (cA, 8, .inl pa)), (h3, .inl (cA, 8, .inl ea)), (h4, .inl (cA, 4096, .inl ro))]) (va_A [(h0, .inr (1, [.int co, .int nn, .int dn, .ref h1, .int pn, .ref h2, .ref h3, .int fo, .ref h4])), (h1, .inl (cA, 400, .inl da)), (h2, .inl (cA, 8, .inl pa)), (h3, .inl (cA, 8, .inl ea)), (h4, .inl (cA, 4096, .inl ro))] sz)) 0 0 (va_A [(h0, .inr (1, [.int co, .int nn, .int dn, .ref h1, .int pn, .ref h2, .ref h3, .int fo, .ref h4])), (h1, .inl (cA, 400, .inl da)), (h2, .inl (cA, 8, .inl pa)), (h3, .inl (cA, 8, .inl ea)), (h4, .inl (cA, 4096, .inl ro))] sz) := by
  refine Met.ofW (cc := cX1_square) (maxL := 3) (ret := (some .int)) (by decide) rfl ?_
  intro p e s m args below meth c s₁ B hml hv
  obtain ⟨rfl, hsz, hP, hK, hD0⟩ := hv
  have hx := B.exec
  have hb := B.bytes
  have hr := B.returns
  have hts := atoms_spec (ws := wsX1_square) B.pre
  have hown : s.vm.findClass RX1 = some m.cls := findClass_of_methodNamed B.named
  have hlocks := B.notSynchronized
  subst hsz
  have hD := hD0.self (sz := s.heap.size)
  generalize hAe : va_A [(h0, .inr (1, [.int co, .int nn, .int dn, .ref h1, .int pn, .ref h2, .ref h3, .int fo, .ref h4])), (h1, .inl (cA, 400, .inl da)), (h2, .inl (cA, 8, .inl pa)), (h3, .inl (cA, 8, .inl ea)), (h4, .inl (cA, 4096, .inl ro))] s.heap.size = A at hD ⊢
  have hA : ∀ q : Nat, s.heap.size ≤ q → A q := fun q h => by rw [← hAe]; exact Or.inr h
  have hS : va_S A s.heap s.heap [] := va_S.rf
  have hl := lv_entry ([.ref h0]) (n := 3) (Nat.le_of_ble_eq_true rfl)
  rw [lg_entry_eq]
  generalize (lg_sl ([.ref h0]) ++ List.replicate (3 - (lg_sl ([.ref h0])).length) Slot.unset).toArray = ls at hl ⊢
  have hl : lv_has ls 3 [(0, .ref h0)] := hl
  unfold f_m_square at h
  refine lv_iconst (v := 1) hx hb dX1_square_0 (by decide) ?_
  refine lv_istore_n (lv' := [(1, .int 1), (0, .ref h0)]) hx hb dX1_square_1 rfl hl (by decide) rfl (fun ls hl => ?_)
  refine lv_iconst (v := 0) hx hb dX1_square_2 (by decide) ?_
  refine lv_istore_n (lv' := [(2, .int 0), (1, .int 1), (0, .ref h0)]) hx hb dX1_square_3 rfl hl (by decide) rfl (fun ls hl => ?_)
  obtain ⟨x1_1, hr1, h⟩ := rf_b1 h
  refine w_m_square_4 F hx hb hml hown hts hA h0 h1 h2 h3 h4 cA hK co nn dn pn fo da pa ea ro F 1 0 x1_1 hr1 _ _ hP hD hS _ (lv_sub hl [2, 1, 0] rfl) (fun H locs ls hP hD hS hl => ?_)
  refine lv_iload_n hx hb dX1_square_51 rfl (lv_at hl 0 rfl) ?_
  cases h
  exact W.iret hx hb hr (fun t ht hW => ⟨⟨_, (), rfl, rfl, by rw [ht]; exact hP, hD⟩, hS.F ht⟩) hS.2.2 dX1_square_52
def f_m_count (F : Nat) (co nn dn pn fo : Int32) (da pa : Nat → Int32) (p0 : Int32) : Option (Int32 × Int32) := if p0 = 0 then some (nn, 0) else if p0 = 1 then some (pn, 0) else if p0 = 2 then some (dn, 0) else if p0 = 3 then b1 (f_m_apart F nn pn pa) fun r2 => some (r2, 0) else if p0 = 4 then b1 (f_m_square F nn dn da) fun r3 => some (r3, 0) else if p0 = 5 then some (fo, 0) else some ((-1), 0)
set_option maxHeartbeats 4000000 in
set_option maxRecDepth 100000 in
theorem c_m_count (l : Launch) (dC : Nat → ClassId) (dI : Nat → Nat → Nat) (sz F : Nat) (h0 h1 h2 h3 h4 : Nat) (cA : ClassId) (co nn dn pn fo : Int32) (da pa ea ro : Nat → Int32) (p0 rv co' : Int32) (h : f_m_count F co nn dn pn fo da pa p0 = some (rv, co')) : Met l yX1_count wsX1_count { frames := 2, cells := 0, slots := 0, locals := 45 } (rf_Pc (dC, dI) [(cA, .int)] [(h0, .inr (1, [.int co, .int nn, .int dn, .ref h1, .int pn, .ref h2, .ref h3, .int fo, .ref h4])), (h1, .inl (cA, 400, .inl da)), (h2, .inl (cA, 8, .inl pa)), (h3, .inl (cA, 8, .inl ea)), (h4, .inl (cA, 4096, .inl ro))] sz [.ref h0, .int p0]) (va_Qi (fun (r : Int32) (_ : Unit) => rv = r) (fun (_ : Unit) t => va_P (dC, dI) vwCl [(h0, .inr (1, [.int co', .int nn, .int dn, .ref h1, .int pn, .ref h2, .ref h3, .int fo, .ref h4])), (h1, .inl (cA, 400, .inl da)), (h2, .inl (cA, 8, .inl pa)), (h3, .inl (cA, 8, .inl ea)), (h4, .inl (cA, 4096, .inl ro))] t.heap ∧ va_D (va_A [(h0, .inr (1, [.int co, .int nn, .int dn, .ref h1, .int pn, .ref h2, .ref h3, .int fo, .ref h4])), (h1, .inl (cA, 400, .inl da)), (h2, .inl (cA, 8, .inl pa)), (h3, .inl (cA, 8, .inl ea)), (h4, .inl (cA, 4096, .inl ro))] sz) [(h0, .inr (1, [.int co', .int nn, .int dn, .ref h1, .int pn, .ref h2, .ref h3, .int fo, .ref h4])), (h1, .inl (cA, 400, .inl da)), (h2, .inl (cA, 8, .inl pa)), (h3, .inl (cA, 8, .inl ea)), (h4, .inl (cA, 4096, .inl ro))]) (va_A [(h0, .inr (1, [.int co, .int nn, .int dn, .ref h1, .int pn, .ref h2, .ref h3, .int fo, .ref h4])), (h1, .inl (cA, 400, .inl da)), (h2, .inl (cA, 8, .inl pa)), (h3, .inl (cA, 8, .inl ea)), (h4, .inl (cA, 4096, .inl ro))] sz)) 0 0 (va_A [(h0, .inr (1, [.int co, .int nn, .int dn, .ref h1, .int pn, .ref h2, .ref h3, .int fo, .ref h4])), (h1, .inl (cA, 400, .inl da)), (h2, .inl (cA, 8, .inl pa)), (h3, .inl (cA, 8, .inl ea)), (h4, .inl (cA, 4096, .inl ro))] sz) := by
  refine Met.ofW (cc := cX1_count) (maxL := 2) (ret := (some .int)) (by decide) rfl ?_
  intro p e s m args below meth c s₁ B hml hv
  obtain ⟨rfl, hsz, hP, hK, hD0⟩ := hv
  have hx := B.exec
  have hb := B.bytes
  have hr := B.returns
  have hts := atoms_spec (ws := wsX1_count) B.pre
  have hown : s.vm.findClass RX1 = some m.cls := findClass_of_methodNamed B.named
  have hlocks := B.notSynchronized
  subst hsz
  have hD := hD0.self (sz := s.heap.size)
  generalize hAe : va_A [(h0, .inr (1, [.int co, .int nn, .int dn, .ref h1, .int pn, .ref h2, .ref h3, .int fo, .ref h4])), (h1, .inl (cA, 400, .inl da)), (h2, .inl (cA, 8, .inl pa)), (h3, .inl (cA, 8, .inl ea)), (h4, .inl (cA, 4096, .inl ro))] s.heap.size = A at hD ⊢
  have hA : ∀ q : Nat, s.heap.size ≤ q → A q := fun q h => by rw [← hAe]; exact Or.inr h
  have hS : va_S A s.heap s.heap [] := va_S.rf
  have hl := lv_entry ([.ref h0, .int p0]) (n := 2) (Nat.le_of_ble_eq_true rfl)
  rw [lg_entry_eq]
  generalize (lg_sl ([.ref h0, .int p0]) ++ List.replicate (2 - (lg_sl ([.ref h0, .int p0])).length) Slot.unset).toArray = ls at hl ⊢
  have hl : lv_has ls 2 [(0, .ref h0), (1, .int p0)] := hl
  unfold f_m_count at h
  refine lv_aload_n hx hb dX1_count_0 rfl (lv_at hl 0 rfl) ?_
  refine lv_iconst (v := 0) hx hb dX1_count_1 (by decide) ?_
  refine va_put (D := (dC, dI)) (ci := 1) (v := .int 0) (ty := .int) (C := RX1) (T := TX1) (N := 9) hx hb hts (fun _ h => List.mem_cons_of_mem _ (List.mem_append_right _ h)) tyX1 tyX1_ok nX1 hown hK hP hD hS 0 rfl rfl 0 (by decide) (hts _ (List.mem_of_getElem? (i := 1) rfl)) (fun _ h9 => h9) rfl (by decide +kernel) rfl rfl (Nat.le_of_ble_eq_true rfl) dX1_count_2 (fun H locs hP hD hS => ?_)
  have hP : va_P (dC, dI) vwCl [(h0, .inr (1, [.int 0, .int nn, .int dn, .ref h1, .int pn, .ref h2, .ref h3, .int fo, .ref h4])), (h1, .inl (cA, 400, .inl da)), (h2, .inl (cA, 8, .inl pa)), (h3, .inl (cA, 8, .inl ea)), (h4, .inl (cA, 4096, .inl ro))] H := hP
  have hD : va_D A [(h0, .inr (1, [.int 0, .int nn, .int dn, .ref h1, .int pn, .ref h2, .ref h3, .int fo, .ref h4])), (h1, .inl (cA, 400, .inl da)), (h2, .inl (cA, 8, .inl pa)), (h3, .inl (cA, 8, .inl ea)), (h4, .inl (cA, 4096, .inl ro))] := hD
  refine lv_iload_n hx hb dX1_count_5 rfl (lv_at hl 1 rfl) ?_
  by_cases c1_0 : p0 = 0
  · rw [if_pos c1_0] at h
    refine lv_tableIn (tgt := 44) hx hb dX1_count_6 (by rw [c1_0]; decide) (by rw [c1_0]; decide) (by rw [c1_0]; rfl) (by decide) ?_
    refine lv_aload_n hx hb dX1_count_44 rfl (lv_at hl 0 rfl) ?_
    refine va_get (D := (dC, dI)) (ci := 1) (v := .int nn) (C := RX1) (T := TX1) (N := 9) hx hb hts (fun _ h => List.mem_cons_of_mem _ (List.mem_append_right _ h)) hown hK hP 0 rfl rfl 1 (by decide) (hts _ (List.mem_of_getElem? (i := 2) rfl)) (fun _ h9 => h9) rfl dX1_count_45 ?_
    cases h
    exact W.iret hx hb hr (fun t ht hW => ⟨⟨_, (), rfl, rfl, by rw [ht]; exact hP, hD⟩, hS.F ht⟩) hS.2.2 dX1_count_48
  · rw [if_neg c1_0] at h
    by_cases c1_1 : p0 = 1
    · rw [if_pos c1_1] at h
      refine lv_tableIn (tgt := 49) hx hb dX1_count_6 (by rw [c1_1]; decide) (by rw [c1_1]; decide) (by rw [c1_1]; rfl) (by decide) ?_
      refine lv_aload_n hx hb dX1_count_49 rfl (lv_at hl 0 rfl) ?_
      refine va_get (D := (dC, dI)) (ci := 1) (v := .int pn) (C := RX1) (T := TX1) (N := 9) hx hb hts (fun _ h => List.mem_cons_of_mem _ (List.mem_append_right _ h)) hown hK hP 0 rfl rfl 4 (by decide) (hts _ (List.mem_of_getElem? (i := 3) rfl)) (fun _ h9 => h9) rfl dX1_count_50 ?_
      cases h
      exact W.iret hx hb hr (fun t ht hW => ⟨⟨_, (), rfl, rfl, by rw [ht]; exact hP, hD⟩, hS.F ht⟩) hS.2.2 dX1_count_53
    · rw [if_neg c1_1] at h
      by_cases c1_2 : p0 = 2
      · rw [if_pos c1_2] at h
        refine lv_tableIn (tgt := 54) hx hb dX1_count_6 (by rw [c1_2]; decide) (by rw [c1_2]; decide) (by rw [c1_2]; rfl) (by decide) ?_
        refine lv_aload_n hx hb dX1_count_54 rfl (lv_at hl 0 rfl) ?_
        refine va_get (D := (dC, dI)) (ci := 1) (v := .int dn) (C := RX1) (T := TX1) (N := 9) hx hb hts (fun _ h => List.mem_cons_of_mem _ (List.mem_append_right _ h)) hown hK hP 0 rfl rfl 2 (by decide) (hts _ (List.mem_of_getElem? (i := 4) rfl)) (fun _ h9 => h9) rfl dX1_count_55 ?_
        cases h
        exact W.iret hx hb hr (fun t ht hW => ⟨⟨_, (), rfl, rfl, by rw [ht]; exact hP, hD⟩, hS.F ht⟩) hS.2.2 dX1_count_58
      · rw [if_neg c1_2] at h
        by_cases c1_3 : p0 = 3
        · rw [if_pos c1_3] at h
          refine lv_tableIn (tgt := 59) hx hb dX1_count_6 (by rw [c1_3]; decide) (by rw [c1_3]; decide) (by rw [c1_3]; rfl) (by decide) ?_
          refine lv_aload_n hx hb dX1_count_59 rfl (lv_at hl 0 rfl) ?_
          obtain ⟨r2, hr2, h⟩ := rf_b1 h
          refine rf_ci (wn := (fun _ : Unit => [(h0, .inr (1, [.int 0, .int nn, .int dn, .ref h1, .int pn, .ref h2, .ref h3, .int fo, .ref h4])), (h1, .inl (cA, 400, .inl da)), (h2, .inl (cA, 8, .inl pa)), (h3, .inl (cA, 8, .inl ea)), (h4, .inl (cA, 4096, .inl ro))])) (wc := [(h0, .inr (1, [.int 0, .int nn, .int dn, .ref h1, .int pn, .ref h2, .ref h3, .int fo, .ref h4])), (h1, .inl (cA, 400, .inl da)), (h2, .inl (cA, 8, .inl pa)), (h3, .inl (cA, 8, .inl ea)), (h4, .inl (cA, 4096, .inl ro))]) (wr := []) hP hD hS hA [0, 1, 2, 3, 4] [] rfl rfl (by decide) (by decide) (va_runV (As := []) (rest := []) ⟨hx, hb, hml, hown, hts⟩ (c_m_apart l dC dI _ F h0 h1 h2 h3 h4 cA 0 nn dn pn fo da pa ea ro r2 hr2) (cwV 0 hts gX1_count_X1_apart rfl rfl rfl (by decide +kernel) ⟨Nat.le_of_ble_eq_true rfl, Nat.le_of_ble_eq_true rfl⟩) ⟨rf_blind, va_recv hK hP (ci := 1) (q0 := 0) rfl rfl, fun U hU hW => ⟨rfl, rf_pre (hP.sub (ws' := [(h0, .inr (1, [.int 0, .int nn, .int dn, .ref h1, .int pn, .ref h2, .ref h3, .int fo, .ref h4])), (h1, .inl (cA, 400, .inl da)), (h2, .inl (cA, 8, .inl pa)), (h3, .inl (cA, 8, .inl ea)), (h4, .inl (cA, 4096, .inl ro))]) [0, 1, 2, 3, 4] rfl) (hK.sub (tys' := [(cA, .int)]) [0] rfl) (hD.sub (ws' := [(h0, .inr (1, [.int 0, .int nn, .int dn, .ref h1, .int pn, .ref h2, .ref h3, .int fo, .ref h4])), (h1, .inl (cA, 400, .inl da)), (h2, .inl (cA, 8, .inl pa)), (h3, .inl (cA, 8, .inl ea)), (h4, .inl (cA, 4096, .inl ro))]) [0, 1, 2, 3, 4] (by decide) rfl) U hU hW⟩⟩ rfl rfl hl.1 rfl (lv_room (Nat.le_of_ble_eq_true rfl)) dX1_count_60 ⟨Nat.zero_le _, Nat.zero_le _⟩) (fun r2' u H locs hw hP hD hS => ?_)
          subst hw
          have hP : va_P (dC, dI) vwCl [(h0, .inr (1, [.int 0, .int nn, .int dn, .ref h1, .int pn, .ref h2, .ref h3, .int fo, .ref h4])), (h1, .inl (cA, 400, .inl da)), (h2, .inl (cA, 8, .inl pa)), (h3, .inl (cA, 8, .inl ea)), (h4, .inl (cA, 4096, .inl ro))] H := hP
          have hD : va_D A [(h0, .inr (1, [.int 0, .int nn, .int dn, .ref h1, .int pn, .ref h2, .ref h3, .int fo, .ref h4])), (h1, .inl (cA, 400, .inl da)), (h2, .inl (cA, 8, .inl pa)), (h3, .inl (cA, 8, .inl ea)), (h4, .inl (cA, 4096, .inl ro))] := hD
          cases h
          exact W.iret hx hb hr (fun t ht hW => ⟨⟨_, (), rfl, rfl, by rw [ht]; exact hP, hD⟩, hS.F ht⟩) hS.2.2 dX1_count_63
        · rw [if_neg c1_3] at h
          by_cases c1_4 : p0 = 4
          · rw [if_pos c1_4] at h
            refine lv_tableIn (tgt := 64) hx hb dX1_count_6 (by rw [c1_4]; decide) (by rw [c1_4]; decide) (by rw [c1_4]; rfl) (by decide) ?_
            refine lv_aload_n hx hb dX1_count_64 rfl (lv_at hl 0 rfl) ?_
            obtain ⟨r3, hr3, h⟩ := rf_b1 h
            refine rf_ci (wn := (fun _ : Unit => [(h0, .inr (1, [.int 0, .int nn, .int dn, .ref h1, .int pn, .ref h2, .ref h3, .int fo, .ref h4])), (h1, .inl (cA, 400, .inl da)), (h2, .inl (cA, 8, .inl pa)), (h3, .inl (cA, 8, .inl ea)), (h4, .inl (cA, 4096, .inl ro))])) (wc := [(h0, .inr (1, [.int 0, .int nn, .int dn, .ref h1, .int pn, .ref h2, .ref h3, .int fo, .ref h4])), (h1, .inl (cA, 400, .inl da)), (h2, .inl (cA, 8, .inl pa)), (h3, .inl (cA, 8, .inl ea)), (h4, .inl (cA, 4096, .inl ro))]) (wr := []) hP hD hS hA [0, 1, 2, 3, 4] [] rfl rfl (by decide) (by decide) (va_runV (As := []) (rest := []) ⟨hx, hb, hml, hown, hts⟩ (c_m_square l dC dI _ F h0 h1 h2 h3 h4 cA 0 nn dn pn fo da pa ea ro r3 hr3) (cwV 0 hts gX1_count_X1_square rfl rfl rfl (by decide +kernel) ⟨Nat.le_of_ble_eq_true rfl, Nat.le_of_ble_eq_true rfl⟩) ⟨rf_blind, va_recv hK hP (ci := 1) (q0 := 0) rfl rfl, fun U hU hW => ⟨rfl, rf_pre (hP.sub (ws' := [(h0, .inr (1, [.int 0, .int nn, .int dn, .ref h1, .int pn, .ref h2, .ref h3, .int fo, .ref h4])), (h1, .inl (cA, 400, .inl da)), (h2, .inl (cA, 8, .inl pa)), (h3, .inl (cA, 8, .inl ea)), (h4, .inl (cA, 4096, .inl ro))]) [0, 1, 2, 3, 4] rfl) (hK.sub (tys' := [(cA, .int)]) [0] rfl) (hD.sub (ws' := [(h0, .inr (1, [.int 0, .int nn, .int dn, .ref h1, .int pn, .ref h2, .ref h3, .int fo, .ref h4])), (h1, .inl (cA, 400, .inl da)), (h2, .inl (cA, 8, .inl pa)), (h3, .inl (cA, 8, .inl ea)), (h4, .inl (cA, 4096, .inl ro))]) [0, 1, 2, 3, 4] (by decide) rfl) U hU hW⟩⟩ rfl rfl hl.1 rfl (lv_room (Nat.le_of_ble_eq_true rfl)) dX1_count_65 ⟨Nat.zero_le _, Nat.zero_le _⟩) (fun r3' u H locs hw hP hD hS => ?_)
            subst hw
            have hP : va_P (dC, dI) vwCl [(h0, .inr (1, [.int 0, .int nn, .int dn, .ref h1, .int pn, .ref h2, .ref h3, .int fo, .ref h4])), (h1, .inl (cA, 400, .inl da)), (h2, .inl (cA, 8, .inl pa)), (h3, .inl (cA, 8, .inl ea)), (h4, .inl (cA, 4096, .inl ro))] H := hP
            have hD : va_D A [(h0, .inr (1, [.int 0, .int nn, .int dn, .ref h1, .int pn, .ref h2, .ref h3, .int fo, .ref h4])), (h1, .inl (cA, 400, .inl da)), (h2, .inl (cA, 8, .inl pa)), (h3, .inl (cA, 8, .inl ea)), (h4, .inl (cA, 4096, .inl ro))] := hD
            cases h
            exact W.iret hx hb hr (fun t ht hW => ⟨⟨_, (), rfl, rfl, by rw [ht]; exact hP, hD⟩, hS.F ht⟩) hS.2.2 dX1_count_68
          · rw [if_neg c1_4] at h
            by_cases c1_5 : p0 = 5
            · rw [if_pos c1_5] at h
              refine lv_tableIn (tgt := 69) hx hb dX1_count_6 (by rw [c1_5]; decide) (by rw [c1_5]; decide) (by rw [c1_5]; rfl) (by decide) ?_
              refine lv_aload_n hx hb dX1_count_69 rfl (lv_at hl 0 rfl) ?_
              refine va_get (D := (dC, dI)) (ci := 1) (v := .int fo) (C := RX1) (T := TX1) (N := 9) hx hb hts (fun _ h => List.mem_cons_of_mem _ (List.mem_append_right _ h)) hown hK hP 0 rfl rfl 7 (by decide) (hts _ (List.mem_of_getElem? (i := 20) rfl)) (fun _ h9 => h9) rfl dX1_count_70 ?_
              cases h
              exact W.iret hx hb hr (fun t ht hW => ⟨⟨_, (), rfl, rfl, by rw [ht]; exact hP, hD⟩, hS.F ht⟩) hS.2.2 dX1_count_73
            · rw [if_neg c1_5] at h
              refine lv_tableOut (tgt := 74) hx hb dX1_count_6 (rf_swout5 c1_0 c1_1 c1_2 c1_3 c1_4 c1_5) (by decide) ?_
              refine lv_iconst (v := (-1)) hx hb dX1_count_74 (by decide) ?_
              cases h
              exact W.iret hx hb hr (fun t ht hW => ⟨⟨_, (), rfl, rfl, by rw [ht]; exact hP, hD⟩, hS.F ht⟩) hS.2.2 dX1_count_75
def l_m_symbol_21 (F : Nat) (x2 : Int32) (x3 : Int64) : Nat → Int64 → Int32 → Option (Int32)
  | 0, _, _ => none
  | n + 1, x5, x7 => if (x2 / 2) < x7 then some (-1) else if x5 = x3 then some 1 else if (Int32.toInt64 x2) = 0 then none else l_m_symbol_21 F x2 x3 n (lrm ((x5 + (2 * (Int32.toInt64 x7))) + 1) (Int32.toInt64 x2)) (x7 + 1)
set_option maxHeartbeats 4000000 in
set_option maxRecDepth 100000 in
theorem w_m_symbol_21 {p : Program} {l : Launch} {e : Env} {s : State} {m : MethodId} {args : Array Value} {below : List Frame} {meth : Method} {c : Code} {A : Nat → Prop} {Q : State → Prop} {dC : Nat → ClassId} {dI : Nat → Nat → Nat} (F : Nat) (hx : p.tables.exec = Jvm.exec) (hb : c.code = cX1_symbol) (hml : c.maxLocals = 8) (hown : s.vm.findClass RX1 = some m.cls) (hts : ∀ w ∈ wsX1_symbol, w.before args s = true) (hA : ∀ q, s.heap.size ≤ q → A q)  (hK : va_K (dC, dI) vwCl [] s) (x2 : Int32) (x3 : Int64) :
    ∀ (n : Nat) (x5 : Int64) (x7 rv : Int32), l_m_symbol_21 F x2 x3 n x5 x7 = some rv → ∀ (H : Heap) (locs : List Loc), va_P (dC, dI) vwCl [] H → va_D A [] → va_S A s.heap H locs → ∀ ls : Array Slot, lv_has ls 8 [(2, .int x2), (3, .long x3), (5, .long x5), (7, .int x7)] → (∀ (pc : Nat) (H : Heap) (locs : List Loc) (ls : Array Slot), decode cX1_symbol pc = .ok (.ireturn, 1) → va_P (dC, dI) vwCl [] H → va_D A [] → va_S A s.heap H locs → W p l e { frames := 1, cells := 0, slots := 0, locals := 25 } s m args below meth c H locs 0 0 Q (F0 m pc ls [.int rv])) → W p l e { frames := 1, cells := 0, slots := 0, locals := 25 } s m args below meth c H locs 0 0 Q (F0 m 21 ls []) := by
  intro n
  induction n with
  | zero => intro x5 x7 rv h; exact nomatch (show (none : Option _) = some _ from h)
  | succ n ih =>
    intro x5 x7 rv h H locs hP hD hS ls hl K
    rw [l_m_symbol_21] at h
    refine lv_iload hx hb dX1_symbol_21 (lv_at hl 3 rfl) ?_
    refine lv_iload_n hx hb dX1_symbol_23 rfl (lv_at hl 0 rfl) ?_
    refine lv_iconst (v := 2) hx hb dX1_symbol_24 (by decide) ?_
    refine lv_idiv hx hb dX1_symbol_25 (by decide) ?_
    refine lv_icmp_gt (tgt := 61) hx hb dX1_symbol_26 (by decide) (fun c1 => ?_) (fun c1 => ?_)
    · rw [if_pos c1] at h
      refine lv_iconst (v := (-1)) hx hb dX1_symbol_61 (by decide) ?_
      cases h
      exact K 62 _ _ _ dX1_symbol_62 hP hD hS
    · rw [if_neg c1] at h
      refine lv_lload hx hb dX1_symbol_29 (lv_at hl 2 rfl) ?_
      refine lv_lload_n hx hb dX1_symbol_31 rfl (lv_at hl 1 rfl) ?_
      refine W.lcmp hx hb dX1_symbol_32 ?_
      refine lv_if_ne (tgt := 38) hx hb dX1_symbol_33 (by decide) (fun c2 => ?_) (fun c2 => ?_)
      · rw [lg_cmp_eq] at c2
        rw [if_neg c2] at h
        refine lv_lload hx hb dX1_symbol_38 (lv_at hl 2 rfl) ?_
        refine lv_ldc2 (v := 2) hx hb hown (hts _ (List.mem_of_getElem? (i := 5) rfl)) dX1_symbol_40 ?_
        refine lv_iload hx hb dX1_symbol_43 (lv_at hl 3 rfl) ?_
        refine lv_i2l (v := (Int32.toInt64 x7)) hx hb dX1_symbol_45 rfl ?_
        refine lv_lmul hx hb dX1_symbol_46 ?_
        refine lv_ladd hx hb dX1_symbol_47 ?_
        refine lv_lconst (v := 1) hx hb dX1_symbol_48 (by decide) ?_
        refine lv_ladd hx hb dX1_symbol_49 ?_
        refine lv_iload_n hx hb dX1_symbol_50 rfl (lv_at hl 0 rfl) ?_
        refine lv_i2l (v := (Int32.toInt64 x2)) hx hb dX1_symbol_51 rfl ?_
        obtain ⟨g3, h⟩ := rf_gd h
        refine lv_lrem hx hb dX1_symbol_52 g3 ?_
        refine lv_lstore (lv' := [(5, .long (lrm ((x5 + (2 * (Int32.toInt64 x7))) + 1) (Int32.toInt64 x2))), (2, .int x2), (3, .long x3), (7, .int x7)]) hx hb dX1_symbol_53 hl (by decide) rfl (fun ls hl => ?_)
        refine lv_iinc (v := (x7 + 1)) (lv' := [(7, .int (x7 + 1)), (5, .long (lrm ((x5 + (2 * (Int32.toInt64 x7))) + 1) (Int32.toInt64 x2))), (2, .int x2), (3, .long x3)]) hx hb dX1_symbol_55 hl (k := 3) rfl rfl (by decide) rfl (fun ls hl => ?_)
        refine lv_goto (tgt := 21) hx hb dX1_symbol_58 (by decide) ?_
        exact ih (lrm ((x5 + (2 * (Int32.toInt64 x7))) + 1) (Int32.toInt64 x2)) (x7 + 1) rv h _ _ hP hD hS _ (lv_sub hl [2, 3, 1, 0] rfl) K
      · rw [lg_cmp_eq] at c2
        rw [if_pos c2] at h
        refine lv_iconst (v := 1) hx hb dX1_symbol_36 (by decide) ?_
        cases h
        exact K 37 _ _ _ dX1_symbol_37 hP hD hS
def f_m_symbol (F : Nat) (p0 : Int64) (p1 : Int32) : Option (Int32) := b1 (f_m_rest F p0 (Int32.toInt64 p1)) fun r1 => if r1 = 0 then some 0 else l_m_symbol_21 F p1 r1 F 1 1
set_option maxHeartbeats 4000000 in
set_option maxRecDepth 100000 in
theorem c_m_symbol (l : Launch) (dC : Nat → ClassId) (dI : Nat → Nat → Nat) (sz F : Nat)  (p0 : Int64) (p1 rv : Int32) (h : f_m_symbol F p0 p1 = some rv) : Met l yX1_symbol wsX1_symbol { frames := 1, cells := 0, slots := 0, locals := 25 } (rf_Pc (dC, dI) [] [] sz [.long p0, .int p1]) (va_Qi (fun (r : Int32) (_ : Unit) => rv = r) (fun (_ : Unit) t => va_P (dC, dI) vwCl [] t.heap ∧ va_D (va_A [] sz) []) (va_A [] sz)) 0 0 (va_A [] sz) := by
  refine Met.ofW (cc := cX1_symbol) (maxL := 8) (ret := (some .int)) (by decide) rfl ?_
  intro p e s m args below meth c s₁ B hml hv
  obtain ⟨rfl, hsz, hP, hK, hD0⟩ := hv
  have hx := B.exec
  have hb := B.bytes
  have hr := B.returns
  have hts := atoms_spec (ws := wsX1_symbol) B.pre
  have hown : s.vm.findClass RX1 = some m.cls := findClass_of_methodNamed B.named
  have hlocks := B.notSynchronized
  subst hsz
  have hD := hD0.self (sz := s.heap.size)
  generalize hAe : va_A [] s.heap.size = A at hD ⊢
  have hA : ∀ q : Nat, s.heap.size ≤ q → A q := fun q h => by rw [← hAe]; exact Or.inr h
  have hS : va_S A s.heap s.heap [] := va_S.rf
  have hl := lv_entry ([.long p0, .int p1]) (n := 8) (Nat.le_of_ble_eq_true rfl)
  rw [lg_entry_eq]
  generalize (lg_sl ([.long p0, .int p1]) ++ List.replicate (8 - (lg_sl ([.long p0, .int p1])).length) Slot.unset).toArray = ls at hl ⊢
  have hl : lv_has ls 8 [(0, .long p0), (2, .int p1)] := hl
  unfold f_m_symbol at h
  refine lv_lload_n hx hb dX1_symbol_0 rfl (lv_at hl 0 rfl) ?_
  refine lv_iload_n hx hb dX1_symbol_1 rfl (lv_at hl 1 rfl) ?_
  refine lv_i2l (v := (Int32.toInt64 p1)) hx hb dX1_symbol_2 rfl ?_
  obtain ⟨r1, hr1, h⟩ := rf_b1 h
  refine rf_cl (wn := (fun _ : Unit => [])) (wc := []) (wr := []) hP hD hS hA [] [] rfl rfl (by decide) (by decide) (va_runS (As := [.long p0, .long (Int32.toInt64 p1)]) (rest := []) ⟨hx, hb, hml, hown, hts⟩ (c_m_rest l dC dI _ F p0 (Int32.toInt64 p1) r1 hr1) (va_cwS 2 hts gX1_symbol_X1_rest rfl rfl rfl (by decide +kernel) ⟨Nat.le_of_ble_eq_true rfl, Nat.le_of_ble_eq_true rfl⟩) ⟨rf_blind, fun U hU hW => ⟨rfl, rf_pre (hP.sub (ws' := []) [] rfl) (hK.sub (tys' := []) [] rfl) (hD.sub (ws' := []) [] (by decide) rfl) U hU hW⟩⟩ rfl rfl hl.1 rfl (lv_room (Nat.le_of_ble_eq_true rfl)) dX1_symbol_3 ⟨Nat.zero_le _, Nat.zero_le _⟩) (fun r1' u H locs hw hP hD hS => ?_)
  subst hw
  have hP : va_P (dC, dI) vwCl [] H := hP
  have hD : va_D A [] := hD
  refine lv_lstore_n (lv' := [(3, .long r1), (0, .long p0), (2, .int p1)]) hx hb dX1_symbol_6 rfl hl (by decide) rfl (fun ls hl => ?_)
  refine lv_lload_n hx hb dX1_symbol_7 rfl (lv_at hl 0 rfl) ?_
  refine lv_lconst (v := 0) hx hb dX1_symbol_8 (by decide) ?_
  refine W.lcmp hx hb dX1_symbol_9 ?_
  refine lv_if_ne (tgt := 15) hx hb dX1_symbol_10 (by decide) (fun c2 => ?_) (fun c2 => ?_)
  · rw [lg_cmp_eq] at c2
    rw [if_neg c2] at h
    refine lv_lconst (v := 1) hx hb dX1_symbol_15 (by decide) ?_
    refine lv_lstore (lv' := [(5, .long 1), (3, .long r1), (0, .long p0), (2, .int p1)]) hx hb dX1_symbol_16 hl (by decide) rfl (fun ls hl => ?_)
    refine lv_iconst (v := 1) hx hb dX1_symbol_18 (by decide) ?_
    refine lv_istore (lv' := [(7, .int 1), (5, .long 1), (3, .long r1), (0, .long p0), (2, .int p1)]) hx hb dX1_symbol_19 hl (by decide) rfl (fun ls hl => ?_)
    refine w_m_symbol_21 F hx hb hml hown hts hA hK p1 r1 F 1 1 rv h _ _ hP hD hS _ (lv_sub hl [4, 2, 1, 0] rfl) (fun pc H locs ls hdg hP hD hS => ?_)
    exact W.iret hx hb hr (fun t ht hW => ⟨⟨_, (), rfl, rfl, by rw [ht]; exact hP, hD⟩, hS.F ht⟩) hS.2.2 hdg
  · rw [lg_cmp_eq] at c2
    rw [if_pos c2] at h
    refine lv_iconst (v := 0) hx hb dX1_symbol_13 (by decide) ?_
    cases h
    exact W.iret hx hb hr (fun t ht hW => ⟨⟨_, (), rfl, rfl, by rw [ht]; exact hP, hD⟩, hS.F ht⟩) hS.2.2 dX1_symbol_14
def f_m_symbolOfTwo (F : Nat) (p0 : Int64) : Option (Int32) := b1 (f_m_rest F p0 8) fun r1 => if (lrm r1 2) = 0 then some 0 else if r1 = 1 then some 1 else if r1 = 7 then some 1 else some (-1)
set_option maxHeartbeats 4000000 in
set_option maxRecDepth 100000 in
theorem c_m_symbolOfTwo (l : Launch) (dC : Nat → ClassId) (dI : Nat → Nat → Nat) (sz F : Nat)  (p0 : Int64) (rv : Int32) (h : f_m_symbolOfTwo F p0 = some rv) : Met l yX1_symbolOfTwo wsX1_symbolOfTwo { frames := 1, cells := 0, slots := 0, locals := 25 } (rf_Pc (dC, dI) [] [] sz [.long p0]) (va_Qi (fun (r : Int32) (_ : Unit) => rv = r) (fun (_ : Unit) t => va_P (dC, dI) vwCl [] t.heap ∧ va_D (va_A [] sz) []) (va_A [] sz)) 0 0 (va_A [] sz) := by
  refine Met.ofW (cc := cX1_symbolOfTwo) (maxL := 4) (ret := (some .int)) (by decide) rfl ?_
  intro p e s m args below meth c s₁ B hml hv
  obtain ⟨rfl, hsz, hP, hK, hD0⟩ := hv
  have hx := B.exec
  have hb := B.bytes
  have hr := B.returns
  have hts := atoms_spec (ws := wsX1_symbolOfTwo) B.pre
  have hown : s.vm.findClass RX1 = some m.cls := findClass_of_methodNamed B.named
  have hlocks := B.notSynchronized
  subst hsz
  have hD := hD0.self (sz := s.heap.size)
  generalize hAe : va_A [] s.heap.size = A at hD ⊢
  have hA : ∀ q : Nat, s.heap.size ≤ q → A q := fun q h => by rw [← hAe]; exact Or.inr h
  have hS : va_S A s.heap s.heap [] := va_S.rf
  have hl := lv_entry ([.long p0]) (n := 4) (Nat.le_of_ble_eq_true rfl)
  rw [lg_entry_eq]
  generalize (lg_sl ([.long p0]) ++ List.replicate (4 - (lg_sl ([.long p0])).length) Slot.unset).toArray = ls at hl ⊢
  have hl : lv_has ls 4 [(0, .long p0)] := hl
  unfold f_m_symbolOfTwo at h
  refine lv_lload_n hx hb dX1_symbolOfTwo_0 rfl (lv_at hl 0 rfl) ?_
  refine lv_ldc2 (v := 8) hx hb hown (hts _ (List.mem_of_getElem? (i := 1) rfl)) dX1_symbolOfTwo_1 ?_
  obtain ⟨r1, hr1, h⟩ := rf_b1 h
  refine rf_cl (wn := (fun _ : Unit => [])) (wc := []) (wr := []) hP hD hS hA [] [] rfl rfl (by decide) (by decide) (va_runS (As := [.long p0, .long 8]) (rest := []) ⟨hx, hb, hml, hown, hts⟩ (c_m_rest l dC dI _ F p0 8 r1 hr1) (va_cwS 2 hts gX1_symbolOfTwo_X1_rest rfl rfl rfl (by decide +kernel) ⟨Nat.le_of_ble_eq_true rfl, Nat.le_of_ble_eq_true rfl⟩) ⟨rf_blind, fun U hU hW => ⟨rfl, rf_pre (hP.sub (ws' := []) [] rfl) (hK.sub (tys' := []) [] rfl) (hD.sub (ws' := []) [] (by decide) rfl) U hU hW⟩⟩ rfl rfl hl.1 rfl (lv_room (Nat.le_of_ble_eq_true rfl)) dX1_symbolOfTwo_4 ⟨Nat.zero_le _, Nat.zero_le _⟩) (fun r1' u H locs hw hP hD hS => ?_)
  subst hw
  have hP : va_P (dC, dI) vwCl [] H := hP
  have hD : va_D A [] := hD
  refine lv_lstore_n (lv' := [(2, .long r1), (0, .long p0)]) hx hb dX1_symbolOfTwo_7 rfl hl (by decide) rfl (fun ls hl => ?_)
  refine lv_lload_n hx hb dX1_symbolOfTwo_8 rfl (lv_at hl 0 rfl) ?_
  refine lv_ldc2 (v := 2) hx hb hown (hts _ (List.mem_of_getElem? (i := 6) rfl)) dX1_symbolOfTwo_9 ?_
  refine lv_lrem hx hb dX1_symbolOfTwo_12 (by decide) ?_
  refine lv_lconst (v := 0) hx hb dX1_symbolOfTwo_13 (by decide) ?_
  refine W.lcmp hx hb dX1_symbolOfTwo_14 ?_
  refine lv_if_ne (tgt := 22) hx hb dX1_symbolOfTwo_15 (by decide) (fun c2 => ?_) (fun c2 => ?_)
  · rw [lg_cmp_eq] at c2
    rw [if_neg c2] at h
    refine lv_lload_n hx hb dX1_symbolOfTwo_22 rfl (lv_at hl 0 rfl) ?_
    refine lv_lconst (v := 1) hx hb dX1_symbolOfTwo_23 (by decide) ?_
    refine W.lcmp hx hb dX1_symbolOfTwo_24 ?_
    refine lv_if_eq (tgt := 36) hx hb dX1_symbolOfTwo_25 (by decide) (fun c3 => ?_) (fun c3 => ?_)
    · rw [lg_cmp_eq] at c3
      rw [if_pos c3] at h
      refine lv_iconst (v := 1) hx hb dX1_symbolOfTwo_36 (by decide) ?_
      refine lv_goto (tgt := 41) hx hb dX1_symbolOfTwo_37 (by decide) ?_
      cases h
      exact W.iret hx hb hr (fun t ht hW => ⟨⟨_, (), rfl, rfl, by rw [ht]; exact hP, hD⟩, hS.F ht⟩) hS.2.2 dX1_symbolOfTwo_41
    · rw [lg_cmp_eq] at c3
      rw [if_neg c3] at h
      refine lv_lload_n hx hb dX1_symbolOfTwo_28 rfl (lv_at hl 0 rfl) ?_
      refine lv_ldc2 (v := 7) hx hb hown (hts _ (List.mem_of_getElem? (i := 7) rfl)) dX1_symbolOfTwo_29 ?_
      refine W.lcmp hx hb dX1_symbolOfTwo_32 ?_
      refine lv_if_ne (tgt := 40) hx hb dX1_symbolOfTwo_33 (by decide) (fun c4 => ?_) (fun c4 => ?_)
      · rw [lg_cmp_eq] at c4
        rw [if_neg c4] at h
        refine lv_iconst (v := (-1)) hx hb dX1_symbolOfTwo_40 (by decide) ?_
        cases h
        exact W.iret hx hb hr (fun t ht hW => ⟨⟨_, (), rfl, rfl, by rw [ht]; exact hP, hD⟩, hS.F ht⟩) hS.2.2 dX1_symbolOfTwo_41
      · rw [lg_cmp_eq] at c4
        rw [if_pos c4] at h
        refine lv_iconst (v := 1) hx hb dX1_symbolOfTwo_36 (by decide) ?_
        refine lv_goto (tgt := 41) hx hb dX1_symbolOfTwo_37 (by decide) ?_
        cases h
        exact W.iret hx hb hr (fun t ht hW => ⟨⟨_, (), rfl, rfl, by rw [ht]; exact hP, hD⟩, hS.F ht⟩) hS.2.2 dX1_symbolOfTwo_41
  · rw [lg_cmp_eq] at c2
    rw [if_pos c2] at h
    refine lv_iconst (v := 0) hx hb dX1_symbolOfTwo_18 (by decide) ?_
    refine lv_goto (tgt := 41) hx hb dX1_symbolOfTwo_19 (by decide) ?_
    cases h
    exact W.iret hx hb hr (fun t ht hW => ⟨⟨_, (), rfl, rfl, by rw [ht]; exact hP, hD⟩, hS.F ht⟩) hS.2.2 dX1_symbolOfTwo_41
def l_m_kronecker_94 (F : Nat) (x1 : Int64) (x6 : Int32) : Nat → Int32 → Int32 → Option (Int32 × Int32)
  | 0, _, _ => none
  | n + 1, x4, x5 => if x6 = 0 then none else if (irm x5 x6) = 0 then if x6 = 2 then b1 (f_m_symbolOfTwo F x1) fun r6 => if x6 = 0 then none else l_m_kronecker_94 F x1 x6 n (x4 * r6) (x5 / x6) else b1 (f_m_symbol F x1 x6) fun r4 => if x6 = 0 then none else l_m_kronecker_94 F x1 x6 n (x4 * r4) (x5 / x6) else some (x4, x5)
set_option maxHeartbeats 4000000 in
set_option maxRecDepth 100000 in
theorem w_m_kronecker_94 {p : Program} {l : Launch} {e : Env} {s : State} {m : MethodId} {args : Array Value} {below : List Frame} {meth : Method} {c : Code} {A : Nat → Prop} {Q : State → Prop} {dC : Nat → ClassId} {dI : Nat → Nat → Nat} (F : Nat) (hx : p.tables.exec = Jvm.exec) (hb : c.code = cX1_kronecker) (hml : c.maxLocals = 7) (hown : s.vm.findClass RX1 = some m.cls) (hts : ∀ w ∈ wsX1_kronecker, w.before args s = true) (hA : ∀ q, s.heap.size ≤ q → A q) (h0 h1 h2 h3 h4 : Nat) (cA : ClassId) (hK : va_K (dC, dI) vwCl [(cA, .int)] s) (x1 : Int64) (x6 co nn dn pn fo : Int32) (da pa ea ro : Nat → Int32) :
    ∀ (n : Nat) (x4 x5 x4' x5' : Int32), l_m_kronecker_94 F x1 x6 n x4 x5 = some (x4', x5') → ∀ (H : Heap) (locs : List Loc), va_P (dC, dI) vwCl [(h0, .inr (1, [.int co, .int nn, .int dn, .ref h1, .int pn, .ref h2, .ref h3, .int fo, .ref h4])), (h1, .inl (cA, 400, .inl da)), (h2, .inl (cA, 8, .inl pa)), (h3, .inl (cA, 8, .inl ea)), (h4, .inl (cA, 4096, .inl ro))] H → va_D A [(h0, .inr (1, [.int co, .int nn, .int dn, .ref h1, .int pn, .ref h2, .ref h3, .int fo, .ref h4])), (h1, .inl (cA, 400, .inl da)), (h2, .inl (cA, 8, .inl pa)), (h3, .inl (cA, 8, .inl ea)), (h4, .inl (cA, 4096, .inl ro))] → va_S A s.heap H locs → ∀ ls : Array Slot, lv_has ls 7 [(1, .long x1), (4, .int x4), (5, .int x5), (6, .int x6)] → (∀ (H : Heap) (locs : List Loc) (ls : Array Slot), va_P (dC, dI) vwCl [(h0, .inr (1, [.int co, .int nn, .int dn, .ref h1, .int pn, .ref h2, .ref h3, .int fo, .ref h4])), (h1, .inl (cA, 400, .inl da)), (h2, .inl (cA, 8, .inl pa)), (h3, .inl (cA, 8, .inl ea)), (h4, .inl (cA, 4096, .inl ro))] H → va_D A [(h0, .inr (1, [.int co, .int nn, .int dn, .ref h1, .int pn, .ref h2, .ref h3, .int fo, .ref h4])), (h1, .inl (cA, 400, .inl da)), (h2, .inl (cA, 8, .inl pa)), (h3, .inl (cA, 8, .inl ea)), (h4, .inl (cA, 4096, .inl ro))] → va_S A s.heap H locs → lv_has ls 7 [(1, .long x1), (4, .int x4'), (5, .int x5'), (6, .int x6)] → W p l e { frames := 2, cells := 0, slots := 0, locals := 52 } s m args below meth c H locs 0 0 Q (F0 m 136 ls [])) → W p l e { frames := 2, cells := 0, slots := 0, locals := 52 } s m args below meth c H locs 0 0 Q (F0 m 94 ls []) := by
  intro n
  induction n with
  | zero => intro x4 x5 x4' x5' h; exact nomatch (show (none : Option _) = some _ from h)
  | succ n ih =>
    intro x4 x5 x4' x5' h H locs hP hD hS ls hl K
    rw [l_m_kronecker_94] at h
    refine lv_iload hx hb dX1_kronecker_94 (lv_at hl 2 rfl) ?_
    refine lv_iload hx hb dX1_kronecker_96 (lv_at hl 3 rfl) ?_
    obtain ⟨g1, h⟩ := rf_gd h
    refine lv_irem hx hb dX1_kronecker_98 g1 ?_
    refine lv_if_ne (tgt := 136) hx hb dX1_kronecker_99 (by decide) (fun c2 => ?_) (fun c2 => ?_)
    · rw [if_neg c2] at h
      cases h
      exact K _ _ _ hP hD hS (lv_sub hl [0, 1, 2, 3] rfl)
    · rw [if_pos c2] at h
      refine lv_iload hx hb dX1_kronecker_102 (lv_at hl 1 rfl) ?_
      refine lv_iload hx hb dX1_kronecker_104 (lv_at hl 3 rfl) ?_
      refine lv_iconst (v := 2) hx hb dX1_kronecker_106 (by decide) ?_
      refine lv_icmp_ne (tgt := 117) hx hb dX1_kronecker_107 (by decide) (fun c3 => ?_) (fun c3 => ?_)
      · rw [if_neg c3] at h
        refine lv_lload_n hx hb dX1_kronecker_117 rfl (lv_at hl 0 rfl) ?_
        refine lv_iload hx hb dX1_kronecker_118 (lv_at hl 3 rfl) ?_
        obtain ⟨r4, hr4, h⟩ := rf_b1 h
        refine rf_ci (wn := (fun _ : Unit => [])) (wc := []) (wr := [(h0, .inr (1, [.int co, .int nn, .int dn, .ref h1, .int pn, .ref h2, .ref h3, .int fo, .ref h4])), (h1, .inl (cA, 400, .inl da)), (h2, .inl (cA, 8, .inl pa)), (h3, .inl (cA, 8, .inl ea)), (h4, .inl (cA, 4096, .inl ro))]) hP hD hS hA [] [0, 1, 2, 3, 4] rfl rfl (by decide) (by decide) (va_runS (As := [.long x1, .int x6]) (rest := [.int x4]) ⟨hx, hb, hml, hown, hts⟩ (c_m_symbol l dC dI _ F x1 x6 r4 hr4) (va_cwS 2 hts gX1_kronecker_X1_symbol rfl rfl rfl (by decide +kernel) ⟨Nat.le_of_ble_eq_true rfl, Nat.le_of_ble_eq_true rfl⟩) ⟨rf_blind, fun U hU hW => ⟨rfl, rf_pre (hP.sub (ws' := []) [] rfl) (hK.sub (tys' := []) [] rfl) (hD.sub (ws' := []) [] (by decide) rfl) U hU hW⟩⟩ rfl rfl hl.1 rfl (lv_room (Nat.le_of_ble_eq_true rfl)) dX1_kronecker_120 ⟨Nat.zero_le _, Nat.zero_le _⟩) (fun r4' u H locs hw hP hD hS => ?_)
        subst hw
        have hP : va_P (dC, dI) vwCl [(h0, .inr (1, [.int co, .int nn, .int dn, .ref h1, .int pn, .ref h2, .ref h3, .int fo, .ref h4])), (h1, .inl (cA, 400, .inl da)), (h2, .inl (cA, 8, .inl pa)), (h3, .inl (cA, 8, .inl ea)), (h4, .inl (cA, 4096, .inl ro))] H := hP
        have hD : va_D A [(h0, .inr (1, [.int co, .int nn, .int dn, .ref h1, .int pn, .ref h2, .ref h3, .int fo, .ref h4])), (h1, .inl (cA, 400, .inl da)), (h2, .inl (cA, 8, .inl pa)), (h3, .inl (cA, 8, .inl ea)), (h4, .inl (cA, 4096, .inl ro))] := hD
        refine lv_imul hx hb dX1_kronecker_123 ?_
        refine lv_istore (lv' := [(4, .int (x4 * r4)), (1, .long x1), (5, .int x5), (6, .int x6)]) hx hb dX1_kronecker_124 hl (by decide) rfl (fun ls hl => ?_)
        refine lv_iload hx hb dX1_kronecker_126 (lv_at hl 2 rfl) ?_
        refine lv_iload hx hb dX1_kronecker_128 (lv_at hl 3 rfl) ?_
        obtain ⟨g5, h⟩ := rf_gd h
        refine lv_idiv hx hb dX1_kronecker_130 g5 ?_
        refine lv_istore (lv' := [(5, .int (x5 / x6)), (4, .int (x4 * r4)), (1, .long x1), (6, .int x6)]) hx hb dX1_kronecker_131 hl (by decide) rfl (fun ls hl => ?_)
        refine lv_goto (tgt := 94) hx hb dX1_kronecker_133 (by decide) ?_
        exact ih (x4 * r4) (x5 / x6) x4' x5' h _ _ hP hD hS _ (lv_sub hl [2, 1, 0, 3] rfl) K
      · rw [if_pos c3] at h
        refine lv_lload_n hx hb dX1_kronecker_110 rfl (lv_at hl 0 rfl) ?_
        obtain ⟨r6, hr6, h⟩ := rf_b1 h
        refine rf_ci (wn := (fun _ : Unit => [])) (wc := []) (wr := [(h0, .inr (1, [.int co, .int nn, .int dn, .ref h1, .int pn, .ref h2, .ref h3, .int fo, .ref h4])), (h1, .inl (cA, 400, .inl da)), (h2, .inl (cA, 8, .inl pa)), (h3, .inl (cA, 8, .inl ea)), (h4, .inl (cA, 4096, .inl ro))]) hP hD hS hA [] [0, 1, 2, 3, 4] rfl rfl (by decide) (by decide) (va_runS (As := [.long x1]) (rest := [.int x4]) ⟨hx, hb, hml, hown, hts⟩ (c_m_symbolOfTwo l dC dI _ F x1 r6 hr6) (va_cwS 1 hts gX1_kronecker_X1_symbolOfTwo rfl rfl rfl (by decide +kernel) ⟨Nat.le_of_ble_eq_true rfl, Nat.le_of_ble_eq_true rfl⟩) ⟨rf_blind, fun U hU hW => ⟨rfl, rf_pre (hP.sub (ws' := []) [] rfl) (hK.sub (tys' := []) [] rfl) (hD.sub (ws' := []) [] (by decide) rfl) U hU hW⟩⟩ rfl rfl hl.1 rfl (lv_room (Nat.le_of_ble_eq_true rfl)) dX1_kronecker_111 ⟨Nat.zero_le _, Nat.zero_le _⟩) (fun r6' u H locs hw hP hD hS => ?_)
        subst hw
        have hP : va_P (dC, dI) vwCl [(h0, .inr (1, [.int co, .int nn, .int dn, .ref h1, .int pn, .ref h2, .ref h3, .int fo, .ref h4])), (h1, .inl (cA, 400, .inl da)), (h2, .inl (cA, 8, .inl pa)), (h3, .inl (cA, 8, .inl ea)), (h4, .inl (cA, 4096, .inl ro))] H := hP
        have hD : va_D A [(h0, .inr (1, [.int co, .int nn, .int dn, .ref h1, .int pn, .ref h2, .ref h3, .int fo, .ref h4])), (h1, .inl (cA, 400, .inl da)), (h2, .inl (cA, 8, .inl pa)), (h3, .inl (cA, 8, .inl ea)), (h4, .inl (cA, 4096, .inl ro))] := hD
        refine lv_goto (tgt := 123) hx hb dX1_kronecker_114 (by decide) ?_
        refine lv_imul hx hb dX1_kronecker_123 ?_
        refine lv_istore (lv' := [(4, .int (x4 * r6)), (1, .long x1), (5, .int x5), (6, .int x6)]) hx hb dX1_kronecker_124 hl (by decide) rfl (fun ls hl => ?_)
        refine lv_iload hx hb dX1_kronecker_126 (lv_at hl 2 rfl) ?_
        refine lv_iload hx hb dX1_kronecker_128 (lv_at hl 3 rfl) ?_
        obtain ⟨g7, h⟩ := rf_gd h
        refine lv_idiv hx hb dX1_kronecker_130 g7 ?_
        refine lv_istore (lv' := [(5, .int (x5 / x6)), (4, .int (x4 * r6)), (1, .long x1), (6, .int x6)]) hx hb dX1_kronecker_131 hl (by decide) rfl (fun ls hl => ?_)
        refine lv_goto (tgt := 94) hx hb dX1_kronecker_133 (by decide) ?_
        exact ih (x4 * r6) (x5 / x6) x4' x5' h _ _ hP hD hS _ (lv_sub hl [2, 1, 0, 3] rfl) K
def l_m_kronecker_88 (F : Nat) (x1 : Int64) : Nat → Int32 → Int32 → Int32 → Option (Int32)
  | 0, _, _, _ => none
  | n + 1, x4, x5, x6 => if x5 ≤ 1 then some x4 else b2 (l_m_kronecker_94 F x1 x6 F x4 x5) fun x4_2 x5_2 => l_m_kronecker_88 F x1 n x4_2 x5_2 (x6 + 1)
set_option maxHeartbeats 4000000 in
set_option maxRecDepth 100000 in
theorem w_m_kronecker_88 {p : Program} {l : Launch} {e : Env} {s : State} {m : MethodId} {args : Array Value} {below : List Frame} {meth : Method} {c : Code} {A : Nat → Prop} {Q : State → Prop} {dC : Nat → ClassId} {dI : Nat → Nat → Nat} (F : Nat) (hx : p.tables.exec = Jvm.exec) (hb : c.code = cX1_kronecker) (hml : c.maxLocals = 7) (hown : s.vm.findClass RX1 = some m.cls) (hts : ∀ w ∈ wsX1_kronecker, w.before args s = true) (hA : ∀ q, s.heap.size ≤ q → A q) (h0 h1 h2 h3 h4 : Nat) (cA : ClassId) (hK : va_K (dC, dI) vwCl [(cA, .int)] s) (x1 : Int64) (co nn dn pn fo : Int32) (da pa ea ro : Nat → Int32) :
    ∀ (n : Nat) (x4 x5 x6 x4' : Int32), l_m_kronecker_88 F x1 n x4 x5 x6 = some x4' → ∀ (H : Heap) (locs : List Loc), va_P (dC, dI) vwCl [(h0, .inr (1, [.int co, .int nn, .int dn, .ref h1, .int pn, .ref h2, .ref h3, .int fo, .ref h4])), (h1, .inl (cA, 400, .inl da)), (h2, .inl (cA, 8, .inl pa)), (h3, .inl (cA, 8, .inl ea)), (h4, .inl (cA, 4096, .inl ro))] H → va_D A [(h0, .inr (1, [.int co, .int nn, .int dn, .ref h1, .int pn, .ref h2, .ref h3, .int fo, .ref h4])), (h1, .inl (cA, 400, .inl da)), (h2, .inl (cA, 8, .inl pa)), (h3, .inl (cA, 8, .inl ea)), (h4, .inl (cA, 4096, .inl ro))] → va_S A s.heap H locs → ∀ ls : Array Slot, lv_has ls 7 [(1, .long x1), (4, .int x4), (5, .int x5), (6, .int x6)] → (∀ (H : Heap) (locs : List Loc) (ls : Array Slot), va_P (dC, dI) vwCl [(h0, .inr (1, [.int co, .int nn, .int dn, .ref h1, .int pn, .ref h2, .ref h3, .int fo, .ref h4])), (h1, .inl (cA, 400, .inl da)), (h2, .inl (cA, 8, .inl pa)), (h3, .inl (cA, 8, .inl ea)), (h4, .inl (cA, 4096, .inl ro))] H → va_D A [(h0, .inr (1, [.int co, .int nn, .int dn, .ref h1, .int pn, .ref h2, .ref h3, .int fo, .ref h4])), (h1, .inl (cA, 400, .inl da)), (h2, .inl (cA, 8, .inl pa)), (h3, .inl (cA, 8, .inl ea)), (h4, .inl (cA, 4096, .inl ro))] → va_S A s.heap H locs → lv_has ls 7 [(4, .int x4')] → W p l e { frames := 2, cells := 0, slots := 0, locals := 52 } s m args below meth c H locs 0 0 Q (F0 m 142 ls [])) → W p l e { frames := 2, cells := 0, slots := 0, locals := 52 } s m args below meth c H locs 0 0 Q (F0 m 88 ls []) := by
  intro n
  induction n with
  | zero => intro x4 x5 x6 x4' h; exact nomatch (show (none : Option _) = some _ from h)
  | succ n ih =>
    intro x4 x5 x6 x4' h H locs hP hD hS ls hl K
    rw [l_m_kronecker_88] at h
    refine lv_iload hx hb dX1_kronecker_88 (lv_at hl 2 rfl) ?_
    refine lv_iconst (v := 1) hx hb dX1_kronecker_90 (by decide) ?_
    refine lv_icmp_le (tgt := 142) hx hb dX1_kronecker_91 (by decide) (fun c1 => ?_) (fun c1 => ?_)
    · rw [if_pos c1] at h
      cases h
      exact K _ _ _ hP hD hS (lv_sub hl [1] rfl)
    · rw [if_neg c1] at h
      obtain ⟨x4_2, x5_2, hr2, h⟩ := rf_b2 h
      refine w_m_kronecker_94 F hx hb hml hown hts hA h0 h1 h2 h3 h4 cA hK x1 x6 co nn dn pn fo da pa ea ro F x4 x5 x4_2 x5_2 hr2 _ _ hP hD hS _ (lv_sub hl [0, 1, 2, 3] rfl) (fun H locs ls hP hD hS hl => ?_)
      refine lv_iinc (v := (x6 + 1)) (lv' := [(6, .int (x6 + 1)), (1, .long x1), (4, .int x4_2), (5, .int x5_2)]) hx hb dX1_kronecker_136 hl (k := 3) rfl rfl (by decide) rfl (fun ls hl => ?_)
      refine lv_goto (tgt := 88) hx hb dX1_kronecker_139 (by decide) ?_
      exact ih x4_2 x5_2 (x6 + 1) x4' h _ _ hP hD hS _ (lv_sub hl [1, 2, 3, 0] rfl) K
def f_m_kronecker (F : Nat) (co : Int32) (p0 : Int64) (p1 : Int32) : Option (Int32 × Int32) := b1 (f_m_in F (Int32.toInt64 p1) (-4194304) 4194304) fun r1 => if r1 = 0 then some (0, 1) else if p1 = 0 then if p0 = 1 then some (1, 0) else if p0 = (-1) then some (1, 0) else some (0, 0) else if 0 ≤ p1 then if 0 ≤ p1 then b1 (l_m_kronecker_88 F p0 F 1 p1 2) fun x4_8 => some (x4_8, 0) else b1 (l_m_kronecker_88 F p0 F 1 (-p1) 2) fun x4_9 => some (x4_9, 0) else if 0 ≤ p0 then if 0 ≤ p1 then b1 (l_m_kronecker_88 F p0 F 1 p1 2) fun x4_12 => some (x4_12, 0) else b1 (l_m_kronecker_88 F p0 F 1 (-p1) 2) fun x4_13 => some (x4_13, 0) else if 0 ≤ p1 then b1 (l_m_kronecker_88 F p0 F (-1) p1 2) fun x4_15 => some (x4_15, 0) else b1 (l_m_kronecker_88 F p0 F (-1) (-p1) 2) fun x4_16 => some (x4_16, 0)
set_option maxHeartbeats 4000000 in
set_option maxRecDepth 100000 in
theorem c_m_kronecker (l : Launch) (dC : Nat → ClassId) (dI : Nat → Nat → Nat) (sz F : Nat) (h0 h1 h2 h3 h4 : Nat) (cA : ClassId) (co nn dn pn fo : Int32) (da pa ea ro : Nat → Int32) (p0 : Int64) (p1 rv co' : Int32) (h : f_m_kronecker F co p0 p1 = some (rv, co')) : Met l yX1_kronecker wsX1_kronecker { frames := 2, cells := 0, slots := 0, locals := 52 } (rf_Pc (dC, dI) [(cA, .int)] [(h0, .inr (1, [.int co, .int nn, .int dn, .ref h1, .int pn, .ref h2, .ref h3, .int fo, .ref h4])), (h1, .inl (cA, 400, .inl da)), (h2, .inl (cA, 8, .inl pa)), (h3, .inl (cA, 8, .inl ea)), (h4, .inl (cA, 4096, .inl ro))] sz [.ref h0, .long p0, .int p1]) (va_Qi (fun (r : Int32) (_ : Unit) => rv = r) (fun (_ : Unit) t => va_P (dC, dI) vwCl [(h0, .inr (1, [.int co', .int nn, .int dn, .ref h1, .int pn, .ref h2, .ref h3, .int fo, .ref h4])), (h1, .inl (cA, 400, .inl da)), (h2, .inl (cA, 8, .inl pa)), (h3, .inl (cA, 8, .inl ea)), (h4, .inl (cA, 4096, .inl ro))] t.heap ∧ va_D (va_A [(h0, .inr (1, [.int co, .int nn, .int dn, .ref h1, .int pn, .ref h2, .ref h3, .int fo, .ref h4])), (h1, .inl (cA, 400, .inl da)), (h2, .inl (cA, 8, .inl pa)), (h3, .inl (cA, 8, .inl ea)), (h4, .inl (cA, 4096, .inl ro))] sz) [(h0, .inr (1, [.int co', .int nn, .int dn, .ref h1, .int pn, .ref h2, .ref h3, .int fo, .ref h4])), (h1, .inl (cA, 400, .inl da)), (h2, .inl (cA, 8, .inl pa)), (h3, .inl (cA, 8, .inl ea)), (h4, .inl (cA, 4096, .inl ro))]) (va_A [(h0, .inr (1, [.int co, .int nn, .int dn, .ref h1, .int pn, .ref h2, .ref h3, .int fo, .ref h4])), (h1, .inl (cA, 400, .inl da)), (h2, .inl (cA, 8, .inl pa)), (h3, .inl (cA, 8, .inl ea)), (h4, .inl (cA, 4096, .inl ro))] sz)) 0 0 (va_A [(h0, .inr (1, [.int co, .int nn, .int dn, .ref h1, .int pn, .ref h2, .ref h3, .int fo, .ref h4])), (h1, .inl (cA, 400, .inl da)), (h2, .inl (cA, 8, .inl pa)), (h3, .inl (cA, 8, .inl ea)), (h4, .inl (cA, 4096, .inl ro))] sz) := by
  refine Met.ofW (cc := cX1_kronecker) (maxL := 7) (ret := (some .int)) (by decide) rfl ?_
  intro p e s m args below meth c s₁ B hml hv
  obtain ⟨rfl, hsz, hP, hK, hD0⟩ := hv
  have hx := B.exec
  have hb := B.bytes
  have hr := B.returns
  have hts := atoms_spec (ws := wsX1_kronecker) B.pre
  have hown : s.vm.findClass RX1 = some m.cls := findClass_of_methodNamed B.named
  have hlocks := B.notSynchronized
  subst hsz
  have hD := hD0.self (sz := s.heap.size)
  generalize hAe : va_A [(h0, .inr (1, [.int co, .int nn, .int dn, .ref h1, .int pn, .ref h2, .ref h3, .int fo, .ref h4])), (h1, .inl (cA, 400, .inl da)), (h2, .inl (cA, 8, .inl pa)), (h3, .inl (cA, 8, .inl ea)), (h4, .inl (cA, 4096, .inl ro))] s.heap.size = A at hD ⊢
  have hA : ∀ q : Nat, s.heap.size ≤ q → A q := fun q h => by rw [← hAe]; exact Or.inr h
  have hS : va_S A s.heap s.heap [] := va_S.rf
  have hl := lv_entry ([.ref h0, .long p0, .int p1]) (n := 7) (Nat.le_of_ble_eq_true rfl)
  rw [lg_entry_eq]
  generalize (lg_sl ([.ref h0, .long p0, .int p1]) ++ List.replicate (7 - (lg_sl ([.ref h0, .long p0, .int p1])).length) Slot.unset).toArray = ls at hl ⊢
  have hl : lv_has ls 7 [(0, .ref h0), (1, .long p0), (3, .int p1)] := hl
  unfold f_m_kronecker at h
  refine lv_aload_n hx hb dX1_kronecker_0 rfl (lv_at hl 0 rfl) ?_
  refine lv_iload_n hx hb dX1_kronecker_1 rfl (lv_at hl 2 rfl) ?_
  refine lv_i2l (v := (Int32.toInt64 p1)) hx hb dX1_kronecker_2 rfl ?_
  refine lv_ldc2 (v := (-4194304)) hx hb hown (hts _ (List.mem_of_getElem? (i := 1) rfl)) dX1_kronecker_3 ?_
  refine lv_ldc2 (v := 4194304) hx hb hown (hts _ (List.mem_of_getElem? (i := 2) rfl)) dX1_kronecker_6 ?_
  obtain ⟨r1, hr1, h⟩ := rf_b1 h
  refine rf_ci (wn := (fun _ : Unit => [])) (wc := []) (wr := [(h0, .inr (1, [.int co, .int nn, .int dn, .ref h1, .int pn, .ref h2, .ref h3, .int fo, .ref h4])), (h1, .inl (cA, 400, .inl da)), (h2, .inl (cA, 8, .inl pa)), (h3, .inl (cA, 8, .inl ea)), (h4, .inl (cA, 4096, .inl ro))]) hP hD hS hA [] [0, 1, 2, 3, 4] rfl rfl (by decide) (by decide) (va_runS (As := [.long (Int32.toInt64 p1), .long (-4194304), .long 4194304]) (rest := [.ref h0]) ⟨hx, hb, hml, hown, hts⟩ (c_m_in l dC dI _ F (Int32.toInt64 p1) (-4194304) 4194304 r1 hr1) (va_cwS 3 hts gX1_kronecker_X1_in rfl rfl rfl (by decide +kernel) ⟨Nat.le_of_ble_eq_true rfl, Nat.le_of_ble_eq_true rfl⟩) ⟨rf_blind, fun U hU hW => ⟨rfl, rf_pre (hP.sub (ws' := []) [] rfl) (hK.sub (tys' := []) [] rfl) (hD.sub (ws' := []) [] (by decide) rfl) U hU hW⟩⟩ rfl rfl hl.1 rfl (lv_room (Nat.le_of_ble_eq_true rfl)) dX1_kronecker_9 ⟨Nat.zero_le _, Nat.zero_le _⟩) (fun r1' u H locs hw hP hD hS => ?_)
  subst hw
  have hP : va_P (dC, dI) vwCl [(h0, .inr (1, [.int co, .int nn, .int dn, .ref h1, .int pn, .ref h2, .ref h3, .int fo, .ref h4])), (h1, .inl (cA, 400, .inl da)), (h2, .inl (cA, 8, .inl pa)), (h3, .inl (cA, 8, .inl ea)), (h4, .inl (cA, 4096, .inl ro))] H := hP
  have hD : va_D A [(h0, .inr (1, [.int co, .int nn, .int dn, .ref h1, .int pn, .ref h2, .ref h3, .int fo, .ref h4])), (h1, .inl (cA, 400, .inl da)), (h2, .inl (cA, 8, .inl pa)), (h3, .inl (cA, 8, .inl ea)), (h4, .inl (cA, 4096, .inl ro))] := hD
  refine lv_if_eq (tgt := 19) hx hb dX1_kronecker_12 (by decide) (fun c2 => ?_) (fun c2 => ?_)
  · rw [if_pos c2] at h
    refine lv_iconst (v := 1) hx hb dX1_kronecker_19 (by decide) ?_
    refine va_put (D := (dC, dI)) (ci := 1) (v := .int 1) (ty := .int) (C := RX1) (T := TX1) (N := 9) hx hb hts (fun _ h => List.mem_cons_of_mem _ (List.mem_append_right _ h)) tyX1 tyX1_ok nX1 hown hK hP hD hS 0 rfl rfl 0 (by decide) (hts _ (List.mem_of_getElem? (i := 7) rfl)) (fun _ h9 => h9) rfl (by decide +kernel) rfl rfl (Nat.le_of_ble_eq_true rfl) dX1_kronecker_20 (fun H locs hP hD hS => ?_)
    have hP : va_P (dC, dI) vwCl [(h0, .inr (1, [.int 1, .int nn, .int dn, .ref h1, .int pn, .ref h2, .ref h3, .int fo, .ref h4])), (h1, .inl (cA, 400, .inl da)), (h2, .inl (cA, 8, .inl pa)), (h3, .inl (cA, 8, .inl ea)), (h4, .inl (cA, 4096, .inl ro))] H := hP
    have hD : va_D A [(h0, .inr (1, [.int 1, .int nn, .int dn, .ref h1, .int pn, .ref h2, .ref h3, .int fo, .ref h4])), (h1, .inl (cA, 400, .inl da)), (h2, .inl (cA, 8, .inl pa)), (h3, .inl (cA, 8, .inl ea)), (h4, .inl (cA, 4096, .inl ro))] := hD
    refine lv_aload_n hx hb dX1_kronecker_23 rfl (lv_at hl 0 rfl) ?_
    refine va_get (D := (dC, dI)) (ci := 1) (v := .int 1) (C := RX1) (T := TX1) (N := 9) hx hb hts (fun _ h => List.mem_cons_of_mem _ (List.mem_append_right _ h)) hown hK hP 0 rfl rfl 0 (by decide) (hts _ (List.mem_of_getElem? (i := 7) rfl)) (fun _ h9 => h9) rfl dX1_kronecker_24 ?_
    refine lv_if_le (tgt := 32) hx hb dX1_kronecker_27 (by decide) (fun c3 => ?_) (fun c3 => ?_)
    · exact absurd c3 (by decide)
    · skip
      refine lv_iconst (v := 0) hx hb dX1_kronecker_30 (by decide) ?_
      cases h
      exact W.iret hx hb hr (fun t ht hW => ⟨⟨_, (), rfl, rfl, by rw [ht]; exact hP, hD⟩, hS.F ht⟩) hS.2.2 dX1_kronecker_31
  · rw [if_neg c2] at h
    refine lv_iconst (v := 0) hx hb dX1_kronecker_15 (by decide) ?_
    refine lv_goto (tgt := 20) hx hb dX1_kronecker_16 (by decide) ?_
    refine va_put (D := (dC, dI)) (ci := 1) (v := .int 0) (ty := .int) (C := RX1) (T := TX1) (N := 9) hx hb hts (fun _ h => List.mem_cons_of_mem _ (List.mem_append_right _ h)) tyX1 tyX1_ok nX1 hown hK hP hD hS 0 rfl rfl 0 (by decide) (hts _ (List.mem_of_getElem? (i := 7) rfl)) (fun _ h9 => h9) rfl (by decide +kernel) rfl rfl (Nat.le_of_ble_eq_true rfl) dX1_kronecker_20 (fun H locs hP hD hS => ?_)
    have hP : va_P (dC, dI) vwCl [(h0, .inr (1, [.int 0, .int nn, .int dn, .ref h1, .int pn, .ref h2, .ref h3, .int fo, .ref h4])), (h1, .inl (cA, 400, .inl da)), (h2, .inl (cA, 8, .inl pa)), (h3, .inl (cA, 8, .inl ea)), (h4, .inl (cA, 4096, .inl ro))] H := hP
    have hD : va_D A [(h0, .inr (1, [.int 0, .int nn, .int dn, .ref h1, .int pn, .ref h2, .ref h3, .int fo, .ref h4])), (h1, .inl (cA, 400, .inl da)), (h2, .inl (cA, 8, .inl pa)), (h3, .inl (cA, 8, .inl ea)), (h4, .inl (cA, 4096, .inl ro))] := hD
    refine lv_aload_n hx hb dX1_kronecker_23 rfl (lv_at hl 0 rfl) ?_
    refine va_get (D := (dC, dI)) (ci := 1) (v := .int 0) (C := RX1) (T := TX1) (N := 9) hx hb hts (fun _ h => List.mem_cons_of_mem _ (List.mem_append_right _ h)) hown hK hP 0 rfl rfl 0 (by decide) (hts _ (List.mem_of_getElem? (i := 7) rfl)) (fun _ h9 => h9) rfl dX1_kronecker_24 ?_
    refine lv_if_le (tgt := 32) hx hb dX1_kronecker_27 (by decide) (fun c4 => ?_) (fun c4 => ?_)
    · skip
      refine lv_iload_n hx hb dX1_kronecker_32 rfl (lv_at hl 2 rfl) ?_
      refine lv_if_ne (tgt := 56) hx hb dX1_kronecker_33 (by decide) (fun c5 => ?_) (fun c5 => ?_)
      · rw [if_neg c5] at h
        refine lv_iload_n hx hb dX1_kronecker_56 rfl (lv_at hl 2 rfl) ?_
        refine lv_if_ge (tgt := 70) hx hb dX1_kronecker_57 (by decide) (fun c6 => ?_) (fun c6 => ?_)
        · rw [if_pos c6] at h
          refine lv_iconst (v := 1) hx hb dX1_kronecker_70 (by decide) ?_
          refine lv_istore (lv' := [(4, .int 1), (0, .ref h0), (1, .long p0), (3, .int p1)]) hx hb dX1_kronecker_71 hl (by decide) rfl (fun ls hl => ?_)
          refine lv_iload_n hx hb dX1_kronecker_73 rfl (lv_at hl 3 rfl) ?_
          refine lv_if_ge (tgt := 82) hx hb dX1_kronecker_74 (by decide) (fun c7 => ?_) (fun c7 => ?_)
          · rw [if_pos c7] at h
            refine lv_iload_n hx hb dX1_kronecker_82 rfl (lv_at hl 3 rfl) ?_
            refine lv_istore (lv' := [(5, .int p1), (4, .int 1), (0, .ref h0), (1, .long p0), (3, .int p1)]) hx hb dX1_kronecker_83 hl (by decide) rfl (fun ls hl => ?_)
            refine lv_iconst (v := 2) hx hb dX1_kronecker_85 (by decide) ?_
            refine lv_istore (lv' := [(6, .int 2), (5, .int p1), (4, .int 1), (0, .ref h0), (1, .long p0), (3, .int p1)]) hx hb dX1_kronecker_86 hl (by decide) rfl (fun ls hl => ?_)
            obtain ⟨x4_8, hr8, h⟩ := rf_b1 h
            refine w_m_kronecker_88 F hx hb hml hown hts hA h0 h1 h2 h3 h4 cA hK p0 0 nn dn pn fo da pa ea ro F 1 p1 2 x4_8 hr8 _ _ hP hD hS _ (lv_sub hl [4, 2, 1, 0] rfl) (fun H locs ls hP hD hS hl => ?_)
            refine lv_iload hx hb dX1_kronecker_142 (lv_at hl 0 rfl) ?_
            cases h
            exact W.iret hx hb hr (fun t ht hW => ⟨⟨_, (), rfl, rfl, by rw [ht]; exact hP, hD⟩, hS.F ht⟩) hS.2.2 dX1_kronecker_144
          · rw [if_neg c7] at h
            refine lv_iload_n hx hb dX1_kronecker_77 rfl (lv_at hl 3 rfl) ?_
            refine lv_ineg hx hb dX1_kronecker_78 ?_
            refine lv_goto (tgt := 83) hx hb dX1_kronecker_79 (by decide) ?_
            refine lv_istore (lv' := [(5, .int (-p1)), (4, .int 1), (0, .ref h0), (1, .long p0), (3, .int p1)]) hx hb dX1_kronecker_83 hl (by decide) rfl (fun ls hl => ?_)
            refine lv_iconst (v := 2) hx hb dX1_kronecker_85 (by decide) ?_
            refine lv_istore (lv' := [(6, .int 2), (5, .int (-p1)), (4, .int 1), (0, .ref h0), (1, .long p0), (3, .int p1)]) hx hb dX1_kronecker_86 hl (by decide) rfl (fun ls hl => ?_)
            obtain ⟨x4_9, hr9, h⟩ := rf_b1 h
            refine w_m_kronecker_88 F hx hb hml hown hts hA h0 h1 h2 h3 h4 cA hK p0 0 nn dn pn fo da pa ea ro F 1 (-p1) 2 x4_9 hr9 _ _ hP hD hS _ (lv_sub hl [4, 2, 1, 0] rfl) (fun H locs ls hP hD hS hl => ?_)
            refine lv_iload hx hb dX1_kronecker_142 (lv_at hl 0 rfl) ?_
            cases h
            exact W.iret hx hb hr (fun t ht hW => ⟨⟨_, (), rfl, rfl, by rw [ht]; exact hP, hD⟩, hS.F ht⟩) hS.2.2 dX1_kronecker_144
        · rw [if_neg c6] at h
          refine lv_lload_n hx hb dX1_kronecker_60 rfl (lv_at hl 1 rfl) ?_
          refine lv_lconst (v := 0) hx hb dX1_kronecker_61 (by decide) ?_
          refine W.lcmp hx hb dX1_kronecker_62 ?_
          refine lv_if_ge (tgt := 70) hx hb dX1_kronecker_63 (by decide) (fun c10 => ?_) (fun c10 => ?_)
          · rw [lg_cmp_ge] at c10
            rw [if_pos c10] at h
            refine lv_iconst (v := 1) hx hb dX1_kronecker_70 (by decide) ?_
            refine lv_istore (lv' := [(4, .int 1), (0, .ref h0), (1, .long p0), (3, .int p1)]) hx hb dX1_kronecker_71 hl (by decide) rfl (fun ls hl => ?_)
            refine lv_iload_n hx hb dX1_kronecker_73 rfl (lv_at hl 3 rfl) ?_
            refine lv_if_ge (tgt := 82) hx hb dX1_kronecker_74 (by decide) (fun c11 => ?_) (fun c11 => ?_)
            · rw [if_pos c11] at h
              refine lv_iload_n hx hb dX1_kronecker_82 rfl (lv_at hl 3 rfl) ?_
              refine lv_istore (lv' := [(5, .int p1), (4, .int 1), (0, .ref h0), (1, .long p0), (3, .int p1)]) hx hb dX1_kronecker_83 hl (by decide) rfl (fun ls hl => ?_)
              refine lv_iconst (v := 2) hx hb dX1_kronecker_85 (by decide) ?_
              refine lv_istore (lv' := [(6, .int 2), (5, .int p1), (4, .int 1), (0, .ref h0), (1, .long p0), (3, .int p1)]) hx hb dX1_kronecker_86 hl (by decide) rfl (fun ls hl => ?_)
              obtain ⟨x4_12, hr12, h⟩ := rf_b1 h
              refine w_m_kronecker_88 F hx hb hml hown hts hA h0 h1 h2 h3 h4 cA hK p0 0 nn dn pn fo da pa ea ro F 1 p1 2 x4_12 hr12 _ _ hP hD hS _ (lv_sub hl [4, 2, 1, 0] rfl) (fun H locs ls hP hD hS hl => ?_)
              refine lv_iload hx hb dX1_kronecker_142 (lv_at hl 0 rfl) ?_
              cases h
              exact W.iret hx hb hr (fun t ht hW => ⟨⟨_, (), rfl, rfl, by rw [ht]; exact hP, hD⟩, hS.F ht⟩) hS.2.2 dX1_kronecker_144
            · rw [if_neg c11] at h
              refine lv_iload_n hx hb dX1_kronecker_77 rfl (lv_at hl 3 rfl) ?_
              refine lv_ineg hx hb dX1_kronecker_78 ?_
              refine lv_goto (tgt := 83) hx hb dX1_kronecker_79 (by decide) ?_
              refine lv_istore (lv' := [(5, .int (-p1)), (4, .int 1), (0, .ref h0), (1, .long p0), (3, .int p1)]) hx hb dX1_kronecker_83 hl (by decide) rfl (fun ls hl => ?_)
              refine lv_iconst (v := 2) hx hb dX1_kronecker_85 (by decide) ?_
              refine lv_istore (lv' := [(6, .int 2), (5, .int (-p1)), (4, .int 1), (0, .ref h0), (1, .long p0), (3, .int p1)]) hx hb dX1_kronecker_86 hl (by decide) rfl (fun ls hl => ?_)
              obtain ⟨x4_13, hr13, h⟩ := rf_b1 h
              refine w_m_kronecker_88 F hx hb hml hown hts hA h0 h1 h2 h3 h4 cA hK p0 0 nn dn pn fo da pa ea ro F 1 (-p1) 2 x4_13 hr13 _ _ hP hD hS _ (lv_sub hl [4, 2, 1, 0] rfl) (fun H locs ls hP hD hS hl => ?_)
              refine lv_iload hx hb dX1_kronecker_142 (lv_at hl 0 rfl) ?_
              cases h
              exact W.iret hx hb hr (fun t ht hW => ⟨⟨_, (), rfl, rfl, by rw [ht]; exact hP, hD⟩, hS.F ht⟩) hS.2.2 dX1_kronecker_144
          · rw [lg_cmp_ge] at c10
            rw [if_neg c10] at h
            refine lv_iconst (v := (-1)) hx hb dX1_kronecker_66 (by decide) ?_
            refine lv_goto (tgt := 71) hx hb dX1_kronecker_67 (by decide) ?_
            refine lv_istore (lv' := [(4, .int (-1)), (0, .ref h0), (1, .long p0), (3, .int p1)]) hx hb dX1_kronecker_71 hl (by decide) rfl (fun ls hl => ?_)
            refine lv_iload_n hx hb dX1_kronecker_73 rfl (lv_at hl 3 rfl) ?_
            refine lv_if_ge (tgt := 82) hx hb dX1_kronecker_74 (by decide) (fun c14 => ?_) (fun c14 => ?_)
            · rw [if_pos c14] at h
              refine lv_iload_n hx hb dX1_kronecker_82 rfl (lv_at hl 3 rfl) ?_
              refine lv_istore (lv' := [(5, .int p1), (4, .int (-1)), (0, .ref h0), (1, .long p0), (3, .int p1)]) hx hb dX1_kronecker_83 hl (by decide) rfl (fun ls hl => ?_)
              refine lv_iconst (v := 2) hx hb dX1_kronecker_85 (by decide) ?_
              refine lv_istore (lv' := [(6, .int 2), (5, .int p1), (4, .int (-1)), (0, .ref h0), (1, .long p0), (3, .int p1)]) hx hb dX1_kronecker_86 hl (by decide) rfl (fun ls hl => ?_)
              obtain ⟨x4_15, hr15, h⟩ := rf_b1 h
              refine w_m_kronecker_88 F hx hb hml hown hts hA h0 h1 h2 h3 h4 cA hK p0 0 nn dn pn fo da pa ea ro F (-1) p1 2 x4_15 hr15 _ _ hP hD hS _ (lv_sub hl [4, 2, 1, 0] rfl) (fun H locs ls hP hD hS hl => ?_)
              refine lv_iload hx hb dX1_kronecker_142 (lv_at hl 0 rfl) ?_
              cases h
              exact W.iret hx hb hr (fun t ht hW => ⟨⟨_, (), rfl, rfl, by rw [ht]; exact hP, hD⟩, hS.F ht⟩) hS.2.2 dX1_kronecker_144
            · rw [if_neg c14] at h
              refine lv_iload_n hx hb dX1_kronecker_77 rfl (lv_at hl 3 rfl) ?_
              refine lv_ineg hx hb dX1_kronecker_78 ?_
              refine lv_goto (tgt := 83) hx hb dX1_kronecker_79 (by decide) ?_
              refine lv_istore (lv' := [(5, .int (-p1)), (4, .int (-1)), (0, .ref h0), (1, .long p0), (3, .int p1)]) hx hb dX1_kronecker_83 hl (by decide) rfl (fun ls hl => ?_)
              refine lv_iconst (v := 2) hx hb dX1_kronecker_85 (by decide) ?_
              refine lv_istore (lv' := [(6, .int 2), (5, .int (-p1)), (4, .int (-1)), (0, .ref h0), (1, .long p0), (3, .int p1)]) hx hb dX1_kronecker_86 hl (by decide) rfl (fun ls hl => ?_)
              obtain ⟨x4_16, hr16, h⟩ := rf_b1 h
              refine w_m_kronecker_88 F hx hb hml hown hts hA h0 h1 h2 h3 h4 cA hK p0 0 nn dn pn fo da pa ea ro F (-1) (-p1) 2 x4_16 hr16 _ _ hP hD hS _ (lv_sub hl [4, 2, 1, 0] rfl) (fun H locs ls hP hD hS hl => ?_)
              refine lv_iload hx hb dX1_kronecker_142 (lv_at hl 0 rfl) ?_
              cases h
              exact W.iret hx hb hr (fun t ht hW => ⟨⟨_, (), rfl, rfl, by rw [ht]; exact hP, hD⟩, hS.F ht⟩) hS.2.2 dX1_kronecker_144
      · rw [if_pos c5] at h
        refine lv_lload_n hx hb dX1_kronecker_36 rfl (lv_at hl 1 rfl) ?_
        refine lv_lconst (v := 1) hx hb dX1_kronecker_37 (by decide) ?_
        refine W.lcmp hx hb dX1_kronecker_38 ?_
        refine lv_if_eq (tgt := 50) hx hb dX1_kronecker_39 (by decide) (fun c17 => ?_) (fun c17 => ?_)
        · rw [lg_cmp_eq] at c17
          rw [if_pos c17] at h
          refine lv_iconst (v := 1) hx hb dX1_kronecker_50 (by decide) ?_
          refine lv_goto (tgt := 55) hx hb dX1_kronecker_51 (by decide) ?_
          cases h
          exact W.iret hx hb hr (fun t ht hW => ⟨⟨_, (), rfl, rfl, by rw [ht]; exact hP, hD⟩, hS.F ht⟩) hS.2.2 dX1_kronecker_55
        · rw [lg_cmp_eq] at c17
          rw [if_neg c17] at h
          refine lv_lload_n hx hb dX1_kronecker_42 rfl (lv_at hl 1 rfl) ?_
          refine lv_ldc2 (v := (-1)) hx hb hown (hts _ (List.mem_of_getElem? (i := 20) rfl)) dX1_kronecker_43 ?_
          refine W.lcmp hx hb dX1_kronecker_46 ?_
          refine lv_if_ne (tgt := 54) hx hb dX1_kronecker_47 (by decide) (fun c18 => ?_) (fun c18 => ?_)
          · rw [lg_cmp_eq] at c18
            rw [if_neg c18] at h
            refine lv_iconst (v := 0) hx hb dX1_kronecker_54 (by decide) ?_
            cases h
            exact W.iret hx hb hr (fun t ht hW => ⟨⟨_, (), rfl, rfl, by rw [ht]; exact hP, hD⟩, hS.F ht⟩) hS.2.2 dX1_kronecker_55
          · rw [lg_cmp_eq] at c18
            rw [if_pos c18] at h
            refine lv_iconst (v := 1) hx hb dX1_kronecker_50 (by decide) ?_
            refine lv_goto (tgt := 55) hx hb dX1_kronecker_51 (by decide) ?_
            cases h
            exact W.iret hx hb hr (fun t ht hW => ⟨⟨_, (), rfl, rfl, by rw [ht]; exact hP, hD⟩, hS.F ht⟩) hS.2.2 dX1_kronecker_55
    · exact absurd c4 (by decide)
def f_m_times (F : Nat) (nn : Int32) (p0 p1 : Int64) : Option (Int64) := if (Int32.toInt64 nn) = 0 then none else some (lrm (p0 * p1) (Int32.toInt64 nn))
set_option maxHeartbeats 4000000 in
set_option maxRecDepth 100000 in
theorem c_m_times (l : Launch) (dC : Nat → ClassId) (dI : Nat → Nat → Nat) (sz F : Nat) (h0 h1 h2 h3 h4 : Nat) (cA : ClassId) (co nn dn pn fo : Int32) (da pa ea ro : Nat → Int32) (p0 p1 rv : Int64) (h : f_m_times F nn p0 p1 = some rv) : Met l yX1_times wsX1_times { frames := 0, cells := 0, slots := 0, locals := 0 } (rf_Pc (dC, dI) [(cA, .int)] [(h0, .inr (1, [.int co, .int nn, .int dn, .ref h1, .int pn, .ref h2, .ref h3, .int fo, .ref h4])), (h1, .inl (cA, 400, .inl da)), (h2, .inl (cA, 8, .inl pa)), (h3, .inl (cA, 8, .inl ea)), (h4, .inl (cA, 4096, .inl ro))] sz [.ref h0, .long p0, .long p1]) (va_Ql (fun (r : Int64) (_ : Unit) => rv = r) (fun (_ : Unit) t => va_P (dC, dI) vwCl [(h0, .inr (1, [.int co, .int nn, .int dn, .ref h1, .int pn, .ref h2, .ref h3, .int fo, .ref h4])), (h1, .inl (cA, 400, .inl da)), (h2, .inl (cA, 8, .inl pa)), (h3, .inl (cA, 8, .inl ea)), (h4, .inl (cA, 4096, .inl ro))] t.heap ∧ va_D (va_A [(h0, .inr (1, [.int co, .int nn, .int dn, .ref h1, .int pn, .ref h2, .ref h3, .int fo, .ref h4])), (h1, .inl (cA, 400, .inl da)), (h2, .inl (cA, 8, .inl pa)), (h3, .inl (cA, 8, .inl ea)), (h4, .inl (cA, 4096, .inl ro))] sz) [(h0, .inr (1, [.int co, .int nn, .int dn, .ref h1, .int pn, .ref h2, .ref h3, .int fo, .ref h4])), (h1, .inl (cA, 400, .inl da)), (h2, .inl (cA, 8, .inl pa)), (h3, .inl (cA, 8, .inl ea)), (h4, .inl (cA, 4096, .inl ro))]) (va_A [(h0, .inr (1, [.int co, .int nn, .int dn, .ref h1, .int pn, .ref h2, .ref h3, .int fo, .ref h4])), (h1, .inl (cA, 400, .inl da)), (h2, .inl (cA, 8, .inl pa)), (h3, .inl (cA, 8, .inl ea)), (h4, .inl (cA, 4096, .inl ro))] sz)) 0 0 (va_A [(h0, .inr (1, [.int co, .int nn, .int dn, .ref h1, .int pn, .ref h2, .ref h3, .int fo, .ref h4])), (h1, .inl (cA, 400, .inl da)), (h2, .inl (cA, 8, .inl pa)), (h3, .inl (cA, 8, .inl ea)), (h4, .inl (cA, 4096, .inl ro))] sz) := by
  refine Met.ofW (cc := cX1_times) (maxL := 5) (ret := (some .long)) (by decide) rfl ?_
  intro p e s m args below meth c s₁ B hml hv
  obtain ⟨rfl, hsz, hP, hK, hD0⟩ := hv
  have hx := B.exec
  have hb := B.bytes
  have hr := B.returns
  have hts := atoms_spec (ws := wsX1_times) B.pre
  have hown : s.vm.findClass RX1 = some m.cls := findClass_of_methodNamed B.named
  have hlocks := B.notSynchronized
  subst hsz
  have hD := hD0.self (sz := s.heap.size)
  generalize hAe : va_A [(h0, .inr (1, [.int co, .int nn, .int dn, .ref h1, .int pn, .ref h2, .ref h3, .int fo, .ref h4])), (h1, .inl (cA, 400, .inl da)), (h2, .inl (cA, 8, .inl pa)), (h3, .inl (cA, 8, .inl ea)), (h4, .inl (cA, 4096, .inl ro))] s.heap.size = A at hD ⊢
  have hA : ∀ q : Nat, s.heap.size ≤ q → A q := fun q h => by rw [← hAe]; exact Or.inr h
  have hS : va_S A s.heap s.heap [] := va_S.rf
  have hl := lv_entry ([.ref h0, .long p0, .long p1]) (n := 5) (Nat.le_of_ble_eq_true rfl)
  rw [lg_entry_eq]
  generalize (lg_sl ([.ref h0, .long p0, .long p1]) ++ List.replicate (5 - (lg_sl ([.ref h0, .long p0, .long p1])).length) Slot.unset).toArray = ls at hl ⊢
  have hl : lv_has ls 5 [(0, .ref h0), (1, .long p0), (3, .long p1)] := hl
  unfold f_m_times at h
  refine lv_lload_n hx hb dX1_times_0 rfl (lv_at hl 1 rfl) ?_
  refine lv_lload_n hx hb dX1_times_1 rfl (lv_at hl 2 rfl) ?_
  refine lv_lmul hx hb dX1_times_2 ?_
  refine lv_aload_n hx hb dX1_times_3 rfl (lv_at hl 0 rfl) ?_
  refine va_get (D := (dC, dI)) (ci := 1) (v := .int nn) (C := RX1) (T := TX1) (N := 9) hx hb hts (fun _ h => List.mem_cons_of_mem _ (List.mem_append_right _ h)) hown hK hP 0 rfl rfl 1 (by decide) (hts _ (List.mem_of_getElem? (i := 1) rfl)) (fun _ h9 => h9) rfl dX1_times_4 ?_
  refine lv_i2l (v := (Int32.toInt64 nn)) hx hb dX1_times_7 rfl ?_
  obtain ⟨g1, h⟩ := rf_gd h
  refine lv_lrem hx hb dX1_times_8 g1 ?_
  cases h
  exact W.lret hx hb hr (fun t ht hW => ⟨⟨_, (), rfl, rfl, by rw [ht]; exact hP, hD⟩, hS.F ht⟩) hS.2.2 dX1_times_9
def l_m_power_88 (F : Nat) (x9 : Int64) (nn : Int32) : Nat → Int64 → Int32 → Option (Int64)
  | 0, _, _ => none
  | n + 1, x11, x13 => if 10 ≤ x13 then some x11 else b1 (f_m_times F nn x11 x9) fun r2 => l_m_power_88 F x9 nn n r2 (x13 + 1)
set_option maxHeartbeats 4000000 in
set_option maxRecDepth 100000 in
theorem w_m_power_88 {p : Program} {l : Launch} {e : Env} {s : State} {m : MethodId} {args : Array Value} {below : List Frame} {meth : Method} {c : Code} {A : Nat → Prop} {Q : State → Prop} {dC : Nat → ClassId} {dI : Nat → Nat → Nat} (F : Nat) (hx : p.tables.exec = Jvm.exec) (hb : c.code = cX1_power) (hml : c.maxLocals = 15) (hown : s.vm.findClass RX1 = some m.cls) (hts : ∀ w ∈ wsX1_power, w.before args s = true) (hA : ∀ q, s.heap.size ≤ q → A q) (h0 h1 h2 h3 h4 : Nat) (cA : ClassId) (hK : va_K (dC, dI) vwCl [(cA, .int)] s) (x9 x3 x5 x7 : Int64) (co nn dn pn fo : Int32) (da pa ea ro : Nat → Int32) :
    ∀ (n : Nat) (x11 : Int64) (x13 : Int32) (x11' : Int64), l_m_power_88 F x9 nn n x11 x13 = some x11' → ∀ (H : Heap) (locs : List Loc), va_P (dC, dI) vwCl [(h0, .inr (1, [.int co, .int nn, .int dn, .ref h1, .int pn, .ref h2, .ref h3, .int fo, .ref h4])), (h1, .inl (cA, 400, .inl da)), (h2, .inl (cA, 8, .inl pa)), (h3, .inl (cA, 8, .inl ea)), (h4, .inl (cA, 4096, .inl ro))] H → va_D A [(h0, .inr (1, [.int co, .int nn, .int dn, .ref h1, .int pn, .ref h2, .ref h3, .int fo, .ref h4])), (h1, .inl (cA, 400, .inl da)), (h2, .inl (cA, 8, .inl pa)), (h3, .inl (cA, 8, .inl ea)), (h4, .inl (cA, 4096, .inl ro))] → va_S A s.heap H locs → ∀ ls : Array Slot, lv_has ls 15 [(0, .ref h0), (3, .long x3), (5, .long x5), (7, .long x7), (9, .long x9), (11, .long x11), (13, .int x13)] → (∀ (H : Heap) (locs : List Loc) (ls : Array Slot), va_P (dC, dI) vwCl [(h0, .inr (1, [.int co, .int nn, .int dn, .ref h1, .int pn, .ref h2, .ref h3, .int fo, .ref h4])), (h1, .inl (cA, 400, .inl da)), (h2, .inl (cA, 8, .inl pa)), (h3, .inl (cA, 8, .inl ea)), (h4, .inl (cA, 4096, .inl ro))] H → va_D A [(h0, .inr (1, [.int co, .int nn, .int dn, .ref h1, .int pn, .ref h2, .ref h3, .int fo, .ref h4])), (h1, .inl (cA, 400, .inl da)), (h2, .inl (cA, 8, .inl pa)), (h3, .inl (cA, 8, .inl ea)), (h4, .inl (cA, 4096, .inl ro))] → va_S A s.heap H locs → lv_has ls 15 [(0, .ref h0), (3, .long x3), (5, .long x5), (7, .long x7), (11, .long x11')] → W p l e { frames := 1, cells := 0, slots := 0, locals := 25 } s m args below meth c H locs 0 0 Q (F0 m 111 ls [])) → W p l e { frames := 1, cells := 0, slots := 0, locals := 25 } s m args below meth c H locs 0 0 Q (F0 m 88 ls []) := by
  intro n
  induction n with
  | zero => intro x11 x13 x11' h; exact nomatch (show (none : Option _) = some _ from h)
  | succ n ih =>
    intro x11 x13 x11' h H locs hP hD hS ls hl K
    rw [l_m_power_88] at h
    refine lv_iload hx hb dX1_power_88 (lv_at hl 6 rfl) ?_
    refine lv_bipush (v := 10) hx hb dX1_power_90 (by decide) ?_
    refine lv_icmp_ge (tgt := 111) hx hb dX1_power_92 (by decide) (fun c1 => ?_) (fun c1 => ?_)
    · rw [if_pos c1] at h
      cases h
      exact K _ _ _ hP hD hS (lv_sub hl [0, 1, 2, 3, 5] rfl)
    · rw [if_neg c1] at h
      refine lv_aload_n hx hb dX1_power_95 rfl (lv_at hl 0 rfl) ?_
      refine lv_lload hx hb dX1_power_96 (lv_at hl 5 rfl) ?_
      refine lv_lload hx hb dX1_power_98 (lv_at hl 4 rfl) ?_
      obtain ⟨r2, hr2, h⟩ := rf_b1 h
      refine rf_cl (wn := (fun _ : Unit => [(h0, .inr (1, [.int co, .int nn, .int dn, .ref h1, .int pn, .ref h2, .ref h3, .int fo, .ref h4])), (h1, .inl (cA, 400, .inl da)), (h2, .inl (cA, 8, .inl pa)), (h3, .inl (cA, 8, .inl ea)), (h4, .inl (cA, 4096, .inl ro))])) (wc := [(h0, .inr (1, [.int co, .int nn, .int dn, .ref h1, .int pn, .ref h2, .ref h3, .int fo, .ref h4])), (h1, .inl (cA, 400, .inl da)), (h2, .inl (cA, 8, .inl pa)), (h3, .inl (cA, 8, .inl ea)), (h4, .inl (cA, 4096, .inl ro))]) (wr := []) hP hD hS hA [0, 1, 2, 3, 4] [] rfl rfl (by decide) (by decide) (va_runV (As := [.long x11, .long x9]) (rest := []) ⟨hx, hb, hml, hown, hts⟩ (c_m_times l dC dI _ F h0 h1 h2 h3 h4 cA co nn dn pn fo da pa ea ro x11 x9 r2 hr2) (cwV 2 hts gX1_power_X1_times rfl rfl rfl (by decide +kernel) ⟨Nat.le_of_ble_eq_true rfl, Nat.le_of_ble_eq_true rfl⟩) ⟨rf_blind, va_recv hK hP (ci := 1) (q0 := 0) rfl rfl, fun U hU hW => ⟨rfl, rf_pre (hP.sub (ws' := [(h0, .inr (1, [.int co, .int nn, .int dn, .ref h1, .int pn, .ref h2, .ref h3, .int fo, .ref h4])), (h1, .inl (cA, 400, .inl da)), (h2, .inl (cA, 8, .inl pa)), (h3, .inl (cA, 8, .inl ea)), (h4, .inl (cA, 4096, .inl ro))]) [0, 1, 2, 3, 4] rfl) (hK.sub (tys' := [(cA, .int)]) [0] rfl) (hD.sub (ws' := [(h0, .inr (1, [.int co, .int nn, .int dn, .ref h1, .int pn, .ref h2, .ref h3, .int fo, .ref h4])), (h1, .inl (cA, 400, .inl da)), (h2, .inl (cA, 8, .inl pa)), (h3, .inl (cA, 8, .inl ea)), (h4, .inl (cA, 4096, .inl ro))]) [0, 1, 2, 3, 4] (by decide) rfl) U hU hW⟩⟩ rfl rfl hl.1 rfl (lv_room (Nat.le_of_ble_eq_true rfl)) dX1_power_100 ⟨Nat.zero_le _, Nat.zero_le _⟩) (fun r2' u H locs hw hP hD hS => ?_)
      subst hw
      have hP : va_P (dC, dI) vwCl [(h0, .inr (1, [.int co, .int nn, .int dn, .ref h1, .int pn, .ref h2, .ref h3, .int fo, .ref h4])), (h1, .inl (cA, 400, .inl da)), (h2, .inl (cA, 8, .inl pa)), (h3, .inl (cA, 8, .inl ea)), (h4, .inl (cA, 4096, .inl ro))] H := hP
      have hD : va_D A [(h0, .inr (1, [.int co, .int nn, .int dn, .ref h1, .int pn, .ref h2, .ref h3, .int fo, .ref h4])), (h1, .inl (cA, 400, .inl da)), (h2, .inl (cA, 8, .inl pa)), (h3, .inl (cA, 8, .inl ea)), (h4, .inl (cA, 4096, .inl ro))] := hD
      refine lv_lstore (lv' := [(11, .long r2), (0, .ref h0), (3, .long x3), (5, .long x5), (7, .long x7), (9, .long x9), (13, .int x13)]) hx hb dX1_power_103 hl (by decide) rfl (fun ls hl => ?_)
      refine lv_iinc (v := (x13 + 1)) (lv' := [(13, .int (x13 + 1)), (11, .long r2), (0, .ref h0), (3, .long x3), (5, .long x5), (7, .long x7), (9, .long x9)]) hx hb dX1_power_105 hl (k := 6) rfl rfl (by decide) rfl (fun ls hl => ?_)
      refine lv_goto (tgt := 88) hx hb dX1_power_108 (by decide) ?_
      exact ih r2 (x13 + 1) x11' h _ _ hP hD hS _ (lv_sub hl [2, 3, 4, 5, 6, 1, 0] rfl) K
def l_m_power_38 (F : Nat) (x3 : Int64) : Nat → Int64 → Option (Int64)
  | 0, _ => none
  | n + 1, x7 => if x7 = 0 then none else if (x3 / x7) ≤ 9 then some x7 else l_m_power_38 F x3 n (x7 * 10)
set_option maxHeartbeats 4000000 in
set_option maxRecDepth 100000 in
theorem w_m_power_38 {p : Program} {l : Launch} {e : Env} {s : State} {m : MethodId} {args : Array Value} {below : List Frame} {meth : Method} {c : Code} {A : Nat → Prop} {Q : State → Prop} {dC : Nat → ClassId} {dI : Nat → Nat → Nat} (F : Nat) (hx : p.tables.exec = Jvm.exec) (hb : c.code = cX1_power) (hml : c.maxLocals = 15) (hown : s.vm.findClass RX1 = some m.cls) (hts : ∀ w ∈ wsX1_power, w.before args s = true) (hA : ∀ q, s.heap.size ≤ q → A q) (h0 h1 h2 h3 h4 : Nat) (cA : ClassId) (hK : va_K (dC, dI) vwCl [(cA, .int)] s) (x3 x5 : Int64) (co nn dn pn fo : Int32) (da pa ea ro : Nat → Int32) :
    ∀ (n : Nat) (x7 x7' : Int64), l_m_power_38 F x3 n x7 = some x7' → ∀ (H : Heap) (locs : List Loc), va_P (dC, dI) vwCl [(h0, .inr (1, [.int co, .int nn, .int dn, .ref h1, .int pn, .ref h2, .ref h3, .int fo, .ref h4])), (h1, .inl (cA, 400, .inl da)), (h2, .inl (cA, 8, .inl pa)), (h3, .inl (cA, 8, .inl ea)), (h4, .inl (cA, 4096, .inl ro))] H → va_D A [(h0, .inr (1, [.int co, .int nn, .int dn, .ref h1, .int pn, .ref h2, .ref h3, .int fo, .ref h4])), (h1, .inl (cA, 400, .inl da)), (h2, .inl (cA, 8, .inl pa)), (h3, .inl (cA, 8, .inl ea)), (h4, .inl (cA, 4096, .inl ro))] → va_S A s.heap H locs → ∀ ls : Array Slot, lv_has ls 15 [(0, .ref h0), (3, .long x3), (5, .long x5), (7, .long x7)] → (∀ (H : Heap) (locs : List Loc) (ls : Array Slot), va_P (dC, dI) vwCl [(h0, .inr (1, [.int co, .int nn, .int dn, .ref h1, .int pn, .ref h2, .ref h3, .int fo, .ref h4])), (h1, .inl (cA, 400, .inl da)), (h2, .inl (cA, 8, .inl pa)), (h3, .inl (cA, 8, .inl ea)), (h4, .inl (cA, 4096, .inl ro))] H → va_D A [(h0, .inr (1, [.int co, .int nn, .int dn, .ref h1, .int pn, .ref h2, .ref h3, .int fo, .ref h4])), (h1, .inl (cA, 400, .inl da)), (h2, .inl (cA, 8, .inl pa)), (h3, .inl (cA, 8, .inl ea)), (h4, .inl (cA, 4096, .inl ro))] → va_S A s.heap H locs → lv_has ls 15 [(0, .ref h0), (3, .long x3), (5, .long x5), (7, .long x7')] → W p l e { frames := 1, cells := 0, slots := 0, locals := 25 } s m args below meth c H locs 0 0 Q (F0 m 60 ls [])) → W p l e { frames := 1, cells := 0, slots := 0, locals := 25 } s m args below meth c H locs 0 0 Q (F0 m 38 ls []) := by
  intro n
  induction n with
  | zero => intro x7 x7' h; exact nomatch (show (none : Option _) = some _ from h)
  | succ n ih =>
    intro x7 x7' h H locs hP hD hS ls hl K
    rw [l_m_power_38] at h
    refine lv_lload_n hx hb dX1_power_38 rfl (lv_at hl 1 rfl) ?_
    refine lv_lload hx hb dX1_power_39 (lv_at hl 3 rfl) ?_
    obtain ⟨g1, h⟩ := rf_gd h
    refine lv_ldiv hx hb dX1_power_41 g1 ?_
    refine lv_ldc2 (v := 9) hx hb hown (hts _ (List.mem_of_getElem? (i := 7) rfl)) dX1_power_42 ?_
    refine W.lcmp hx hb dX1_power_45 ?_
    refine lv_if_le (tgt := 60) hx hb dX1_power_46 (by decide) (fun c2 => ?_) (fun c2 => ?_)
    · rw [lg_cmp_le] at c2
      rw [if_pos c2] at h
      cases h
      exact K _ _ _ hP hD hS (lv_sub hl [0, 1, 2, 3] rfl)
    · rw [lg_cmp_le] at c2
      rw [if_neg c2] at h
      refine lv_lload hx hb dX1_power_49 (lv_at hl 3 rfl) ?_
      refine lv_ldc2 (v := 10) hx hb hown (hts _ (List.mem_of_getElem? (i := 8) rfl)) dX1_power_51 ?_
      refine lv_lmul hx hb dX1_power_54 ?_
      refine lv_lstore (lv' := [(7, .long (x7 * 10)), (0, .ref h0), (3, .long x3), (5, .long x5)]) hx hb dX1_power_55 hl (by decide) rfl (fun ls hl => ?_)
      refine lv_goto (tgt := 38) hx hb dX1_power_57 (by decide) ?_
      exact ih (x7 * 10) x7' h _ _ hP hD hS _ (lv_sub hl [1, 2, 3, 0] rfl) K
def l_m_power_121 (F : Nat) (x5 : Int64) (nn : Int32) : Nat → Int64 → Int64 → Option (Int64)
  | 0, _, _ => none
  | n + 1, x11, x13 => if x13 ≤ 0 then some x11 else b1 (f_m_times F nn x11 x5) fun r2 => l_m_power_121 F x5 nn n r2 (x13 - 1)
set_option maxHeartbeats 4000000 in
set_option maxRecDepth 100000 in
theorem w_m_power_121 {p : Program} {l : Launch} {e : Env} {s : State} {m : MethodId} {args : Array Value} {below : List Frame} {meth : Method} {c : Code} {A : Nat → Prop} {Q : State → Prop} {dC : Nat → ClassId} {dI : Nat → Nat → Nat} (F : Nat) (hx : p.tables.exec = Jvm.exec) (hb : c.code = cX1_power) (hml : c.maxLocals = 15) (hown : s.vm.findClass RX1 = some m.cls) (hts : ∀ w ∈ wsX1_power, w.before args s = true) (hA : ∀ q, s.heap.size ≤ q → A q) (h0 h1 h2 h3 h4 : Nat) (cA : ClassId) (hK : va_K (dC, dI) vwCl [(cA, .int)] s) (x5 x3 x7 : Int64) (co nn dn pn fo : Int32) (da pa ea ro : Nat → Int32) :
    ∀ (n : Nat) (x11 x13 x11' : Int64), l_m_power_121 F x5 nn n x11 x13 = some x11' → ∀ (H : Heap) (locs : List Loc), va_P (dC, dI) vwCl [(h0, .inr (1, [.int co, .int nn, .int dn, .ref h1, .int pn, .ref h2, .ref h3, .int fo, .ref h4])), (h1, .inl (cA, 400, .inl da)), (h2, .inl (cA, 8, .inl pa)), (h3, .inl (cA, 8, .inl ea)), (h4, .inl (cA, 4096, .inl ro))] H → va_D A [(h0, .inr (1, [.int co, .int nn, .int dn, .ref h1, .int pn, .ref h2, .ref h3, .int fo, .ref h4])), (h1, .inl (cA, 400, .inl da)), (h2, .inl (cA, 8, .inl pa)), (h3, .inl (cA, 8, .inl ea)), (h4, .inl (cA, 4096, .inl ro))] → va_S A s.heap H locs → ∀ ls : Array Slot, lv_has ls 15 [(0, .ref h0), (3, .long x3), (5, .long x5), (7, .long x7), (11, .long x11), (13, .long x13)] → (∀ (H : Heap) (locs : List Loc) (ls : Array Slot), va_P (dC, dI) vwCl [(h0, .inr (1, [.int co, .int nn, .int dn, .ref h1, .int pn, .ref h2, .ref h3, .int fo, .ref h4])), (h1, .inl (cA, 400, .inl da)), (h2, .inl (cA, 8, .inl pa)), (h3, .inl (cA, 8, .inl ea)), (h4, .inl (cA, 4096, .inl ro))] H → va_D A [(h0, .inr (1, [.int co, .int nn, .int dn, .ref h1, .int pn, .ref h2, .ref h3, .int fo, .ref h4])), (h1, .inl (cA, 400, .inl da)), (h2, .inl (cA, 8, .inl pa)), (h3, .inl (cA, 8, .inl ea)), (h4, .inl (cA, 4096, .inl ro))] → va_S A s.heap H locs → lv_has ls 15 [(0, .ref h0), (3, .long x3), (5, .long x5), (7, .long x7), (11, .long x11')] → W p l e { frames := 1, cells := 0, slots := 0, locals := 25 } s m args below meth c H locs 0 0 Q (F0 m 147 ls [])) → W p l e { frames := 1, cells := 0, slots := 0, locals := 25 } s m args below meth c H locs 0 0 Q (F0 m 121 ls []) := by
  intro n
  induction n with
  | zero => intro x11 x13 x11' h; exact nomatch (show (none : Option _) = some _ from h)
  | succ n ih =>
    intro x11 x13 x11' h H locs hP hD hS ls hl K
    rw [l_m_power_121] at h
    refine lv_lload hx hb dX1_power_121 (lv_at hl 5 rfl) ?_
    refine lv_lconst (v := 0) hx hb dX1_power_123 (by decide) ?_
    refine W.lcmp hx hb dX1_power_124 ?_
    refine lv_if_le (tgt := 147) hx hb dX1_power_125 (by decide) (fun c1 => ?_) (fun c1 => ?_)
    · rw [lg_cmp_le] at c1
      rw [if_pos c1] at h
      cases h
      exact K _ _ _ hP hD hS (lv_sub hl [0, 1, 2, 3, 4] rfl)
    · rw [lg_cmp_le] at c1
      rw [if_neg c1] at h
      refine lv_aload_n hx hb dX1_power_128 rfl (lv_at hl 0 rfl) ?_
      refine lv_lload hx hb dX1_power_129 (lv_at hl 4 rfl) ?_
      refine lv_lload hx hb dX1_power_131 (lv_at hl 2 rfl) ?_
      obtain ⟨r2, hr2, h⟩ := rf_b1 h
      refine rf_cl (wn := (fun _ : Unit => [(h0, .inr (1, [.int co, .int nn, .int dn, .ref h1, .int pn, .ref h2, .ref h3, .int fo, .ref h4])), (h1, .inl (cA, 400, .inl da)), (h2, .inl (cA, 8, .inl pa)), (h3, .inl (cA, 8, .inl ea)), (h4, .inl (cA, 4096, .inl ro))])) (wc := [(h0, .inr (1, [.int co, .int nn, .int dn, .ref h1, .int pn, .ref h2, .ref h3, .int fo, .ref h4])), (h1, .inl (cA, 400, .inl da)), (h2, .inl (cA, 8, .inl pa)), (h3, .inl (cA, 8, .inl ea)), (h4, .inl (cA, 4096, .inl ro))]) (wr := []) hP hD hS hA [0, 1, 2, 3, 4] [] rfl rfl (by decide) (by decide) (va_runV (As := [.long x11, .long x5]) (rest := []) ⟨hx, hb, hml, hown, hts⟩ (c_m_times l dC dI _ F h0 h1 h2 h3 h4 cA co nn dn pn fo da pa ea ro x11 x5 r2 hr2) (cwV 2 hts gX1_power_X1_times rfl rfl rfl (by decide +kernel) ⟨Nat.le_of_ble_eq_true rfl, Nat.le_of_ble_eq_true rfl⟩) ⟨rf_blind, va_recv hK hP (ci := 1) (q0 := 0) rfl rfl, fun U hU hW => ⟨rfl, rf_pre (hP.sub (ws' := [(h0, .inr (1, [.int co, .int nn, .int dn, .ref h1, .int pn, .ref h2, .ref h3, .int fo, .ref h4])), (h1, .inl (cA, 400, .inl da)), (h2, .inl (cA, 8, .inl pa)), (h3, .inl (cA, 8, .inl ea)), (h4, .inl (cA, 4096, .inl ro))]) [0, 1, 2, 3, 4] rfl) (hK.sub (tys' := [(cA, .int)]) [0] rfl) (hD.sub (ws' := [(h0, .inr (1, [.int co, .int nn, .int dn, .ref h1, .int pn, .ref h2, .ref h3, .int fo, .ref h4])), (h1, .inl (cA, 400, .inl da)), (h2, .inl (cA, 8, .inl pa)), (h3, .inl (cA, 8, .inl ea)), (h4, .inl (cA, 4096, .inl ro))]) [0, 1, 2, 3, 4] (by decide) rfl) U hU hW⟩⟩ rfl rfl hl.1 rfl (lv_room (Nat.le_of_ble_eq_true rfl)) dX1_power_133 ⟨Nat.zero_le _, Nat.zero_le _⟩) (fun r2' u H locs hw hP hD hS => ?_)
      subst hw
      have hP : va_P (dC, dI) vwCl [(h0, .inr (1, [.int co, .int nn, .int dn, .ref h1, .int pn, .ref h2, .ref h3, .int fo, .ref h4])), (h1, .inl (cA, 400, .inl da)), (h2, .inl (cA, 8, .inl pa)), (h3, .inl (cA, 8, .inl ea)), (h4, .inl (cA, 4096, .inl ro))] H := hP
      have hD : va_D A [(h0, .inr (1, [.int co, .int nn, .int dn, .ref h1, .int pn, .ref h2, .ref h3, .int fo, .ref h4])), (h1, .inl (cA, 400, .inl da)), (h2, .inl (cA, 8, .inl pa)), (h3, .inl (cA, 8, .inl ea)), (h4, .inl (cA, 4096, .inl ro))] := hD
      refine lv_lstore (lv' := [(11, .long r2), (0, .ref h0), (3, .long x3), (5, .long x5), (7, .long x7), (13, .long x13)]) hx hb dX1_power_136 hl (by decide) rfl (fun ls hl => ?_)
      refine lv_lload hx hb dX1_power_138 (lv_at hl 5 rfl) ?_
      refine lv_lconst (v := 1) hx hb dX1_power_140 (by decide) ?_
      refine lv_lsub hx hb dX1_power_141 ?_
      refine lv_lstore (lv' := [(13, .long (x13 - 1)), (11, .long r2), (0, .ref h0), (3, .long x3), (5, .long x5), (7, .long x7)]) hx hb dX1_power_142 hl (by decide) rfl (fun ls hl => ?_)
      refine lv_goto (tgt := 121) hx hb dX1_power_144 (by decide) ?_
      exact ih r2 (x13 - 1) x11' h _ _ hP hD hS _ (lv_sub hl [2, 3, 4, 5, 1, 0] rfl) K
def l_m_power_69 (F : Nat) (x3 x5 : Int64) (nn : Int32) : Nat → Int64 → Int64 → Option (Int64)
  | 0, _, _ => none
  | n + 1, x7, x9 => if x7 ≤ 0 then some x9 else if (Int32.toInt64 nn) = 0 then none else b1 (l_m_power_88 F x9 nn F (lrm 1 (Int32.toInt64 nn)) 0) fun x11_3 => if x7 = 0 then none else b1 (l_m_power_121 F x5 nn F x11_3 (lrm (x3 / x7) 10)) fun x11_5 => l_m_power_69 F x3 x5 nn n (x7 / 10) x11_5
set_option maxHeartbeats 4000000 in
set_option maxRecDepth 100000 in
theorem w_m_power_69 {p : Program} {l : Launch} {e : Env} {s : State} {m : MethodId} {args : Array Value} {below : List Frame} {meth : Method} {c : Code} {A : Nat → Prop} {Q : State → Prop} {dC : Nat → ClassId} {dI : Nat → Nat → Nat} (F : Nat) (hx : p.tables.exec = Jvm.exec) (hb : c.code = cX1_power) (hml : c.maxLocals = 15) (hown : s.vm.findClass RX1 = some m.cls) (hts : ∀ w ∈ wsX1_power, w.before args s = true) (hA : ∀ q, s.heap.size ≤ q → A q) (h0 h1 h2 h3 h4 : Nat) (cA : ClassId) (hK : va_K (dC, dI) vwCl [(cA, .int)] s) (x3 x5 : Int64) (co nn dn pn fo : Int32) (da pa ea ro : Nat → Int32) :
    ∀ (n : Nat) (x7 x9 x9' : Int64), l_m_power_69 F x3 x5 nn n x7 x9 = some x9' → ∀ (H : Heap) (locs : List Loc), va_P (dC, dI) vwCl [(h0, .inr (1, [.int co, .int nn, .int dn, .ref h1, .int pn, .ref h2, .ref h3, .int fo, .ref h4])), (h1, .inl (cA, 400, .inl da)), (h2, .inl (cA, 8, .inl pa)), (h3, .inl (cA, 8, .inl ea)), (h4, .inl (cA, 4096, .inl ro))] H → va_D A [(h0, .inr (1, [.int co, .int nn, .int dn, .ref h1, .int pn, .ref h2, .ref h3, .int fo, .ref h4])), (h1, .inl (cA, 400, .inl da)), (h2, .inl (cA, 8, .inl pa)), (h3, .inl (cA, 8, .inl ea)), (h4, .inl (cA, 4096, .inl ro))] → va_S A s.heap H locs → ∀ ls : Array Slot, lv_has ls 15 [(0, .ref h0), (3, .long x3), (5, .long x5), (7, .long x7), (9, .long x9)] → (∀ (H : Heap) (locs : List Loc) (ls : Array Slot), va_P (dC, dI) vwCl [(h0, .inr (1, [.int co, .int nn, .int dn, .ref h1, .int pn, .ref h2, .ref h3, .int fo, .ref h4])), (h1, .inl (cA, 400, .inl da)), (h2, .inl (cA, 8, .inl pa)), (h3, .inl (cA, 8, .inl ea)), (h4, .inl (cA, 4096, .inl ro))] H → va_D A [(h0, .inr (1, [.int co, .int nn, .int dn, .ref h1, .int pn, .ref h2, .ref h3, .int fo, .ref h4])), (h1, .inl (cA, 400, .inl da)), (h2, .inl (cA, 8, .inl pa)), (h3, .inl (cA, 8, .inl ea)), (h4, .inl (cA, 4096, .inl ro))] → va_S A s.heap H locs → lv_has ls 15 [(9, .long x9')] → W p l e { frames := 1, cells := 0, slots := 0, locals := 25 } s m args below meth c H locs 0 0 Q (F0 m 162 ls [])) → W p l e { frames := 1, cells := 0, slots := 0, locals := 25 } s m args below meth c H locs 0 0 Q (F0 m 69 ls []) := by
  intro n
  induction n with
  | zero => intro x7 x9 x9' h; exact nomatch (show (none : Option _) = some _ from h)
  | succ n ih =>
    intro x7 x9 x9' h H locs hP hD hS ls hl K
    rw [l_m_power_69] at h
    refine lv_lload hx hb dX1_power_69 (lv_at hl 3 rfl) ?_
    refine lv_lconst (v := 0) hx hb dX1_power_71 (by decide) ?_
    refine W.lcmp hx hb dX1_power_72 ?_
    refine lv_if_le (tgt := 162) hx hb dX1_power_73 (by decide) (fun c1 => ?_) (fun c1 => ?_)
    · rw [lg_cmp_le] at c1
      rw [if_pos c1] at h
      cases h
      exact K _ _ _ hP hD hS (lv_sub hl [4] rfl)
    · rw [lg_cmp_le] at c1
      rw [if_neg c1] at h
      refine lv_lconst (v := 1) hx hb dX1_power_76 (by decide) ?_
      refine lv_aload_n hx hb dX1_power_77 rfl (lv_at hl 0 rfl) ?_
      refine va_get (D := (dC, dI)) (ci := 1) (v := .int nn) (C := RX1) (T := TX1) (N := 9) hx hb hts (fun _ h => List.mem_cons_of_mem _ (List.mem_append_right _ h)) hown hK hP 0 rfl rfl 1 (by decide) (hts _ (List.mem_of_getElem? (i := 2) rfl)) (fun _ h9 => h9) rfl dX1_power_78 ?_
      refine lv_i2l (v := (Int32.toInt64 nn)) hx hb dX1_power_81 rfl ?_
      obtain ⟨g2, h⟩ := rf_gd h
      refine lv_lrem hx hb dX1_power_82 g2 ?_
      refine lv_lstore (lv' := [(11, .long (lrm 1 (Int32.toInt64 nn))), (0, .ref h0), (3, .long x3), (5, .long x5), (7, .long x7), (9, .long x9)]) hx hb dX1_power_83 hl (by decide) rfl (fun ls hl => ?_)
      refine lv_iconst (v := 0) hx hb dX1_power_85 (by decide) ?_
      refine lv_istore (lv' := [(13, .int 0), (11, .long (lrm 1 (Int32.toInt64 nn))), (0, .ref h0), (3, .long x3), (5, .long x5), (7, .long x7), (9, .long x9)]) hx hb dX1_power_86 hl (by decide) rfl (fun ls hl => ?_)
      obtain ⟨x11_3, hr3, h⟩ := rf_b1 h
      refine w_m_power_88 F hx hb hml hown hts hA h0 h1 h2 h3 h4 cA hK x9 x3 x5 x7 co nn dn pn fo da pa ea ro F (lrm 1 (Int32.toInt64 nn)) 0 x11_3 hr3 _ _ hP hD hS _ (lv_sub hl [2, 3, 4, 5, 6, 1, 0] rfl) (fun H locs ls hP hD hS hl => ?_)
      refine lv_lload_n hx hb dX1_power_111 rfl (lv_at hl 1 rfl) ?_
      refine lv_lload hx hb dX1_power_112 (lv_at hl 3 rfl) ?_
      obtain ⟨g4, h⟩ := rf_gd h
      refine lv_ldiv hx hb dX1_power_114 g4 ?_
      refine lv_ldc2 (v := 10) hx hb hown (hts _ (List.mem_of_getElem? (i := 8) rfl)) dX1_power_115 ?_
      refine lv_lrem hx hb dX1_power_118 (by decide) ?_
      refine lv_lstore (lv' := [(13, .long (lrm (x3 / x7) 10)), (0, .ref h0), (3, .long x3), (5, .long x5), (7, .long x7), (11, .long x11_3)]) hx hb dX1_power_119 hl (by decide) rfl (fun ls hl => ?_)
      obtain ⟨x11_5, hr5, h⟩ := rf_b1 h
      refine w_m_power_121 F hx hb hml hown hts hA h0 h1 h2 h3 h4 cA hK x5 x3 x7 co nn dn pn fo da pa ea ro F x11_3 (lrm (x3 / x7) 10) x11_5 hr5 _ _ hP hD hS _ (lv_sub hl [1, 2, 3, 4, 5, 0] rfl) (fun H locs ls hP hD hS hl => ?_)
      refine lv_lload hx hb dX1_power_147 (lv_at hl 4 rfl) ?_
      refine lv_lstore (lv' := [(9, .long x11_5), (0, .ref h0), (3, .long x3), (5, .long x5), (7, .long x7), (11, .long x11_5)]) hx hb dX1_power_149 hl (by decide) rfl (fun ls hl => ?_)
      refine lv_lload hx hb dX1_power_151 (lv_at hl 4 rfl) ?_
      refine lv_ldc2 (v := 10) hx hb hown (hts _ (List.mem_of_getElem? (i := 8) rfl)) dX1_power_153 ?_
      refine lv_ldiv hx hb dX1_power_156 (by decide) ?_
      refine lv_lstore (lv' := [(7, .long (x7 / 10)), (9, .long x11_5), (0, .ref h0), (3, .long x3), (5, .long x5), (11, .long x11_5)]) hx hb dX1_power_157 hl (by decide) rfl (fun ls hl => ?_)
      refine lv_goto (tgt := 69) hx hb dX1_power_159 (by decide) ?_
      exact ih (x7 / 10) x11_5 x9' h _ _ hP hD hS _ (lv_sub hl [2, 3, 4, 0, 1] rfl) K
def f_m_power (F : Nat) (co nn : Int32) (p0 p1 : Int64) : Option (Int32 × Int32) := if 0 ≤ p1 then b1 (f_m_rest F p0 (Int32.toInt64 nn)) fun r3 => b1 (l_m_power_38 F p1 F 1) fun x7_4 => if (Int32.toInt64 nn) = 0 then none else b1 (l_m_power_69 F p1 r3 nn F x7_4 (lrm 1 (Int32.toInt64 nn))) fun x9_6 => some ((Int64.toInt32 x9_6), 0) else some (0, 1)
set_option maxHeartbeats 4000000 in
set_option maxRecDepth 100000 in
theorem c_m_power (l : Launch) (dC : Nat → ClassId) (dI : Nat → Nat → Nat) (sz F : Nat) (h0 h1 h2 h3 h4 : Nat) (cA : ClassId) (co nn dn pn fo : Int32) (da pa ea ro : Nat → Int32) (p0 p1 : Int64) (rv co' : Int32) (h : f_m_power F co nn p0 p1 = some (rv, co')) : Met l yX1_power wsX1_power { frames := 1, cells := 0, slots := 0, locals := 25 } (rf_Pc (dC, dI) [(cA, .int)] [(h0, .inr (1, [.int co, .int nn, .int dn, .ref h1, .int pn, .ref h2, .ref h3, .int fo, .ref h4])), (h1, .inl (cA, 400, .inl da)), (h2, .inl (cA, 8, .inl pa)), (h3, .inl (cA, 8, .inl ea)), (h4, .inl (cA, 4096, .inl ro))] sz [.ref h0, .long p0, .long p1]) (va_Qi (fun (r : Int32) (_ : Unit) => rv = r) (fun (_ : Unit) t => va_P (dC, dI) vwCl [(h0, .inr (1, [.int co', .int nn, .int dn, .ref h1, .int pn, .ref h2, .ref h3, .int fo, .ref h4])), (h1, .inl (cA, 400, .inl da)), (h2, .inl (cA, 8, .inl pa)), (h3, .inl (cA, 8, .inl ea)), (h4, .inl (cA, 4096, .inl ro))] t.heap ∧ va_D (va_A [(h0, .inr (1, [.int co, .int nn, .int dn, .ref h1, .int pn, .ref h2, .ref h3, .int fo, .ref h4])), (h1, .inl (cA, 400, .inl da)), (h2, .inl (cA, 8, .inl pa)), (h3, .inl (cA, 8, .inl ea)), (h4, .inl (cA, 4096, .inl ro))] sz) [(h0, .inr (1, [.int co', .int nn, .int dn, .ref h1, .int pn, .ref h2, .ref h3, .int fo, .ref h4])), (h1, .inl (cA, 400, .inl da)), (h2, .inl (cA, 8, .inl pa)), (h3, .inl (cA, 8, .inl ea)), (h4, .inl (cA, 4096, .inl ro))]) (va_A [(h0, .inr (1, [.int co, .int nn, .int dn, .ref h1, .int pn, .ref h2, .ref h3, .int fo, .ref h4])), (h1, .inl (cA, 400, .inl da)), (h2, .inl (cA, 8, .inl pa)), (h3, .inl (cA, 8, .inl ea)), (h4, .inl (cA, 4096, .inl ro))] sz)) 0 0 (va_A [(h0, .inr (1, [.int co, .int nn, .int dn, .ref h1, .int pn, .ref h2, .ref h3, .int fo, .ref h4])), (h1, .inl (cA, 400, .inl da)), (h2, .inl (cA, 8, .inl pa)), (h3, .inl (cA, 8, .inl ea)), (h4, .inl (cA, 4096, .inl ro))] sz) := by
  refine Met.ofW (cc := cX1_power) (maxL := 15) (ret := (some .int)) (by decide) rfl ?_
  intro p e s m args below meth c s₁ B hml hv
  obtain ⟨rfl, hsz, hP, hK, hD0⟩ := hv
  have hx := B.exec
  have hb := B.bytes
  have hr := B.returns
  have hts := atoms_spec (ws := wsX1_power) B.pre
  have hown : s.vm.findClass RX1 = some m.cls := findClass_of_methodNamed B.named
  have hlocks := B.notSynchronized
  subst hsz
  have hD := hD0.self (sz := s.heap.size)
  generalize hAe : va_A [(h0, .inr (1, [.int co, .int nn, .int dn, .ref h1, .int pn, .ref h2, .ref h3, .int fo, .ref h4])), (h1, .inl (cA, 400, .inl da)), (h2, .inl (cA, 8, .inl pa)), (h3, .inl (cA, 8, .inl ea)), (h4, .inl (cA, 4096, .inl ro))] s.heap.size = A at hD ⊢
  have hA : ∀ q : Nat, s.heap.size ≤ q → A q := fun q h => by rw [← hAe]; exact Or.inr h
  have hS : va_S A s.heap s.heap [] := va_S.rf
  have hl := lv_entry ([.ref h0, .long p0, .long p1]) (n := 15) (Nat.le_of_ble_eq_true rfl)
  rw [lg_entry_eq]
  generalize (lg_sl ([.ref h0, .long p0, .long p1]) ++ List.replicate (15 - (lg_sl ([.ref h0, .long p0, .long p1])).length) Slot.unset).toArray = ls at hl ⊢
  have hl : lv_has ls 15 [(0, .ref h0), (1, .long p0), (3, .long p1)] := hl
  unfold f_m_power at h
  refine lv_aload_n hx hb dX1_power_0 rfl (lv_at hl 0 rfl) ?_
  refine lv_lload_n hx hb dX1_power_1 rfl (lv_at hl 2 rfl) ?_
  refine lv_lconst (v := 0) hx hb dX1_power_2 (by decide) ?_
  refine W.lcmp hx hb dX1_power_3 ?_
  refine lv_if_ge (tgt := 11) hx hb dX1_power_4 (by decide) (fun c1 => ?_) (fun c1 => ?_)
  · rw [lg_cmp_ge] at c1
    rw [if_pos c1] at h
    refine lv_iconst (v := 0) hx hb dX1_power_11 (by decide) ?_
    refine va_put (D := (dC, dI)) (ci := 1) (v := .int 0) (ty := .int) (C := RX1) (T := TX1) (N := 9) hx hb hts (fun _ h => List.mem_cons_of_mem _ (List.mem_append_right _ h)) tyX1 tyX1_ok nX1 hown hK hP hD hS 0 rfl rfl 0 (by decide) (hts _ (List.mem_of_getElem? (i := 1) rfl)) (fun _ h9 => h9) rfl (by decide +kernel) rfl rfl (Nat.le_of_ble_eq_true rfl) dX1_power_12 (fun H locs hP hD hS => ?_)
    have hP : va_P (dC, dI) vwCl [(h0, .inr (1, [.int 0, .int nn, .int dn, .ref h1, .int pn, .ref h2, .ref h3, .int fo, .ref h4])), (h1, .inl (cA, 400, .inl da)), (h2, .inl (cA, 8, .inl pa)), (h3, .inl (cA, 8, .inl ea)), (h4, .inl (cA, 4096, .inl ro))] H := hP
    have hD : va_D A [(h0, .inr (1, [.int 0, .int nn, .int dn, .ref h1, .int pn, .ref h2, .ref h3, .int fo, .ref h4])), (h1, .inl (cA, 400, .inl da)), (h2, .inl (cA, 8, .inl pa)), (h3, .inl (cA, 8, .inl ea)), (h4, .inl (cA, 4096, .inl ro))] := hD
    refine lv_aload_n hx hb dX1_power_15 rfl (lv_at hl 0 rfl) ?_
    refine va_get (D := (dC, dI)) (ci := 1) (v := .int 0) (C := RX1) (T := TX1) (N := 9) hx hb hts (fun _ h => List.mem_cons_of_mem _ (List.mem_append_right _ h)) hown hK hP 0 rfl rfl 0 (by decide) (hts _ (List.mem_of_getElem? (i := 1) rfl)) (fun _ h9 => h9) rfl dX1_power_16 ?_
    refine lv_if_le (tgt := 24) hx hb dX1_power_19 (by decide) (fun c2 => ?_) (fun c2 => ?_)
    · skip
      refine lv_lload_n hx hb dX1_power_24 rfl (lv_at hl 1 rfl) ?_
      refine lv_aload_n hx hb dX1_power_25 rfl (lv_at hl 0 rfl) ?_
      refine va_get (D := (dC, dI)) (ci := 1) (v := .int nn) (C := RX1) (T := TX1) (N := 9) hx hb hts (fun _ h => List.mem_cons_of_mem _ (List.mem_append_right _ h)) hown hK hP 0 rfl rfl 1 (by decide) (hts _ (List.mem_of_getElem? (i := 2) rfl)) (fun _ h9 => h9) rfl dX1_power_26 ?_
      refine lv_i2l (v := (Int32.toInt64 nn)) hx hb dX1_power_29 rfl ?_
      obtain ⟨r3, hr3, h⟩ := rf_b1 h
      refine rf_cl (wn := (fun _ : Unit => [])) (wc := []) (wr := [(h0, .inr (1, [.int 0, .int nn, .int dn, .ref h1, .int pn, .ref h2, .ref h3, .int fo, .ref h4])), (h1, .inl (cA, 400, .inl da)), (h2, .inl (cA, 8, .inl pa)), (h3, .inl (cA, 8, .inl ea)), (h4, .inl (cA, 4096, .inl ro))]) hP hD hS hA [] [0, 1, 2, 3, 4] rfl rfl (by decide) (by decide) (va_runS (As := [.long p0, .long (Int32.toInt64 nn)]) (rest := []) ⟨hx, hb, hml, hown, hts⟩ (c_m_rest l dC dI _ F p0 (Int32.toInt64 nn) r3 hr3) (va_cwS 2 hts gX1_power_X1_rest rfl rfl rfl (by decide +kernel) ⟨Nat.le_of_ble_eq_true rfl, Nat.le_of_ble_eq_true rfl⟩) ⟨rf_blind, fun U hU hW => ⟨rfl, rf_pre (hP.sub (ws' := []) [] rfl) (hK.sub (tys' := []) [] rfl) (hD.sub (ws' := []) [] (by decide) rfl) U hU hW⟩⟩ rfl rfl hl.1 rfl (lv_room (Nat.le_of_ble_eq_true rfl)) dX1_power_30 ⟨Nat.zero_le _, Nat.zero_le _⟩) (fun r3' u H locs hw hP hD hS => ?_)
      subst hw
      have hP : va_P (dC, dI) vwCl [(h0, .inr (1, [.int 0, .int nn, .int dn, .ref h1, .int pn, .ref h2, .ref h3, .int fo, .ref h4])), (h1, .inl (cA, 400, .inl da)), (h2, .inl (cA, 8, .inl pa)), (h3, .inl (cA, 8, .inl ea)), (h4, .inl (cA, 4096, .inl ro))] H := hP
      have hD : va_D A [(h0, .inr (1, [.int 0, .int nn, .int dn, .ref h1, .int pn, .ref h2, .ref h3, .int fo, .ref h4])), (h1, .inl (cA, 400, .inl da)), (h2, .inl (cA, 8, .inl pa)), (h3, .inl (cA, 8, .inl ea)), (h4, .inl (cA, 4096, .inl ro))] := hD
      refine lv_lstore (lv' := [(5, .long r3), (0, .ref h0), (1, .long p0), (3, .long p1)]) hx hb dX1_power_33 hl (by decide) rfl (fun ls hl => ?_)
      refine lv_lconst (v := 1) hx hb dX1_power_35 (by decide) ?_
      refine lv_lstore (lv' := [(7, .long 1), (5, .long r3), (0, .ref h0), (1, .long p0), (3, .long p1)]) hx hb dX1_power_36 hl (by decide) rfl (fun ls hl => ?_)
      obtain ⟨x7_4, hr4, h⟩ := rf_b1 h
      refine w_m_power_38 F hx hb hml hown hts hA h0 h1 h2 h3 h4 cA hK p1 r3 0 nn dn pn fo da pa ea ro F 1 x7_4 hr4 _ _ hP hD hS _ (lv_sub hl [2, 4, 1, 0] rfl) (fun H locs ls hP hD hS hl => ?_)
      refine lv_lconst (v := 1) hx hb dX1_power_60 (by decide) ?_
      refine lv_aload_n hx hb dX1_power_61 rfl (lv_at hl 0 rfl) ?_
      refine va_get (D := (dC, dI)) (ci := 1) (v := .int nn) (C := RX1) (T := TX1) (N := 9) hx hb hts (fun _ h => List.mem_cons_of_mem _ (List.mem_append_right _ h)) hown hK hP 0 rfl rfl 1 (by decide) (hts _ (List.mem_of_getElem? (i := 2) rfl)) (fun _ h9 => h9) rfl dX1_power_62 ?_
      refine lv_i2l (v := (Int32.toInt64 nn)) hx hb dX1_power_65 rfl ?_
      obtain ⟨g5, h⟩ := rf_gd h
      refine lv_lrem hx hb dX1_power_66 g5 ?_
      refine lv_lstore (lv' := [(9, .long (lrm 1 (Int32.toInt64 nn))), (0, .ref h0), (3, .long p1), (5, .long r3), (7, .long x7_4)]) hx hb dX1_power_67 hl (by decide) rfl (fun ls hl => ?_)
      obtain ⟨x9_6, hr6, h⟩ := rf_b1 h
      refine w_m_power_69 F hx hb hml hown hts hA h0 h1 h2 h3 h4 cA hK p1 r3 0 nn dn pn fo da pa ea ro F x7_4 (lrm 1 (Int32.toInt64 nn)) x9_6 hr6 _ _ hP hD hS _ (lv_sub hl [1, 2, 3, 4, 0] rfl) (fun H locs ls hP hD hS hl => ?_)
      refine lv_lload hx hb dX1_power_162 (lv_at hl 0 rfl) ?_
      refine lv_l2i (v := (Int64.toInt32 x9_6)) hx hb dX1_power_164 rfl ?_
      cases h
      exact W.iret hx hb hr (fun t ht hW => ⟨⟨_, (), rfl, rfl, by rw [ht]; exact hP, hD⟩, hS.F ht⟩) hS.2.2 dX1_power_165
    · exact absurd c2 (by decide)
  · rw [lg_cmp_ge] at c1
    rw [if_neg c1] at h
    refine lv_iconst (v := 1) hx hb dX1_power_7 (by decide) ?_
    refine lv_goto (tgt := 12) hx hb dX1_power_8 (by decide) ?_
    refine va_put (D := (dC, dI)) (ci := 1) (v := .int 1) (ty := .int) (C := RX1) (T := TX1) (N := 9) hx hb hts (fun _ h => List.mem_cons_of_mem _ (List.mem_append_right _ h)) tyX1 tyX1_ok nX1 hown hK hP hD hS 0 rfl rfl 0 (by decide) (hts _ (List.mem_of_getElem? (i := 1) rfl)) (fun _ h9 => h9) rfl (by decide +kernel) rfl rfl (Nat.le_of_ble_eq_true rfl) dX1_power_12 (fun H locs hP hD hS => ?_)
    have hP : va_P (dC, dI) vwCl [(h0, .inr (1, [.int 1, .int nn, .int dn, .ref h1, .int pn, .ref h2, .ref h3, .int fo, .ref h4])), (h1, .inl (cA, 400, .inl da)), (h2, .inl (cA, 8, .inl pa)), (h3, .inl (cA, 8, .inl ea)), (h4, .inl (cA, 4096, .inl ro))] H := hP
    have hD : va_D A [(h0, .inr (1, [.int 1, .int nn, .int dn, .ref h1, .int pn, .ref h2, .ref h3, .int fo, .ref h4])), (h1, .inl (cA, 400, .inl da)), (h2, .inl (cA, 8, .inl pa)), (h3, .inl (cA, 8, .inl ea)), (h4, .inl (cA, 4096, .inl ro))] := hD
    refine lv_aload_n hx hb dX1_power_15 rfl (lv_at hl 0 rfl) ?_
    refine va_get (D := (dC, dI)) (ci := 1) (v := .int 1) (C := RX1) (T := TX1) (N := 9) hx hb hts (fun _ h => List.mem_cons_of_mem _ (List.mem_append_right _ h)) hown hK hP 0 rfl rfl 0 (by decide) (hts _ (List.mem_of_getElem? (i := 1) rfl)) (fun _ h9 => h9) rfl dX1_power_16 ?_
    refine lv_if_le (tgt := 24) hx hb dX1_power_19 (by decide) (fun c7 => ?_) (fun c7 => ?_)
    · exact absurd c7 (by decide)
    · skip
      refine lv_iconst (v := 0) hx hb dX1_power_22 (by decide) ?_
      cases h
      exact W.iret hx hb hr (fun t ht hW => ⟨⟨_, (), rfl, rfl, by rw [ht]; exact hP, hD⟩, hS.F ht⟩) hS.2.2 dX1_power_23
