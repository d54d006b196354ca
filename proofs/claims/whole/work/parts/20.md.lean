def f_m_thrown (F : Nat) (co : Int32) : Option (Int32) := some co
set_option maxHeartbeats 4000000 in
set_option maxRecDepth 100000 in
theorem c_m_thrown (l : Launch) (dC : Nat → ClassId) (dI : Nat → Nat → Nat) (sz F : Nat) (h0 h1 h2 h3 h4 : Nat) (cA : ClassId) (co nn dn pn fo : Int32) (da pa ea ro : Nat → Int32) (rv : Int32) (h : f_m_thrown F co = some rv) : Met l yX1_thrown wsX1_thrown { frames := 0, cells := 0, slots := 0, locals := 0 } (rf_Pc (dC, dI) [(cA, .int)] [(h0, .inr (1, [.int co, .int nn, .int dn, .ref h1, .int pn, .ref h2, .ref h3, .int fo, .ref h4])), (h1, .inl (cA, 400, .inl da)), (h2, .inl (cA, 8, .inl pa)), (h3, .inl (cA, 8, .inl ea)), (h4, .inl (cA, 4096, .inl ro))] sz [.ref h0]) (va_Qi (fun (r : Int32) (_ : Unit) => rv = r) (fun (_ : Unit) t => va_P (dC, dI) vwCl [(h0, .inr (1, [.int co, .int nn, .int dn, .ref h1, .int pn, .ref h2, .ref h3, .int fo, .ref h4])), (h1, .inl (cA, 400, .inl da)), (h2, .inl (cA, 8, .inl pa)), (h3, .inl (cA, 8, .inl ea)), (h4, .inl (cA, 4096, .inl ro))] t.heap ∧ va_D (va_A [(h0, .inr (1, [.int co, .int nn, .int dn, .ref h1, .int pn, .ref h2, .ref h3, .int fo, .ref h4])), (h1, .inl (cA, 400, .inl da)), (h2, .inl (cA, 8, .inl pa)), (h3, .inl (cA, 8, .inl ea)), (h4, .inl (cA, 4096, .inl ro))] sz) [(h0, .inr (1, [.int co, .int nn, .int dn, .ref h1, .int pn, .ref h2, .ref h3, .int fo, .ref h4])), (h1, .inl (cA, 400, .inl da)), (h2, .inl (cA, 8, .inl pa)), (h3, .inl (cA, 8, .inl ea)), (h4, .inl (cA, 4096, .inl ro))]) (va_A [(h0, .inr (1, [.int co, .int nn, .int dn, .ref h1, .int pn, .ref h2, .ref h3, .int fo, .ref h4])), (h1, .inl (cA, 400, .inl da)), (h2, .inl (cA, 8, .inl pa)), (h3, .inl (cA, 8, .inl ea)), (h4, .inl (cA, 4096, .inl ro))] sz)) 0 0 (va_A [(h0, .inr (1, [.int co, .int nn, .int dn, .ref h1, .int pn, .ref h2, .ref h3, .int fo, .ref h4])), (h1, .inl (cA, 400, .inl da)), (h2, .inl (cA, 8, .inl pa)), (h3, .inl (cA, 8, .inl ea)), (h4, .inl (cA, 4096, .inl ro))] sz) := by
  refine Met.ofW (cc := cX1_thrown) (maxL := 1) (ret := (some .int)) (by decide) rfl ?_
  intro p e s m args below meth c s₁ B hml hv
  obtain ⟨rfl, hsz, hP, hK, hD0⟩ := hv
  have hx := B.exec
  have hb := B.bytes
  have hr := B.returns
  have hts := atoms_spec (ws := wsX1_thrown) B.pre
  have hown : s.vm.findClass RX1 = some m.cls := findClass_of_methodNamed B.named
  have hlocks := B.notSynchronized
  subst hsz
  have hD := hD0.self (sz := s.heap.size)
  generalize hAe : va_A [(h0, .inr (1, [.int co, .int nn, .int dn, .ref h1, .int pn, .ref h2, .ref h3, .int fo, .ref h4])), (h1, .inl (cA, 400, .inl da)), (h2, .inl (cA, 8, .inl pa)), (h3, .inl (cA, 8, .inl ea)), (h4, .inl (cA, 4096, .inl ro))] s.heap.size = A at hD ⊢
  have hA : ∀ q : Nat, s.heap.size ≤ q → A q := fun q h => by rw [← hAe]; exact Or.inr h
  have hS : va_S A s.heap s.heap [] := va_S.rf
  have hl := lv_entry ([.ref h0]) (n := 1) (Nat.le_of_ble_eq_true rfl)
  rw [lg_entry_eq]
  generalize (lg_sl ([.ref h0]) ++ List.replicate (1 - (lg_sl ([.ref h0])).length) Slot.unset).toArray = ls at hl ⊢
  have hl : lv_has ls 1 [(0, .ref h0)] := hl
  unfold f_m_thrown at h
  refine lv_aload_n hx hb dX1_thrown_0 rfl (lv_at hl 0 rfl) ?_
  refine va_get (D := (dC, dI)) (ci := 1) (v := .int co) (C := RX1) (T := TX1) (N := 9) hx hb hts (fun _ h => List.mem_cons_of_mem _ (List.mem_append_right _ h)) hown hK hP 0 rfl rfl 0 (by decide) (hts _ (List.mem_of_getElem? (i := 1) rfl)) (fun _ h9 => h9) rfl dX1_thrown_1 ?_
  cases h
  exact W.iret hx hb hr (fun t ht hW => ⟨⟨_, (), rfl, rfl, by rw [ht]; exact hP, hD⟩, hS.F ht⟩) hS.2.2 dX1_thrown_4
def f_m_raise (F : Nat) (co p0 : Int32) : Option (Int32 × Int32) := some (0, p0)
set_option maxHeartbeats 4000000 in
set_option maxRecDepth 100000 in
theorem c_m_raise (l : Launch) (dC : Nat → ClassId) (dI : Nat → Nat → Nat) (sz F : Nat) (h0 h1 h2 h3 h4 : Nat) (cA : ClassId) (co nn dn pn fo : Int32) (da pa ea ro : Nat → Int32) (p0 rv co' : Int32) (h : f_m_raise F co p0 = some (rv, co')) : Met l yX1_raise wsX1_raise { frames := 0, cells := 0, slots := 0, locals := 0 } (rf_Pc (dC, dI) [(cA, .int)] [(h0, .inr (1, [.int co, .int nn, .int dn, .ref h1, .int pn, .ref h2, .ref h3, .int fo, .ref h4])), (h1, .inl (cA, 400, .inl da)), (h2, .inl (cA, 8, .inl pa)), (h3, .inl (cA, 8, .inl ea)), (h4, .inl (cA, 4096, .inl ro))] sz [.ref h0, .int p0]) (va_Qi (fun (r : Int32) (_ : Unit) => rv = r) (fun (_ : Unit) t => va_P (dC, dI) vwCl [(h0, .inr (1, [.int co', .int nn, .int dn, .ref h1, .int pn, .ref h2, .ref h3, .int fo, .ref h4])), (h1, .inl (cA, 400, .inl da)), (h2, .inl (cA, 8, .inl pa)), (h3, .inl (cA, 8, .inl ea)), (h4, .inl (cA, 4096, .inl ro))] t.heap ∧ va_D (va_A [(h0, .inr (1, [.int co, .int nn, .int dn, .ref h1, .int pn, .ref h2, .ref h3, .int fo, .ref h4])), (h1, .inl (cA, 400, .inl da)), (h2, .inl (cA, 8, .inl pa)), (h3, .inl (cA, 8, .inl ea)), (h4, .inl (cA, 4096, .inl ro))] sz) [(h0, .inr (1, [.int co', .int nn, .int dn, .ref h1, .int pn, .ref h2, .ref h3, .int fo, .ref h4])), (h1, .inl (cA, 400, .inl da)), (h2, .inl (cA, 8, .inl pa)), (h3, .inl (cA, 8, .inl ea)), (h4, .inl (cA, 4096, .inl ro))]) (va_A [(h0, .inr (1, [.int co, .int nn, .int dn, .ref h1, .int pn, .ref h2, .ref h3, .int fo, .ref h4])), (h1, .inl (cA, 400, .inl da)), (h2, .inl (cA, 8, .inl pa)), (h3, .inl (cA, 8, .inl ea)), (h4, .inl (cA, 4096, .inl ro))] sz)) 0 0 (va_A [(h0, .inr (1, [.int co, .int nn, .int dn, .ref h1, .int pn, .ref h2, .ref h3, .int fo, .ref h4])), (h1, .inl (cA, 400, .inl da)), (h2, .inl (cA, 8, .inl pa)), (h3, .inl (cA, 8, .inl ea)), (h4, .inl (cA, 4096, .inl ro))] sz) := by
  refine Met.ofW (cc := cX1_raise) (maxL := 2) (ret := (some .int)) (by decide) rfl ?_
  intro p e s m args below meth c s₁ B hml hv
  obtain ⟨rfl, hsz, hP, hK, hD0⟩ := hv
  have hx := B.exec
  have hb := B.bytes
  have hr := B.returns
  have hts := atoms_spec (ws := wsX1_raise) B.pre
  have hown : s.vm.findClass RX1 = some m.cls := findClass_of_methodNamed B.named
  have hlocks := B.notSynchronized
  subst hsz
  have hD := hD0.self (sz := s.heap.size)
  generalize hAe : va_A [(h0, .inr (1, [.int co, .int nn, .int dn, .ref h1, .int pn, .ref h2, .ref h3, .int fo, .ref h4])), (h1, .inl (cA, 400, .inl da)), (h2, .inl (cA, 8, .inl pa)), (h3, .inl (cA, 8, .inl ea)), (h4, .inl (cA, 4096, .inl ro))] s.heap.size = A at hD ⊢
  have hA : ∀ q : Nat, s.heap.size ≤ q → A q := fun q h => by rw [← hAe]; exact Or.inr h
  have hS : va_S A s.heap s.heap [] := va_S.rf
  have hl := lv_entry ([.ref h0, .int p0]) (n := 2) (Nat.le_of_ble_eq_true rfl)
  rw [lg_entry_eq]
  generalize (lg_sl ([.ref h0, .int p0]) ++ List.replicate (2 - (lg_sl ([.ref h0, .int p0])).length) Slot.unset).toArray = ls at hl ⊢
  have hl : lv_has ls 2 [(0, .ref h0), (1, .int p0)] := hl
  unfold f_m_raise at h
  refine lv_aload_n hx hb dX1_raise_0 rfl (lv_at hl 0 rfl) ?_
  refine lv_iload_n hx hb dX1_raise_1 rfl (lv_at hl 1 rfl) ?_
  refine va_put (D := (dC, dI)) (ci := 1) (v := .int p0) (ty := .int) (C := RX1) (T := TX1) (N := 9) hx hb hts (fun _ h => List.mem_cons_of_mem _ (List.mem_append_right _ h)) tyX1 tyX1_ok nX1 hown hK hP hD hS 0 rfl rfl 0 (by decide) (hts _ (List.mem_of_getElem? (i := 1) rfl)) (fun _ h9 => h9) rfl (by decide +kernel) rfl rfl (Nat.le_of_ble_eq_true rfl) dX1_raise_2 (fun H locs hP hD hS => ?_)
  have hP : va_P (dC, dI) vwCl [(h0, .inr (1, [.int p0, .int nn, .int dn, .ref h1, .int pn, .ref h2, .ref h3, .int fo, .ref h4])), (h1, .inl (cA, 400, .inl da)), (h2, .inl (cA, 8, .inl pa)), (h3, .inl (cA, 8, .inl ea)), (h4, .inl (cA, 4096, .inl ro))] H := hP
  have hD : va_D A [(h0, .inr (1, [.int p0, .int nn, .int dn, .ref h1, .int pn, .ref h2, .ref h3, .int fo, .ref h4])), (h1, .inl (cA, 400, .inl da)), (h2, .inl (cA, 8, .inl pa)), (h3, .inl (cA, 8, .inl ea)), (h4, .inl (cA, 4096, .inl ro))] := hD
  refine lv_iconst (v := 0) hx hb dX1_raise_5 (by decide) ?_
  cases h
  exact W.iret hx hb hr (fun t ht hW => ⟨⟨_, (), rfl, rfl, by rw [ht]; exact hP, hD⟩, hS.F ht⟩) hS.2.2 dX1_raise_6
def f_m_in (F : Nat) (p0 p1 p2 : Int64) : Option (Int32) := if p0 < p1 then some 0 else if p2 < p0 then some 0 else some 1
set_option maxHeartbeats 4000000 in
set_option maxRecDepth 100000 in
theorem c_m_in (l : Launch) (dC : Nat → ClassId) (dI : Nat → Nat → Nat) (sz F : Nat)  (p0 p1 p2 : Int64) (rv : Int32) (h : f_m_in F p0 p1 p2 = some rv) : Met l yX1_in wsX1_in { frames := 0, cells := 0, slots := 0, locals := 0 } (rf_Pc (dC, dI) [] [] sz [.long p0, .long p1, .long p2]) (va_Qi (fun (r : Int32) (_ : Unit) => rv = r) (fun (_ : Unit) t => va_P (dC, dI) vwCl [] t.heap ∧ va_D (va_A [] sz) []) (va_A [] sz)) 0 0 (va_A [] sz) := by
  refine Met.ofW (cc := cX1_in) (maxL := 6) (ret := (some .boolean)) (by decide) rfl ?_
  intro p e s m args below meth c s₁ B hml hv
  obtain ⟨rfl, hsz, hP, hK, hD0⟩ := hv
  have hx := B.exec
  have hb := B.bytes
  have hr := B.returns
  have hts := atoms_spec (ws := wsX1_in) B.pre
  have hown : s.vm.findClass RX1 = some m.cls := findClass_of_methodNamed B.named
  have hlocks := B.notSynchronized
  subst hsz
  have hD := hD0.self (sz := s.heap.size)
  generalize hAe : va_A [] s.heap.size = A at hD ⊢
  have hA : ∀ q : Nat, s.heap.size ≤ q → A q := fun q h => by rw [← hAe]; exact Or.inr h
  have hS : va_S A s.heap s.heap [] := va_S.rf
  have hl := lv_entry ([.long p0, .long p1, .long p2]) (n := 6) (Nat.le_of_ble_eq_true rfl)
  rw [lg_entry_eq]
  generalize (lg_sl ([.long p0, .long p1, .long p2]) ++ List.replicate (6 - (lg_sl ([.long p0, .long p1, .long p2])).length) Slot.unset).toArray = ls at hl ⊢
  have hl : lv_has ls 6 [(0, .long p0), (2, .long p1), (4, .long p2)] := hl
  unfold f_m_in at h
  refine lv_lload_n hx hb dX1_in_0 rfl (lv_at hl 0 rfl) ?_
  refine lv_lload_n hx hb dX1_in_1 rfl (lv_at hl 1 rfl) ?_
  refine W.lcmp hx hb dX1_in_2 ?_
  refine lv_if_lt (tgt := 17) hx hb dX1_in_3 (by decide) (fun c1 => ?_) (fun c1 => ?_)
  · rw [lg_cmp_lt] at c1
    rw [if_pos c1] at h
    refine lv_iconst (v := 0) hx hb dX1_in_17 (by decide) ?_
    cases h
    exact W.zret hx hb hr rfl (fun t ht hW => ⟨⟨_, (), rfl, rfl, by rw [ht]; exact hP, hD⟩, hS.F ht⟩) hS.2.2 dX1_in_18
  · rw [lg_cmp_lt] at c1
    rw [if_neg c1] at h
    refine lv_lload_n hx hb dX1_in_6 rfl (lv_at hl 0 rfl) ?_
    refine lv_lload hx hb dX1_in_7 (lv_at hl 2 rfl) ?_
    refine W.lcmp hx hb dX1_in_9 ?_
    refine lv_if_gt (tgt := 17) hx hb dX1_in_10 (by decide) (fun c2 => ?_) (fun c2 => ?_)
    · rw [lg_cmp_gt] at c2
      rw [if_pos c2] at h
      refine lv_iconst (v := 0) hx hb dX1_in_17 (by decide) ?_
      cases h
      exact W.zret hx hb hr rfl (fun t ht hW => ⟨⟨_, (), rfl, rfl, by rw [ht]; exact hP, hD⟩, hS.F ht⟩) hS.2.2 dX1_in_18
    · rw [lg_cmp_gt] at c2
      rw [if_neg c2] at h
      refine lv_iconst (v := 1) hx hb dX1_in_13 (by decide) ?_
      refine lv_goto (tgt := 18) hx hb dX1_in_14 (by decide) ?_
      cases h
      exact W.zret hx hb hr rfl (fun t ht hW => ⟨⟨_, (), rfl, rfl, by rw [ht]; exact hP, hD⟩, hS.F ht⟩) hS.2.2 dX1_in_18
def f_m_rest (F : Nat) (p0 p1 : Int64) : Option (Int64) := if p1 = 0 then none else if 0 ≤ (lrm p0 p1) then some (lrm p0 p1) else some ((lrm p0 p1) + p1)
set_option maxHeartbeats 4000000 in
set_option maxRecDepth 100000 in
theorem c_m_rest (l : Launch) (dC : Nat → ClassId) (dI : Nat → Nat → Nat) (sz F : Nat)  (p0 p1 rv : Int64) (h : f_m_rest F p0 p1 = some rv) : Met l yX1_rest wsX1_rest { frames := 0, cells := 0, slots := 0, locals := 0 } (rf_Pc (dC, dI) [] [] sz [.long p0, .long p1]) (va_Ql (fun (r : Int64) (_ : Unit) => rv = r) (fun (_ : Unit) t => va_P (dC, dI) vwCl [] t.heap ∧ va_D (va_A [] sz) []) (va_A [] sz)) 0 0 (va_A [] sz) := by
  refine Met.ofW (cc := cX1_rest) (maxL := 6) (ret := (some .long)) (by decide) rfl ?_
  intro p e s m args below meth c s₁ B hml hv
  obtain ⟨rfl, hsz, hP, hK, hD0⟩ := hv
  have hx := B.exec
  have hb := B.bytes
  have hr := B.returns
  have hts := atoms_spec (ws := wsX1_rest) B.pre
  have hown : s.vm.findClass RX1 = some m.cls := findClass_of_methodNamed B.named
  have hlocks := B.notSynchronized
  subst hsz
  have hD := hD0.self (sz := s.heap.size)
  generalize hAe : va_A [] s.heap.size = A at hD ⊢
  have hA : ∀ q : Nat, s.heap.size ≤ q → A q := fun q h => by rw [← hAe]; exact Or.inr h
  have hS : va_S A s.heap s.heap [] := va_S.rf
  have hl := lv_entry ([.long p0, .long p1]) (n := 6) (Nat.le_of_ble_eq_true rfl)
  rw [lg_entry_eq]
  generalize (lg_sl ([.long p0, .long p1]) ++ List.replicate (6 - (lg_sl ([.long p0, .long p1])).length) Slot.unset).toArray = ls at hl ⊢
  have hl : lv_has ls 6 [(0, .long p0), (2, .long p1)] := hl
  unfold f_m_rest at h
  refine lv_lload_n hx hb dX1_rest_0 rfl (lv_at hl 0 rfl) ?_
  refine lv_lload_n hx hb dX1_rest_1 rfl (lv_at hl 1 rfl) ?_
  obtain ⟨g1, h⟩ := rf_gd h
  refine lv_lrem hx hb dX1_rest_2 g1 ?_
  refine lv_lstore (lv' := [(4, .long (lrm p0 p1)), (0, .long p0), (2, .long p1)]) hx hb dX1_rest_3 hl (by decide) rfl (fun ls hl => ?_)
  refine lv_lload hx hb dX1_rest_5 (lv_at hl 0 rfl) ?_
  refine lv_lconst (v := 0) hx hb dX1_rest_7 (by decide) ?_
  refine W.lcmp hx hb dX1_rest_8 ?_
  refine lv_if_ge (tgt := 19) hx hb dX1_rest_9 (by decide) (fun c2 => ?_) (fun c2 => ?_)
  · rw [lg_cmp_ge] at c2
    rw [if_pos c2] at h
    refine lv_lload hx hb dX1_rest_19 (lv_at hl 0 rfl) ?_
    cases h
    exact W.lret hx hb hr (fun t ht hW => ⟨⟨_, (), rfl, rfl, by rw [ht]; exact hP, hD⟩, hS.F ht⟩) hS.2.2 dX1_rest_21
  · rw [lg_cmp_ge] at c2
    rw [if_neg c2] at h
    refine lv_lload hx hb dX1_rest_12 (lv_at hl 0 rfl) ?_
    refine lv_lload_n hx hb dX1_rest_14 rfl (lv_at hl 2 rfl) ?_
    refine lv_ladd hx hb dX1_rest_15 ?_
    refine lv_goto (tgt := 21) hx hb dX1_rest_16 (by decide) ?_
    cases h
    exact W.lret hx hb hr (fun t ht hW => ⟨⟨_, (), rfl, rfl, by rw [ht]; exact hP, hD⟩, hS.F ht⟩) hS.2.2 dX1_rest_21
def l_m_isPrime_2 (F : Nat) (x1 dn : Int32) (da : Nat → Int32) : Nat → Int32 → Option (Int32)
  | 0, _ => none
  | n + 1, x2 => if dn ≤ x2 then if x1 ≤ 1 then some 0 else some 1 else if x2.toInt < 0 ∨ (400 : Int) ≤ x2.toInt then none else if (da x2.toNatClampNeg) ≤ 1 then l_m_isPrime_2 F x1 dn da n (x2 + 1) else if x2.toInt < 0 ∨ (400 : Int) ≤ x2.toInt then none else if x1 ≤ (da x2.toNatClampNeg) then l_m_isPrime_2 F x1 dn da n (x2 + 1) else if x2.toInt < 0 ∨ (400 : Int) ≤ x2.toInt then none else if (da x2.toNatClampNeg) = 0 then none else if (irm x1 (da x2.toNatClampNeg)) = 0 then some 0 else l_m_isPrime_2 F x1 dn da n (x2 + 1)
set_option maxHeartbeats 4000000 in
set_option maxRecDepth 100000 in
theorem w_m_isPrime_2 {p : Program} {l : Launch} {e : Env} {s : State} {m : MethodId} {args : Array Value} {below : List Frame} {meth : Method} {c : Code} {A : Nat → Prop} {Q : State → Prop} {dC : Nat → ClassId} {dI : Nat → Nat → Nat} (F : Nat) (hx : p.tables.exec = Jvm.exec) (hb : c.code = cX1_isPrime) (hml : c.maxLocals = 3) (hown : s.vm.findClass RX1 = some m.cls) (hts : ∀ w ∈ wsX1_isPrime, w.before args s = true) (hA : ∀ q, s.heap.size ≤ q → A q) (h0 h1 h2 h3 h4 : Nat) (cA : ClassId) (hK : va_K (dC, dI) vwCl [(cA, .int)] s) (x1 co nn dn pn fo : Int32) (da pa ea ro : Nat → Int32) :
    ∀ (n : Nat) (x2 rv : Int32), l_m_isPrime_2 F x1 dn da n x2 = some rv → ∀ (H : Heap) (locs : List Loc), va_P (dC, dI) vwCl [(h0, .inr (1, [.int co, .int nn, .int dn, .ref h1, .int pn, .ref h2, .ref h3, .int fo, .ref h4])), (h1, .inl (cA, 400, .inl da)), (h2, .inl (cA, 8, .inl pa)), (h3, .inl (cA, 8, .inl ea)), (h4, .inl (cA, 4096, .inl ro))] H → va_D A [(h0, .inr (1, [.int co, .int nn, .int dn, .ref h1, .int pn, .ref h2, .ref h3, .int fo, .ref h4])), (h1, .inl (cA, 400, .inl da)), (h2, .inl (cA, 8, .inl pa)), (h3, .inl (cA, 8, .inl ea)), (h4, .inl (cA, 4096, .inl ro))] → va_S A s.heap H locs → ∀ ls : Array Slot, lv_has ls 3 [(0, .ref h0), (1, .int x1), (2, .int x2)] → (∀ (pc : Nat) (H : Heap) (locs : List Loc) (ls : Array Slot), decode cX1_isPrime pc = .ok (.ireturn, 1) → narrow .boolean (.int rv) = .int rv → va_P (dC, dI) vwCl [(h0, .inr (1, [.int co, .int nn, .int dn, .ref h1, .int pn, .ref h2, .ref h3, .int fo, .ref h4])), (h1, .inl (cA, 400, .inl da)), (h2, .inl (cA, 8, .inl pa)), (h3, .inl (cA, 8, .inl ea)), (h4, .inl (cA, 4096, .inl ro))] H → va_D A [(h0, .inr (1, [.int co, .int nn, .int dn, .ref h1, .int pn, .ref h2, .ref h3, .int fo, .ref h4])), (h1, .inl (cA, 400, .inl da)), (h2, .inl (cA, 8, .inl pa)), (h3, .inl (cA, 8, .inl ea)), (h4, .inl (cA, 4096, .inl ro))] → va_S A s.heap H locs → W p l e { frames := 0, cells := 0, slots := 0, locals := 0 } s m args below meth c H locs 0 0 Q (F0 m pc ls [.int rv])) → W p l e { frames := 0, cells := 0, slots := 0, locals := 0 } s m args below meth c H locs 0 0 Q (F0 m 2 ls []) := by
  intro n
  induction n with
  | zero => intro x2 rv h; exact nomatch (show (none : Option _) = some _ from h)
  | succ n ih =>
    intro x2 rv h H locs hP hD hS ls hl K
    rw [l_m_isPrime_2] at h
    refine lv_iload_n hx hb dX1_isPrime_2 rfl (lv_at hl 2 rfl) ?_
    refine lv_aload_n hx hb dX1_isPrime_3 rfl (lv_at hl 0 rfl) ?_
    refine va_get (D := (dC, dI)) (ci := 1) (v := .int dn) (C := RX1) (T := TX1) (N := 9) hx hb hts (fun _ h => List.mem_cons_of_mem _ (List.mem_append_right _ h)) hown hK hP 0 rfl rfl 2 (by decide) (hts _ (List.mem_of_getElem? (i := 1) rfl)) (fun _ h9 => h9) rfl dX1_isPrime_4 ?_
    refine lv_icmp_ge (tgt := 49) hx hb dX1_isPrime_7 (by decide) (fun c1 => ?_) (fun c1 => ?_)
    · rw [if_pos c1] at h
      refine lv_iload_n hx hb dX1_isPrime_49 rfl (lv_at hl 1 rfl) ?_
      refine lv_iconst (v := 1) hx hb dX1_isPrime_50 (by decide) ?_
      refine lv_icmp_le (tgt := 58) hx hb dX1_isPrime_51 (by decide) (fun c2 => ?_) (fun c2 => ?_)
      · rw [if_pos c2] at h
        refine lv_iconst (v := 0) hx hb dX1_isPrime_58 (by decide) ?_
        cases h
        exact K 59 _ _ _ dX1_isPrime_59 rfl hP hD hS
      · rw [if_neg c2] at h
        refine lv_iconst (v := 1) hx hb dX1_isPrime_54 (by decide) ?_
        refine lv_goto (tgt := 59) hx hb dX1_isPrime_55 (by decide) ?_
        cases h
        exact K 59 _ _ _ dX1_isPrime_59 rfl hP hD hS
    · rw [if_neg c1] at h
      refine lv_aload_n hx hb dX1_isPrime_10 rfl (lv_at hl 0 rfl) ?_
      refine va_get (D := (dC, dI)) (ci := 1) (v := .ref h1) (C := RX1) (T := TX1) (N := 9) hx hb hts (fun _ h => List.mem_cons_of_mem _ (List.mem_append_right _ h)) hown hK hP 0 rfl rfl 3 (by decide) (hts _ (List.mem_of_getElem? (i := 2) rfl)) (fun _ h9 => h9) rfl dX1_isPrime_11 ?_
      refine lv_iload_n hx hb dX1_isPrime_14 rfl (lv_at hl 2 rfl) ?_
      obtain ⟨g3, h⟩ := rf_gd h
      refine va_iald hx hb hK hP 1 0 rfl rfl (rf_in g3) dX1_isPrime_15 ?_
      refine lv_iconst (v := 1) hx hb dX1_isPrime_16 (by decide) ?_
      refine lv_icmp_le (tgt := 43) hx hb dX1_isPrime_17 (by decide) (fun c4 => ?_) (fun c4 => ?_)
      · rw [if_pos c4] at h
        refine lv_iinc (v := (x2 + 1)) (lv' := [(2, .int (x2 + 1)), (0, .ref h0), (1, .int x1)]) hx hb dX1_isPrime_43 hl (k := 2) rfl rfl (by decide) rfl (fun ls hl => ?_)
        refine lv_goto (tgt := 2) hx hb dX1_isPrime_46 (by decide) ?_
        exact ih (x2 + 1) rv h _ _ hP hD hS _ (lv_sub hl [1, 2, 0] rfl) K
      · rw [if_neg c4] at h
        refine lv_aload_n hx hb dX1_isPrime_20 rfl (lv_at hl 0 rfl) ?_
        refine va_get (D := (dC, dI)) (ci := 1) (v := .ref h1) (C := RX1) (T := TX1) (N := 9) hx hb hts (fun _ h => List.mem_cons_of_mem _ (List.mem_append_right _ h)) hown hK hP 0 rfl rfl 3 (by decide) (hts _ (List.mem_of_getElem? (i := 2) rfl)) (fun _ h9 => h9) rfl dX1_isPrime_21 ?_
        refine lv_iload_n hx hb dX1_isPrime_24 rfl (lv_at hl 2 rfl) ?_
        obtain ⟨g5, h⟩ := rf_gd h
        refine va_iald hx hb hK hP 1 0 rfl rfl (rf_in g5) dX1_isPrime_25 ?_
        refine lv_iload_n hx hb dX1_isPrime_26 rfl (lv_at hl 1 rfl) ?_
        refine lv_icmp_ge (tgt := 43) hx hb dX1_isPrime_27 (by decide) (fun c6 => ?_) (fun c6 => ?_)
        · rw [if_pos c6] at h
          refine lv_iinc (v := (x2 + 1)) (lv' := [(2, .int (x2 + 1)), (0, .ref h0), (1, .int x1)]) hx hb dX1_isPrime_43 hl (k := 2) rfl rfl (by decide) rfl (fun ls hl => ?_)
          refine lv_goto (tgt := 2) hx hb dX1_isPrime_46 (by decide) ?_
          exact ih (x2 + 1) rv h _ _ hP hD hS _ (lv_sub hl [1, 2, 0] rfl) K
        · rw [if_neg c6] at h
          refine lv_iload_n hx hb dX1_isPrime_30 rfl (lv_at hl 1 rfl) ?_
          refine lv_aload_n hx hb dX1_isPrime_31 rfl (lv_at hl 0 rfl) ?_
          refine va_get (D := (dC, dI)) (ci := 1) (v := .ref h1) (C := RX1) (T := TX1) (N := 9) hx hb hts (fun _ h => List.mem_cons_of_mem _ (List.mem_append_right _ h)) hown hK hP 0 rfl rfl 3 (by decide) (hts _ (List.mem_of_getElem? (i := 2) rfl)) (fun _ h9 => h9) rfl dX1_isPrime_32 ?_
          refine lv_iload_n hx hb dX1_isPrime_35 rfl (lv_at hl 2 rfl) ?_
          obtain ⟨g7, h⟩ := rf_gd h
          refine va_iald hx hb hK hP 1 0 rfl rfl (rf_in g7) dX1_isPrime_36 ?_
          obtain ⟨g8, h⟩ := rf_gd h
          refine lv_irem hx hb dX1_isPrime_37 g8 ?_
          refine lv_if_ne (tgt := 43) hx hb dX1_isPrime_38 (by decide) (fun c9 => ?_) (fun c9 => ?_)
          · rw [if_neg c9] at h
            refine lv_iinc (v := (x2 + 1)) (lv' := [(2, .int (x2 + 1)), (0, .ref h0), (1, .int x1)]) hx hb dX1_isPrime_43 hl (k := 2) rfl rfl (by decide) rfl (fun ls hl => ?_)
            refine lv_goto (tgt := 2) hx hb dX1_isPrime_46 (by decide) ?_
            exact ih (x2 + 1) rv h _ _ hP hD hS _ (lv_sub hl [1, 2, 0] rfl) K
          · rw [if_pos c9] at h
            refine lv_iconst (v := 0) hx hb dX1_isPrime_41 (by decide) ?_
            cases h
            exact K 42 _ _ _ dX1_isPrime_42 rfl hP hD hS
def f_m_isPrime (F : Nat) (dn : Int32) (da : Nat → Int32) (p0 : Int32) : Option (Int32) := l_m_isPrime_2 F p0 dn da F 0
set_option maxHeartbeats 4000000 in
set_option maxRecDepth 100000 in
theorem c_m_isPrime (l : Launch) (dC : Nat → ClassId) (dI : Nat → Nat → Nat) (sz F : Nat) (h0 h1 h2 h3 h4 : Nat) (cA : ClassId) (co nn dn pn fo : Int32) (da pa ea ro : Nat → Int32) (p0 rv : Int32) (h : f_m_isPrime F dn da p0 = some rv) : Met l yX1_isPrime wsX1_isPrime { frames := 0, cells := 0, slots := 0, locals := 0 } (rf_Pc (dC, dI) [(cA, .int)] [(h0, .inr (1, [.int co, .int nn, .int dn, .ref h1, .int pn, .ref h2, .ref h3, .int fo, .ref h4])), (h1, .inl (cA, 400, .inl da)), (h2, .inl (cA, 8, .inl pa)), (h3, .inl (cA, 8, .inl ea)), (h4, .inl (cA, 4096, .inl ro))] sz [.ref h0, .int p0]) (va_Qi (fun (r : Int32) (_ : Unit) => rv = r) (fun (_ : Unit) t => va_P (dC, dI) vwCl [(h0, .inr (1, [.int co, .int nn, .int dn, .ref h1, .int pn, .ref h2, .ref h3, .int fo, .ref h4])), (h1, .inl (cA, 400, .inl da)), (h2, .inl (cA, 8, .inl pa)), (h3, .inl (cA, 8, .inl ea)), (h4, .inl (cA, 4096, .inl ro))] t.heap ∧ va_D (va_A [(h0, .inr (1, [.int co, .int nn, .int dn, .ref h1, .int pn, .ref h2, .ref h3, .int fo, .ref h4])), (h1, .inl (cA, 400, .inl da)), (h2, .inl (cA, 8, .inl pa)), (h3, .inl (cA, 8, .inl ea)), (h4, .inl (cA, 4096, .inl ro))] sz) [(h0, .inr (1, [.int co, .int nn, .int dn, .ref h1, .int pn, .ref h2, .ref h3, .int fo, .ref h4])), (h1, .inl (cA, 400, .inl da)), (h2, .inl (cA, 8, .inl pa)), (h3, .inl (cA, 8, .inl ea)), (h4, .inl (cA, 4096, .inl ro))]) (va_A [(h0, .inr (1, [.int co, .int nn, .int dn, .ref h1, .int pn, .ref h2, .ref h3, .int fo, .ref h4])), (h1, .inl (cA, 400, .inl da)), (h2, .inl (cA, 8, .inl pa)), (h3, .inl (cA, 8, .inl ea)), (h4, .inl (cA, 4096, .inl ro))] sz)) 0 0 (va_A [(h0, .inr (1, [.int co, .int nn, .int dn, .ref h1, .int pn, .ref h2, .ref h3, .int fo, .ref h4])), (h1, .inl (cA, 400, .inl da)), (h2, .inl (cA, 8, .inl pa)), (h3, .inl (cA, 8, .inl ea)), (h4, .inl (cA, 4096, .inl ro))] sz) := by
  refine Met.ofW (cc := cX1_isPrime) (maxL := 3) (ret := (some .boolean)) (by decide) rfl ?_
  intro p e s m args below meth c s₁ B hml hv
  obtain ⟨rfl, hsz, hP, hK, hD0⟩ := hv
  have hx := B.exec
  have hb := B.bytes
  have hr := B.returns
  have hts := atoms_spec (ws := wsX1_isPrime) B.pre
  have hown : s.vm.findClass RX1 = some m.cls := findClass_of_methodNamed B.named
  have hlocks := B.notSynchronized
  subst hsz
  have hD := hD0.self (sz := s.heap.size)
  generalize hAe : va_A [(h0, .inr (1, [.int co, .int nn, .int dn, .ref h1, .int pn, .ref h2, .ref h3, .int fo, .ref h4])), (h1, .inl (cA, 400, .inl da)), (h2, .inl (cA, 8, .inl pa)), (h3, .inl (cA, 8, .inl ea)), (h4, .inl (cA, 4096, .inl ro))] s.heap.size = A at hD ⊢
  have hA : ∀ q : Nat, s.heap.size ≤ q → A q := fun q h => by rw [← hAe]; exact Or.inr h
  have hS : va_S A s.heap s.heap [] := va_S.rf
  have hl := lv_entry ([.ref h0, .int p0]) (n := 3) (Nat.le_of_ble_eq_true rfl)
  rw [lg_entry_eq]
  generalize (lg_sl ([.ref h0, .int p0]) ++ List.replicate (3 - (lg_sl ([.ref h0, .int p0])).length) Slot.unset).toArray = ls at hl ⊢
  have hl : lv_has ls 3 [(0, .ref h0), (1, .int p0)] := hl
  unfold f_m_isPrime at h
  refine lv_iconst (v := 0) hx hb dX1_isPrime_0 (by decide) ?_
  refine lv_istore_n (lv' := [(2, .int 0), (0, .ref h0), (1, .int p0)]) hx hb dX1_isPrime_1 rfl hl (by decide) rfl (fun ls hl => ?_)
  refine w_m_isPrime_2 F hx hb hml hown hts hA h0 h1 h2 h3 h4 cA hK p0 co nn dn pn fo da pa ea ro F 0 rv h _ _ hP hD hS _ (lv_sub hl [1, 2, 0] rfl) (fun pc H locs ls hdg hn hP hD hS => ?_)
  exact W.zret hx hb hr hn (fun t ht hW => ⟨⟨_, (), rfl, rfl, by rw [ht]; exact hP, hD⟩, hS.F ht⟩) hS.2.2 hdg
def l_m_take_47 (F : Nat) (nn : Int32) : Nat → Int32 → Int32 → (Nat → Int32) → Option (Int32 × (Nat → Int32))
  | 0, _, _, _ => none
  | n + 1, x2, dn, da => if nn < x2 then some (dn, da) else if x2 = 0 then none else if (irm nn x2) = 0 then if dn.toInt < 0 ∨ (400 : Int) ≤ dn.toInt then none else l_m_take_47 F nn n (x2 + 1) (dn + 1) (upd da dn.toNatClampNeg x2) else l_m_take_47 F nn n (x2 + 1) dn da
set_option maxHeartbeats 4000000 in
set_option maxRecDepth 100000 in
theorem w_m_take_47 {p : Program} {l : Launch} {e : Env} {s : State} {m : MethodId} {args : Array Value} {below : List Frame} {meth : Method} {c : Code} {A : Nat → Prop} {Q : State → Prop} {dC : Nat → ClassId} {dI : Nat → Nat → Nat} (F : Nat) (hx : p.tables.exec = Jvm.exec) (hb : c.code = cX1_take) (hml : c.maxLocals = 4) (hown : s.vm.findClass RX1 = some m.cls) (hts : ∀ w ∈ wsX1_take, w.before args s = true) (hA : ∀ q, s.heap.size ≤ q → A q) (h0 h1 h2 h3 h4 : Nat) (cA : ClassId) (hK : va_K (dC, dI) vwCl [(cA, .int)] s) (co nn pn fo : Int32) (pa ea ro : Nat → Int32) :
    ∀ (n : Nat) (x2 dn : Int32) (da : Nat → Int32) (dn' : Int32) (da' : Nat → Int32), l_m_take_47 F nn n x2 dn da = some (dn', da') → ∀ (H : Heap) (locs : List Loc), va_P (dC, dI) vwCl [(h0, .inr (1, [.int co, .int nn, .int dn, .ref h1, .int pn, .ref h2, .ref h3, .int fo, .ref h4])), (h1, .inl (cA, 400, .inl da)), (h2, .inl (cA, 8, .inl pa)), (h3, .inl (cA, 8, .inl ea)), (h4, .inl (cA, 4096, .inl ro))] H → va_D A [(h0, .inr (1, [.int co, .int nn, .int dn, .ref h1, .int pn, .ref h2, .ref h3, .int fo, .ref h4])), (h1, .inl (cA, 400, .inl da)), (h2, .inl (cA, 8, .inl pa)), (h3, .inl (cA, 8, .inl ea)), (h4, .inl (cA, 4096, .inl ro))] → va_S A s.heap H locs → ∀ ls : Array Slot, lv_has ls 4 [(0, .ref h0), (2, .int x2)] → (∀ (H : Heap) (locs : List Loc) (ls : Array Slot), va_P (dC, dI) vwCl [(h0, .inr (1, [.int co, .int nn, .int dn', .ref h1, .int pn, .ref h2, .ref h3, .int fo, .ref h4])), (h1, .inl (cA, 400, .inl da')), (h2, .inl (cA, 8, .inl pa)), (h3, .inl (cA, 8, .inl ea)), (h4, .inl (cA, 4096, .inl ro))] H → va_D A [(h0, .inr (1, [.int co, .int nn, .int dn', .ref h1, .int pn, .ref h2, .ref h3, .int fo, .ref h4])), (h1, .inl (cA, 400, .inl da')), (h2, .inl (cA, 8, .inl pa)), (h3, .inl (cA, 8, .inl ea)), (h4, .inl (cA, 4096, .inl ro))] → va_S A s.heap H locs → lv_has ls 4 [(0, .ref h0)] → W p l e { frames := 1, cells := 0, slots := 0, locals := 25 } s m args below meth c H locs 0 0 Q (F0 m 93 ls [])) → W p l e { frames := 1, cells := 0, slots := 0, locals := 25 } s m args below meth c H locs 0 0 Q (F0 m 47 ls []) := by
  intro n
  induction n with
  | zero => intro x2 dn da dn' da' h; exact nomatch (show (none : Option _) = some _ from h)
  | succ n ih =>
    intro x2 dn da dn' da' h H locs hP hD hS ls hl K
    rw [l_m_take_47] at h
    refine lv_iload_n hx hb dX1_take_47 rfl (lv_at hl 1 rfl) ?_
    refine lv_aload_n hx hb dX1_take_48 rfl (lv_at hl 0 rfl) ?_
    refine va_get (D := (dC, dI)) (ci := 1) (v := .int nn) (C := RX1) (T := TX1) (N := 9) hx hb hts (fun _ h => List.mem_cons_of_mem _ (List.mem_append_right _ h)) hown hK hP 0 rfl rfl 1 (by decide) (hts _ (List.mem_of_getElem? (i := 7) rfl)) (fun _ h9 => h9) rfl dX1_take_49 ?_
    refine lv_icmp_gt (tgt := 93) hx hb dX1_take_52 (by decide) (fun c1 => ?_) (fun c1 => ?_)
    · rw [if_pos c1] at h
      cases h
      exact K _ _ _ hP hD hS (lv_sub hl [0] rfl)
    · rw [if_neg c1] at h
      refine lv_aload_n hx hb dX1_take_55 rfl (lv_at hl 0 rfl) ?_
      refine va_get (D := (dC, dI)) (ci := 1) (v := .int nn) (C := RX1) (T := TX1) (N := 9) hx hb hts (fun _ h => List.mem_cons_of_mem _ (List.mem_append_right _ h)) hown hK hP 0 rfl rfl 1 (by decide) (hts _ (List.mem_of_getElem? (i := 7) rfl)) (fun _ h9 => h9) rfl dX1_take_56 ?_
      refine lv_iload_n hx hb dX1_take_59 rfl (lv_at hl 1 rfl) ?_
      obtain ⟨g2, h⟩ := rf_gd h
      refine lv_irem hx hb dX1_take_60 g2 ?_
      refine lv_if_eq (tgt := 67) hx hb dX1_take_61 (by decide) (fun c3 => ?_) (fun c3 => ?_)
      · rw [if_pos c3] at h
        refine lv_aload_n hx hb dX1_take_67 rfl (lv_at hl 0 rfl) ?_
        refine va_get (D := (dC, dI)) (ci := 1) (v := .ref h1) (C := RX1) (T := TX1) (N := 9) hx hb hts (fun _ h => List.mem_cons_of_mem _ (List.mem_append_right _ h)) hown hK hP 0 rfl rfl 3 (by decide) (hts _ (List.mem_of_getElem? (i := 10) rfl)) (fun _ h9 => h9) rfl dX1_take_68 ?_
        refine lv_aload_n hx hb dX1_take_71 rfl (lv_at hl 0 rfl) ?_
        refine va_get (D := (dC, dI)) (ci := 1) (v := .int dn) (C := RX1) (T := TX1) (N := 9) hx hb hts (fun _ h => List.mem_cons_of_mem _ (List.mem_append_right _ h)) hown hK hP 0 rfl rfl 2 (by decide) (hts _ (List.mem_of_getElem? (i := 9) rfl)) (fun _ h9 => h9) rfl dX1_take_72 ?_
        refine lv_iload_n hx hb dX1_take_75 rfl (lv_at hl 1 rfl) ?_
        obtain ⟨g4, h⟩ := rf_gd h
        refine va_iast hx hb hK hP hD hS 1 0 rfl rfl (rf_in g4) dX1_take_76 (fun H locs hP hD hS => ?_)
        have hP : va_P (dC, dI) vwCl [(h0, .inr (1, [.int co, .int nn, .int dn, .ref h1, .int pn, .ref h2, .ref h3, .int fo, .ref h4])), (h1, .inl (cA, 400, .inl (upd da dn.toNatClampNeg x2))), (h2, .inl (cA, 8, .inl pa)), (h3, .inl (cA, 8, .inl ea)), (h4, .inl (cA, 4096, .inl ro))] H := hP
        have hD : va_D A [(h0, .inr (1, [.int co, .int nn, .int dn, .ref h1, .int pn, .ref h2, .ref h3, .int fo, .ref h4])), (h1, .inl (cA, 400, .inl (upd da dn.toNatClampNeg x2))), (h2, .inl (cA, 8, .inl pa)), (h3, .inl (cA, 8, .inl ea)), (h4, .inl (cA, 4096, .inl ro))] := hD
        refine lv_aload_n hx hb dX1_take_77 rfl (lv_at hl 0 rfl) ?_
        refine lv_dup hx hb dX1_take_78 rfl ?_
        refine va_get (D := (dC, dI)) (ci := 1) (v := .int dn) (C := RX1) (T := TX1) (N := 9) hx hb hts (fun _ h => List.mem_cons_of_mem _ (List.mem_append_right _ h)) hown hK hP 0 rfl rfl 2 (by decide) (hts _ (List.mem_of_getElem? (i := 9) rfl)) (fun _ h9 => h9) rfl dX1_take_79 ?_
        refine lv_iconst (v := 1) hx hb dX1_take_82 (by decide) ?_
        refine lv_iadd hx hb dX1_take_83 ?_
        refine va_put (D := (dC, dI)) (ci := 1) (v := .int (dn + 1)) (ty := .int) (C := RX1) (T := TX1) (N := 9) hx hb hts (fun _ h => List.mem_cons_of_mem _ (List.mem_append_right _ h)) tyX1 tyX1_ok nX1 hown hK hP hD hS 0 rfl rfl 2 (by decide) (hts _ (List.mem_of_getElem? (i := 9) rfl)) (fun _ h9 => h9) rfl (by decide +kernel) rfl rfl (Nat.le_of_ble_eq_true rfl) dX1_take_84 (fun H locs hP hD hS => ?_)
        have hP : va_P (dC, dI) vwCl [(h0, .inr (1, [.int co, .int nn, .int (dn + 1), .ref h1, .int pn, .ref h2, .ref h3, .int fo, .ref h4])), (h1, .inl (cA, 400, .inl (upd da dn.toNatClampNeg x2))), (h2, .inl (cA, 8, .inl pa)), (h3, .inl (cA, 8, .inl ea)), (h4, .inl (cA, 4096, .inl ro))] H := hP
        have hD : va_D A [(h0, .inr (1, [.int co, .int nn, .int (dn + 1), .ref h1, .int pn, .ref h2, .ref h3, .int fo, .ref h4])), (h1, .inl (cA, 400, .inl (upd da dn.toNatClampNeg x2))), (h2, .inl (cA, 8, .inl pa)), (h3, .inl (cA, 8, .inl ea)), (h4, .inl (cA, 4096, .inl ro))] := hD
        refine lv_iinc (v := (x2 + 1)) (lv' := [(2, .int (x2 + 1)), (0, .ref h0)]) hx hb dX1_take_87 hl (k := 1) rfl rfl (by decide) rfl (fun ls hl => ?_)
        refine lv_goto (tgt := 47) hx hb dX1_take_90 (by decide) ?_
        exact ih (x2 + 1) (dn + 1) (upd da dn.toNatClampNeg x2) dn' da' h _ _ hP hD hS _ (lv_sub hl [1, 0] rfl) K
      · rw [if_neg c3] at h
        refine lv_goto (tgt := 87) hx hb dX1_take_64 (by decide) ?_
        refine lv_iinc (v := (x2 + 1)) (lv' := [(2, .int (x2 + 1)), (0, .ref h0)]) hx hb dX1_take_87 hl (k := 1) rfl rfl (by decide) rfl (fun ls hl => ?_)
        refine lv_goto (tgt := 47) hx hb dX1_take_90 (by decide) ?_
        exact ih (x2 + 1) dn da dn' da' h _ _ hP hD hS _ (lv_sub hl [1, 0] rfl) K
def l_m_take_154 (F : Nat) (x2 pn : Int32) (da : Nat → Int32) : Nat → Int32 → (Nat → Int32) → Option ((Nat → Int32))
  | 0, _, _ => none
  | n + 1, x3, ea => if x2.toInt < 0 ∨ (400 : Int) ≤ x2.toInt then none else if (da x2.toNatClampNeg) = 0 then none else if (irm x3 (da x2.toNatClampNeg)) = 0 then if pn.toInt < 0 ∨ (8 : Int) ≤ pn.toInt then none else if pn.toInt < 0 ∨ (8 : Int) ≤ pn.toInt then none else if x2.toInt < 0 ∨ (400 : Int) ≤ x2.toInt then none else if (da x2.toNatClampNeg) = 0 then none else l_m_take_154 F x2 pn da n (x3 / (da x2.toNatClampNeg)) (upd ea pn.toNatClampNeg ((ea pn.toNatClampNeg) + 1)) else some ea
set_option maxHeartbeats 4000000 in
set_option maxRecDepth 100000 in
theorem w_m_take_154 {p : Program} {l : Launch} {e : Env} {s : State} {m : MethodId} {args : Array Value} {below : List Frame} {meth : Method} {c : Code} {A : Nat → Prop} {Q : State → Prop} {dC : Nat → ClassId} {dI : Nat → Nat → Nat} (F : Nat) (hx : p.tables.exec = Jvm.exec) (hb : c.code = cX1_take) (hml : c.maxLocals = 4) (hown : s.vm.findClass RX1 = some m.cls) (hts : ∀ w ∈ wsX1_take, w.before args s = true) (hA : ∀ q, s.heap.size ≤ q → A q) (h0 h1 h2 h3 h4 : Nat) (cA : ClassId) (hK : va_K (dC, dI) vwCl [(cA, .int)] s) (x2 co nn dn pn fo : Int32) (da pa ro : Nat → Int32) :
    ∀ (n : Nat) (x3 : Int32) (ea ea' : Nat → Int32), l_m_take_154 F x2 pn da n x3 ea = some ea' → ∀ (H : Heap) (locs : List Loc), va_P (dC, dI) vwCl [(h0, .inr (1, [.int co, .int nn, .int dn, .ref h1, .int pn, .ref h2, .ref h3, .int fo, .ref h4])), (h1, .inl (cA, 400, .inl da)), (h2, .inl (cA, 8, .inl pa)), (h3, .inl (cA, 8, .inl ea)), (h4, .inl (cA, 4096, .inl ro))] H → va_D A [(h0, .inr (1, [.int co, .int nn, .int dn, .ref h1, .int pn, .ref h2, .ref h3, .int fo, .ref h4])), (h1, .inl (cA, 400, .inl da)), (h2, .inl (cA, 8, .inl pa)), (h3, .inl (cA, 8, .inl ea)), (h4, .inl (cA, 4096, .inl ro))] → va_S A s.heap H locs → ∀ ls : Array Slot, lv_has ls 4 [(0, .ref h0), (2, .int x2), (3, .int x3)] → (∀ (H : Heap) (locs : List Loc) (ls : Array Slot), va_P (dC, dI) vwCl [(h0, .inr (1, [.int co, .int nn, .int dn, .ref h1, .int pn, .ref h2, .ref h3, .int fo, .ref h4])), (h1, .inl (cA, 400, .inl da)), (h2, .inl (cA, 8, .inl pa)), (h3, .inl (cA, 8, .inl ea')), (h4, .inl (cA, 4096, .inl ro))] H → va_D A [(h0, .inr (1, [.int co, .int nn, .int dn, .ref h1, .int pn, .ref h2, .ref h3, .int fo, .ref h4])), (h1, .inl (cA, 400, .inl da)), (h2, .inl (cA, 8, .inl pa)), (h3, .inl (cA, 8, .inl ea')), (h4, .inl (cA, 4096, .inl ro))] → va_S A s.heap H locs → lv_has ls 4 [(0, .ref h0), (2, .int x2)] → W p l e { frames := 1, cells := 0, slots := 0, locals := 25 } s m args below meth c H locs 0 0 Q (F0 m 190 ls [])) → W p l e { frames := 1, cells := 0, slots := 0, locals := 25 } s m args below meth c H locs 0 0 Q (F0 m 154 ls []) := by
  intro n
  induction n with
  | zero => intro x3 ea ea' h; exact nomatch (show (none : Option _) = some _ from h)
  | succ n ih =>
    intro x3 ea ea' h H locs hP hD hS ls hl K
    rw [l_m_take_154] at h
    refine lv_iload_n hx hb dX1_take_154 rfl (lv_at hl 2 rfl) ?_
    refine lv_aload_n hx hb dX1_take_155 rfl (lv_at hl 0 rfl) ?_
    refine va_get (D := (dC, dI)) (ci := 1) (v := .ref h1) (C := RX1) (T := TX1) (N := 9) hx hb hts (fun _ h => List.mem_cons_of_mem _ (List.mem_append_right _ h)) hown hK hP 0 rfl rfl 3 (by decide) (hts _ (List.mem_of_getElem? (i := 10) rfl)) (fun _ h9 => h9) rfl dX1_take_156 ?_
    refine lv_iload_n hx hb dX1_take_159 rfl (lv_at hl 1 rfl) ?_
    obtain ⟨g1, h⟩ := rf_gd h
    refine va_iald hx hb hK hP 1 0 rfl rfl (rf_in g1) dX1_take_160 ?_
    obtain ⟨g2, h⟩ := rf_gd h
    refine lv_irem hx hb dX1_take_161 g2 ?_
    refine lv_if_ne (tgt := 190) hx hb dX1_take_162 (by decide) (fun c3 => ?_) (fun c3 => ?_)
    · rw [if_neg c3] at h
      cases h
      exact K _ _ _ hP hD hS (lv_sub hl [0, 1] rfl)
    · rw [if_pos c3] at h
      refine lv_aload_n hx hb dX1_take_165 rfl (lv_at hl 0 rfl) ?_
      refine va_get (D := (dC, dI)) (ci := 1) (v := .ref h3) (C := RX1) (T := TX1) (N := 9) hx hb hts (fun _ h => List.mem_cons_of_mem _ (List.mem_append_right _ h)) hown hK hP 0 rfl rfl 6 (by decide) (hts _ (List.mem_of_getElem? (i := 17) rfl)) (fun _ h9 => h9) rfl dX1_take_166 ?_
      refine lv_aload_n hx hb dX1_take_169 rfl (lv_at hl 0 rfl) ?_
      refine va_get (D := (dC, dI)) (ci := 1) (v := .int pn) (C := RX1) (T := TX1) (N := 9) hx hb hts (fun _ h => List.mem_cons_of_mem _ (List.mem_append_right _ h)) hown hK hP 0 rfl rfl 4 (by decide) (hts _ (List.mem_of_getElem? (i := 11) rfl)) (fun _ h9 => h9) rfl dX1_take_170 ?_
      refine lv_dup2_11 hx hb dX1_take_173 rfl rfl ?_
      obtain ⟨g4, h⟩ := rf_gd h
      refine va_iald hx hb hK hP 3 0 rfl rfl (rf_in g4) dX1_take_174 ?_
      refine lv_iconst (v := 1) hx hb dX1_take_175 (by decide) ?_
      refine lv_iadd hx hb dX1_take_176 ?_
      obtain ⟨g5, h⟩ := rf_gd h
      refine va_iast hx hb hK hP hD hS 3 0 rfl rfl (rf_in g5) dX1_take_177 (fun H locs hP hD hS => ?_)
      have hP : va_P (dC, dI) vwCl [(h0, .inr (1, [.int co, .int nn, .int dn, .ref h1, .int pn, .ref h2, .ref h3, .int fo, .ref h4])), (h1, .inl (cA, 400, .inl da)), (h2, .inl (cA, 8, .inl pa)), (h3, .inl (cA, 8, .inl (upd ea pn.toNatClampNeg ((ea pn.toNatClampNeg) + 1)))), (h4, .inl (cA, 4096, .inl ro))] H := hP
      have hD : va_D A [(h0, .inr (1, [.int co, .int nn, .int dn, .ref h1, .int pn, .ref h2, .ref h3, .int fo, .ref h4])), (h1, .inl (cA, 400, .inl da)), (h2, .inl (cA, 8, .inl pa)), (h3, .inl (cA, 8, .inl (upd ea pn.toNatClampNeg ((ea pn.toNatClampNeg) + 1)))), (h4, .inl (cA, 4096, .inl ro))] := hD
      refine lv_iload_n hx hb dX1_take_178 rfl (lv_at hl 2 rfl) ?_
      refine lv_aload_n hx hb dX1_take_179 rfl (lv_at hl 0 rfl) ?_
      refine va_get (D := (dC, dI)) (ci := 1) (v := .ref h1) (C := RX1) (T := TX1) (N := 9) hx hb hts (fun _ h => List.mem_cons_of_mem _ (List.mem_append_right _ h)) hown hK hP 0 rfl rfl 3 (by decide) (hts _ (List.mem_of_getElem? (i := 10) rfl)) (fun _ h9 => h9) rfl dX1_take_180 ?_
      refine lv_iload_n hx hb dX1_take_183 rfl (lv_at hl 1 rfl) ?_
      obtain ⟨g6, h⟩ := rf_gd h
      refine va_iald hx hb hK hP 1 0 rfl rfl (rf_in g6) dX1_take_184 ?_
      obtain ⟨g7, h⟩ := rf_gd h
      refine lv_idiv hx hb dX1_take_185 g7 ?_
      refine lv_istore_n (lv' := [(3, .int (x3 / (da x2.toNatClampNeg))), (0, .ref h0), (2, .int x2)]) hx hb dX1_take_186 rfl hl (by decide) rfl (fun ls hl => ?_)
      refine lv_goto (tgt := 154) hx hb dX1_take_187 (by decide) ?_
      exact ih (x3 / (da x2.toNatClampNeg)) (upd ea pn.toNatClampNeg ((ea pn.toNatClampNeg) + 1)) ea' h _ _ hP hD hS _ (lv_sub hl [1, 2, 0] rfl) K
def l_m_take_100 (F : Nat) (nn dn : Int32) (da : Nat → Int32) : Nat → Int32 → Int32 → (Nat → Int32) → (Nat → Int32) → Option (Int32 × (Nat → Int32) × (Nat → Int32))
  | 0, _, _, _, _ => none
  | n + 1, x2, pn, pa, ea => if dn ≤ x2 then some (pn, pa, ea) else if x2.toInt < 0 ∨ (400 : Int) ≤ x2.toInt then none else b1 (f_m_isPrime F dn da (da x2.toNatClampNeg)) fun r3 => if r3 = 0 then l_m_take_100 F nn dn da n (x2 + 1) pn pa ea else if x2.toInt < 0 ∨ (400 : Int) ≤ x2.toInt then none else if pn.toInt < 0 ∨ (8 : Int) ≤ pn.toInt then none else if pn.toInt < 0 ∨ (8 : Int) ≤ pn.toInt then none else b1 (l_m_take_154 F x2 pn da F nn (upd ea pn.toNatClampNeg 0)) fun ea_8 => l_m_take_100 F nn dn da n (x2 + 1) (pn + 1) (upd pa pn.toNatClampNeg (da x2.toNatClampNeg)) ea_8
set_option maxHeartbeats 4000000 in
set_option maxRecDepth 100000 in
theorem w_m_take_100 {p : Program} {l : Launch} {e : Env} {s : State} {m : MethodId} {args : Array Value} {below : List Frame} {meth : Method} {c : Code} {A : Nat → Prop} {Q : State → Prop} {dC : Nat → ClassId} {dI : Nat → Nat → Nat} (F : Nat) (hx : p.tables.exec = Jvm.exec) (hb : c.code = cX1_take) (hml : c.maxLocals = 4) (hown : s.vm.findClass RX1 = some m.cls) (hts : ∀ w ∈ wsX1_take, w.before args s = true) (hA : ∀ q, s.heap.size ≤ q → A q) (h0 h1 h2 h3 h4 : Nat) (cA : ClassId) (hK : va_K (dC, dI) vwCl [(cA, .int)] s) (co nn dn fo : Int32) (da ro : Nat → Int32) :
    ∀ (n : Nat) (x2 pn : Int32) (pa ea : Nat → Int32) (pn' : Int32) (pa' ea' : Nat → Int32), l_m_take_100 F nn dn da n x2 pn pa ea = some (pn', pa', ea') → ∀ (H : Heap) (locs : List Loc), va_P (dC, dI) vwCl [(h0, .inr (1, [.int co, .int nn, .int dn, .ref h1, .int pn, .ref h2, .ref h3, .int fo, .ref h4])), (h1, .inl (cA, 400, .inl da)), (h2, .inl (cA, 8, .inl pa)), (h3, .inl (cA, 8, .inl ea)), (h4, .inl (cA, 4096, .inl ro))] H → va_D A [(h0, .inr (1, [.int co, .int nn, .int dn, .ref h1, .int pn, .ref h2, .ref h3, .int fo, .ref h4])), (h1, .inl (cA, 400, .inl da)), (h2, .inl (cA, 8, .inl pa)), (h3, .inl (cA, 8, .inl ea)), (h4, .inl (cA, 4096, .inl ro))] → va_S A s.heap H locs → ∀ ls : Array Slot, lv_has ls 4 [(0, .ref h0), (2, .int x2)] → (∀ (H : Heap) (locs : List Loc) (ls : Array Slot), va_P (dC, dI) vwCl [(h0, .inr (1, [.int co, .int nn, .int dn, .ref h1, .int pn', .ref h2, .ref h3, .int fo, .ref h4])), (h1, .inl (cA, 400, .inl da)), (h2, .inl (cA, 8, .inl pa')), (h3, .inl (cA, 8, .inl ea')), (h4, .inl (cA, 4096, .inl ro))] H → va_D A [(h0, .inr (1, [.int co, .int nn, .int dn, .ref h1, .int pn', .ref h2, .ref h3, .int fo, .ref h4])), (h1, .inl (cA, 400, .inl da)), (h2, .inl (cA, 8, .inl pa')), (h3, .inl (cA, 8, .inl ea')), (h4, .inl (cA, 4096, .inl ro))] → va_S A s.heap H locs → lv_has ls 4 [(0, .ref h0)] → W p l e { frames := 1, cells := 0, slots := 0, locals := 25 } s m args below meth c H locs 0 0 Q (F0 m 206 ls [])) → W p l e { frames := 1, cells := 0, slots := 0, locals := 25 } s m args below meth c H locs 0 0 Q (F0 m 100 ls []) := by
  intro n
  induction n with
  | zero => intro x2 pn pa ea pn' pa' ea' h; exact nomatch (show (none : Option _) = some _ from h)
  | succ n ih =>
    intro x2 pn pa ea pn' pa' ea' h H locs hP hD hS ls hl K
    rw [l_m_take_100] at h
    refine lv_iload_n hx hb dX1_take_100 rfl (lv_at hl 1 rfl) ?_
    refine lv_aload_n hx hb dX1_take_101 rfl (lv_at hl 0 rfl) ?_
    refine va_get (D := (dC, dI)) (ci := 1) (v := .int dn) (C := RX1) (T := TX1) (N := 9) hx hb hts (fun _ h => List.mem_cons_of_mem _ (List.mem_append_right _ h)) hown hK hP 0 rfl rfl 2 (by decide) (hts _ (List.mem_of_getElem? (i := 9) rfl)) (fun _ h9 => h9) rfl dX1_take_102 ?_
    refine lv_icmp_ge (tgt := 206) hx hb dX1_take_105 (by decide) (fun c1 => ?_) (fun c1 => ?_)
    · rw [if_pos c1] at h
      cases h
      exact K _ _ _ hP hD hS (lv_sub hl [0] rfl)
    · rw [if_neg c1] at h
      refine lv_aload_n hx hb dX1_take_108 rfl (lv_at hl 0 rfl) ?_
      refine lv_aload_n hx hb dX1_take_109 rfl (lv_at hl 0 rfl) ?_
      refine va_get (D := (dC, dI)) (ci := 1) (v := .ref h1) (C := RX1) (T := TX1) (N := 9) hx hb hts (fun _ h => List.mem_cons_of_mem _ (List.mem_append_right _ h)) hown hK hP 0 rfl rfl 3 (by decide) (hts _ (List.mem_of_getElem? (i := 10) rfl)) (fun _ h9 => h9) rfl dX1_take_110 ?_
      refine lv_iload_n hx hb dX1_take_113 rfl (lv_at hl 1 rfl) ?_
      obtain ⟨g2, h⟩ := rf_gd h
      refine va_iald hx hb hK hP 1 0 rfl rfl (rf_in g2) dX1_take_114 ?_
      obtain ⟨r3, hr3, h⟩ := rf_b1 h
      refine rf_ci (wn := (fun _ : Unit => [(h0, .inr (1, [.int co, .int nn, .int dn, .ref h1, .int pn, .ref h2, .ref h3, .int fo, .ref h4])), (h1, .inl (cA, 400, .inl da)), (h2, .inl (cA, 8, .inl pa)), (h3, .inl (cA, 8, .inl ea)), (h4, .inl (cA, 4096, .inl ro))])) (wc := [(h0, .inr (1, [.int co, .int nn, .int dn, .ref h1, .int pn, .ref h2, .ref h3, .int fo, .ref h4])), (h1, .inl (cA, 400, .inl da)), (h2, .inl (cA, 8, .inl pa)), (h3, .inl (cA, 8, .inl ea)), (h4, .inl (cA, 4096, .inl ro))]) (wr := []) hP hD hS hA [0, 1, 2, 3, 4] [] rfl rfl (by decide) (by decide) (va_runV (As := [.int (da x2.toNatClampNeg)]) (rest := []) ⟨hx, hb, hml, hown, hts⟩ (c_m_isPrime l dC dI _ F h0 h1 h2 h3 h4 cA co nn dn pn fo da pa ea ro (da x2.toNatClampNeg) r3 hr3) (cwV 1 hts gX1_take_X1_isPrime rfl rfl rfl (by decide +kernel) ⟨Nat.le_of_ble_eq_true rfl, Nat.le_of_ble_eq_true rfl⟩) ⟨rf_blind, va_recv hK hP (ci := 1) (q0 := 0) rfl rfl, fun U hU hW => ⟨rfl, rf_pre (hP.sub (ws' := [(h0, .inr (1, [.int co, .int nn, .int dn, .ref h1, .int pn, .ref h2, .ref h3, .int fo, .ref h4])), (h1, .inl (cA, 400, .inl da)), (h2, .inl (cA, 8, .inl pa)), (h3, .inl (cA, 8, .inl ea)), (h4, .inl (cA, 4096, .inl ro))]) [0, 1, 2, 3, 4] rfl) (hK.sub (tys' := [(cA, .int)]) [0] rfl) (hD.sub (ws' := [(h0, .inr (1, [.int co, .int nn, .int dn, .ref h1, .int pn, .ref h2, .ref h3, .int fo, .ref h4])), (h1, .inl (cA, 400, .inl da)), (h2, .inl (cA, 8, .inl pa)), (h3, .inl (cA, 8, .inl ea)), (h4, .inl (cA, 4096, .inl ro))]) [0, 1, 2, 3, 4] (by decide) rfl) U hU hW⟩⟩ rfl rfl hl.1 rfl (lv_room (Nat.le_of_ble_eq_true rfl)) dX1_take_115 ⟨Nat.zero_le _, Nat.zero_le _⟩) (fun r3' u H locs hw hP hD hS => ?_)
      subst hw
      have hP : va_P (dC, dI) vwCl [(h0, .inr (1, [.int co, .int nn, .int dn, .ref h1, .int pn, .ref h2, .ref h3, .int fo, .ref h4])), (h1, .inl (cA, 400, .inl da)), (h2, .inl (cA, 8, .inl pa)), (h3, .inl (cA, 8, .inl ea)), (h4, .inl (cA, 4096, .inl ro))] H := hP
      have hD : va_D A [(h0, .inr (1, [.int co, .int nn, .int dn, .ref h1, .int pn, .ref h2, .ref h3, .int fo, .ref h4])), (h1, .inl (cA, 400, .inl da)), (h2, .inl (cA, 8, .inl pa)), (h3, .inl (cA, 8, .inl ea)), (h4, .inl (cA, 4096, .inl ro))] := hD
      refine lv_if_ne (tgt := 124) hx hb dX1_take_118 (by decide) (fun c4 => ?_) (fun c4 => ?_)
      · rw [if_neg c4] at h
        refine lv_aload_n hx hb dX1_take_124 rfl (lv_at hl 0 rfl) ?_
        refine va_get (D := (dC, dI)) (ci := 1) (v := .ref h2) (C := RX1) (T := TX1) (N := 9) hx hb hts (fun _ h => List.mem_cons_of_mem _ (List.mem_append_right _ h)) hown hK hP 0 rfl rfl 5 (by decide) (hts _ (List.mem_of_getElem? (i := 16) rfl)) (fun _ h9 => h9) rfl dX1_take_125 ?_
        refine lv_aload_n hx hb dX1_take_128 rfl (lv_at hl 0 rfl) ?_
        refine va_get (D := (dC, dI)) (ci := 1) (v := .int pn) (C := RX1) (T := TX1) (N := 9) hx hb hts (fun _ h => List.mem_cons_of_mem _ (List.mem_append_right _ h)) hown hK hP 0 rfl rfl 4 (by decide) (hts _ (List.mem_of_getElem? (i := 11) rfl)) (fun _ h9 => h9) rfl dX1_take_129 ?_
        refine lv_aload_n hx hb dX1_take_132 rfl (lv_at hl 0 rfl) ?_
        refine va_get (D := (dC, dI)) (ci := 1) (v := .ref h1) (C := RX1) (T := TX1) (N := 9) hx hb hts (fun _ h => List.mem_cons_of_mem _ (List.mem_append_right _ h)) hown hK hP 0 rfl rfl 3 (by decide) (hts _ (List.mem_of_getElem? (i := 10) rfl)) (fun _ h9 => h9) rfl dX1_take_133 ?_
        refine lv_iload_n hx hb dX1_take_136 rfl (lv_at hl 1 rfl) ?_
        obtain ⟨g5, h⟩ := rf_gd h
        refine va_iald hx hb hK hP 1 0 rfl rfl (rf_in g5) dX1_take_137 ?_
        obtain ⟨g6, h⟩ := rf_gd h
        refine va_iast hx hb hK hP hD hS 2 0 rfl rfl (rf_in g6) dX1_take_138 (fun H locs hP hD hS => ?_)
        have hP : va_P (dC, dI) vwCl [(h0, .inr (1, [.int co, .int nn, .int dn, .ref h1, .int pn, .ref h2, .ref h3, .int fo, .ref h4])), (h1, .inl (cA, 400, .inl da)), (h2, .inl (cA, 8, .inl (upd pa pn.toNatClampNeg (da x2.toNatClampNeg)))), (h3, .inl (cA, 8, .inl ea)), (h4, .inl (cA, 4096, .inl ro))] H := hP
        have hD : va_D A [(h0, .inr (1, [.int co, .int nn, .int dn, .ref h1, .int pn, .ref h2, .ref h3, .int fo, .ref h4])), (h1, .inl (cA, 400, .inl da)), (h2, .inl (cA, 8, .inl (upd pa pn.toNatClampNeg (da x2.toNatClampNeg)))), (h3, .inl (cA, 8, .inl ea)), (h4, .inl (cA, 4096, .inl ro))] := hD
        refine lv_aload_n hx hb dX1_take_139 rfl (lv_at hl 0 rfl) ?_
        refine va_get (D := (dC, dI)) (ci := 1) (v := .ref h3) (C := RX1) (T := TX1) (N := 9) hx hb hts (fun _ h => List.mem_cons_of_mem _ (List.mem_append_right _ h)) hown hK hP 0 rfl rfl 6 (by decide) (hts _ (List.mem_of_getElem? (i := 17) rfl)) (fun _ h9 => h9) rfl dX1_take_140 ?_
        refine lv_aload_n hx hb dX1_take_143 rfl (lv_at hl 0 rfl) ?_
        refine va_get (D := (dC, dI)) (ci := 1) (v := .int pn) (C := RX1) (T := TX1) (N := 9) hx hb hts (fun _ h => List.mem_cons_of_mem _ (List.mem_append_right _ h)) hown hK hP 0 rfl rfl 4 (by decide) (hts _ (List.mem_of_getElem? (i := 11) rfl)) (fun _ h9 => h9) rfl dX1_take_144 ?_
        refine lv_iconst (v := 0) hx hb dX1_take_147 (by decide) ?_
        obtain ⟨g7, h⟩ := rf_gd h
        refine va_iast hx hb hK hP hD hS 3 0 rfl rfl (rf_in g7) dX1_take_148 (fun H locs hP hD hS => ?_)
        have hP : va_P (dC, dI) vwCl [(h0, .inr (1, [.int co, .int nn, .int dn, .ref h1, .int pn, .ref h2, .ref h3, .int fo, .ref h4])), (h1, .inl (cA, 400, .inl da)), (h2, .inl (cA, 8, .inl (upd pa pn.toNatClampNeg (da x2.toNatClampNeg)))), (h3, .inl (cA, 8, .inl (upd ea pn.toNatClampNeg 0))), (h4, .inl (cA, 4096, .inl ro))] H := hP
        have hD : va_D A [(h0, .inr (1, [.int co, .int nn, .int dn, .ref h1, .int pn, .ref h2, .ref h3, .int fo, .ref h4])), (h1, .inl (cA, 400, .inl da)), (h2, .inl (cA, 8, .inl (upd pa pn.toNatClampNeg (da x2.toNatClampNeg)))), (h3, .inl (cA, 8, .inl (upd ea pn.toNatClampNeg 0))), (h4, .inl (cA, 4096, .inl ro))] := hD
        refine lv_aload_n hx hb dX1_take_149 rfl (lv_at hl 0 rfl) ?_
        refine va_get (D := (dC, dI)) (ci := 1) (v := .int nn) (C := RX1) (T := TX1) (N := 9) hx hb hts (fun _ h => List.mem_cons_of_mem _ (List.mem_append_right _ h)) hown hK hP 0 rfl rfl 1 (by decide) (hts _ (List.mem_of_getElem? (i := 7) rfl)) (fun _ h9 => h9) rfl dX1_take_150 ?_
        refine lv_istore_n (lv' := [(3, .int nn), (0, .ref h0), (2, .int x2)]) hx hb dX1_take_153 rfl hl (by decide) rfl (fun ls hl => ?_)
        obtain ⟨ea_8, hr8, h⟩ := rf_b1 h
        refine w_m_take_154 F hx hb hml hown hts hA h0 h1 h2 h3 h4 cA hK x2 co nn dn pn fo da (upd pa pn.toNatClampNeg (da x2.toNatClampNeg)) ro F nn (upd ea pn.toNatClampNeg 0) ea_8 hr8 _ _ hP hD hS _ (lv_sub hl [1, 2, 0] rfl) (fun H locs ls hP hD hS hl => ?_)
        refine lv_aload_n hx hb dX1_take_190 rfl (lv_at hl 0 rfl) ?_
        refine lv_dup hx hb dX1_take_191 rfl ?_
        refine va_get (D := (dC, dI)) (ci := 1) (v := .int pn) (C := RX1) (T := TX1) (N := 9) hx hb hts (fun _ h => List.mem_cons_of_mem _ (List.mem_append_right _ h)) hown hK hP 0 rfl rfl 4 (by decide) (hts _ (List.mem_of_getElem? (i := 11) rfl)) (fun _ h9 => h9) rfl dX1_take_192 ?_
        refine lv_iconst (v := 1) hx hb dX1_take_195 (by decide) ?_
        refine lv_iadd hx hb dX1_take_196 ?_
        refine va_put (D := (dC, dI)) (ci := 1) (v := .int (pn + 1)) (ty := .int) (C := RX1) (T := TX1) (N := 9) hx hb hts (fun _ h => List.mem_cons_of_mem _ (List.mem_append_right _ h)) tyX1 tyX1_ok nX1 hown hK hP hD hS 0 rfl rfl 4 (by decide) (hts _ (List.mem_of_getElem? (i := 11) rfl)) (fun _ h9 => h9) rfl (by decide +kernel) rfl rfl (Nat.le_of_ble_eq_true rfl) dX1_take_197 (fun H locs hP hD hS => ?_)
        have hP : va_P (dC, dI) vwCl [(h0, .inr (1, [.int co, .int nn, .int dn, .ref h1, .int (pn + 1), .ref h2, .ref h3, .int fo, .ref h4])), (h1, .inl (cA, 400, .inl da)), (h2, .inl (cA, 8, .inl (upd pa pn.toNatClampNeg (da x2.toNatClampNeg)))), (h3, .inl (cA, 8, .inl ea_8)), (h4, .inl (cA, 4096, .inl ro))] H := hP
        have hD : va_D A [(h0, .inr (1, [.int co, .int nn, .int dn, .ref h1, .int (pn + 1), .ref h2, .ref h3, .int fo, .ref h4])), (h1, .inl (cA, 400, .inl da)), (h2, .inl (cA, 8, .inl (upd pa pn.toNatClampNeg (da x2.toNatClampNeg)))), (h3, .inl (cA, 8, .inl ea_8)), (h4, .inl (cA, 4096, .inl ro))] := hD
        refine lv_iinc (v := (x2 + 1)) (lv' := [(2, .int (x2 + 1)), (0, .ref h0)]) hx hb dX1_take_200 hl (k := 1) rfl rfl (by decide) rfl (fun ls hl => ?_)
        refine lv_goto (tgt := 100) hx hb dX1_take_203 (by decide) ?_
        exact ih (x2 + 1) (pn + 1) (upd pa pn.toNatClampNeg (da x2.toNatClampNeg)) ea_8 pn' pa' ea' h _ _ hP hD hS _ (lv_sub hl [1, 0] rfl) K
      · rw [if_pos c4] at h
        refine lv_goto (tgt := 200) hx hb dX1_take_121 (by decide) ?_
        refine lv_iinc (v := (x2 + 1)) (lv' := [(2, .int (x2 + 1)), (0, .ref h0)]) hx hb dX1_take_200 hl (k := 1) rfl rfl (by decide) rfl (fun ls hl => ?_)
        refine lv_goto (tgt := 100) hx hb dX1_take_203 (by decide) ?_
        exact ih (x2 + 1) pn pa ea pn' pa' ea' h _ _ hP hD hS _ (lv_sub hl [1, 0] rfl) K
def f_m_take (F : Nat) (co nn dn pn fo : Int32) (da pa ea : Nat → Int32) (p0 : Int32) : Option (Int32 × Int32 × Int32 × Int32 × Int32 × Int32 × (Nat → Int32) × (Nat → Int32) × (Nat → Int32)) := b1 (f_m_in F (Int32.toInt64 p0) 1 4194304) fun r1 => if r1 = 0 then some (0, 1, nn, dn, pn, fo, da, pa, ea) else b2 (l_m_take_47 F p0 F 1 0 da) fun dn_5 da_5 => b3 (l_m_take_100 F p0 dn_5 da_5 F 0 0 pa ea) fun pn_6 pa_6 ea_6 => some (pn_6, 0, p0, dn_5, pn_6, 0, da_5, pa_6, ea_6)
set_option maxHeartbeats 4000000 in
set_option maxRecDepth 100000 in
theorem c_m_take (l : Launch) (dC : Nat → ClassId) (dI : Nat → Nat → Nat) (sz F : Nat) (h0 h1 h2 h3 h4 : Nat) (cA : ClassId) (co nn dn pn fo : Int32) (da pa ea ro : Nat → Int32) (p0 rv co' nn' dn' pn' fo' : Int32) (da' pa' ea' : Nat → Int32) (h : f_m_take F co nn dn pn fo da pa ea p0 = some (rv, co', nn', dn', pn', fo', da', pa', ea')) : Met l yX1_take wsX1_take { frames := 1, cells := 0, slots := 0, locals := 25 } (rf_Pc (dC, dI) [(cA, .int)] [(h0, .inr (1, [.int co, .int nn, .int dn, .ref h1, .int pn, .ref h2, .ref h3, .int fo, .ref h4])), (h1, .inl (cA, 400, .inl da)), (h2, .inl (cA, 8, .inl pa)), (h3, .inl (cA, 8, .inl ea)), (h4, .inl (cA, 4096, .inl ro))] sz [.ref h0, .int p0]) (va_Qi (fun (r : Int32) (_ : Unit) => rv = r) (fun (_ : Unit) t => va_P (dC, dI) vwCl [(h0, .inr (1, [.int co', .int nn', .int dn', .ref h1, .int pn', .ref h2, .ref h3, .int fo', .ref h4])), (h1, .inl (cA, 400, .inl da')), (h2, .inl (cA, 8, .inl pa')), (h3, .inl (cA, 8, .inl ea')), (h4, .inl (cA, 4096, .inl ro))] t.heap ∧ va_D (va_A [(h0, .inr (1, [.int co, .int nn, .int dn, .ref h1, .int pn, .ref h2, .ref h3, .int fo, .ref h4])), (h1, .inl (cA, 400, .inl da)), (h2, .inl (cA, 8, .inl pa)), (h3, .inl (cA, 8, .inl ea)), (h4, .inl (cA, 4096, .inl ro))] sz) [(h0, .inr (1, [.int co', .int nn', .int dn', .ref h1, .int pn', .ref h2, .ref h3, .int fo', .ref h4])), (h1, .inl (cA, 400, .inl da')), (h2, .inl (cA, 8, .inl pa')), (h3, .inl (cA, 8, .inl ea')), (h4, .inl (cA, 4096, .inl ro))]) (va_A [(h0, .inr (1, [.int co, .int nn, .int dn, .ref h1, .int pn, .ref h2, .ref h3, .int fo, .ref h4])), (h1, .inl (cA, 400, .inl da)), (h2, .inl (cA, 8, .inl pa)), (h3, .inl (cA, 8, .inl ea)), (h4, .inl (cA, 4096, .inl ro))] sz)) 0 0 (va_A [(h0, .inr (1, [.int co, .int nn, .int dn, .ref h1, .int pn, .ref h2, .ref h3, .int fo, .ref h4])), (h1, .inl (cA, 400, .inl da)), (h2, .inl (cA, 8, .inl pa)), (h3, .inl (cA, 8, .inl ea)), (h4, .inl (cA, 4096, .inl ro))] sz) := by
  refine Met.ofW (cc := cX1_take) (maxL := 4) (ret := (some .int)) (by decide) rfl ?_
  intro p e s m args below meth c s₁ B hml hv
  obtain ⟨rfl, hsz, hP, hK, hD0⟩ := hv
  have hx := B.exec
  have hb := B.bytes
  have hr := B.returns
  have hts := atoms_spec (ws := wsX1_take) B.pre
  have hown : s.vm.findClass RX1 = some m.cls := findClass_of_methodNamed B.named
  have hlocks := B.notSynchronized
  subst hsz
  have hD := hD0.self (sz := s.heap.size)
  generalize hAe : va_A [(h0, .inr (1, [.int co, .int nn, .int dn, .ref h1, .int pn, .ref h2, .ref h3, .int fo, .ref h4])), (h1, .inl (cA, 400, .inl da)), (h2, .inl (cA, 8, .inl pa)), (h3, .inl (cA, 8, .inl ea)), (h4, .inl (cA, 4096, .inl ro))] s.heap.size = A at hD ⊢
  have hA : ∀ q : Nat, s.heap.size ≤ q → A q := fun q h => by rw [← hAe]; exact Or.inr h
  have hS : va_S A s.heap s.heap [] := va_S.rf
  have hl := lv_entry ([.ref h0, .int p0]) (n := 4) (Nat.le_of_ble_eq_true rfl)
  rw [lg_entry_eq]
  generalize (lg_sl ([.ref h0, .int p0]) ++ List.replicate (4 - (lg_sl ([.ref h0, .int p0])).length) Slot.unset).toArray = ls at hl ⊢
  have hl : lv_has ls 4 [(0, .ref h0), (1, .int p0)] := hl
  unfold f_m_take at h
  refine lv_aload_n hx hb dX1_take_0 rfl (lv_at hl 0 rfl) ?_
  refine lv_iload_n hx hb dX1_take_1 rfl (lv_at hl 1 rfl) ?_
  refine lv_i2l (v := (Int32.toInt64 p0)) hx hb dX1_take_2 rfl ?_
  refine lv_lconst (v := 1) hx hb dX1_take_3 (by decide) ?_
  refine lv_ldc2 (v := 4194304) hx hb hown (hts _ (List.mem_of_getElem? (i := 1) rfl)) dX1_take_4 ?_
  obtain ⟨r1, hr1, h⟩ := rf_b1 h
  refine rf_ci (wn := (fun _ : Unit => [])) (wc := []) (wr := [(h0, .inr (1, [.int co, .int nn, .int dn, .ref h1, .int pn, .ref h2, .ref h3, .int fo, .ref h4])), (h1, .inl (cA, 400, .inl da)), (h2, .inl (cA, 8, .inl pa)), (h3, .inl (cA, 8, .inl ea)), (h4, .inl (cA, 4096, .inl ro))]) hP hD hS hA [] [0, 1, 2, 3, 4] rfl rfl (by decide) (by decide) (va_runS (As := [.long (Int32.toInt64 p0), .long 1, .long 4194304]) (rest := [.ref h0]) ⟨hx, hb, hml, hown, hts⟩ (c_m_in l dC dI _ F (Int32.toInt64 p0) 1 4194304 r1 hr1) (va_cwS 3 hts gX1_take_X1_in rfl rfl rfl (by decide +kernel) ⟨Nat.le_of_ble_eq_true rfl, Nat.le_of_ble_eq_true rfl⟩) ⟨rf_blind, fun U hU hW => ⟨rfl, rf_pre (hP.sub (ws' := []) [] rfl) (hK.sub (tys' := []) [] rfl) (hD.sub (ws' := []) [] (by decide) rfl) U hU hW⟩⟩ rfl rfl hl.1 rfl (lv_room (Nat.le_of_ble_eq_true rfl)) dX1_take_7 ⟨Nat.zero_le _, Nat.zero_le _⟩) (fun r1' u H locs hw hP hD hS => ?_)
  subst hw
  have hP : va_P (dC, dI) vwCl [(h0, .inr (1, [.int co, .int nn, .int dn, .ref h1, .int pn, .ref h2, .ref h3, .int fo, .ref h4])), (h1, .inl (cA, 400, .inl da)), (h2, .inl (cA, 8, .inl pa)), (h3, .inl (cA, 8, .inl ea)), (h4, .inl (cA, 4096, .inl ro))] H := hP
  have hD : va_D A [(h0, .inr (1, [.int co, .int nn, .int dn, .ref h1, .int pn, .ref h2, .ref h3, .int fo, .ref h4])), (h1, .inl (cA, 400, .inl da)), (h2, .inl (cA, 8, .inl pa)), (h3, .inl (cA, 8, .inl ea)), (h4, .inl (cA, 4096, .inl ro))] := hD
  refine lv_if_eq (tgt := 17) hx hb dX1_take_10 (by decide) (fun c2 => ?_) (fun c2 => ?_)
  · rw [if_pos c2] at h
    refine lv_iconst (v := 1) hx hb dX1_take_17 (by decide) ?_
    refine va_put (D := (dC, dI)) (ci := 1) (v := .int 1) (ty := .int) (C := RX1) (T := TX1) (N := 9) hx hb hts (fun _ h => List.mem_cons_of_mem _ (List.mem_append_right _ h)) tyX1 tyX1_ok nX1 hown hK hP hD hS 0 rfl rfl 0 (by decide) (hts _ (List.mem_of_getElem? (i := 6) rfl)) (fun _ h9 => h9) rfl (by decide +kernel) rfl rfl (Nat.le_of_ble_eq_true rfl) dX1_take_18 (fun H locs hP hD hS => ?_)
    have hP : va_P (dC, dI) vwCl [(h0, .inr (1, [.int 1, .int nn, .int dn, .ref h1, .int pn, .ref h2, .ref h3, .int fo, .ref h4])), (h1, .inl (cA, 400, .inl da)), (h2, .inl (cA, 8, .inl pa)), (h3, .inl (cA, 8, .inl ea)), (h4, .inl (cA, 4096, .inl ro))] H := hP
    have hD : va_D A [(h0, .inr (1, [.int 1, .int nn, .int dn, .ref h1, .int pn, .ref h2, .ref h3, .int fo, .ref h4])), (h1, .inl (cA, 400, .inl da)), (h2, .inl (cA, 8, .inl pa)), (h3, .inl (cA, 8, .inl ea)), (h4, .inl (cA, 4096, .inl ro))] := hD
    refine lv_aload_n hx hb dX1_take_21 rfl (lv_at hl 0 rfl) ?_
    refine va_get (D := (dC, dI)) (ci := 1) (v := .int 1) (C := RX1) (T := TX1) (N := 9) hx hb hts (fun _ h => List.mem_cons_of_mem _ (List.mem_append_right _ h)) hown hK hP 0 rfl rfl 0 (by decide) (hts _ (List.mem_of_getElem? (i := 6) rfl)) (fun _ h9 => h9) rfl dX1_take_22 ?_
    refine lv_if_le (tgt := 30) hx hb dX1_take_25 (by decide) (fun c3 => ?_) (fun c3 => ?_)
    · exact absurd c3 (by decide)
    · skip
      refine lv_iconst (v := 0) hx hb dX1_take_28 (by decide) ?_
      cases h
      exact W.iret hx hb hr (fun t ht hW => ⟨⟨_, (), rfl, rfl, by rw [ht]; exact hP, hD⟩, hS.F ht⟩) hS.2.2 dX1_take_29
  · rw [if_neg c2] at h
    refine lv_iconst (v := 0) hx hb dX1_take_13 (by decide) ?_
    refine lv_goto (tgt := 18) hx hb dX1_take_14 (by decide) ?_
    refine va_put (D := (dC, dI)) (ci := 1) (v := .int 0) (ty := .int) (C := RX1) (T := TX1) (N := 9) hx hb hts (fun _ h => List.mem_cons_of_mem _ (List.mem_append_right _ h)) tyX1 tyX1_ok nX1 hown hK hP hD hS 0 rfl rfl 0 (by decide) (hts _ (List.mem_of_getElem? (i := 6) rfl)) (fun _ h9 => h9) rfl (by decide +kernel) rfl rfl (Nat.le_of_ble_eq_true rfl) dX1_take_18 (fun H locs hP hD hS => ?_)
    have hP : va_P (dC, dI) vwCl [(h0, .inr (1, [.int 0, .int nn, .int dn, .ref h1, .int pn, .ref h2, .ref h3, .int fo, .ref h4])), (h1, .inl (cA, 400, .inl da)), (h2, .inl (cA, 8, .inl pa)), (h3, .inl (cA, 8, .inl ea)), (h4, .inl (cA, 4096, .inl ro))] H := hP
    have hD : va_D A [(h0, .inr (1, [.int 0, .int nn, .int dn, .ref h1, .int pn, .ref h2, .ref h3, .int fo, .ref h4])), (h1, .inl (cA, 400, .inl da)), (h2, .inl (cA, 8, .inl pa)), (h3, .inl (cA, 8, .inl ea)), (h4, .inl (cA, 4096, .inl ro))] := hD
    refine lv_aload_n hx hb dX1_take_21 rfl (lv_at hl 0 rfl) ?_
    refine va_get (D := (dC, dI)) (ci := 1) (v := .int 0) (C := RX1) (T := TX1) (N := 9) hx hb hts (fun _ h => List.mem_cons_of_mem _ (List.mem_append_right _ h)) hown hK hP 0 rfl rfl 0 (by decide) (hts _ (List.mem_of_getElem? (i := 6) rfl)) (fun _ h9 => h9) rfl dX1_take_22 ?_
    refine lv_if_le (tgt := 30) hx hb dX1_take_25 (by decide) (fun c4 => ?_) (fun c4 => ?_)
    · skip
      refine lv_aload_n hx hb dX1_take_30 rfl (lv_at hl 0 rfl) ?_
      refine lv_iload_n hx hb dX1_take_31 rfl (lv_at hl 1 rfl) ?_
      refine va_put (D := (dC, dI)) (ci := 1) (v := .int p0) (ty := .int) (C := RX1) (T := TX1) (N := 9) hx hb hts (fun _ h => List.mem_cons_of_mem _ (List.mem_append_right _ h)) tyX1 tyX1_ok nX1 hown hK hP hD hS 0 rfl rfl 1 (by decide) (hts _ (List.mem_of_getElem? (i := 7) rfl)) (fun _ h9 => h9) rfl (by decide +kernel) rfl rfl (Nat.le_of_ble_eq_true rfl) dX1_take_32 (fun H locs hP hD hS => ?_)
      have hP : va_P (dC, dI) vwCl [(h0, .inr (1, [.int 0, .int p0, .int dn, .ref h1, .int pn, .ref h2, .ref h3, .int fo, .ref h4])), (h1, .inl (cA, 400, .inl da)), (h2, .inl (cA, 8, .inl pa)), (h3, .inl (cA, 8, .inl ea)), (h4, .inl (cA, 4096, .inl ro))] H := hP
      have hD : va_D A [(h0, .inr (1, [.int 0, .int p0, .int dn, .ref h1, .int pn, .ref h2, .ref h3, .int fo, .ref h4])), (h1, .inl (cA, 400, .inl da)), (h2, .inl (cA, 8, .inl pa)), (h3, .inl (cA, 8, .inl ea)), (h4, .inl (cA, 4096, .inl ro))] := hD
      refine lv_aload_n hx hb dX1_take_35 rfl (lv_at hl 0 rfl) ?_
      refine lv_iconst (v := 0) hx hb dX1_take_36 (by decide) ?_
      refine va_put (D := (dC, dI)) (ci := 1) (v := .int 0) (ty := .int) (C := RX1) (T := TX1) (N := 9) hx hb hts (fun _ h => List.mem_cons_of_mem _ (List.mem_append_right _ h)) tyX1 tyX1_ok nX1 hown hK hP hD hS 0 rfl rfl 7 (by decide) (hts _ (List.mem_of_getElem? (i := 8) rfl)) (fun _ h9 => h9) rfl (by decide +kernel) rfl rfl (Nat.le_of_ble_eq_true rfl) dX1_take_37 (fun H locs hP hD hS => ?_)
      have hP : va_P (dC, dI) vwCl [(h0, .inr (1, [.int 0, .int p0, .int dn, .ref h1, .int pn, .ref h2, .ref h3, .int 0, .ref h4])), (h1, .inl (cA, 400, .inl da)), (h2, .inl (cA, 8, .inl pa)), (h3, .inl (cA, 8, .inl ea)), (h4, .inl (cA, 4096, .inl ro))] H := hP
      have hD : va_D A [(h0, .inr (1, [.int 0, .int p0, .int dn, .ref h1, .int pn, .ref h2, .ref h3, .int 0, .ref h4])), (h1, .inl (cA, 400, .inl da)), (h2, .inl (cA, 8, .inl pa)), (h3, .inl (cA, 8, .inl ea)), (h4, .inl (cA, 4096, .inl ro))] := hD
      refine lv_aload_n hx hb dX1_take_40 rfl (lv_at hl 0 rfl) ?_
      refine lv_iconst (v := 0) hx hb dX1_take_41 (by decide) ?_
      refine va_put (D := (dC, dI)) (ci := 1) (v := .int 0) (ty := .int) (C := RX1) (T := TX1) (N := 9) hx hb hts (fun _ h => List.mem_cons_of_mem _ (List.mem_append_right _ h)) tyX1 tyX1_ok nX1 hown hK hP hD hS 0 rfl rfl 2 (by decide) (hts _ (List.mem_of_getElem? (i := 9) rfl)) (fun _ h9 => h9) rfl (by decide +kernel) rfl rfl (Nat.le_of_ble_eq_true rfl) dX1_take_42 (fun H locs hP hD hS => ?_)
      have hP : va_P (dC, dI) vwCl [(h0, .inr (1, [.int 0, .int p0, .int 0, .ref h1, .int pn, .ref h2, .ref h3, .int 0, .ref h4])), (h1, .inl (cA, 400, .inl da)), (h2, .inl (cA, 8, .inl pa)), (h3, .inl (cA, 8, .inl ea)), (h4, .inl (cA, 4096, .inl ro))] H := hP
      have hD : va_D A [(h0, .inr (1, [.int 0, .int p0, .int 0, .ref h1, .int pn, .ref h2, .ref h3, .int 0, .ref h4])), (h1, .inl (cA, 400, .inl da)), (h2, .inl (cA, 8, .inl pa)), (h3, .inl (cA, 8, .inl ea)), (h4, .inl (cA, 4096, .inl ro))] := hD
      refine lv_iconst (v := 1) hx hb dX1_take_45 (by decide) ?_
      refine lv_istore_n (lv' := [(2, .int 1), (0, .ref h0), (1, .int p0)]) hx hb dX1_take_46 rfl hl (by decide) rfl (fun ls hl => ?_)
      obtain ⟨dn_5, da_5, hr5, h⟩ := rf_b2 h
      refine w_m_take_47 F hx hb hml hown hts hA h0 h1 h2 h3 h4 cA hK 0 p0 pn 0 pa ea ro F 1 0 da dn_5 da_5 hr5 _ _ hP hD hS _ (lv_sub hl [1, 0] rfl) (fun H locs ls hP hD hS hl => ?_)
      refine lv_aload_n hx hb dX1_take_93 rfl (lv_at hl 0 rfl) ?_
      refine lv_iconst (v := 0) hx hb dX1_take_94 (by decide) ?_
      refine va_put (D := (dC, dI)) (ci := 1) (v := .int 0) (ty := .int) (C := RX1) (T := TX1) (N := 9) hx hb hts (fun _ h => List.mem_cons_of_mem _ (List.mem_append_right _ h)) tyX1 tyX1_ok nX1 hown hK hP hD hS 0 rfl rfl 4 (by decide) (hts _ (List.mem_of_getElem? (i := 11) rfl)) (fun _ h9 => h9) rfl (by decide +kernel) rfl rfl (Nat.le_of_ble_eq_true rfl) dX1_take_95 (fun H locs hP hD hS => ?_)
      have hP : va_P (dC, dI) vwCl [(h0, .inr (1, [.int 0, .int p0, .int dn_5, .ref h1, .int 0, .ref h2, .ref h3, .int 0, .ref h4])), (h1, .inl (cA, 400, .inl da_5)), (h2, .inl (cA, 8, .inl pa)), (h3, .inl (cA, 8, .inl ea)), (h4, .inl (cA, 4096, .inl ro))] H := hP
      have hD : va_D A [(h0, .inr (1, [.int 0, .int p0, .int dn_5, .ref h1, .int 0, .ref h2, .ref h3, .int 0, .ref h4])), (h1, .inl (cA, 400, .inl da_5)), (h2, .inl (cA, 8, .inl pa)), (h3, .inl (cA, 8, .inl ea)), (h4, .inl (cA, 4096, .inl ro))] := hD
      refine lv_iconst (v := 0) hx hb dX1_take_98 (by decide) ?_
      refine lv_istore_n (lv' := [(2, .int 0), (0, .ref h0)]) hx hb dX1_take_99 rfl hl (by decide) rfl (fun ls hl => ?_)
      obtain ⟨pn_6, pa_6, ea_6, hr6, h⟩ := rf_b3 h
      refine w_m_take_100 F hx hb hml hown hts hA h0 h1 h2 h3 h4 cA hK 0 p0 dn_5 0 da_5 ro F 0 0 pa ea pn_6 pa_6 ea_6 hr6 _ _ hP hD hS _ (lv_sub hl [1, 0] rfl) (fun H locs ls hP hD hS hl => ?_)
      refine lv_aload_n hx hb dX1_take_206 rfl (lv_at hl 0 rfl) ?_
      refine va_get (D := (dC, dI)) (ci := 1) (v := .int pn_6) (C := RX1) (T := TX1) (N := 9) hx hb hts (fun _ h => List.mem_cons_of_mem _ (List.mem_append_right _ h)) hown hK hP 0 rfl rfl 4 (by decide) (hts _ (List.mem_of_getElem? (i := 11) rfl)) (fun _ h9 => h9) rfl dX1_take_207 ?_
      cases h
      exact W.iret hx hb hr (fun t ht hW => ⟨⟨_, (), rfl, rfl, by rw [ht]; exact hP, hD⟩, hS.F ht⟩) hS.2.2 dX1_take_210
    · exact absurd c4 (by decide)
def f_m_prime (F : Nat) (co pn : Int32) (pa : Nat → Int32) (p0 : Int32) : Option (Int32 × Int32) := b1 (f_m_in F (Int32.toInt64 p0) 0 (Int32.toInt64 (pn - 1))) fun r1 => if r1 = 0 then some (0, 1) else if p0.toInt < 0 ∨ (8 : Int) ≤ p0.toInt then none else some ((pa p0.toNatClampNeg), 0)
set_option maxHeartbeats 4000000 in
set_option maxRecDepth 100000 in
theorem c_m_prime (l : Launch) (dC : Nat → ClassId) (dI : Nat → Nat → Nat) (sz F : Nat) (h0 h1 h2 h3 h4 : Nat) (cA : ClassId) (co nn dn pn fo : Int32) (da pa ea ro : Nat → Int32) (p0 rv co' : Int32) (h : f_m_prime F co pn pa p0 = some (rv, co')) : Met l yX1_prime wsX1_prime { frames := 1, cells := 0, slots := 0, locals := 25 } (rf_Pc (dC, dI) [(cA, .int)] [(h0, .inr (1, [.int co, .int nn, .int dn, .ref h1, .int pn, .ref h2, .ref h3, .int fo, .ref h4])), (h1, .inl (cA, 400, .inl da)), (h2, .inl (cA, 8, .inl pa)), (h3, .inl (cA, 8, .inl ea)), (h4, .inl (cA, 4096, .inl ro))] sz [.ref h0, .int p0]) (va_Qi (fun (r : Int32) (_ : Unit) => rv = r) (fun (_ : Unit) t => va_P (dC, dI) vwCl [(h0, .inr (1, [.int co', .int nn, .int dn, .ref h1, .int pn, .ref h2, .ref h3, .int fo, .ref h4])), (h1, .inl (cA, 400, .inl da)), (h2, .inl (cA, 8, .inl pa)), (h3, .inl (cA, 8, .inl ea)), (h4, .inl (cA, 4096, .inl ro))] t.heap ∧ va_D (va_A [(h0, .inr (1, [.int co, .int nn, .int dn, .ref h1, .int pn, .ref h2, .ref h3, .int fo, .ref h4])), (h1, .inl (cA, 400, .inl da)), (h2, .inl (cA, 8, .inl pa)), (h3, .inl (cA, 8, .inl ea)), (h4, .inl (cA, 4096, .inl ro))] sz) [(h0, .inr (1, [.int co', .int nn, .int dn, .ref h1, .int pn, .ref h2, .ref h3, .int fo, .ref h4])), (h1, .inl (cA, 400, .inl da)), (h2, .inl (cA, 8, .inl pa)), (h3, .inl (cA, 8, .inl ea)), (h4, .inl (cA, 4096, .inl ro))]) (va_A [(h0, .inr (1, [.int co, .int nn, .int dn, .ref h1, .int pn, .ref h2, .ref h3, .int fo, .ref h4])), (h1, .inl (cA, 400, .inl da)), (h2, .inl (cA, 8, .inl pa)), (h3, .inl (cA, 8, .inl ea)), (h4, .inl (cA, 4096, .inl ro))] sz)) 0 0 (va_A [(h0, .inr (1, [.int co, .int nn, .int dn, .ref h1, .int pn, .ref h2, .ref h3, .int fo, .ref h4])), (h1, .inl (cA, 400, .inl da)), (h2, .inl (cA, 8, .inl pa)), (h3, .inl (cA, 8, .inl ea)), (h4, .inl (cA, 4096, .inl ro))] sz) := by
  refine Met.ofW (cc := cX1_prime) (maxL := 2) (ret := (some .int)) (by decide) rfl ?_
  intro p e s m args below meth c s₁ B hml hv
  obtain ⟨rfl, hsz, hP, hK, hD0⟩ := hv
  have hx := B.exec
  have hb := B.bytes
  have hr := B.returns
  have hts := atoms_spec (ws := wsX1_prime) B.pre
  have hown : s.vm.findClass RX1 = some m.cls := findClass_of_methodNamed B.named
  have hlocks := B.notSynchronized
  subst hsz
  have hD := hD0.self (sz := s.heap.size)
  generalize hAe : va_A [(h0, .inr (1, [.int co, .int nn, .int dn, .ref h1, .int pn, .ref h2, .ref h3, .int fo, .ref h4])), (h1, .inl (cA, 400, .inl da)), (h2, .inl (cA, 8, .inl pa)), (h3, .inl (cA, 8, .inl ea)), (h4, .inl (cA, 4096, .inl ro))] s.heap.size = A at hD ⊢
  have hA : ∀ q : Nat, s.heap.size ≤ q → A q := fun q h => by rw [← hAe]; exact Or.inr h
  have hS : va_S A s.heap s.heap [] := va_S.rf
  have hl := lv_entry ([.ref h0, .int p0]) (n := 2) (Nat.le_of_ble_eq_true rfl)
  rw [lg_entry_eq]
  generalize (lg_sl ([.ref h0, .int p0]) ++ List.replicate (2 - (lg_sl ([.ref h0, .int p0])).length) Slot.unset).toArray = ls at hl ⊢
  have hl : lv_has ls 2 [(0, .ref h0), (1, .int p0)] := hl
  unfold f_m_prime at h
  refine lv_aload_n hx hb dX1_prime_0 rfl (lv_at hl 0 rfl) ?_
  refine lv_iload_n hx hb dX1_prime_1 rfl (lv_at hl 1 rfl) ?_
  refine lv_i2l (v := (Int32.toInt64 p0)) hx hb dX1_prime_2 rfl ?_
  refine lv_lconst (v := 0) hx hb dX1_prime_3 (by decide) ?_
  refine lv_aload_n hx hb dX1_prime_4 rfl (lv_at hl 0 rfl) ?_
  refine va_get (D := (dC, dI)) (ci := 1) (v := .int pn) (C := RX1) (T := TX1) (N := 9) hx hb hts (fun _ h => List.mem_cons_of_mem _ (List.mem_append_right _ h)) hown hK hP 0 rfl rfl 4 (by decide) (hts _ (List.mem_of_getElem? (i := 1) rfl)) (fun _ h9 => h9) rfl dX1_prime_5 ?_
  refine lv_iconst (v := 1) hx hb dX1_prime_8 (by decide) ?_
  refine lv_isub hx hb dX1_prime_9 ?_
  refine lv_i2l (v := (Int32.toInt64 (pn - 1))) hx hb dX1_prime_10 rfl ?_
  obtain ⟨r1, hr1, h⟩ := rf_b1 h
  refine rf_ci (wn := (fun _ : Unit => [])) (wc := []) (wr := [(h0, .inr (1, [.int co, .int nn, .int dn, .ref h1, .int pn, .ref h2, .ref h3, .int fo, .ref h4])), (h1, .inl (cA, 400, .inl da)), (h2, .inl (cA, 8, .inl pa)), (h3, .inl (cA, 8, .inl ea)), (h4, .inl (cA, 4096, .inl ro))]) hP hD hS hA [] [0, 1, 2, 3, 4] rfl rfl (by decide) (by decide) (va_runS (As := [.long (Int32.toInt64 p0), .long 0, .long (Int32.toInt64 (pn - 1))]) (rest := [.ref h0]) ⟨hx, hb, hml, hown, hts⟩ (c_m_in l dC dI _ F (Int32.toInt64 p0) 0 (Int32.toInt64 (pn - 1)) r1 hr1) (va_cwS 3 hts gX1_prime_X1_in rfl rfl rfl (by decide +kernel) ⟨Nat.le_of_ble_eq_true rfl, Nat.le_of_ble_eq_true rfl⟩) ⟨rf_blind, fun U hU hW => ⟨rfl, rf_pre (hP.sub (ws' := []) [] rfl) (hK.sub (tys' := []) [] rfl) (hD.sub (ws' := []) [] (by decide) rfl) U hU hW⟩⟩ rfl rfl hl.1 rfl (lv_room (Nat.le_of_ble_eq_true rfl)) dX1_prime_11 ⟨Nat.zero_le _, Nat.zero_le _⟩) (fun r1' u H locs hw hP hD hS => ?_)
  subst hw
  have hP : va_P (dC, dI) vwCl [(h0, .inr (1, [.int co, .int nn, .int dn, .ref h1, .int pn, .ref h2, .ref h3, .int fo, .ref h4])), (h1, .inl (cA, 400, .inl da)), (h2, .inl (cA, 8, .inl pa)), (h3, .inl (cA, 8, .inl ea)), (h4, .inl (cA, 4096, .inl ro))] H := hP
  have hD : va_D A [(h0, .inr (1, [.int co, .int nn, .int dn, .ref h1, .int pn, .ref h2, .ref h3, .int fo, .ref h4])), (h1, .inl (cA, 400, .inl da)), (h2, .inl (cA, 8, .inl pa)), (h3, .inl (cA, 8, .inl ea)), (h4, .inl (cA, 4096, .inl ro))] := hD
  refine lv_if_eq (tgt := 21) hx hb dX1_prime_14 (by decide) (fun c2 => ?_) (fun c2 => ?_)
  · rw [if_pos c2] at h
    refine lv_iconst (v := 1) hx hb dX1_prime_21 (by decide) ?_
    refine va_put (D := (dC, dI)) (ci := 1) (v := .int 1) (ty := .int) (C := RX1) (T := TX1) (N := 9) hx hb hts (fun _ h => List.mem_cons_of_mem _ (List.mem_append_right _ h)) tyX1 tyX1_ok nX1 hown hK hP hD hS 0 rfl rfl 0 (by decide) (hts _ (List.mem_of_getElem? (i := 6) rfl)) (fun _ h9 => h9) rfl (by decide +kernel) rfl rfl (Nat.le_of_ble_eq_true rfl) dX1_prime_22 (fun H locs hP hD hS => ?_)
    have hP : va_P (dC, dI) vwCl [(h0, .inr (1, [.int 1, .int nn, .int dn, .ref h1, .int pn, .ref h2, .ref h3, .int fo, .ref h4])), (h1, .inl (cA, 400, .inl da)), (h2, .inl (cA, 8, .inl pa)), (h3, .inl (cA, 8, .inl ea)), (h4, .inl (cA, 4096, .inl ro))] H := hP
    have hD : va_D A [(h0, .inr (1, [.int 1, .int nn, .int dn, .ref h1, .int pn, .ref h2, .ref h3, .int fo, .ref h4])), (h1, .inl (cA, 400, .inl da)), (h2, .inl (cA, 8, .inl pa)), (h3, .inl (cA, 8, .inl ea)), (h4, .inl (cA, 4096, .inl ro))] := hD
    refine lv_aload_n hx hb dX1_prime_25 rfl (lv_at hl 0 rfl) ?_
    refine va_get (D := (dC, dI)) (ci := 1) (v := .int 1) (C := RX1) (T := TX1) (N := 9) hx hb hts (fun _ h => List.mem_cons_of_mem _ (List.mem_append_right _ h)) hown hK hP 0 rfl rfl 0 (by decide) (hts _ (List.mem_of_getElem? (i := 6) rfl)) (fun _ h9 => h9) rfl dX1_prime_26 ?_
    refine lv_if_le (tgt := 36) hx hb dX1_prime_29 (by decide) (fun c3 => ?_) (fun c3 => ?_)
    · exact absurd c3 (by decide)
    · skip
      refine lv_iconst (v := 0) hx hb dX1_prime_32 (by decide) ?_
      refine lv_goto (tgt := 42) hx hb dX1_prime_33 (by decide) ?_
      cases h
      exact W.iret hx hb hr (fun t ht hW => ⟨⟨_, (), rfl, rfl, by rw [ht]; exact hP, hD⟩, hS.F ht⟩) hS.2.2 dX1_prime_42
  · rw [if_neg c2] at h
    refine lv_iconst (v := 0) hx hb dX1_prime_17 (by decide) ?_
    refine lv_goto (tgt := 22) hx hb dX1_prime_18 (by decide) ?_
    refine va_put (D := (dC, dI)) (ci := 1) (v := .int 0) (ty := .int) (C := RX1) (T := TX1) (N := 9) hx hb hts (fun _ h => List.mem_cons_of_mem _ (List.mem_append_right _ h)) tyX1 tyX1_ok nX1 hown hK hP hD hS 0 rfl rfl 0 (by decide) (hts _ (List.mem_of_getElem? (i := 6) rfl)) (fun _ h9 => h9) rfl (by decide +kernel) rfl rfl (Nat.le_of_ble_eq_true rfl) dX1_prime_22 (fun H locs hP hD hS => ?_)
    have hP : va_P (dC, dI) vwCl [(h0, .inr (1, [.int 0, .int nn, .int dn, .ref h1, .int pn, .ref h2, .ref h3, .int fo, .ref h4])), (h1, .inl (cA, 400, .inl da)), (h2, .inl (cA, 8, .inl pa)), (h3, .inl (cA, 8, .inl ea)), (h4, .inl (cA, 4096, .inl ro))] H := hP
    have hD : va_D A [(h0, .inr (1, [.int 0, .int nn, .int dn, .ref h1, .int pn, .ref h2, .ref h3, .int fo, .ref h4])), (h1, .inl (cA, 400, .inl da)), (h2, .inl (cA, 8, .inl pa)), (h3, .inl (cA, 8, .inl ea)), (h4, .inl (cA, 4096, .inl ro))] := hD
    refine lv_aload_n hx hb dX1_prime_25 rfl (lv_at hl 0 rfl) ?_
    refine va_get (D := (dC, dI)) (ci := 1) (v := .int 0) (C := RX1) (T := TX1) (N := 9) hx hb hts (fun _ h => List.mem_cons_of_mem _ (List.mem_append_right _ h)) hown hK hP 0 rfl rfl 0 (by decide) (hts _ (List.mem_of_getElem? (i := 6) rfl)) (fun _ h9 => h9) rfl dX1_prime_26 ?_
    refine lv_if_le (tgt := 36) hx hb dX1_prime_29 (by decide) (fun c4 => ?_) (fun c4 => ?_)
    · skip
      refine lv_aload_n hx hb dX1_prime_36 rfl (lv_at hl 0 rfl) ?_
      refine va_get (D := (dC, dI)) (ci := 1) (v := .ref h2) (C := RX1) (T := TX1) (N := 9) hx hb hts (fun _ h => List.mem_cons_of_mem _ (List.mem_append_right _ h)) hown hK hP 0 rfl rfl 5 (by decide) (hts _ (List.mem_of_getElem? (i := 7) rfl)) (fun _ h9 => h9) rfl dX1_prime_37 ?_
      refine lv_iload_n hx hb dX1_prime_40 rfl (lv_at hl 1 rfl) ?_
      obtain ⟨g5, h⟩ := rf_gd h
      refine va_iald hx hb hK hP 2 0 rfl rfl (rf_in g5) dX1_prime_41 ?_
      cases h
      exact W.iret hx hb hr (fun t ht hW => ⟨⟨_, (), rfl, rfl, by rw [ht]; exact hP, hD⟩, hS.F ht⟩) hS.2.2 dX1_prime_42
    · exact absurd c4 (by decide)
def f_m_exponent (F : Nat) (co pn : Int32) (ea : Nat → Int32) (p0 : Int32) : Option (Int32 × Int32) := b1 (f_m_in F (Int32.toInt64 p0) 0 (Int32.toInt64 (pn - 1))) fun r1 => if r1 = 0 then some (0, 1) else if p0.toInt < 0 ∨ (8 : Int) ≤ p0.toInt then none else some ((ea p0.toNatClampNeg), 0)
set_option maxHeartbeats 4000000 in
set_option maxRecDepth 100000 in
theorem c_m_exponent (l : Launch) (dC : Nat → ClassId) (dI : Nat → Nat → Nat) (sz F : Nat) (h0 h1 h2 h3 h4 : Nat) (cA : ClassId) (co nn dn pn fo : Int32) (da pa ea ro : Nat → Int32) (p0 rv co' : Int32) (h : f_m_exponent F co pn ea p0 = some (rv, co')) : Met l yX1_exponent wsX1_exponent { frames := 1, cells := 0, slots := 0, locals := 25 } (rf_Pc (dC, dI) [(cA, .int)] [(h0, .inr (1, [.int co, .int nn, .int dn, .ref h1, .int pn, .ref h2, .ref h3, .int fo, .ref h4])), (h1, .inl (cA, 400, .inl da)), (h2, .inl (cA, 8, .inl pa)), (h3, .inl (cA, 8, .inl ea)), (h4, .inl (cA, 4096, .inl ro))] sz [.ref h0, .int p0]) (va_Qi (fun (r : Int32) (_ : Unit) => rv = r) (fun (_ : Unit) t => va_P (dC, dI) vwCl [(h0, .inr (1, [.int co', .int nn, .int dn, .ref h1, .int pn, .ref h2, .ref h3, .int fo, .ref h4])), (h1, .inl (cA, 400, .inl da)), (h2, .inl (cA, 8, .inl pa)), (h3, .inl (cA, 8, .inl ea)), (h4, .inl (cA, 4096, .inl ro))] t.heap ∧ va_D (va_A [(h0, .inr (1, [.int co, .int nn, .int dn, .ref h1, .int pn, .ref h2, .ref h3, .int fo, .ref h4])), (h1, .inl (cA, 400, .inl da)), (h2, .inl (cA, 8, .inl pa)), (h3, .inl (cA, 8, .inl ea)), (h4, .inl (cA, 4096, .inl ro))] sz) [(h0, .inr (1, [.int co', .int nn, .int dn, .ref h1, .int pn, .ref h2, .ref h3, .int fo, .ref h4])), (h1, .inl (cA, 400, .inl da)), (h2, .inl (cA, 8, .inl pa)), (h3, .inl (cA, 8, .inl ea)), (h4, .inl (cA, 4096, .inl ro))]) (va_A [(h0, .inr (1, [.int co, .int nn, .int dn, .ref h1, .int pn, .ref h2, .ref h3, .int fo, .ref h4])), (h1, .inl (cA, 400, .inl da)), (h2, .inl (cA, 8, .inl pa)), (h3, .inl (cA, 8, .inl ea)), (h4, .inl (cA, 4096, .inl ro))] sz)) 0 0 (va_A [(h0, .inr (1, [.int co, .int nn, .int dn, .ref h1, .int pn, .ref h2, .ref h3, .int fo, .ref h4])), (h1, .inl (cA, 400, .inl da)), (h2, .inl (cA, 8, .inl pa)), (h3, .inl (cA, 8, .inl ea)), (h4, .inl (cA, 4096, .inl ro))] sz) := by
  refine Met.ofW (cc := cX1_exponent) (maxL := 2) (ret := (some .int)) (by decide) rfl ?_
  intro p e s m args below meth c s₁ B hml hv
  obtain ⟨rfl, hsz, hP, hK, hD0⟩ := hv
  have hx := B.exec
  have hb := B.bytes
  have hr := B.returns
  have hts := atoms_spec (ws := wsX1_exponent) B.pre
  have hown : s.vm.findClass RX1 = some m.cls := findClass_of_methodNamed B.named
  have hlocks := B.notSynchronized
  subst hsz
  have hD := hD0.self (sz := s.heap.size)
  generalize hAe : va_A [(h0, .inr (1, [.int co, .int nn, .int dn, .ref h1, .int pn, .ref h2, .ref h3, .int fo, .ref h4])), (h1, .inl (cA, 400, .inl da)), (h2, .inl (cA, 8, .inl pa)), (h3, .inl (cA, 8, .inl ea)), (h4, .inl (cA, 4096, .inl ro))] s.heap.size = A at hD ⊢
  have hA : ∀ q : Nat, s.heap.size ≤ q → A q := fun q h => by rw [← hAe]; exact Or.inr h
  have hS : va_S A s.heap s.heap [] := va_S.rf
  have hl := lv_entry ([.ref h0, .int p0]) (n := 2) (Nat.le_of_ble_eq_true rfl)
  rw [lg_entry_eq]
  generalize (lg_sl ([.ref h0, .int p0]) ++ List.replicate (2 - (lg_sl ([.ref h0, .int p0])).length) Slot.unset).toArray = ls at hl ⊢
  have hl : lv_has ls 2 [(0, .ref h0), (1, .int p0)] := hl
  unfold f_m_exponent at h
  refine lv_aload_n hx hb dX1_exponent_0 rfl (lv_at hl 0 rfl) ?_
  refine lv_iload_n hx hb dX1_exponent_1 rfl (lv_at hl 1 rfl) ?_
  refine lv_i2l (v := (Int32.toInt64 p0)) hx hb dX1_exponent_2 rfl ?_
  refine lv_lconst (v := 0) hx hb dX1_exponent_3 (by decide) ?_
  refine lv_aload_n hx hb dX1_exponent_4 rfl (lv_at hl 0 rfl) ?_
  refine va_get (D := (dC, dI)) (ci := 1) (v := .int pn) (C := RX1) (T := TX1) (N := 9) hx hb hts (fun _ h => List.mem_cons_of_mem _ (List.mem_append_right _ h)) hown hK hP 0 rfl rfl 4 (by decide) (hts _ (List.mem_of_getElem? (i := 1) rfl)) (fun _ h9 => h9) rfl dX1_exponent_5 ?_
  refine lv_iconst (v := 1) hx hb dX1_exponent_8 (by decide) ?_
  refine lv_isub hx hb dX1_exponent_9 ?_
  refine lv_i2l (v := (Int32.toInt64 (pn - 1))) hx hb dX1_exponent_10 rfl ?_
  obtain ⟨r1, hr1, h⟩ := rf_b1 h
  refine rf_ci (wn := (fun _ : Unit => [])) (wc := []) (wr := [(h0, .inr (1, [.int co, .int nn, .int dn, .ref h1, .int pn, .ref h2, .ref h3, .int fo, .ref h4])), (h1, .inl (cA, 400, .inl da)), (h2, .inl (cA, 8, .inl pa)), (h3, .inl (cA, 8, .inl ea)), (h4, .inl (cA, 4096, .inl ro))]) hP hD hS hA [] [0, 1, 2, 3, 4] rfl rfl (by decide) (by decide) (va_runS (As := [.long (Int32.toInt64 p0), .long 0, .long (Int32.toInt64 (pn - 1))]) (rest := [.ref h0]) ⟨hx, hb, hml, hown, hts⟩ (c_m_in l dC dI _ F (Int32.toInt64 p0) 0 (Int32.toInt64 (pn - 1)) r1 hr1) (va_cwS 3 hts gX1_exponent_X1_in rfl rfl rfl (by decide +kernel) ⟨Nat.le_of_ble_eq_true rfl, Nat.le_of_ble_eq_true rfl⟩) ⟨rf_blind, fun U hU hW => ⟨rfl, rf_pre (hP.sub (ws' := []) [] rfl) (hK.sub (tys' := []) [] rfl) (hD.sub (ws' := []) [] (by decide) rfl) U hU hW⟩⟩ rfl rfl hl.1 rfl (lv_room (Nat.le_of_ble_eq_true rfl)) dX1_exponent_11 ⟨Nat.zero_le _, Nat.zero_le _⟩) (fun r1' u H locs hw hP hD hS => ?_)
  subst hw
  have hP : va_P (dC, dI) vwCl [(h0, .inr (1, [.int co, .int nn, .int dn, .ref h1, .int pn, .ref h2, .ref h3, .int fo, .ref h4])), (h1, .inl (cA, 400, .inl da)), (h2, .inl (cA, 8, .inl pa)), (h3, .inl (cA, 8, .inl ea)), (h4, .inl (cA, 4096, .inl ro))] H := hP
  have hD : va_D A [(h0, .inr (1, [.int co, .int nn, .int dn, .ref h1, .int pn, .ref h2, .ref h3, .int fo, .ref h4])), (h1, .inl (cA, 400, .inl da)), (h2, .inl (cA, 8, .inl pa)), (h3, .inl (cA, 8, .inl ea)), (h4, .inl (cA, 4096, .inl ro))] := hD
  refine lv_if_eq (tgt := 21) hx hb dX1_exponent_14 (by decide) (fun c2 => ?_) (fun c2 => ?_)
  · rw [if_pos c2] at h
    refine lv_iconst (v := 1) hx hb dX1_exponent_21 (by decide) ?_
    refine va_put (D := (dC, dI)) (ci := 1) (v := .int 1) (ty := .int) (C := RX1) (T := TX1) (N := 9) hx hb hts (fun _ h => List.mem_cons_of_mem _ (List.mem_append_right _ h)) tyX1 tyX1_ok nX1 hown hK hP hD hS 0 rfl rfl 0 (by decide) (hts _ (List.mem_of_getElem? (i := 6) rfl)) (fun _ h9 => h9) rfl (by decide +kernel) rfl rfl (Nat.le_of_ble_eq_true rfl) dX1_exponent_22 (fun H locs hP hD hS => ?_)
    have hP : va_P (dC, dI) vwCl [(h0, .inr (1, [.int 1, .int nn, .int dn, .ref h1, .int pn, .ref h2, .ref h3, .int fo, .ref h4])), (h1, .inl (cA, 400, .inl da)), (h2, .inl (cA, 8, .inl pa)), (h3, .inl (cA, 8, .inl ea)), (h4, .inl (cA, 4096, .inl ro))] H := hP
    have hD : va_D A [(h0, .inr (1, [.int 1, .int nn, .int dn, .ref h1, .int pn, .ref h2, .ref h3, .int fo, .ref h4])), (h1, .inl (cA, 400, .inl da)), (h2, .inl (cA, 8, .inl pa)), (h3, .inl (cA, 8, .inl ea)), (h4, .inl (cA, 4096, .inl ro))] := hD
    refine lv_aload_n hx hb dX1_exponent_25 rfl (lv_at hl 0 rfl) ?_
    refine va_get (D := (dC, dI)) (ci := 1) (v := .int 1) (C := RX1) (T := TX1) (N := 9) hx hb hts (fun _ h => List.mem_cons_of_mem _ (List.mem_append_right _ h)) hown hK hP 0 rfl rfl 0 (by decide) (hts _ (List.mem_of_getElem? (i := 6) rfl)) (fun _ h9 => h9) rfl dX1_exponent_26 ?_
    refine lv_if_le (tgt := 36) hx hb dX1_exponent_29 (by decide) (fun c3 => ?_) (fun c3 => ?_)
    · exact absurd c3 (by decide)
    · skip
      refine lv_iconst (v := 0) hx hb dX1_exponent_32 (by decide) ?_
      refine lv_goto (tgt := 42) hx hb dX1_exponent_33 (by decide) ?_
      cases h
      exact W.iret hx hb hr (fun t ht hW => ⟨⟨_, (), rfl, rfl, by rw [ht]; exact hP, hD⟩, hS.F ht⟩) hS.2.2 dX1_exponent_42
  · rw [if_neg c2] at h
    refine lv_iconst (v := 0) hx hb dX1_exponent_17 (by decide) ?_
    refine lv_goto (tgt := 22) hx hb dX1_exponent_18 (by decide) ?_
    refine va_put (D := (dC, dI)) (ci := 1) (v := .int 0) (ty := .int) (C := RX1) (T := TX1) (N := 9) hx hb hts (fun _ h => List.mem_cons_of_mem _ (List.mem_append_right _ h)) tyX1 tyX1_ok nX1 hown hK hP hD hS 0 rfl rfl 0 (by decide) (hts _ (List.mem_of_getElem? (i := 6) rfl)) (fun _ h9 => h9) rfl (by decide +kernel) rfl rfl (Nat.le_of_ble_eq_true rfl) dX1_exponent_22 (fun H locs hP hD hS => ?_)
    have hP : va_P (dC, dI) vwCl [(h0, .inr (1, [.int 0, .int nn, .int dn, .ref h1, .int pn, .ref h2, .ref h3, .int fo, .ref h4])), (h1, .inl (cA, 400, .inl da)), (h2, .inl (cA, 8, .inl pa)), (h3, .inl (cA, 8, .inl ea)), (h4, .inl (cA, 4096, .inl ro))] H := hP
    have hD : va_D A [(h0, .inr (1, [.int 0, .int nn, .int dn, .ref h1, .int pn, .ref h2, .ref h3, .int fo, .ref h4])), (h1, .inl (cA, 400, .inl da)), (h2, .inl (cA, 8, .inl pa)), (h3, .inl (cA, 8, .inl ea)), (h4, .inl (cA, 4096, .inl ro))] := hD
    refine lv_aload_n hx hb dX1_exponent_25 rfl (lv_at hl 0 rfl) ?_
    refine va_get (D := (dC, dI)) (ci := 1) (v := .int 0) (C := RX1) (T := TX1) (N := 9) hx hb hts (fun _ h => List.mem_cons_of_mem _ (List.mem_append_right _ h)) hown hK hP 0 rfl rfl 0 (by decide) (hts _ (List.mem_of_getElem? (i := 6) rfl)) (fun _ h9 => h9) rfl dX1_exponent_26 ?_
    refine lv_if_le (tgt := 36) hx hb dX1_exponent_29 (by decide) (fun c4 => ?_) (fun c4 => ?_)
    · skip
      refine lv_aload_n hx hb dX1_exponent_36 rfl (lv_at hl 0 rfl) ?_
      refine va_get (D := (dC, dI)) (ci := 1) (v := .ref h3) (C := RX1) (T := TX1) (N := 9) hx hb hts (fun _ h => List.mem_cons_of_mem _ (List.mem_append_right _ h)) hown hK hP 0 rfl rfl 6 (by decide) (hts _ (List.mem_of_getElem? (i := 7) rfl)) (fun _ h9 => h9) rfl dX1_exponent_37 ?_
      refine lv_iload_n hx hb dX1_exponent_40 rfl (lv_at hl 1 rfl) ?_
      obtain ⟨g5, h⟩ := rf_gd h
      refine va_iald hx hb hK hP 3 0 rfl rfl (rf_in g5) dX1_exponent_41 ?_
      cases h
      exact W.iret hx hb hr (fun t ht hW => ⟨⟨_, (), rfl, rfl, by rw [ht]; exact hP, hD⟩, hS.F ht⟩) hS.2.2 dX1_exponent_42
    · exact absurd c4 (by decide)
def f_m_divisor (F : Nat) (co dn : Int32) (da : Nat → Int32) (p0 : Int32) : Option (Int32 × Int32) := b1 (f_m_in F (Int32.toInt64 p0) 0 (Int32.toInt64 (dn - 1))) fun r1 => if r1 = 0 then some (0, 1) else if p0.toInt < 0 ∨ (400 : Int) ≤ p0.toInt then none else some ((da p0.toNatClampNeg), 0)
set_option maxHeartbeats 4000000 in
set_option maxRecDepth 100000 in
theorem c_m_divisor (l : Launch) (dC : Nat → ClassId) (dI : Nat → Nat → Nat) (sz F : Nat) (h0 h1 h2 h3 h4 : Nat) (cA : ClassId) (co nn dn pn fo : Int32) (da pa ea ro : Nat → Int32) (p0 rv co' : Int32) (h : f_m_divisor F co dn da p0 = some (rv, co')) : Met l yX1_divisor wsX1_divisor { frames := 1, cells := 0, slots := 0, locals := 25 } (rf_Pc (dC, dI) [(cA, .int)] [(h0, .inr (1, [.int co, .int nn, .int dn, .ref h1, .int pn, .ref h2, .ref h3, .int fo, .ref h4])), (h1, .inl (cA, 400, .inl da)), (h2, .inl (cA, 8, .inl pa)), (h3, .inl (cA, 8, .inl ea)), (h4, .inl (cA, 4096, .inl ro))] sz [.ref h0, .int p0]) (va_Qi (fun (r : Int32) (_ : Unit) => rv = r) (fun (_ : Unit) t => va_P (dC, dI) vwCl [(h0, .inr (1, [.int co', .int nn, .int dn, .ref h1, .int pn, .ref h2, .ref h3, .int fo, .ref h4])), (h1, .inl (cA, 400, .inl da)), (h2, .inl (cA, 8, .inl pa)), (h3, .inl (cA, 8, .inl ea)), (h4, .inl (cA, 4096, .inl ro))] t.heap ∧ va_D (va_A [(h0, .inr (1, [.int co, .int nn, .int dn, .ref h1, .int pn, .ref h2, .ref h3, .int fo, .ref h4])), (h1, .inl (cA, 400, .inl da)), (h2, .inl (cA, 8, .inl pa)), (h3, .inl (cA, 8, .inl ea)), (h4, .inl (cA, 4096, .inl ro))] sz) [(h0, .inr (1, [.int co', .int nn, .int dn, .ref h1, .int pn, .ref h2, .ref h3, .int fo, .ref h4])), (h1, .inl (cA, 400, .inl da)), (h2, .inl (cA, 8, .inl pa)), (h3, .inl (cA, 8, .inl ea)), (h4, .inl (cA, 4096, .inl ro))]) (va_A [(h0, .inr (1, [.int co, .int nn, .int dn, .ref h1, .int pn, .ref h2, .ref h3, .int fo, .ref h4])), (h1, .inl (cA, 400, .inl da)), (h2, .inl (cA, 8, .inl pa)), (h3, .inl (cA, 8, .inl ea)), (h4, .inl (cA, 4096, .inl ro))] sz)) 0 0 (va_A [(h0, .inr (1, [.int co, .int nn, .int dn, .ref h1, .int pn, .ref h2, .ref h3, .int fo, .ref h4])), (h1, .inl (cA, 400, .inl da)), (h2, .inl (cA, 8, .inl pa)), (h3, .inl (cA, 8, .inl ea)), (h4, .inl (cA, 4096, .inl ro))] sz) := by
  refine Met.ofW (cc := cX1_divisor) (maxL := 2) (ret := (some .int)) (by decide) rfl ?_
  intro p e s m args below meth c s₁ B hml hv
  obtain ⟨rfl, hsz, hP, hK, hD0⟩ := hv
  have hx := B.exec
  have hb := B.bytes
  have hr := B.returns
  have hts := atoms_spec (ws := wsX1_divisor) B.pre
  have hown : s.vm.findClass RX1 = some m.cls := findClass_of_methodNamed B.named
  have hlocks := B.notSynchronized
  subst hsz
  have hD := hD0.self (sz := s.heap.size)
  generalize hAe : va_A [(h0, .inr (1, [.int co, .int nn, .int dn, .ref h1, .int pn, .ref h2, .ref h3, .int fo, .ref h4])), (h1, .inl (cA, 400, .inl da)), (h2, .inl (cA, 8, .inl pa)), (h3, .inl (cA, 8, .inl ea)), (h4, .inl (cA, 4096, .inl ro))] s.heap.size = A at hD ⊢
  have hA : ∀ q : Nat, s.heap.size ≤ q → A q := fun q h => by rw [← hAe]; exact Or.inr h
  have hS : va_S A s.heap s.heap [] := va_S.rf
  have hl := lv_entry ([.ref h0, .int p0]) (n := 2) (Nat.le_of_ble_eq_true rfl)
  rw [lg_entry_eq]
  generalize (lg_sl ([.ref h0, .int p0]) ++ List.replicate (2 - (lg_sl ([.ref h0, .int p0])).length) Slot.unset).toArray = ls at hl ⊢
  have hl : lv_has ls 2 [(0, .ref h0), (1, .int p0)] := hl
  unfold f_m_divisor at h
  refine lv_aload_n hx hb dX1_divisor_0 rfl (lv_at hl 0 rfl) ?_
  refine lv_iload_n hx hb dX1_divisor_1 rfl (lv_at hl 1 rfl) ?_
  refine lv_i2l (v := (Int32.toInt64 p0)) hx hb dX1_divisor_2 rfl ?_
  refine lv_lconst (v := 0) hx hb dX1_divisor_3 (by decide) ?_
  refine lv_aload_n hx hb dX1_divisor_4 rfl (lv_at hl 0 rfl) ?_
  refine va_get (D := (dC, dI)) (ci := 1) (v := .int dn) (C := RX1) (T := TX1) (N := 9) hx hb hts (fun _ h => List.mem_cons_of_mem _ (List.mem_append_right _ h)) hown hK hP 0 rfl rfl 2 (by decide) (hts _ (List.mem_of_getElem? (i := 1) rfl)) (fun _ h9 => h9) rfl dX1_divisor_5 ?_
  refine lv_iconst (v := 1) hx hb dX1_divisor_8 (by decide) ?_
  refine lv_isub hx hb dX1_divisor_9 ?_
  refine lv_i2l (v := (Int32.toInt64 (dn - 1))) hx hb dX1_divisor_10 rfl ?_
  obtain ⟨r1, hr1, h⟩ := rf_b1 h
  refine rf_ci (wn := (fun _ : Unit => [])) (wc := []) (wr := [(h0, .inr (1, [.int co, .int nn, .int dn, .ref h1, .int pn, .ref h2, .ref h3, .int fo, .ref h4])), (h1, .inl (cA, 400, .inl da)), (h2, .inl (cA, 8, .inl pa)), (h3, .inl (cA, 8, .inl ea)), (h4, .inl (cA, 4096, .inl ro))]) hP hD hS hA [] [0, 1, 2, 3, 4] rfl rfl (by decide) (by decide) (va_runS (As := [.long (Int32.toInt64 p0), .long 0, .long (Int32.toInt64 (dn - 1))]) (rest := [.ref h0]) ⟨hx, hb, hml, hown, hts⟩ (c_m_in l dC dI _ F (Int32.toInt64 p0) 0 (Int32.toInt64 (dn - 1)) r1 hr1) (va_cwS 3 hts gX1_divisor_X1_in rfl rfl rfl (by decide +kernel) ⟨Nat.le_of_ble_eq_true rfl, Nat.le_of_ble_eq_true rfl⟩) ⟨rf_blind, fun U hU hW => ⟨rfl, rf_pre (hP.sub (ws' := []) [] rfl) (hK.sub (tys' := []) [] rfl) (hD.sub (ws' := []) [] (by decide) rfl) U hU hW⟩⟩ rfl rfl hl.1 rfl (lv_room (Nat.le_of_ble_eq_true rfl)) dX1_divisor_11 ⟨Nat.zero_le _, Nat.zero_le _⟩) (fun r1' u H locs hw hP hD hS => ?_)
  subst hw
  have hP : va_P (dC, dI) vwCl [(h0, .inr (1, [.int co, .int nn, .int dn, .ref h1, .int pn, .ref h2, .ref h3, .int fo, .ref h4])), (h1, .inl (cA, 400, .inl da)), (h2, .inl (cA, 8, .inl pa)), (h3, .inl (cA, 8, .inl ea)), (h4, .inl (cA, 4096, .inl ro))] H := hP
  have hD : va_D A [(h0, .inr (1, [.int co, .int nn, .int dn, .ref h1, .int pn, .ref h2, .ref h3, .int fo, .ref h4])), (h1, .inl (cA, 400, .inl da)), (h2, .inl (cA, 8, .inl pa)), (h3, .inl (cA, 8, .inl ea)), (h4, .inl (cA, 4096, .inl ro))] := hD
  refine lv_if_eq (tgt := 21) hx hb dX1_divisor_14 (by decide) (fun c2 => ?_) (fun c2 => ?_)
  · rw [if_pos c2] at h
    refine lv_iconst (v := 1) hx hb dX1_divisor_21 (by decide) ?_
    refine va_put (D := (dC, dI)) (ci := 1) (v := .int 1) (ty := .int) (C := RX1) (T := TX1) (N := 9) hx hb hts (fun _ h => List.mem_cons_of_mem _ (List.mem_append_right _ h)) tyX1 tyX1_ok nX1 hown hK hP hD hS 0 rfl rfl 0 (by decide) (hts _ (List.mem_of_getElem? (i := 6) rfl)) (fun _ h9 => h9) rfl (by decide +kernel) rfl rfl (Nat.le_of_ble_eq_true rfl) dX1_divisor_22 (fun H locs hP hD hS => ?_)
    have hP : va_P (dC, dI) vwCl [(h0, .inr (1, [.int 1, .int nn, .int dn, .ref h1, .int pn, .ref h2, .ref h3, .int fo, .ref h4])), (h1, .inl (cA, 400, .inl da)), (h2, .inl (cA, 8, .inl pa)), (h3, .inl (cA, 8, .inl ea)), (h4, .inl (cA, 4096, .inl ro))] H := hP
    have hD : va_D A [(h0, .inr (1, [.int 1, .int nn, .int dn, .ref h1, .int pn, .ref h2, .ref h3, .int fo, .ref h4])), (h1, .inl (cA, 400, .inl da)), (h2, .inl (cA, 8, .inl pa)), (h3, .inl (cA, 8, .inl ea)), (h4, .inl (cA, 4096, .inl ro))] := hD
    refine lv_aload_n hx hb dX1_divisor_25 rfl (lv_at hl 0 rfl) ?_
    refine va_get (D := (dC, dI)) (ci := 1) (v := .int 1) (C := RX1) (T := TX1) (N := 9) hx hb hts (fun _ h => List.mem_cons_of_mem _ (List.mem_append_right _ h)) hown hK hP 0 rfl rfl 0 (by decide) (hts _ (List.mem_of_getElem? (i := 6) rfl)) (fun _ h9 => h9) rfl dX1_divisor_26 ?_
    refine lv_if_le (tgt := 36) hx hb dX1_divisor_29 (by decide) (fun c3 => ?_) (fun c3 => ?_)
    · exact absurd c3 (by decide)
    · skip
      refine lv_iconst (v := 0) hx hb dX1_divisor_32 (by decide) ?_
      refine lv_goto (tgt := 42) hx hb dX1_divisor_33 (by decide) ?_
      cases h
      exact W.iret hx hb hr (fun t ht hW => ⟨⟨_, (), rfl, rfl, by rw [ht]; exact hP, hD⟩, hS.F ht⟩) hS.2.2 dX1_divisor_42
  · rw [if_neg c2] at h
    refine lv_iconst (v := 0) hx hb dX1_divisor_17 (by decide) ?_
    refine lv_goto (tgt := 22) hx hb dX1_divisor_18 (by decide) ?_
    refine va_put (D := (dC, dI)) (ci := 1) (v := .int 0) (ty := .int) (C := RX1) (T := TX1) (N := 9) hx hb hts (fun _ h => List.mem_cons_of_mem _ (List.mem_append_right _ h)) tyX1 tyX1_ok nX1 hown hK hP hD hS 0 rfl rfl 0 (by decide) (hts _ (List.mem_of_getElem? (i := 6) rfl)) (fun _ h9 => h9) rfl (by decide +kernel) rfl rfl (Nat.le_of_ble_eq_true rfl) dX1_divisor_22 (fun H locs hP hD hS => ?_)
    have hP : va_P (dC, dI) vwCl [(h0, .inr (1, [.int 0, .int nn, .int dn, .ref h1, .int pn, .ref h2, .ref h3, .int fo, .ref h4])), (h1, .inl (cA, 400, .inl da)), (h2, .inl (cA, 8, .inl pa)), (h3, .inl (cA, 8, .inl ea)), (h4, .inl (cA, 4096, .inl ro))] H := hP
    have hD : va_D A [(h0, .inr (1, [.int 0, .int nn, .int dn, .ref h1, .int pn, .ref h2, .ref h3, .int fo, .ref h4])), (h1, .inl (cA, 400, .inl da)), (h2, .inl (cA, 8, .inl pa)), (h3, .inl (cA, 8, .inl ea)), (h4, .inl (cA, 4096, .inl ro))] := hD
    refine lv_aload_n hx hb dX1_divisor_25 rfl (lv_at hl 0 rfl) ?_
    refine va_get (D := (dC, dI)) (ci := 1) (v := .int 0) (C := RX1) (T := TX1) (N := 9) hx hb hts (fun _ h => List.mem_cons_of_mem _ (List.mem_append_right _ h)) hown hK hP 0 rfl rfl 0 (by decide) (hts _ (List.mem_of_getElem? (i := 6) rfl)) (fun _ h9 => h9) rfl dX1_divisor_26 ?_
    refine lv_if_le (tgt := 36) hx hb dX1_divisor_29 (by decide) (fun c4 => ?_) (fun c4 => ?_)
    · skip
      refine lv_aload_n hx hb dX1_divisor_36 rfl (lv_at hl 0 rfl) ?_
      refine va_get (D := (dC, dI)) (ci := 1) (v := .ref h1) (C := RX1) (T := TX1) (N := 9) hx hb hts (fun _ h => List.mem_cons_of_mem _ (List.mem_append_right _ h)) hown hK hP 0 rfl rfl 3 (by decide) (hts _ (List.mem_of_getElem? (i := 7) rfl)) (fun _ h9 => h9) rfl dX1_divisor_37 ?_
      refine lv_iload_n hx hb dX1_divisor_40 rfl (lv_at hl 1 rfl) ?_
      obtain ⟨g5, h⟩ := rf_gd h
      refine va_iald hx hb hK hP 1 0 rfl rfl (rf_in g5) dX1_divisor_41 ?_
      cases h
      exact W.iret hx hb hr (fun t ht hW => ⟨⟨_, (), rfl, rfl, by rw [ht]; exact hP, hD⟩, hS.F ht⟩) hS.2.2 dX1_divisor_42
    · exact absurd c4 (by decide)
def l_m_isApart_4 (F : Nat) (x1 pn : Int32) (pa : Nat → Int32) : Nat → Int32 → Int32 → Option (Int32)
  | 0, _, _ => none
  | n + 1, x2, x3 => if pn ≤ x3 then some x2 else if x2 = 0 then l_m_isApart_4 F x1 pn pa n 0 (x3 + 1) else if x3.toInt < 0 ∨ (8 : Int) ≤ x3.toInt then none else if (pa x3.toNatClampNeg) = 0 then none else if (irm x1 (pa x3.toNatClampNeg)) = 0 then l_m_isApart_4 F x1 pn pa n 0 (x3 + 1) else l_m_isApart_4 F x1 pn pa n 1 (x3 + 1)
set_option maxHeartbeats 4000000 in
set_option maxRecDepth 100000 in
theorem w_m_isApart_4 {p : Program} {l : Launch} {e : Env} {s : State} {m : MethodId} {args : Array Value} {below : List Frame} {meth : Method} {c : Code} {A : Nat → Prop} {Q : State → Prop} {dC : Nat → ClassId} {dI : Nat → Nat → Nat} (F : Nat) (hx : p.tables.exec = Jvm.exec) (hb : c.code = cX1_isApart) (hml : c.maxLocals = 4) (hown : s.vm.findClass RX1 = some m.cls) (hts : ∀ w ∈ wsX1_isApart, w.before args s = true) (hA : ∀ q, s.heap.size ≤ q → A q) (h0 h1 h2 h3 h4 : Nat) (cA : ClassId) (hK : va_K (dC, dI) vwCl [(cA, .int)] s) (x1 co nn dn pn fo : Int32) (da pa ea ro : Nat → Int32) :
    ∀ (n : Nat) (x2 x3 x2' : Int32), l_m_isApart_4 F x1 pn pa n x2 x3 = some x2' → ∀ (H : Heap) (locs : List Loc), va_P (dC, dI) vwCl [(h0, .inr (1, [.int co, .int nn, .int dn, .ref h1, .int pn, .ref h2, .ref h3, .int fo, .ref h4])), (h1, .inl (cA, 400, .inl da)), (h2, .inl (cA, 8, .inl pa)), (h3, .inl (cA, 8, .inl ea)), (h4, .inl (cA, 4096, .inl ro))] H → va_D A [(h0, .inr (1, [.int co, .int nn, .int dn, .ref h1, .int pn, .ref h2, .ref h3, .int fo, .ref h4])), (h1, .inl (cA, 400, .inl da)), (h2, .inl (cA, 8, .inl pa)), (h3, .inl (cA, 8, .inl ea)), (h4, .inl (cA, 4096, .inl ro))] → va_S A s.heap H locs → ∀ ls : Array Slot, lv_has ls 4 [(0, .ref h0), (1, .int x1), (2, .int x2), (3, .int x3)] → (∀ (H : Heap) (locs : List Loc) (ls : Array Slot), va_P (dC, dI) vwCl [(h0, .inr (1, [.int co, .int nn, .int dn, .ref h1, .int pn, .ref h2, .ref h3, .int fo, .ref h4])), (h1, .inl (cA, 400, .inl da)), (h2, .inl (cA, 8, .inl pa)), (h3, .inl (cA, 8, .inl ea)), (h4, .inl (cA, 4096, .inl ro))] H → va_D A [(h0, .inr (1, [.int co, .int nn, .int dn, .ref h1, .int pn, .ref h2, .ref h3, .int fo, .ref h4])), (h1, .inl (cA, 400, .inl da)), (h2, .inl (cA, 8, .inl pa)), (h3, .inl (cA, 8, .inl ea)), (h4, .inl (cA, 4096, .inl ro))] → va_S A s.heap H locs → lv_has ls 4 [(2, .int x2')] → W p l e { frames := 0, cells := 0, slots := 0, locals := 0 } s m args below meth c H locs 0 0 Q (F0 m 39 ls [])) → W p l e { frames := 0, cells := 0, slots := 0, locals := 0 } s m args below meth c H locs 0 0 Q (F0 m 4 ls []) := by
  intro n
  induction n with
  | zero => intro x2 x3 x2' h; exact nomatch (show (none : Option _) = some _ from h)
  | succ n ih =>
    intro x2 x3 x2' h H locs hP hD hS ls hl K
    rw [l_m_isApart_4] at h
    refine lv_iload_n hx hb dX1_isApart_4 rfl (lv_at hl 3 rfl) ?_
    refine lv_aload_n hx hb dX1_isApart_5 rfl (lv_at hl 0 rfl) ?_
    refine va_get (D := (dC, dI)) (ci := 1) (v := .int pn) (C := RX1) (T := TX1) (N := 9) hx hb hts (fun _ h => List.mem_cons_of_mem _ (List.mem_append_right _ h)) hown hK hP 0 rfl rfl 4 (by decide) (hts _ (List.mem_of_getElem? (i := 1) rfl)) (fun _ h9 => h9) rfl dX1_isApart_6 ?_
    refine lv_icmp_ge (tgt := 39) hx hb dX1_isApart_9 (by decide) (fun c1 => ?_) (fun c1 => ?_)
    · rw [if_pos c1] at h
      cases h
      exact K _ _ _ hP hD hS (lv_sub hl [2] rfl)
    · rw [if_neg c1] at h
      refine lv_iload_n hx hb dX1_isApart_12 rfl (lv_at hl 2 rfl) ?_
      refine lv_if_eq (tgt := 31) hx hb dX1_isApart_13 (by decide) (fun c2 => ?_) (fun c2 => ?_)
      · rw [if_pos c2] at h
        refine lv_iconst (v := 0) hx hb dX1_isApart_31 (by decide) ?_
        refine lv_istore_n (lv' := [(2, .int 0), (0, .ref h0), (1, .int x1), (3, .int x3)]) hx hb dX1_isApart_32 rfl hl (by decide) rfl (fun ls hl => ?_)
        refine lv_iinc (v := (x3 + 1)) (lv' := [(3, .int (x3 + 1)), (2, .int 0), (0, .ref h0), (1, .int x1)]) hx hb dX1_isApart_33 hl (k := 3) rfl rfl (by decide) rfl (fun ls hl => ?_)
        refine lv_goto (tgt := 4) hx hb dX1_isApart_36 (by decide) ?_
        exact ih 0 (x3 + 1) x2' h _ _ hP hD hS _ (lv_sub hl [2, 3, 1, 0] rfl) K
      · rw [if_neg c2] at h
        refine lv_iload_n hx hb dX1_isApart_16 rfl (lv_at hl 1 rfl) ?_
        refine lv_aload_n hx hb dX1_isApart_17 rfl (lv_at hl 0 rfl) ?_
        refine va_get (D := (dC, dI)) (ci := 1) (v := .ref h2) (C := RX1) (T := TX1) (N := 9) hx hb hts (fun _ h => List.mem_cons_of_mem _ (List.mem_append_right _ h)) hown hK hP 0 rfl rfl 5 (by decide) (hts _ (List.mem_of_getElem? (i := 2) rfl)) (fun _ h9 => h9) rfl dX1_isApart_18 ?_
        refine lv_iload_n hx hb dX1_isApart_21 rfl (lv_at hl 3 rfl) ?_
        obtain ⟨g3, h⟩ := rf_gd h
        refine va_iald hx hb hK hP 2 0 rfl rfl (rf_in g3) dX1_isApart_22 ?_
        obtain ⟨g4, h⟩ := rf_gd h
        refine lv_irem hx hb dX1_isApart_23 g4 ?_
        refine lv_if_eq (tgt := 31) hx hb dX1_isApart_24 (by decide) (fun c5 => ?_) (fun c5 => ?_)
        · rw [if_pos c5] at h
          refine lv_iconst (v := 0) hx hb dX1_isApart_31 (by decide) ?_
          refine lv_istore_n (lv' := [(2, .int 0), (0, .ref h0), (1, .int x1), (3, .int x3)]) hx hb dX1_isApart_32 rfl hl (by decide) rfl (fun ls hl => ?_)
          refine lv_iinc (v := (x3 + 1)) (lv' := [(3, .int (x3 + 1)), (2, .int 0), (0, .ref h0), (1, .int x1)]) hx hb dX1_isApart_33 hl (k := 3) rfl rfl (by decide) rfl (fun ls hl => ?_)
          refine lv_goto (tgt := 4) hx hb dX1_isApart_36 (by decide) ?_
          exact ih 0 (x3 + 1) x2' h _ _ hP hD hS _ (lv_sub hl [2, 3, 1, 0] rfl) K
        · rw [if_neg c5] at h
          refine lv_iconst (v := 1) hx hb dX1_isApart_27 (by decide) ?_
          refine lv_goto (tgt := 32) hx hb dX1_isApart_28 (by decide) ?_
          refine lv_istore_n (lv' := [(2, .int 1), (0, .ref h0), (1, .int x1), (3, .int x3)]) hx hb dX1_isApart_32 rfl hl (by decide) rfl (fun ls hl => ?_)
          refine lv_iinc (v := (x3 + 1)) (lv' := [(3, .int (x3 + 1)), (2, .int 1), (0, .ref h0), (1, .int x1)]) hx hb dX1_isApart_33 hl (k := 3) rfl rfl (by decide) rfl (fun ls hl => ?_)
          refine lv_goto (tgt := 4) hx hb dX1_isApart_36 (by decide) ?_
          exact ih 1 (x3 + 1) x2' h _ _ hP hD hS _ (lv_sub hl [2, 3, 1, 0] rfl) K
def f_m_isApart (F : Nat) (pn : Int32) (pa : Nat → Int32) (p0 : Int32) : Option (Int32) := b1 (l_m_isApart_4 F p0 pn pa F 1 0) fun x2_1 => if ¬ (x2_1 = 0 ∨ x2_1 = 1) then none else some x2_1
set_option maxHeartbeats 4000000 in
set_option maxRecDepth 100000 in
theorem c_m_isApart (l : Launch) (dC : Nat → ClassId) (dI : Nat → Nat → Nat) (sz F : Nat) (h0 h1 h2 h3 h4 : Nat) (cA : ClassId) (co nn dn pn fo : Int32) (da pa ea ro : Nat → Int32) (p0 rv : Int32) (h : f_m_isApart F pn pa p0 = some rv) : Met l yX1_isApart wsX1_isApart { frames := 0, cells := 0, slots := 0, locals := 0 } (rf_Pc (dC, dI) [(cA, .int)] [(h0, .inr (1, [.int co, .int nn, .int dn, .ref h1, .int pn, .ref h2, .ref h3, .int fo, .ref h4])), (h1, .inl (cA, 400, .inl da)), (h2, .inl (cA, 8, .inl pa)), (h3, .inl (cA, 8, .inl ea)), (h4, .inl (cA, 4096, .inl ro))] sz [.ref h0, .int p0]) (va_Qi (fun (r : Int32) (_ : Unit) => rv = r) (fun (_ : Unit) t => va_P (dC, dI) vwCl [(h0, .inr (1, [.int co, .int nn, .int dn, .ref h1, .int pn, .ref h2, .ref h3, .int fo, .ref h4])), (h1, .inl (cA, 400, .inl da)), (h2, .inl (cA, 8, .inl pa)), (h3, .inl (cA, 8, .inl ea)), (h4, .inl (cA, 4096, .inl ro))] t.heap ∧ va_D (va_A [(h0, .inr (1, [.int co, .int nn, .int dn, .ref h1, .int pn, .ref h2, .ref h3, .int fo, .ref h4])), (h1, .inl (cA, 400, .inl da)), (h2, .inl (cA, 8, .inl pa)), (h3, .inl (cA, 8, .inl ea)), (h4, .inl (cA, 4096, .inl ro))] sz) [(h0, .inr (1, [.int co, .int nn, .int dn, .ref h1, .int pn, .ref h2, .ref h3, .int fo, .ref h4])), (h1, .inl (cA, 400, .inl da)), (h2, .inl (cA, 8, .inl pa)), (h3, .inl (cA, 8, .inl ea)), (h4, .inl (cA, 4096, .inl ro))]) (va_A [(h0, .inr (1, [.int co, .int nn, .int dn, .ref h1, .int pn, .ref h2, .ref h3, .int fo, .ref h4])), (h1, .inl (cA, 400, .inl da)), (h2, .inl (cA, 8, .inl pa)), (h3, .inl (cA, 8, .inl ea)), (h4, .inl (cA, 4096, .inl ro))] sz)) 0 0 (va_A [(h0, .inr (1, [.int co, .int nn, .int dn, .ref h1, .int pn, .ref h2, .ref h3, .int fo, .ref h4])), (h1, .inl (cA, 400, .inl da)), (h2, .inl (cA, 8, .inl pa)), (h3, .inl (cA, 8, .inl ea)), (h4, .inl (cA, 4096, .inl ro))] sz) := by
  refine Met.ofW (cc := cX1_isApart) (maxL := 4) (ret := (some .boolean)) (by decide) rfl ?_
  intro p e s m args below meth c s₁ B hml hv
  obtain ⟨rfl, hsz, hP, hK, hD0⟩ := hv
  have hx := B.exec
  have hb := B.bytes
  have hr := B.returns
  have hts := atoms_spec (ws := wsX1_isApart) B.pre
  have hown : s.vm.findClass RX1 = some m.cls := findClass_of_methodNamed B.named
  have hlocks := B.notSynchronized
  subst hsz
  have hD := hD0.self (sz := s.heap.size)
  generalize hAe : va_A [(h0, .inr (1, [.int co, .int nn, .int dn, .ref h1, .int pn, .ref h2, .ref h3, .int fo, .ref h4])), (h1, .inl (cA, 400, .inl da)), (h2, .inl (cA, 8, .inl pa)), (h3, .inl (cA, 8, .inl ea)), (h4, .inl (cA, 4096, .inl ro))] s.heap.size = A at hD ⊢
  have hA : ∀ q : Nat, s.heap.size ≤ q → A q := fun q h => by rw [← hAe]; exact Or.inr h
  have hS : va_S A s.heap s.heap [] := va_S.rf
  have hl := lv_entry ([.ref h0, .int p0]) (n := 4) (Nat.le_of_ble_eq_true rfl)
  rw [lg_entry_eq]
  generalize (lg_sl ([.ref h0, .int p0]) ++ List.replicate (4 - (lg_sl ([.ref h0, .int p0])).length) Slot.unset).toArray = ls at hl ⊢
  have hl : lv_has ls 4 [(0, .ref h0), (1, .int p0)] := hl
  unfold f_m_isApart at h
  refine lv_iconst (v := 1) hx hb dX1_isApart_0 (by decide) ?_
  refine lv_istore_n (lv' := [(2, .int 1), (0, .ref h0), (1, .int p0)]) hx hb dX1_isApart_1 rfl hl (by decide) rfl (fun ls hl => ?_)
  refine lv_iconst (v := 0) hx hb dX1_isApart_2 (by decide) ?_
  refine lv_istore_n (lv' := [(3, .int 0), (2, .int 1), (0, .ref h0), (1, .int p0)]) hx hb dX1_isApart_3 rfl hl (by decide) rfl (fun ls hl => ?_)
  obtain ⟨x2_1, hr1, h⟩ := rf_b1 h
  refine w_m_isApart_4 F hx hb hml hown hts hA h0 h1 h2 h3 h4 cA hK p0 co nn dn pn fo da pa ea ro F 1 0 x2_1 hr1 _ _ hP hD hS _ (lv_sub hl [2, 3, 1, 0] rfl) (fun H locs ls hP hD hS hl => ?_)
  refine lv_iload_n hx hb dX1_isApart_39 rfl (lv_at hl 0 rfl) ?_
  obtain ⟨g2, h⟩ := rf_gd h
  cases h
  exact W.zret hx hb hr (rf_bool g2) (fun t ht hW => ⟨⟨_, (), rfl, rfl, by rw [ht]; exact hP, hD⟩, hS.F ht⟩) hS.2.2 dX1_isApart_40
def l_m_apart_4 (F : Nat) (nn pn : Int32) (pa : Nat → Int32) : Nat → Int32 → Int32 → Option (Int32)
  | 0, _, _ => none
  | n + 1, x1, x2 => if nn < x2 then some x1 else b1 (f_m_isApart F pn pa x2) fun r2 => if r2 = 0 then l_m_apart_4 F nn pn pa n (x1 + 0) (x2 + 1) else l_m_apart_4 F nn pn pa n (x1 + 1) (x2 + 1)
set_option maxHeartbeats 4000000 in
set_option maxRecDepth 100000 in
theorem w_m_apart_4 {p : Program} {l : Launch} {e : Env} {s : State} {m : MethodId} {args : Array Value} {below : List Frame} {meth : Method} {c : Code} {A : Nat → Prop} {Q : State → Prop} {dC : Nat → ClassId} {dI : Nat → Nat → Nat} (F : Nat) (hx : p.tables.exec = Jvm.exec) (hb : c.code = cX1_apart) (hml : c.maxLocals = 3) (hown : s.vm.findClass RX1 = some m.cls) (hts : ∀ w ∈ wsX1_apart, w.before args s = true) (hA : ∀ q, s.heap.size ≤ q → A q) (h0 h1 h2 h3 h4 : Nat) (cA : ClassId) (hK : va_K (dC, dI) vwCl [(cA, .int)] s) (co nn dn pn fo : Int32) (da pa ea ro : Nat → Int32) :
    ∀ (n : Nat) (x1 x2 x1' : Int32), l_m_apart_4 F nn pn pa n x1 x2 = some x1' → ∀ (H : Heap) (locs : List Loc), va_P (dC, dI) vwCl [(h0, .inr (1, [.int co, .int nn, .int dn, .ref h1, .int pn, .ref h2, .ref h3, .int fo, .ref h4])), (h1, .inl (cA, 400, .inl da)), (h2, .inl (cA, 8, .inl pa)), (h3, .inl (cA, 8, .inl ea)), (h4, .inl (cA, 4096, .inl ro))] H → va_D A [(h0, .inr (1, [.int co, .int nn, .int dn, .ref h1, .int pn, .ref h2, .ref h3, .int fo, .ref h4])), (h1, .inl (cA, 400, .inl da)), (h2, .inl (cA, 8, .inl pa)), (h3, .inl (cA, 8, .inl ea)), (h4, .inl (cA, 4096, .inl ro))] → va_S A s.heap H locs → ∀ ls : Array Slot, lv_has ls 3 [(0, .ref h0), (1, .int x1), (2, .int x2)] → (∀ (H : Heap) (locs : List Loc) (ls : Array Slot), va_P (dC, dI) vwCl [(h0, .inr (1, [.int co, .int nn, .int dn, .ref h1, .int pn, .ref h2, .ref h3, .int fo, .ref h4])), (h1, .inl (cA, 400, .inl da)), (h2, .inl (cA, 8, .inl pa)), (h3, .inl (cA, 8, .inl ea)), (h4, .inl (cA, 4096, .inl ro))] H → va_D A [(h0, .inr (1, [.int co, .int nn, .int dn, .ref h1, .int pn, .ref h2, .ref h3, .int fo, .ref h4])), (h1, .inl (cA, 400, .inl da)), (h2, .inl (cA, 8, .inl pa)), (h3, .inl (cA, 8, .inl ea)), (h4, .inl (cA, 4096, .inl ro))] → va_S A s.heap H locs → lv_has ls 3 [(1, .int x1')] → W p l e { frames := 1, cells := 0, slots := 0, locals := 23 } s m args below meth c H locs 0 0 Q (F0 m 34 ls [])) → W p l e { frames := 1, cells := 0, slots := 0, locals := 23 } s m args below meth c H locs 0 0 Q (F0 m 4 ls []) := by
  intro n
  induction n with
  | zero => intro x1 x2 x1' h; exact nomatch (show (none : Option _) = some _ from h)
  | succ n ih =>
    intro x1 x2 x1' h H locs hP hD hS ls hl K
    rw [l_m_apart_4] at h
    refine lv_iload_n hx hb dX1_apart_4 rfl (lv_at hl 2 rfl) ?_
    refine lv_aload_n hx hb dX1_apart_5 rfl (lv_at hl 0 rfl) ?_
    refine va_get (D := (dC, dI)) (ci := 1) (v := .int nn) (C := RX1) (T := TX1) (N := 9) hx hb hts (fun _ h => List.mem_cons_of_mem _ (List.mem_append_right _ h)) hown hK hP 0 rfl rfl 1 (by decide) (hts _ (List.mem_of_getElem? (i := 1) rfl)) (fun _ h9 => h9) rfl dX1_apart_6 ?_
    refine lv_icmp_gt (tgt := 34) hx hb dX1_apart_9 (by decide) (fun c1 => ?_) (fun c1 => ?_)
    · rw [if_pos c1] at h
      cases h
      exact K _ _ _ hP hD hS (lv_sub hl [1] rfl)
    · rw [if_neg c1] at h
      refine lv_iload_n hx hb dX1_apart_12 rfl (lv_at hl 1 rfl) ?_
      refine lv_aload_n hx hb dX1_apart_13 rfl (lv_at hl 0 rfl) ?_
      refine lv_iload_n hx hb dX1_apart_14 rfl (lv_at hl 2 rfl) ?_
      obtain ⟨r2, hr2, h⟩ := rf_b1 h
      refine rf_ci (wn := (fun _ : Unit => [(h0, .inr (1, [.int co, .int nn, .int dn, .ref h1, .int pn, .ref h2, .ref h3, .int fo, .ref h4])), (h1, .inl (cA, 400, .inl da)), (h2, .inl (cA, 8, .inl pa)), (h3, .inl (cA, 8, .inl ea)), (h4, .inl (cA, 4096, .inl ro))])) (wc := [(h0, .inr (1, [.int co, .int nn, .int dn, .ref h1, .int pn, .ref h2, .ref h3, .int fo, .ref h4])), (h1, .inl (cA, 400, .inl da)), (h2, .inl (cA, 8, .inl pa)), (h3, .inl (cA, 8, .inl ea)), (h4, .inl (cA, 4096, .inl ro))]) (wr := []) hP hD hS hA [0, 1, 2, 3, 4] [] rfl rfl (by decide) (by decide) (va_runV (As := [.int x2]) (rest := [.int x1]) ⟨hx, hb, hml, hown, hts⟩ (c_m_isApart l dC dI _ F h0 h1 h2 h3 h4 cA co nn dn pn fo da pa ea ro x2 r2 hr2) (cwV 1 hts gX1_apart_X1_isApart rfl rfl rfl (by decide +kernel) ⟨Nat.le_of_ble_eq_true rfl, Nat.le_of_ble_eq_true rfl⟩) ⟨rf_blind, va_recv hK hP (ci := 1) (q0 := 0) rfl rfl, fun U hU hW => ⟨rfl, rf_pre (hP.sub (ws' := [(h0, .inr (1, [.int co, .int nn, .int dn, .ref h1, .int pn, .ref h2, .ref h3, .int fo, .ref h4])), (h1, .inl (cA, 400, .inl da)), (h2, .inl (cA, 8, .inl pa)), (h3, .inl (cA, 8, .inl ea)), (h4, .inl (cA, 4096, .inl ro))]) [0, 1, 2, 3, 4] rfl) (hK.sub (tys' := [(cA, .int)]) [0] rfl) (hD.sub (ws' := [(h0, .inr (1, [.int co, .int nn, .int dn, .ref h1, .int pn, .ref h2, .ref h3, .int fo, .ref h4])), (h1, .inl (cA, 400, .inl da)), (h2, .inl (cA, 8, .inl pa)), (h3, .inl (cA, 8, .inl ea)), (h4, .inl (cA, 4096, .inl ro))]) [0, 1, 2, 3, 4] (by decide) rfl) U hU hW⟩⟩ rfl rfl hl.1 rfl (lv_room (Nat.le_of_ble_eq_true rfl)) dX1_apart_15 ⟨Nat.zero_le _, Nat.zero_le _⟩) (fun r2' u H locs hw hP hD hS => ?_)
      subst hw
      have hP : va_P (dC, dI) vwCl [(h0, .inr (1, [.int co, .int nn, .int dn, .ref h1, .int pn, .ref h2, .ref h3, .int fo, .ref h4])), (h1, .inl (cA, 400, .inl da)), (h2, .inl (cA, 8, .inl pa)), (h3, .inl (cA, 8, .inl ea)), (h4, .inl (cA, 4096, .inl ro))] H := hP
      have hD : va_D A [(h0, .inr (1, [.int co, .int nn, .int dn, .ref h1, .int pn, .ref h2, .ref h3, .int fo, .ref h4])), (h1, .inl (cA, 400, .inl da)), (h2, .inl (cA, 8, .inl pa)), (h3, .inl (cA, 8, .inl ea)), (h4, .inl (cA, 4096, .inl ro))] := hD
      refine lv_if_eq (tgt := 25) hx hb dX1_apart_18 (by decide) (fun c3 => ?_) (fun c3 => ?_)
      · rw [if_pos c3] at h
        refine lv_iconst (v := 0) hx hb dX1_apart_25 (by decide) ?_
        refine lv_iadd hx hb dX1_apart_26 ?_
        refine lv_istore_n (lv' := [(1, .int (x1 + 0)), (0, .ref h0), (2, .int x2)]) hx hb dX1_apart_27 rfl hl (by decide) rfl (fun ls hl => ?_)
        refine lv_iinc (v := (x2 + 1)) (lv' := [(2, .int (x2 + 1)), (1, .int (x1 + 0)), (0, .ref h0)]) hx hb dX1_apart_28 hl (k := 2) rfl rfl (by decide) rfl (fun ls hl => ?_)
        refine lv_goto (tgt := 4) hx hb dX1_apart_31 (by decide) ?_
        exact ih (x1 + 0) (x2 + 1) x1' h _ _ hP hD hS _ (lv_sub hl [2, 1, 0] rfl) K
      · rw [if_neg c3] at h
        refine lv_iconst (v := 1) hx hb dX1_apart_21 (by decide) ?_
        refine lv_goto (tgt := 26) hx hb dX1_apart_22 (by decide) ?_
        refine lv_iadd hx hb dX1_apart_26 ?_
        refine lv_istore_n (lv' := [(1, .int (x1 + 1)), (0, .ref h0), (2, .int x2)]) hx hb dX1_apart_27 rfl hl (by decide) rfl (fun ls hl => ?_)
        refine lv_iinc (v := (x2 + 1)) (lv' := [(2, .int (x2 + 1)), (1, .int (x1 + 1)), (0, .ref h0)]) hx hb dX1_apart_28 hl (k := 2) rfl rfl (by decide) rfl (fun ls hl => ?_)
        refine lv_goto (tgt := 4) hx hb dX1_apart_31 (by decide) ?_
        exact ih (x1 + 1) (x2 + 1) x1' h _ _ hP hD hS _ (lv_sub hl [2, 1, 0] rfl) K
def f_m_apart (F : Nat) (nn pn : Int32) (pa : Nat → Int32) : Option (Int32) := b1 (l_m_apart_4 F nn pn pa F 0 1) fun x1_1 => some x1_1
set_option maxHeartbeats 4000000 in
set_option maxRecDepth 100000 in
theorem c_m_apart (l : Launch) (dC : Nat → ClassId) (dI : Nat → Nat → Nat) (sz F : Nat) (h0 h1 h2 h3 h4 : Nat) (cA : ClassId) (co nn dn pn fo : Int32) (da pa ea ro : Nat → Int32) (rv : Int32) (h : f_m_apart F nn pn pa = some rv) : Met l yX1_apart wsX1_apart { frames := 1, cells := 0, slots := 0, locals := 23 } (rf_Pc (dC, dI) [(cA, .int)] [(h0, .inr (1, [.int co, .int nn, .int dn, .ref h1, .int pn, .ref h2, .ref h3, .int fo, .ref h4])), (h1, .inl (cA, 400, .inl da)), (h2, .inl (cA, 8, .inl pa)), (h3, .inl (cA, 8, .inl ea)), (h4, .inl (cA, 4096, .inl ro))] sz [.ref h0]) (va_Qi (fun (r : Int32) (_ : Unit) => rv = r) (fun (_ : Unit) t => va_P (dC, dI) vwCl [(h0, .inr (1, [.int co, .int nn, .int dn, .ref h1, .int pn, .ref h2, .ref h3, .int fo, .ref h4])), (h1, .inl (cA, 400, .inl da)), (h2, .inl (cA, 8, .inl pa)), (h3, .inl (cA, 8, .inl ea)), (h4, .inl (cA, 4096, .inl ro))] t.heap ∧ va_D (va_A [(h0, .inr (1, [.int co, .int nn, .int dn, .ref h1, .int pn, .ref h2, .ref h3, .int fo, .ref h4])), (h1, .inl (cA, 400, .inl da)), (h2, .inl (cA, 8, .inl pa)), (h3, .inl (cA, 8, .inl ea)), (h4, .inl (cA, 4096, .inl ro))] sz) [(h0, .inr (1, [.int co, .int nn, .int dn, .ref h1, .int pn, .ref h2, .ref h3, .int fo, .ref h4])), (h1, .inl (cA, 400, .inl da)), (h2, .inl (cA, 8, .inl pa)), (h3, .inl (cA, 8, .inl ea)), (h4, .inl (cA, 4096, .inl ro))]) (va_A [(h0, .inr (1, [.int co, .int nn, .int dn, .ref h1, .int pn, .ref h2, .ref h3, .int fo, .ref h4])), (h1, .inl (cA, 400, .inl da)), (h2, .inl (cA, 8, .inl pa)), (h3, .inl (cA, 8, .inl ea)), (h4, .inl (cA, 4096, .inl ro))] sz)) 0 0 (va_A [(h0, .inr (1, [.int co, .int nn, .int dn, .ref h1, .int pn, .ref h2, .ref h3, .int fo, .ref h4])), (h1, .inl (cA, 400, .inl da)), (h2, .inl (cA, 8, .inl pa)), (h3, .inl (cA, 8, .inl ea)), (h4, .inl (cA, 4096, .inl ro))] sz) := by
  refine Met.ofW (cc := cX1_apart) (maxL := 3) (ret := (some .int)) (by decide) rfl ?_
  intro p e s m args below meth c s₁ B hml hv
  obtain ⟨rfl, hsz, hP, hK, hD0⟩ := hv
  have hx := B.exec
  have hb := B.bytes
  have hr := B.returns
  have hts := atoms_spec (ws := wsX1_apart) B.pre
  have hown : s.vm.findClass RX1 = some m.cls := findClass_of_methodNamed B.named
  have hlocks := B.notSynchronized
  subst hsz
  have hD := hD0.self (sz := s.heap.size)
  generalize hAe : va_A [(h0, .inr (1, [.int co, .int nn, .int dn, .ref h1, .int pn, .ref h2, .ref h3, .int fo, .ref h4])), (h1, .inl (cA, 400, .inl da)), (h2, .inl (cA, 8, .inl pa)), (h3, .inl (cA, 8, .inl ea)), (h4, .inl (cA, 4096, .inl ro))] s.heap.size = A at hD ⊢
  have hA : ∀ q : Nat, s.heap.size ≤ q → A q := fun q h => by rw [← hAe]; exact Or.inr h
  have hS : va_S A s.heap s.heap [] := va_S.rf
  have hl := lv_entry ([.ref h0]) (n := 3) (Nat.le_of_ble_eq_true rfl)
  rw [lg_entry_eq]
  generalize (lg_sl ([.ref h0]) ++ List.replicate (3 - (lg_sl ([.ref h0])).length) Slot.unset).toArray = ls at hl ⊢
  have hl : lv_has ls 3 [(0, .ref h0)] := hl
  unfold f_m_apart at h
  refine lv_iconst (v := 0) hx hb dX1_apart_0 (by decide) ?_
  refine lv_istore_n (lv' := [(1, .int 0), (0, .ref h0)]) hx hb dX1_apart_1 rfl hl (by decide) rfl (fun ls hl => ?_)
  refine lv_iconst (v := 1) hx hb dX1_apart_2 (by decide) ?_
  refine lv_istore_n (lv' := [(2, .int 1), (1, .int 0), (0, .ref h0)]) hx hb dX1_apart_3 rfl hl (by decide) rfl (fun ls hl => ?_)
  obtain ⟨x1_1, hr1, h⟩ := rf_b1 h
  refine w_m_apart_4 F hx hb hml hown hts hA h0 h1 h2 h3 h4 cA hK co nn dn pn fo da pa ea ro F 0 1 x1_1 hr1 _ _ hP hD hS _ (lv_sub hl [2, 1, 0] rfl) (fun H locs ls hP hD hS hl => ?_)
  refine lv_iload_n hx hb dX1_apart_34 rfl (lv_at hl 0 rfl) ?_
  cases h
  exact W.iret hx hb hr (fun t ht hW => ⟨⟨_, (), rfl, rfl, by rw [ht]; exact hP, hD⟩, hS.F ht⟩) hS.2.2 dX1_apart_35
