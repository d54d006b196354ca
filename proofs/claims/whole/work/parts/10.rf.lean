def f_r_addPrime (F : Nat) (pk : Int32) (pr ex : Nat → Int32) (p0 p1 : Int32) : Option (Int32 × (Nat → Int32) × (Nat → Int32)) := if 7 ≤ pk then some (pk, pr, ex) else if pk.toInt < 0 ∨ (7 : Int) ≤ pk.toInt then none else if pk.toInt < 0 ∨ (7 : Int) ≤ pk.toInt then none else some ((pk + 1), (upd pr pk.toNatClampNeg p0), (upd ex pk.toNatClampNeg p1))
set_option maxHeartbeats 4000000 in
set_option maxRecDepth 100000 in
theorem c_r_addPrime (l : Launch) (dC : Nat → ClassId) (dI : Nat → Nat → Nat) (sz F : Nat) (h0 h1 h2 h3 h4 h5 : Nat) (cA : ClassId) (nu pk dc rc : Int32) (pr ex dv rt sp : Nat → Int32) (p0 p1 pk' : Int32) (pr' ex' : Nat → Int32) (h : f_r_addPrime F pk pr ex p0 p1 = some (pk', pr', ex')) : Met l yX0_addPrime wsX0_addPrime { frames := 0, cells := 0, slots := 0, locals := 0 } (rf_Pc (dC, dI) [(cA, .int)] [(h0, .inr (0, [.int nu, .int pk, .ref h1, .ref h2, .int dc, .ref h3, .int rc, .ref h4, .ref h5])), (h1, .inl (cA, 7, .inl pr)), (h2, .inl (cA, 7, .inl ex)), (h3, .inl (cA, 360, .inl dv)), (h4, .inl (cA, 4096, .inl rt)), (h5, .inl (cA, 4096, .inl sp))] sz [.ref h0, .int p0, .int p1]) (va_Qv (fun _ : Unit => True) (fun (_ : Unit) t => va_P (dC, dI) vwCl [(h0, .inr (0, [.int nu, .int pk', .ref h1, .ref h2, .int dc, .ref h3, .int rc, .ref h4, .ref h5])), (h1, .inl (cA, 7, .inl pr')), (h2, .inl (cA, 7, .inl ex')), (h3, .inl (cA, 360, .inl dv)), (h4, .inl (cA, 4096, .inl rt)), (h5, .inl (cA, 4096, .inl sp))] t.heap ∧ va_D (va_A [(h0, .inr (0, [.int nu, .int pk, .ref h1, .ref h2, .int dc, .ref h3, .int rc, .ref h4, .ref h5])), (h1, .inl (cA, 7, .inl pr)), (h2, .inl (cA, 7, .inl ex)), (h3, .inl (cA, 360, .inl dv)), (h4, .inl (cA, 4096, .inl rt)), (h5, .inl (cA, 4096, .inl sp))] sz) [(h0, .inr (0, [.int nu, .int pk', .ref h1, .ref h2, .int dc, .ref h3, .int rc, .ref h4, .ref h5])), (h1, .inl (cA, 7, .inl pr')), (h2, .inl (cA, 7, .inl ex')), (h3, .inl (cA, 360, .inl dv)), (h4, .inl (cA, 4096, .inl rt)), (h5, .inl (cA, 4096, .inl sp))]) (va_A [(h0, .inr (0, [.int nu, .int pk, .ref h1, .ref h2, .int dc, .ref h3, .int rc, .ref h4, .ref h5])), (h1, .inl (cA, 7, .inl pr)), (h2, .inl (cA, 7, .inl ex)), (h3, .inl (cA, 360, .inl dv)), (h4, .inl (cA, 4096, .inl rt)), (h5, .inl (cA, 4096, .inl sp))] sz)) 0 0 (va_A [(h0, .inr (0, [.int nu, .int pk, .ref h1, .ref h2, .int dc, .ref h3, .int rc, .ref h4, .ref h5])), (h1, .inl (cA, 7, .inl pr)), (h2, .inl (cA, 7, .inl ex)), (h3, .inl (cA, 360, .inl dv)), (h4, .inl (cA, 4096, .inl rt)), (h5, .inl (cA, 4096, .inl sp))] sz) := by
  refine Met.ofW (cc := cX0_addPrime) (maxL := 3) (ret := none) (by decide) rfl ?_
  intro p e s m args below meth c s₁ B hml hv
  obtain ⟨rfl, hsz, hP, hK, hD0⟩ := hv
  have hx := B.exec
  have hb := B.bytes
  have hr := B.returns
  have hts := atoms_spec (ws := wsX0_addPrime) B.pre
  have hown : s.vm.findClass RX0 = some m.cls := findClass_of_methodNamed B.named
  have hlocks := B.notSynchronized
  subst hsz
  have hD := hD0.self (sz := s.heap.size)
  generalize hAe : va_A [(h0, .inr (0, [.int nu, .int pk, .ref h1, .ref h2, .int dc, .ref h3, .int rc, .ref h4, .ref h5])), (h1, .inl (cA, 7, .inl pr)), (h2, .inl (cA, 7, .inl ex)), (h3, .inl (cA, 360, .inl dv)), (h4, .inl (cA, 4096, .inl rt)), (h5, .inl (cA, 4096, .inl sp))] s.heap.size = A at hD ⊢
  have hA : ∀ q : Nat, s.heap.size ≤ q → A q := fun q h => by rw [← hAe]; exact Or.inr h
  have hS : va_S A s.heap s.heap [] := va_S.rf
  have hl := lv_entry ([.ref h0, .int p0, .int p1]) (n := 3) (Nat.le_of_ble_eq_true rfl)
  rw [lg_entry_eq]
  generalize (lg_sl ([.ref h0, .int p0, .int p1]) ++ List.replicate (3 - (lg_sl ([.ref h0, .int p0, .int p1])).length) Slot.unset).toArray = ls at hl ⊢
  have hl : lv_has ls 3 [(0, .ref h0), (1, .int p0), (2, .int p1)] := hl
  unfold f_r_addPrime at h
  refine lv_aload_n hx hb dX0_addPrime_0 rfl (lv_at hl 0 rfl) ?_
  refine va_get (D := (dC, dI)) (ci := 0) (v := .int pk) (C := RX0) (T := TX0) (N := 9) hx hb hts (fun _ h => List.mem_cons_of_mem _ (List.mem_append_right _ h)) hown hK hP 0 rfl rfl 1 (by decide) (hts _ (List.mem_of_getElem? (i := 1) rfl)) (fun _ h9 => h9) rfl dX0_addPrime_1 ?_
  refine lv_bipush (v := 7) hx hb dX0_addPrime_4 (by decide) ?_
  refine lv_icmp_ge (tgt := 39) hx hb dX0_addPrime_6 (by decide) (fun c1 => ?_) (fun c1 => ?_)
  · rw [if_pos c1] at h
    cases h
    exact W.vret hx hb hr (fun t ht hW => ⟨⟨(), rfl, trivial, by rw [ht]; exact hP, hD⟩, hS.F ht⟩) hS.2.2 dX0_addPrime_39
  · rw [if_neg c1] at h
    refine lv_aload_n hx hb dX0_addPrime_9 rfl (lv_at hl 0 rfl) ?_
    refine va_get (D := (dC, dI)) (ci := 0) (v := .ref h1) (C := RX0) (T := TX0) (N := 9) hx hb hts (fun _ h => List.mem_cons_of_mem _ (List.mem_append_right _ h)) hown hK hP 0 rfl rfl 2 (by decide) (hts _ (List.mem_of_getElem? (i := 2) rfl)) (fun _ h9 => h9) rfl dX0_addPrime_10 ?_
    refine lv_aload_n hx hb dX0_addPrime_13 rfl (lv_at hl 0 rfl) ?_
    refine va_get (D := (dC, dI)) (ci := 0) (v := .int pk) (C := RX0) (T := TX0) (N := 9) hx hb hts (fun _ h => List.mem_cons_of_mem _ (List.mem_append_right _ h)) hown hK hP 0 rfl rfl 1 (by decide) (hts _ (List.mem_of_getElem? (i := 1) rfl)) (fun _ h9 => h9) rfl dX0_addPrime_14 ?_
    refine lv_iload_n hx hb dX0_addPrime_17 rfl (lv_at hl 1 rfl) ?_
    obtain ⟨g2, h⟩ := rf_gd h
    refine va_iast hx hb hK hP hD hS 1 0 rfl rfl (rf_in g2) dX0_addPrime_18 (fun H locs hP hD hS => ?_)
    have hP : va_P (dC, dI) vwCl [(h0, .inr (0, [.int nu, .int pk, .ref h1, .ref h2, .int dc, .ref h3, .int rc, .ref h4, .ref h5])), (h1, .inl (cA, 7, .inl (upd pr pk.toNatClampNeg p0))), (h2, .inl (cA, 7, .inl ex)), (h3, .inl (cA, 360, .inl dv)), (h4, .inl (cA, 4096, .inl rt)), (h5, .inl (cA, 4096, .inl sp))] H := hP
    have hD : va_D A [(h0, .inr (0, [.int nu, .int pk, .ref h1, .ref h2, .int dc, .ref h3, .int rc, .ref h4, .ref h5])), (h1, .inl (cA, 7, .inl (upd pr pk.toNatClampNeg p0))), (h2, .inl (cA, 7, .inl ex)), (h3, .inl (cA, 360, .inl dv)), (h4, .inl (cA, 4096, .inl rt)), (h5, .inl (cA, 4096, .inl sp))] := hD
    refine lv_aload_n hx hb dX0_addPrime_19 rfl (lv_at hl 0 rfl) ?_
    refine va_get (D := (dC, dI)) (ci := 0) (v := .ref h2) (C := RX0) (T := TX0) (N := 9) hx hb hts (fun _ h => List.mem_cons_of_mem _ (List.mem_append_right _ h)) hown hK hP 0 rfl rfl 3 (by decide) (hts _ (List.mem_of_getElem? (i := 3) rfl)) (fun _ h9 => h9) rfl dX0_addPrime_20 ?_
    refine lv_aload_n hx hb dX0_addPrime_23 rfl (lv_at hl 0 rfl) ?_
    refine va_get (D := (dC, dI)) (ci := 0) (v := .int pk) (C := RX0) (T := TX0) (N := 9) hx hb hts (fun _ h => List.mem_cons_of_mem _ (List.mem_append_right _ h)) hown hK hP 0 rfl rfl 1 (by decide) (hts _ (List.mem_of_getElem? (i := 1) rfl)) (fun _ h9 => h9) rfl dX0_addPrime_24 ?_
    refine lv_iload_n hx hb dX0_addPrime_27 rfl (lv_at hl 2 rfl) ?_
    obtain ⟨g3, h⟩ := rf_gd h
    refine va_iast hx hb hK hP hD hS 2 0 rfl rfl (rf_in g3) dX0_addPrime_28 (fun H locs hP hD hS => ?_)
    have hP : va_P (dC, dI) vwCl [(h0, .inr (0, [.int nu, .int pk, .ref h1, .ref h2, .int dc, .ref h3, .int rc, .ref h4, .ref h5])), (h1, .inl (cA, 7, .inl (upd pr pk.toNatClampNeg p0))), (h2, .inl (cA, 7, .inl (upd ex pk.toNatClampNeg p1))), (h3, .inl (cA, 360, .inl dv)), (h4, .inl (cA, 4096, .inl rt)), (h5, .inl (cA, 4096, .inl sp))] H := hP
    have hD : va_D A [(h0, .inr (0, [.int nu, .int pk, .ref h1, .ref h2, .int dc, .ref h3, .int rc, .ref h4, .ref h5])), (h1, .inl (cA, 7, .inl (upd pr pk.toNatClampNeg p0))), (h2, .inl (cA, 7, .inl (upd ex pk.toNatClampNeg p1))), (h3, .inl (cA, 360, .inl dv)), (h4, .inl (cA, 4096, .inl rt)), (h5, .inl (cA, 4096, .inl sp))] := hD
    refine lv_aload_n hx hb dX0_addPrime_29 rfl (lv_at hl 0 rfl) ?_
    refine lv_dup hx hb dX0_addPrime_30 rfl ?_
    refine va_get (D := (dC, dI)) (ci := 0) (v := .int pk) (C := RX0) (T := TX0) (N := 9) hx hb hts (fun _ h => List.mem_cons_of_mem _ (List.mem_append_right _ h)) hown hK hP 0 rfl rfl 1 (by decide) (hts _ (List.mem_of_getElem? (i := 1) rfl)) (fun _ h9 => h9) rfl dX0_addPrime_31 ?_
    refine lv_iconst (v := 1) hx hb dX0_addPrime_34 (by decide) ?_
    refine lv_iadd hx hb dX0_addPrime_35 ?_
    refine va_put (D := (dC, dI)) (ci := 0) (v := .int (pk + 1)) (ty := .int) (C := RX0) (T := TX0) (N := 9) hx hb hts (fun _ h => List.mem_cons_of_mem _ (List.mem_append_right _ h)) tyX0 tyX0_ok nX0 hown hK hP hD hS 0 rfl rfl 1 (by decide) (hts _ (List.mem_of_getElem? (i := 1) rfl)) (fun _ h9 => h9) rfl (by decide +kernel) rfl rfl (Nat.le_of_ble_eq_true rfl) dX0_addPrime_36 (fun H locs hP hD hS => ?_)
    have hP : va_P (dC, dI) vwCl [(h0, .inr (0, [.int nu, .int (pk + 1), .ref h1, .ref h2, .int dc, .ref h3, .int rc, .ref h4, .ref h5])), (h1, .inl (cA, 7, .inl (upd pr pk.toNatClampNeg p0))), (h2, .inl (cA, 7, .inl (upd ex pk.toNatClampNeg p1))), (h3, .inl (cA, 360, .inl dv)), (h4, .inl (cA, 4096, .inl rt)), (h5, .inl (cA, 4096, .inl sp))] H := hP
    have hD : va_D A [(h0, .inr (0, [.int nu, .int (pk + 1), .ref h1, .ref h2, .int dc, .ref h3, .int rc, .ref h4, .ref h5])), (h1, .inl (cA, 7, .inl (upd pr pk.toNatClampNeg p0))), (h2, .inl (cA, 7, .inl (upd ex pk.toNatClampNeg p1))), (h3, .inl (cA, 360, .inl dv)), (h4, .inl (cA, 4096, .inl rt)), (h5, .inl (cA, 4096, .inl sp))] := hD
    cases h
    exact W.vret hx hb hr (fun t ht hW => ⟨⟨(), rfl, trivial, by rw [ht]; exact hP, hD⟩, hS.F ht⟩) hS.2.2 dX0_addPrime_39
def l_r_findPrimes_28 (F : Nat) (x2 : Int32) : Nat → Int32 → Int32 → Option (Int32 × Int32)
  | 0, _, _ => none
  | n + 1, x1, x3 => if 22 ≤ x3 then some (x1, x3) else if x2 = 0 then none else if (irm x1 x2) = 0 then if x2 = 0 then none else l_r_findPrimes_28 F x2 n (x1 / x2) (x3 + 1) else some (x1, x3)
set_option maxHeartbeats 4000000 in
set_option maxRecDepth 100000 in
theorem w_r_findPrimes_28 {p : Program} {l : Launch} {e : Env} {s : State} {m : MethodId} {args : Array Value} {below : List Frame} {meth : Method} {c : Code} {A : Nat → Prop} {Q : State → Prop} {dC : Nat → ClassId} {dI : Nat → Nat → Nat} (F : Nat) (hx : p.tables.exec = Jvm.exec) (hb : c.code = cX0_findPrimes) (hml : c.maxLocals = 4) (hown : s.vm.findClass RX0 = some m.cls) (hts : ∀ w ∈ wsX0_findPrimes, w.before args s = true) (hA : ∀ q, s.heap.size ≤ q → A q) (h0 h1 h2 h3 h4 h5 : Nat) (cA : ClassId) (hK : va_K (dC, dI) vwCl [(cA, .int)] s) (x2 nu pk dc rc : Int32) (pr ex dv rt sp : Nat → Int32) :
    ∀ (n : Nat) (x1 x3 x1' x3' : Int32), l_r_findPrimes_28 F x2 n x1 x3 = some (x1', x3') → ∀ (H : Heap) (locs : List Loc), va_P (dC, dI) vwCl [(h0, .inr (0, [.int nu, .int pk, .ref h1, .ref h2, .int dc, .ref h3, .int rc, .ref h4, .ref h5])), (h1, .inl (cA, 7, .inl pr)), (h2, .inl (cA, 7, .inl ex)), (h3, .inl (cA, 360, .inl dv)), (h4, .inl (cA, 4096, .inl rt)), (h5, .inl (cA, 4096, .inl sp))] H → va_D A [(h0, .inr (0, [.int nu, .int pk, .ref h1, .ref h2, .int dc, .ref h3, .int rc, .ref h4, .ref h5])), (h1, .inl (cA, 7, .inl pr)), (h2, .inl (cA, 7, .inl ex)), (h3, .inl (cA, 360, .inl dv)), (h4, .inl (cA, 4096, .inl rt)), (h5, .inl (cA, 4096, .inl sp))] → va_S A s.heap H locs → ∀ ls : Array Slot, lv_has ls 4 [(0, .ref h0), (1, .int x1), (2, .int x2), (3, .int x3)] → (∀ (H : Heap) (locs : List Loc) (ls : Array Slot), va_P (dC, dI) vwCl [(h0, .inr (0, [.int nu, .int pk, .ref h1, .ref h2, .int dc, .ref h3, .int rc, .ref h4, .ref h5])), (h1, .inl (cA, 7, .inl pr)), (h2, .inl (cA, 7, .inl ex)), (h3, .inl (cA, 360, .inl dv)), (h4, .inl (cA, 4096, .inl rt)), (h5, .inl (cA, 4096, .inl sp))] H → va_D A [(h0, .inr (0, [.int nu, .int pk, .ref h1, .ref h2, .int dc, .ref h3, .int rc, .ref h4, .ref h5])), (h1, .inl (cA, 7, .inl pr)), (h2, .inl (cA, 7, .inl ex)), (h3, .inl (cA, 360, .inl dv)), (h4, .inl (cA, 4096, .inl rt)), (h5, .inl (cA, 4096, .inl sp))] → va_S A s.heap H locs → lv_has ls 4 [(0, .ref h0), (1, .int x1'), (2, .int x2), (3, .int x3')] → W p l e { frames := 1, cells := 0, slots := 0, locals := 22 } s m args below meth c H locs 0 0 Q (F0 m 50 ls [])) → W p l e { frames := 1, cells := 0, slots := 0, locals := 22 } s m args below meth c H locs 0 0 Q (F0 m 28 ls []) := by
  intro n
  induction n with
  | zero => intro x1 x3 x1' x3' h; exact nomatch (show (none : Option _) = some _ from h)
  | succ n ih =>
    intro x1 x3 x1' x3' h H locs hP hD hS ls hl K
    rw [l_r_findPrimes_28] at h
    refine lv_iload_n hx hb dX0_findPrimes_28 rfl (lv_at hl 3 rfl) ?_
    refine lv_bipush (v := 22) hx hb dX0_findPrimes_29 (by decide) ?_
    refine lv_icmp_ge (tgt := 50) hx hb dX0_findPrimes_31 (by decide) (fun c1 => ?_) (fun c1 => ?_)
    · rw [if_pos c1] at h
      cases h
      exact K _ _ _ hP hD hS (lv_sub hl [0, 1, 2, 3] rfl)
    · rw [if_neg c1] at h
      refine lv_iload_n hx hb dX0_findPrimes_34 rfl (lv_at hl 1 rfl) ?_
      refine lv_iload_n hx hb dX0_findPrimes_35 rfl (lv_at hl 2 rfl) ?_
      obtain ⟨g2, h⟩ := rf_gd h
      refine lv_irem hx hb dX0_findPrimes_36 g2 ?_
      refine lv_if_ne (tgt := 50) hx hb dX0_findPrimes_37 (by decide) (fun c3 => ?_) (fun c3 => ?_)
      · rw [if_neg c3] at h
        cases h
        exact K _ _ _ hP hD hS (lv_sub hl [0, 1, 2, 3] rfl)
      · rw [if_pos c3] at h
        refine lv_iload_n hx hb dX0_findPrimes_40 rfl (lv_at hl 1 rfl) ?_
        refine lv_iload_n hx hb dX0_findPrimes_41 rfl (lv_at hl 2 rfl) ?_
        obtain ⟨g4, h⟩ := rf_gd h
        refine lv_idiv hx hb dX0_findPrimes_42 g4 ?_
        refine lv_istore_n (lv' := [(1, .int (x1 / x2)), (0, .ref h0), (2, .int x2), (3, .int x3)]) hx hb dX0_findPrimes_43 rfl hl (by decide) rfl (fun ls hl => ?_)
        refine lv_iinc (v := (x3 + 1)) (lv' := [(3, .int (x3 + 1)), (1, .int (x1 / x2)), (0, .ref h0), (2, .int x2)]) hx hb dX0_findPrimes_44 hl (k := 3) rfl rfl (by decide) rfl (fun ls hl => ?_)
        refine lv_goto (tgt := 28) hx hb dX0_findPrimes_47 (by decide) ?_
        exact ih (x1 / x2) (x3 + 1) x1' x3' h _ _ hP hD hS _ (lv_sub hl [2, 1, 3, 0] rfl) K
def l_r_findPrimes_12 (F : Nat) : Nat → Int32 → Int32 → Int32 → (Nat → Int32) → (Nat → Int32) → Option (Int32 × Int32 × (Nat → Int32) × (Nat → Int32))
  | 0, _, _, _, _, _ => none
  | n + 1, x1, x2, pk, pr, ex => if 2048 < x2 then some (x1, pk, pr, ex) else if x1 < (x2 * x2) then some (x1, pk, pr, ex) else b2 (l_r_findPrimes_28 F x2 F x1 0) fun x1_3 x3_3 => if x3_3 ≤ 0 then l_r_findPrimes_12 F n x1_3 (x2 + 1) pk pr ex else b3 (f_r_addPrime F pk pr ex x2 x3_3) fun pk_5 pr_5 ex_5 => l_r_findPrimes_12 F n x1_3 (x2 + 1) pk_5 pr_5 ex_5
set_option maxHeartbeats 4000000 in
set_option maxRecDepth 100000 in
theorem w_r_findPrimes_12 {p : Program} {l : Launch} {e : Env} {s : State} {m : MethodId} {args : Array Value} {below : List Frame} {meth : Method} {c : Code} {A : Nat → Prop} {Q : State → Prop} {dC : Nat → ClassId} {dI : Nat → Nat → Nat} (F : Nat) (hx : p.tables.exec = Jvm.exec) (hb : c.code = cX0_findPrimes) (hml : c.maxLocals = 4) (hown : s.vm.findClass RX0 = some m.cls) (hts : ∀ w ∈ wsX0_findPrimes, w.before args s = true) (hA : ∀ q, s.heap.size ≤ q → A q) (h0 h1 h2 h3 h4 h5 : Nat) (cA : ClassId) (hK : va_K (dC, dI) vwCl [(cA, .int)] s) (nu dc rc : Int32) (dv rt sp : Nat → Int32) :
    ∀ (n : Nat) (x1 x2 pk : Int32) (pr ex : Nat → Int32) (x1' pk' : Int32) (pr' ex' : Nat → Int32), l_r_findPrimes_12 F n x1 x2 pk pr ex = some (x1', pk', pr', ex') → ∀ (H : Heap) (locs : List Loc), va_P (dC, dI) vwCl [(h0, .inr (0, [.int nu, .int pk, .ref h1, .ref h2, .int dc, .ref h3, .int rc, .ref h4, .ref h5])), (h1, .inl (cA, 7, .inl pr)), (h2, .inl (cA, 7, .inl ex)), (h3, .inl (cA, 360, .inl dv)), (h4, .inl (cA, 4096, .inl rt)), (h5, .inl (cA, 4096, .inl sp))] H → va_D A [(h0, .inr (0, [.int nu, .int pk, .ref h1, .ref h2, .int dc, .ref h3, .int rc, .ref h4, .ref h5])), (h1, .inl (cA, 7, .inl pr)), (h2, .inl (cA, 7, .inl ex)), (h3, .inl (cA, 360, .inl dv)), (h4, .inl (cA, 4096, .inl rt)), (h5, .inl (cA, 4096, .inl sp))] → va_S A s.heap H locs → ∀ ls : Array Slot, lv_has ls 4 [(0, .ref h0), (1, .int x1), (2, .int x2)] → (∀ (H : Heap) (locs : List Loc) (ls : Array Slot), va_P (dC, dI) vwCl [(h0, .inr (0, [.int nu, .int pk', .ref h1, .ref h2, .int dc, .ref h3, .int rc, .ref h4, .ref h5])), (h1, .inl (cA, 7, .inl pr')), (h2, .inl (cA, 7, .inl ex')), (h3, .inl (cA, 360, .inl dv)), (h4, .inl (cA, 4096, .inl rt)), (h5, .inl (cA, 4096, .inl sp))] H → va_D A [(h0, .inr (0, [.int nu, .int pk', .ref h1, .ref h2, .int dc, .ref h3, .int rc, .ref h4, .ref h5])), (h1, .inl (cA, 7, .inl pr')), (h2, .inl (cA, 7, .inl ex')), (h3, .inl (cA, 360, .inl dv)), (h4, .inl (cA, 4096, .inl rt)), (h5, .inl (cA, 4096, .inl sp))] → va_S A s.heap H locs → lv_has ls 4 [(0, .ref h0), (1, .int x1')] → W p l e { frames := 1, cells := 0, slots := 0, locals := 22 } s m args below meth c H locs 0 0 Q (F0 m 66 ls [])) → W p l e { frames := 1, cells := 0, slots := 0, locals := 22 } s m args below meth c H locs 0 0 Q (F0 m 12 ls []) := by
  intro n
  induction n with
  | zero => intro x1 x2 pk pr ex x1' pk' pr' ex' h; exact nomatch (show (none : Option _) = some _ from h)
  | succ n ih =>
    intro x1 x2 pk pr ex x1' pk' pr' ex' h H locs hP hD hS ls hl K
    rw [l_r_findPrimes_12] at h
    refine lv_iload_n hx hb dX0_findPrimes_12 rfl (lv_at hl 2 rfl) ?_
    refine lv_sipush (v := 2048) hx hb dX0_findPrimes_13 (by decide) ?_
    refine lv_icmp_gt (tgt := 66) hx hb dX0_findPrimes_16 (by decide) (fun c1 => ?_) (fun c1 => ?_)
    · rw [if_pos c1] at h
      cases h
      exact K _ _ _ hP hD hS (lv_sub hl [0, 1] rfl)
    · rw [if_neg c1] at h
      refine lv_iload_n hx hb dX0_findPrimes_19 rfl (lv_at hl 2 rfl) ?_
      refine lv_iload_n hx hb dX0_findPrimes_20 rfl (lv_at hl 2 rfl) ?_
      refine lv_imul hx hb dX0_findPrimes_21 ?_
      refine lv_iload_n hx hb dX0_findPrimes_22 rfl (lv_at hl 1 rfl) ?_
      refine lv_icmp_gt (tgt := 66) hx hb dX0_findPrimes_23 (by decide) (fun c2 => ?_) (fun c2 => ?_)
      · rw [if_pos c2] at h
        cases h
        exact K _ _ _ hP hD hS (lv_sub hl [0, 1] rfl)
      · rw [if_neg c2] at h
        refine lv_iconst (v := 0) hx hb dX0_findPrimes_26 (by decide) ?_
        refine lv_istore_n (lv' := [(3, .int 0), (0, .ref h0), (1, .int x1), (2, .int x2)]) hx hb dX0_findPrimes_27 rfl hl (by decide) rfl (fun ls hl => ?_)
        obtain ⟨x1_3, x3_3, hr3, h⟩ := rf_b2 h
        refine w_r_findPrimes_28 F hx hb hml hown hts hA h0 h1 h2 h3 h4 h5 cA hK x2 nu pk dc rc pr ex dv rt sp F x1 0 x1_3 x3_3 hr3 _ _ hP hD hS _ (lv_sub hl [1, 2, 3, 0] rfl) (fun H locs ls hP hD hS hl => ?_)
        refine lv_iload_n hx hb dX0_findPrimes_50 rfl (lv_at hl 3 rfl) ?_
        refine lv_if_le (tgt := 60) hx hb dX0_findPrimes_51 (by decide) (fun c4 => ?_) (fun c4 => ?_)
        · rw [if_pos c4] at h
          refine lv_iinc (v := (x2 + 1)) (lv' := [(2, .int (x2 + 1)), (0, .ref h0), (1, .int x1_3), (3, .int x3_3)]) hx hb dX0_findPrimes_60 hl (k := 2) rfl rfl (by decide) rfl (fun ls hl => ?_)
          refine lv_goto (tgt := 12) hx hb dX0_findPrimes_63 (by decide) ?_
          exact ih x1_3 (x2 + 1) pk pr ex x1' pk' pr' ex' h _ _ hP hD hS _ (lv_sub hl [1, 2, 0] rfl) K
        · rw [if_neg c4] at h
          refine lv_aload_n hx hb dX0_findPrimes_54 rfl (lv_at hl 0 rfl) ?_
          refine lv_iload_n hx hb dX0_findPrimes_55 rfl (lv_at hl 2 rfl) ?_
          refine lv_iload_n hx hb dX0_findPrimes_56 rfl (lv_at hl 3 rfl) ?_
          obtain ⟨pk_5, pr_5, ex_5, hr5, h⟩ := rf_b3 h
          refine rf_cv (wn := (fun _ : Unit => [(h0, .inr (0, [.int nu, .int pk_5, .ref h1, .ref h2, .int dc, .ref h3, .int rc, .ref h4, .ref h5])), (h1, .inl (cA, 7, .inl pr_5)), (h2, .inl (cA, 7, .inl ex_5)), (h3, .inl (cA, 360, .inl dv)), (h4, .inl (cA, 4096, .inl rt)), (h5, .inl (cA, 4096, .inl sp))])) (wc := [(h0, .inr (0, [.int nu, .int pk, .ref h1, .ref h2, .int dc, .ref h3, .int rc, .ref h4, .ref h5])), (h1, .inl (cA, 7, .inl pr)), (h2, .inl (cA, 7, .inl ex)), (h3, .inl (cA, 360, .inl dv)), (h4, .inl (cA, 4096, .inl rt)), (h5, .inl (cA, 4096, .inl sp))]) (wr := []) hP hD hS hA [0, 1, 2, 3, 4, 5] [] rfl rfl (by decide) (by decide) (va_runV (As := [.int x2, .int x3_3]) (rest := []) ⟨hx, hb, hml, hown, hts⟩ (c_r_addPrime l dC dI _ F h0 h1 h2 h3 h4 h5 cA nu pk dc rc pr ex dv rt sp x2 x3_3 pk_5 pr_5 ex_5 hr5) (cwV 2 hts gX0_findPrimes_X0_addPrime rfl rfl rfl (by decide +kernel) ⟨Nat.le_of_ble_eq_true rfl, Nat.le_of_ble_eq_true rfl⟩) ⟨rf_blind, va_recv hK hP (ci := 0) (q0 := 0) rfl rfl, fun U hU hW => ⟨rfl, rf_pre (hP.sub (ws' := [(h0, .inr (0, [.int nu, .int pk, .ref h1, .ref h2, .int dc, .ref h3, .int rc, .ref h4, .ref h5])), (h1, .inl (cA, 7, .inl pr)), (h2, .inl (cA, 7, .inl ex)), (h3, .inl (cA, 360, .inl dv)), (h4, .inl (cA, 4096, .inl rt)), (h5, .inl (cA, 4096, .inl sp))]) [0, 1, 2, 3, 4, 5] rfl) (hK.sub (tys' := [(cA, .int)]) [0] rfl) (hD.sub (ws' := [(h0, .inr (0, [.int nu, .int pk, .ref h1, .ref h2, .int dc, .ref h3, .int rc, .ref h4, .ref h5])), (h1, .inl (cA, 7, .inl pr)), (h2, .inl (cA, 7, .inl ex)), (h3, .inl (cA, 360, .inl dv)), (h4, .inl (cA, 4096, .inl rt)), (h5, .inl (cA, 4096, .inl sp))]) [0, 1, 2, 3, 4, 5] (by decide) rfl) U hU hW⟩⟩ rfl rfl hl.1 rfl (lv_room (Nat.le_of_ble_eq_true rfl)) dX0_findPrimes_57 ⟨Nat.zero_le _, Nat.zero_le _⟩) (fun u H locs hw hP hD hS => ?_)
          have hP : va_P (dC, dI) vwCl [(h0, .inr (0, [.int nu, .int pk_5, .ref h1, .ref h2, .int dc, .ref h3, .int rc, .ref h4, .ref h5])), (h1, .inl (cA, 7, .inl pr_5)), (h2, .inl (cA, 7, .inl ex_5)), (h3, .inl (cA, 360, .inl dv)), (h4, .inl (cA, 4096, .inl rt)), (h5, .inl (cA, 4096, .inl sp))] H := hP
          have hD : va_D A [(h0, .inr (0, [.int nu, .int pk_5, .ref h1, .ref h2, .int dc, .ref h3, .int rc, .ref h4, .ref h5])), (h1, .inl (cA, 7, .inl pr_5)), (h2, .inl (cA, 7, .inl ex_5)), (h3, .inl (cA, 360, .inl dv)), (h4, .inl (cA, 4096, .inl rt)), (h5, .inl (cA, 4096, .inl sp))] := hD
          refine lv_iinc (v := (x2 + 1)) (lv' := [(2, .int (x2 + 1)), (0, .ref h0), (1, .int x1_3), (3, .int x3_3)]) hx hb dX0_findPrimes_60 hl (k := 2) rfl rfl (by decide) rfl (fun ls hl => ?_)
          refine lv_goto (tgt := 12) hx hb dX0_findPrimes_63 (by decide) ?_
          exact ih x1_3 (x2 + 1) pk_5 pr_5 ex_5 x1' pk' pr' ex' h _ _ hP hD hS _ (lv_sub hl [1, 2, 0] rfl) K
def f_r_findPrimes (F : Nat) (nu pk : Int32) (pr ex : Nat → Int32) : Option (Int32 × (Nat → Int32) × (Nat → Int32)) := b4 (l_r_findPrimes_12 F F nu 2 0 pr ex) fun x1_1 pk_1 pr_1 ex_1 => if x1_1 ≤ 1 then some (pk_1, pr_1, ex_1) else b3 (f_r_addPrime F pk_1 pr_1 ex_1 x1_1 1) fun pk_3 pr_3 ex_3 => some (pk_3, pr_3, ex_3)
set_option maxHeartbeats 4000000 in
set_option maxRecDepth 100000 in
theorem c_r_findPrimes (l : Launch) (dC : Nat → ClassId) (dI : Nat → Nat → Nat) (sz F : Nat) (h0 h1 h2 h3 h4 h5 : Nat) (cA : ClassId) (nu pk dc rc : Int32) (pr ex dv rt sp : Nat → Int32) (pk' : Int32) (pr' ex' : Nat → Int32) (h : f_r_findPrimes F nu pk pr ex = some (pk', pr', ex')) : Met l yX0_findPrimes wsX0_findPrimes { frames := 1, cells := 0, slots := 0, locals := 22 } (rf_Pc (dC, dI) [(cA, .int)] [(h0, .inr (0, [.int nu, .int pk, .ref h1, .ref h2, .int dc, .ref h3, .int rc, .ref h4, .ref h5])), (h1, .inl (cA, 7, .inl pr)), (h2, .inl (cA, 7, .inl ex)), (h3, .inl (cA, 360, .inl dv)), (h4, .inl (cA, 4096, .inl rt)), (h5, .inl (cA, 4096, .inl sp))] sz [.ref h0]) (va_Qv (fun _ : Unit => True) (fun (_ : Unit) t => va_P (dC, dI) vwCl [(h0, .inr (0, [.int nu, .int pk', .ref h1, .ref h2, .int dc, .ref h3, .int rc, .ref h4, .ref h5])), (h1, .inl (cA, 7, .inl pr')), (h2, .inl (cA, 7, .inl ex')), (h3, .inl (cA, 360, .inl dv)), (h4, .inl (cA, 4096, .inl rt)), (h5, .inl (cA, 4096, .inl sp))] t.heap ∧ va_D (va_A [(h0, .inr (0, [.int nu, .int pk, .ref h1, .ref h2, .int dc, .ref h3, .int rc, .ref h4, .ref h5])), (h1, .inl (cA, 7, .inl pr)), (h2, .inl (cA, 7, .inl ex)), (h3, .inl (cA, 360, .inl dv)), (h4, .inl (cA, 4096, .inl rt)), (h5, .inl (cA, 4096, .inl sp))] sz) [(h0, .inr (0, [.int nu, .int pk', .ref h1, .ref h2, .int dc, .ref h3, .int rc, .ref h4, .ref h5])), (h1, .inl (cA, 7, .inl pr')), (h2, .inl (cA, 7, .inl ex')), (h3, .inl (cA, 360, .inl dv)), (h4, .inl (cA, 4096, .inl rt)), (h5, .inl (cA, 4096, .inl sp))]) (va_A [(h0, .inr (0, [.int nu, .int pk, .ref h1, .ref h2, .int dc, .ref h3, .int rc, .ref h4, .ref h5])), (h1, .inl (cA, 7, .inl pr)), (h2, .inl (cA, 7, .inl ex)), (h3, .inl (cA, 360, .inl dv)), (h4, .inl (cA, 4096, .inl rt)), (h5, .inl (cA, 4096, .inl sp))] sz)) 0 0 (va_A [(h0, .inr (0, [.int nu, .int pk, .ref h1, .ref h2, .int dc, .ref h3, .int rc, .ref h4, .ref h5])), (h1, .inl (cA, 7, .inl pr)), (h2, .inl (cA, 7, .inl ex)), (h3, .inl (cA, 360, .inl dv)), (h4, .inl (cA, 4096, .inl rt)), (h5, .inl (cA, 4096, .inl sp))] sz) := by
  refine Met.ofW (cc := cX0_findPrimes) (maxL := 4) (ret := none) (by decide) rfl ?_
  intro p e s m args below meth c s₁ B hml hv
  obtain ⟨rfl, hsz, hP, hK, hD0⟩ := hv
  have hx := B.exec
  have hb := B.bytes
  have hr := B.returns
  have hts := atoms_spec (ws := wsX0_findPrimes) B.pre
  have hown : s.vm.findClass RX0 = some m.cls := findClass_of_methodNamed B.named
  have hlocks := B.notSynchronized
  subst hsz
  have hD := hD0.self (sz := s.heap.size)
  generalize hAe : va_A [(h0, .inr (0, [.int nu, .int pk, .ref h1, .ref h2, .int dc, .ref h3, .int rc, .ref h4, .ref h5])), (h1, .inl (cA, 7, .inl pr)), (h2, .inl (cA, 7, .inl ex)), (h3, .inl (cA, 360, .inl dv)), (h4, .inl (cA, 4096, .inl rt)), (h5, .inl (cA, 4096, .inl sp))] s.heap.size = A at hD ⊢
  have hA : ∀ q : Nat, s.heap.size ≤ q → A q := fun q h => by rw [← hAe]; exact Or.inr h
  have hS : va_S A s.heap s.heap [] := va_S.rf
  have hl := lv_entry ([.ref h0]) (n := 4) (Nat.le_of_ble_eq_true rfl)
  rw [lg_entry_eq]
  generalize (lg_sl ([.ref h0]) ++ List.replicate (4 - (lg_sl ([.ref h0])).length) Slot.unset).toArray = ls at hl ⊢
  have hl : lv_has ls 4 [(0, .ref h0)] := hl
  unfold f_r_findPrimes at h
  refine lv_aload_n hx hb dX0_findPrimes_0 rfl (lv_at hl 0 rfl) ?_
  refine va_get (D := (dC, dI)) (ci := 0) (v := .int nu) (C := RX0) (T := TX0) (N := 9) hx hb hts (fun _ h => List.mem_cons_of_mem _ (List.mem_append_right _ h)) hown hK hP 0 rfl rfl 0 (by decide) (hts _ (List.mem_of_getElem? (i := 1) rfl)) (fun _ h9 => h9) rfl dX0_findPrimes_1 ?_
  refine lv_istore_n (lv' := [(1, .int nu), (0, .ref h0)]) hx hb dX0_findPrimes_4 rfl hl (by decide) rfl (fun ls hl => ?_)
  refine lv_aload_n hx hb dX0_findPrimes_5 rfl (lv_at hl 1 rfl) ?_
  refine lv_iconst (v := 0) hx hb dX0_findPrimes_6 (by decide) ?_
  refine va_put (D := (dC, dI)) (ci := 0) (v := .int 0) (ty := .int) (C := RX0) (T := TX0) (N := 9) hx hb hts (fun _ h => List.mem_cons_of_mem _ (List.mem_append_right _ h)) tyX0 tyX0_ok nX0 hown hK hP hD hS 0 rfl rfl 1 (by decide) (hts _ (List.mem_of_getElem? (i := 2) rfl)) (fun _ h9 => h9) rfl (by decide +kernel) rfl rfl (Nat.le_of_ble_eq_true rfl) dX0_findPrimes_7 (fun H locs hP hD hS => ?_)
  have hP : va_P (dC, dI) vwCl [(h0, .inr (0, [.int nu, .int 0, .ref h1, .ref h2, .int dc, .ref h3, .int rc, .ref h4, .ref h5])), (h1, .inl (cA, 7, .inl pr)), (h2, .inl (cA, 7, .inl ex)), (h3, .inl (cA, 360, .inl dv)), (h4, .inl (cA, 4096, .inl rt)), (h5, .inl (cA, 4096, .inl sp))] H := hP
  have hD : va_D A [(h0, .inr (0, [.int nu, .int 0, .ref h1, .ref h2, .int dc, .ref h3, .int rc, .ref h4, .ref h5])), (h1, .inl (cA, 7, .inl pr)), (h2, .inl (cA, 7, .inl ex)), (h3, .inl (cA, 360, .inl dv)), (h4, .inl (cA, 4096, .inl rt)), (h5, .inl (cA, 4096, .inl sp))] := hD
  refine lv_iconst (v := 2) hx hb dX0_findPrimes_10 (by decide) ?_
  refine lv_istore_n (lv' := [(2, .int 2), (1, .int nu), (0, .ref h0)]) hx hb dX0_findPrimes_11 rfl hl (by decide) rfl (fun ls hl => ?_)
  obtain ⟨x1_1, pk_1, pr_1, ex_1, hr1, h⟩ := rf_b4 h
  refine w_r_findPrimes_12 F hx hb hml hown hts hA h0 h1 h2 h3 h4 h5 cA hK nu dc rc dv rt sp F nu 2 0 pr ex x1_1 pk_1 pr_1 ex_1 hr1 _ _ hP hD hS _ (lv_sub hl [2, 1, 0] rfl) (fun H locs ls hP hD hS hl => ?_)
  refine lv_iload_n hx hb dX0_findPrimes_66 rfl (lv_at hl 1 rfl) ?_
  refine lv_iconst (v := 1) hx hb dX0_findPrimes_67 (by decide) ?_
  refine lv_icmp_le (tgt := 77) hx hb dX0_findPrimes_68 (by decide) (fun c2 => ?_) (fun c2 => ?_)
  · rw [if_pos c2] at h
    cases h
    exact W.vret hx hb hr (fun t ht hW => ⟨⟨(), rfl, trivial, by rw [ht]; exact hP, hD⟩, hS.F ht⟩) hS.2.2 dX0_findPrimes_77
  · rw [if_neg c2] at h
    refine lv_aload_n hx hb dX0_findPrimes_71 rfl (lv_at hl 0 rfl) ?_
    refine lv_iload_n hx hb dX0_findPrimes_72 rfl (lv_at hl 1 rfl) ?_
    refine lv_iconst (v := 1) hx hb dX0_findPrimes_73 (by decide) ?_
    obtain ⟨pk_3, pr_3, ex_3, hr3, h⟩ := rf_b3 h
    refine rf_cv (wn := (fun _ : Unit => [(h0, .inr (0, [.int nu, .int pk_3, .ref h1, .ref h2, .int dc, .ref h3, .int rc, .ref h4, .ref h5])), (h1, .inl (cA, 7, .inl pr_3)), (h2, .inl (cA, 7, .inl ex_3)), (h3, .inl (cA, 360, .inl dv)), (h4, .inl (cA, 4096, .inl rt)), (h5, .inl (cA, 4096, .inl sp))])) (wc := [(h0, .inr (0, [.int nu, .int pk_1, .ref h1, .ref h2, .int dc, .ref h3, .int rc, .ref h4, .ref h5])), (h1, .inl (cA, 7, .inl pr_1)), (h2, .inl (cA, 7, .inl ex_1)), (h3, .inl (cA, 360, .inl dv)), (h4, .inl (cA, 4096, .inl rt)), (h5, .inl (cA, 4096, .inl sp))]) (wr := []) hP hD hS hA [0, 1, 2, 3, 4, 5] [] rfl rfl (by decide) (by decide) (va_runV (As := [.int x1_1, .int 1]) (rest := []) ⟨hx, hb, hml, hown, hts⟩ (c_r_addPrime l dC dI _ F h0 h1 h2 h3 h4 h5 cA nu pk_1 dc rc pr_1 ex_1 dv rt sp x1_1 1 pk_3 pr_3 ex_3 hr3) (cwV 2 hts gX0_findPrimes_X0_addPrime rfl rfl rfl (by decide +kernel) ⟨Nat.le_of_ble_eq_true rfl, Nat.le_of_ble_eq_true rfl⟩) ⟨rf_blind, va_recv hK hP (ci := 0) (q0 := 0) rfl rfl, fun U hU hW => ⟨rfl, rf_pre (hP.sub (ws' := [(h0, .inr (0, [.int nu, .int pk_1, .ref h1, .ref h2, .int dc, .ref h3, .int rc, .ref h4, .ref h5])), (h1, .inl (cA, 7, .inl pr_1)), (h2, .inl (cA, 7, .inl ex_1)), (h3, .inl (cA, 360, .inl dv)), (h4, .inl (cA, 4096, .inl rt)), (h5, .inl (cA, 4096, .inl sp))]) [0, 1, 2, 3, 4, 5] rfl) (hK.sub (tys' := [(cA, .int)]) [0] rfl) (hD.sub (ws' := [(h0, .inr (0, [.int nu, .int pk_1, .ref h1, .ref h2, .int dc, .ref h3, .int rc, .ref h4, .ref h5])), (h1, .inl (cA, 7, .inl pr_1)), (h2, .inl (cA, 7, .inl ex_1)), (h3, .inl (cA, 360, .inl dv)), (h4, .inl (cA, 4096, .inl rt)), (h5, .inl (cA, 4096, .inl sp))]) [0, 1, 2, 3, 4, 5] (by decide) rfl) U hU hW⟩⟩ rfl rfl hl.1 rfl (lv_room (Nat.le_of_ble_eq_true rfl)) dX0_findPrimes_74 ⟨Nat.zero_le _, Nat.zero_le _⟩) (fun u H locs hw hP hD hS => ?_)
    have hP : va_P (dC, dI) vwCl [(h0, .inr (0, [.int nu, .int pk_3, .ref h1, .ref h2, .int dc, .ref h3, .int rc, .ref h4, .ref h5])), (h1, .inl (cA, 7, .inl pr_3)), (h2, .inl (cA, 7, .inl ex_3)), (h3, .inl (cA, 360, .inl dv)), (h4, .inl (cA, 4096, .inl rt)), (h5, .inl (cA, 4096, .inl sp))] H := hP
    have hD : va_D A [(h0, .inr (0, [.int nu, .int pk_3, .ref h1, .ref h2, .int dc, .ref h3, .int rc, .ref h4, .ref h5])), (h1, .inl (cA, 7, .inl pr_3)), (h2, .inl (cA, 7, .inl ex_3)), (h3, .inl (cA, 360, .inl dv)), (h4, .inl (cA, 4096, .inl rt)), (h5, .inl (cA, 4096, .inl sp))] := hD
    cases h
    exact W.vret hx hb hr (fun t ht hW => ⟨⟨(), rfl, trivial, by rw [ht]; exact hP, hD⟩, hS.F ht⟩) hS.2.2 dX0_findPrimes_77
def l_r_addMultiples_2 (F : Nat) (x1 x2 : Int32) : Nat → Int32 → Int32 → (Nat → Int32) → Option (Int32 × (Nat → Int32))
  | 0, _, _, _ => none
  | n + 1, x3, dc, dv => if x1 ≤ x3 then some (dc, dv) else if 360 ≤ dc then some (dc, dv) else if x3.toInt < 0 ∨ (360 : Int) ≤ x3.toInt then none else if dc.toInt < 0 ∨ (360 : Int) ≤ dc.toInt then none else l_r_addMultiples_2 F x1 x2 n (x3 + 1) (dc + 1) (upd dv dc.toNatClampNeg ((dv x3.toNatClampNeg) * x2))
set_option maxHeartbeats 4000000 in
set_option maxRecDepth 100000 in
theorem w_r_addMultiples_2 {p : Program} {l : Launch} {e : Env} {s : State} {m : MethodId} {args : Array Value} {below : List Frame} {meth : Method} {c : Code} {A : Nat → Prop} {Q : State → Prop} {dC : Nat → ClassId} {dI : Nat → Nat → Nat} (F : Nat) (hx : p.tables.exec = Jvm.exec) (hb : c.code = cX0_addMultiples) (hml : c.maxLocals = 4) (hown : s.vm.findClass RX0 = some m.cls) (hts : ∀ w ∈ wsX0_addMultiples, w.before args s = true) (hA : ∀ q, s.heap.size ≤ q → A q) (h0 h1 h2 h3 h4 h5 : Nat) (cA : ClassId) (hK : va_K (dC, dI) vwCl [(cA, .int)] s) (x1 x2 nu pk rc : Int32) (pr ex rt sp : Nat → Int32) :
    ∀ (n : Nat) (x3 dc : Int32) (dv : Nat → Int32) (dc' : Int32) (dv' : Nat → Int32), l_r_addMultiples_2 F x1 x2 n x3 dc dv = some (dc', dv') → ∀ (H : Heap) (locs : List Loc), va_P (dC, dI) vwCl [(h0, .inr (0, [.int nu, .int pk, .ref h1, .ref h2, .int dc, .ref h3, .int rc, .ref h4, .ref h5])), (h1, .inl (cA, 7, .inl pr)), (h2, .inl (cA, 7, .inl ex)), (h3, .inl (cA, 360, .inl dv)), (h4, .inl (cA, 4096, .inl rt)), (h5, .inl (cA, 4096, .inl sp))] H → va_D A [(h0, .inr (0, [.int nu, .int pk, .ref h1, .ref h2, .int dc, .ref h3, .int rc, .ref h4, .ref h5])), (h1, .inl (cA, 7, .inl pr)), (h2, .inl (cA, 7, .inl ex)), (h3, .inl (cA, 360, .inl dv)), (h4, .inl (cA, 4096, .inl rt)), (h5, .inl (cA, 4096, .inl sp))] → va_S A s.heap H locs → ∀ ls : Array Slot, lv_has ls 4 [(0, .ref h0), (1, .int x1), (2, .int x2), (3, .int x3)] → (∀ (H : Heap) (locs : List Loc) (ls : Array Slot), va_P (dC, dI) vwCl [(h0, .inr (0, [.int nu, .int pk, .ref h1, .ref h2, .int dc', .ref h3, .int rc, .ref h4, .ref h5])), (h1, .inl (cA, 7, .inl pr)), (h2, .inl (cA, 7, .inl ex)), (h3, .inl (cA, 360, .inl dv')), (h4, .inl (cA, 4096, .inl rt)), (h5, .inl (cA, 4096, .inl sp))] H → va_D A [(h0, .inr (0, [.int nu, .int pk, .ref h1, .ref h2, .int dc', .ref h3, .int rc, .ref h4, .ref h5])), (h1, .inl (cA, 7, .inl pr)), (h2, .inl (cA, 7, .inl ex)), (h3, .inl (cA, 360, .inl dv')), (h4, .inl (cA, 4096, .inl rt)), (h5, .inl (cA, 4096, .inl sp))] → va_S A s.heap H locs → lv_has ls 4 [] → W p l e { frames := 0, cells := 0, slots := 0, locals := 0 } s m args below meth c H locs 0 0 Q (F0 m 50 ls [])) → W p l e { frames := 0, cells := 0, slots := 0, locals := 0 } s m args below meth c H locs 0 0 Q (F0 m 2 ls []) := by
  intro n
  induction n with
  | zero => intro x3 dc dv dc' dv' h; exact nomatch (show (none : Option _) = some _ from h)
  | succ n ih =>
    intro x3 dc dv dc' dv' h H locs hP hD hS ls hl K
    rw [l_r_addMultiples_2] at h
    refine lv_iload_n hx hb dX0_addMultiples_2 rfl (lv_at hl 3 rfl) ?_
    refine lv_iload_n hx hb dX0_addMultiples_3 rfl (lv_at hl 1 rfl) ?_
    refine lv_icmp_ge (tgt := 50) hx hb dX0_addMultiples_4 (by decide) (fun c1 => ?_) (fun c1 => ?_)
    · rw [if_pos c1] at h
      cases h
      exact K _ _ _ hP hD hS (lv_sub hl [] rfl)
    · rw [if_neg c1] at h
      refine lv_aload_n hx hb dX0_addMultiples_7 rfl (lv_at hl 0 rfl) ?_
      refine va_get (D := (dC, dI)) (ci := 0) (v := .int dc) (C := RX0) (T := TX0) (N := 9) hx hb hts (fun _ h => List.mem_cons_of_mem _ (List.mem_append_right _ h)) hown hK hP 0 rfl rfl 4 (by decide) (hts _ (List.mem_of_getElem? (i := 1) rfl)) (fun _ h9 => h9) rfl dX0_addMultiples_8 ?_
      refine lv_sipush (v := 360) hx hb dX0_addMultiples_11 (by decide) ?_
      refine lv_icmp_ge (tgt := 50) hx hb dX0_addMultiples_14 (by decide) (fun c2 => ?_) (fun c2 => ?_)
      · rw [if_pos c2] at h
        cases h
        exact K _ _ _ hP hD hS (lv_sub hl [] rfl)
      · rw [if_neg c2] at h
        refine lv_aload_n hx hb dX0_addMultiples_17 rfl (lv_at hl 0 rfl) ?_
        refine va_get (D := (dC, dI)) (ci := 0) (v := .ref h3) (C := RX0) (T := TX0) (N := 9) hx hb hts (fun _ h => List.mem_cons_of_mem _ (List.mem_append_right _ h)) hown hK hP 0 rfl rfl 5 (by decide) (hts _ (List.mem_of_getElem? (i := 2) rfl)) (fun _ h9 => h9) rfl dX0_addMultiples_18 ?_
        refine lv_aload_n hx hb dX0_addMultiples_21 rfl (lv_at hl 0 rfl) ?_
        refine va_get (D := (dC, dI)) (ci := 0) (v := .int dc) (C := RX0) (T := TX0) (N := 9) hx hb hts (fun _ h => List.mem_cons_of_mem _ (List.mem_append_right _ h)) hown hK hP 0 rfl rfl 4 (by decide) (hts _ (List.mem_of_getElem? (i := 1) rfl)) (fun _ h9 => h9) rfl dX0_addMultiples_22 ?_
        refine lv_aload_n hx hb dX0_addMultiples_25 rfl (lv_at hl 0 rfl) ?_
        refine va_get (D := (dC, dI)) (ci := 0) (v := .ref h3) (C := RX0) (T := TX0) (N := 9) hx hb hts (fun _ h => List.mem_cons_of_mem _ (List.mem_append_right _ h)) hown hK hP 0 rfl rfl 5 (by decide) (hts _ (List.mem_of_getElem? (i := 2) rfl)) (fun _ h9 => h9) rfl dX0_addMultiples_26 ?_
        refine lv_iload_n hx hb dX0_addMultiples_29 rfl (lv_at hl 3 rfl) ?_
        obtain ⟨g3, h⟩ := rf_gd h
        refine va_iald hx hb hK hP 3 0 rfl rfl (rf_in g3) dX0_addMultiples_30 ?_
        refine lv_iload_n hx hb dX0_addMultiples_31 rfl (lv_at hl 2 rfl) ?_
        refine lv_imul hx hb dX0_addMultiples_32 ?_
        obtain ⟨g4, h⟩ := rf_gd h
        refine va_iast hx hb hK hP hD hS 3 0 rfl rfl (rf_in g4) dX0_addMultiples_33 (fun H locs hP hD hS => ?_)
        have hP : va_P (dC, dI) vwCl [(h0, .inr (0, [.int nu, .int pk, .ref h1, .ref h2, .int dc, .ref h3, .int rc, .ref h4, .ref h5])), (h1, .inl (cA, 7, .inl pr)), (h2, .inl (cA, 7, .inl ex)), (h3, .inl (cA, 360, .inl (upd dv dc.toNatClampNeg ((dv x3.toNatClampNeg) * x2)))), (h4, .inl (cA, 4096, .inl rt)), (h5, .inl (cA, 4096, .inl sp))] H := hP
        have hD : va_D A [(h0, .inr (0, [.int nu, .int pk, .ref h1, .ref h2, .int dc, .ref h3, .int rc, .ref h4, .ref h5])), (h1, .inl (cA, 7, .inl pr)), (h2, .inl (cA, 7, .inl ex)), (h3, .inl (cA, 360, .inl (upd dv dc.toNatClampNeg ((dv x3.toNatClampNeg) * x2)))), (h4, .inl (cA, 4096, .inl rt)), (h5, .inl (cA, 4096, .inl sp))] := hD
        refine lv_aload_n hx hb dX0_addMultiples_34 rfl (lv_at hl 0 rfl) ?_
        refine lv_dup hx hb dX0_addMultiples_35 rfl ?_
        refine va_get (D := (dC, dI)) (ci := 0) (v := .int dc) (C := RX0) (T := TX0) (N := 9) hx hb hts (fun _ h => List.mem_cons_of_mem _ (List.mem_append_right _ h)) hown hK hP 0 rfl rfl 4 (by decide) (hts _ (List.mem_of_getElem? (i := 1) rfl)) (fun _ h9 => h9) rfl dX0_addMultiples_36 ?_
        refine lv_iconst (v := 1) hx hb dX0_addMultiples_39 (by decide) ?_
        refine lv_iadd hx hb dX0_addMultiples_40 ?_
        refine va_put (D := (dC, dI)) (ci := 0) (v := .int (dc + 1)) (ty := .int) (C := RX0) (T := TX0) (N := 9) hx hb hts (fun _ h => List.mem_cons_of_mem _ (List.mem_append_right _ h)) tyX0 tyX0_ok nX0 hown hK hP hD hS 0 rfl rfl 4 (by decide) (hts _ (List.mem_of_getElem? (i := 1) rfl)) (fun _ h9 => h9) rfl (by decide +kernel) rfl rfl (Nat.le_of_ble_eq_true rfl) dX0_addMultiples_41 (fun H locs hP hD hS => ?_)
        have hP : va_P (dC, dI) vwCl [(h0, .inr (0, [.int nu, .int pk, .ref h1, .ref h2, .int (dc + 1), .ref h3, .int rc, .ref h4, .ref h5])), (h1, .inl (cA, 7, .inl pr)), (h2, .inl (cA, 7, .inl ex)), (h3, .inl (cA, 360, .inl (upd dv dc.toNatClampNeg ((dv x3.toNatClampNeg) * x2)))), (h4, .inl (cA, 4096, .inl rt)), (h5, .inl (cA, 4096, .inl sp))] H := hP
        have hD : va_D A [(h0, .inr (0, [.int nu, .int pk, .ref h1, .ref h2, .int (dc + 1), .ref h3, .int rc, .ref h4, .ref h5])), (h1, .inl (cA, 7, .inl pr)), (h2, .inl (cA, 7, .inl ex)), (h3, .inl (cA, 360, .inl (upd dv dc.toNatClampNeg ((dv x3.toNatClampNeg) * x2)))), (h4, .inl (cA, 4096, .inl rt)), (h5, .inl (cA, 4096, .inl sp))] := hD
        refine lv_iinc (v := (x3 + 1)) (lv' := [(3, .int (x3 + 1)), (0, .ref h0), (1, .int x1), (2, .int x2)]) hx hb dX0_addMultiples_44 hl (k := 3) rfl rfl (by decide) rfl (fun ls hl => ?_)
        refine lv_goto (tgt := 2) hx hb dX0_addMultiples_47 (by decide) ?_
        exact ih (x3 + 1) (dc + 1) (upd dv dc.toNatClampNeg ((dv x3.toNatClampNeg) * x2)) dc' dv' h _ _ hP hD hS _ (lv_sub hl [1, 2, 3, 0] rfl) K
def f_r_addMultiples (F : Nat) (dc : Int32) (dv : Nat → Int32) (p0 p1 : Int32) : Option (Int32 × (Nat → Int32)) := b2 (l_r_addMultiples_2 F p0 p1 F 0 dc dv) fun dc_1 dv_1 => some (dc_1, dv_1)
set_option maxHeartbeats 4000000 in
set_option maxRecDepth 100000 in
theorem c_r_addMultiples (l : Launch) (dC : Nat → ClassId) (dI : Nat → Nat → Nat) (sz F : Nat) (h0 h1 h2 h3 h4 h5 : Nat) (cA : ClassId) (nu pk dc rc : Int32) (pr ex dv rt sp : Nat → Int32) (p0 p1 dc' : Int32) (dv' : Nat → Int32) (h : f_r_addMultiples F dc dv p0 p1 = some (dc', dv')) : Met l yX0_addMultiples wsX0_addMultiples { frames := 0, cells := 0, slots := 0, locals := 0 } (rf_Pc (dC, dI) [(cA, .int)] [(h0, .inr (0, [.int nu, .int pk, .ref h1, .ref h2, .int dc, .ref h3, .int rc, .ref h4, .ref h5])), (h1, .inl (cA, 7, .inl pr)), (h2, .inl (cA, 7, .inl ex)), (h3, .inl (cA, 360, .inl dv)), (h4, .inl (cA, 4096, .inl rt)), (h5, .inl (cA, 4096, .inl sp))] sz [.ref h0, .int p0, .int p1]) (va_Qv (fun _ : Unit => True) (fun (_ : Unit) t => va_P (dC, dI) vwCl [(h0, .inr (0, [.int nu, .int pk, .ref h1, .ref h2, .int dc', .ref h3, .int rc, .ref h4, .ref h5])), (h1, .inl (cA, 7, .inl pr)), (h2, .inl (cA, 7, .inl ex)), (h3, .inl (cA, 360, .inl dv')), (h4, .inl (cA, 4096, .inl rt)), (h5, .inl (cA, 4096, .inl sp))] t.heap ∧ va_D (va_A [(h0, .inr (0, [.int nu, .int pk, .ref h1, .ref h2, .int dc, .ref h3, .int rc, .ref h4, .ref h5])), (h1, .inl (cA, 7, .inl pr)), (h2, .inl (cA, 7, .inl ex)), (h3, .inl (cA, 360, .inl dv)), (h4, .inl (cA, 4096, .inl rt)), (h5, .inl (cA, 4096, .inl sp))] sz) [(h0, .inr (0, [.int nu, .int pk, .ref h1, .ref h2, .int dc', .ref h3, .int rc, .ref h4, .ref h5])), (h1, .inl (cA, 7, .inl pr)), (h2, .inl (cA, 7, .inl ex)), (h3, .inl (cA, 360, .inl dv')), (h4, .inl (cA, 4096, .inl rt)), (h5, .inl (cA, 4096, .inl sp))]) (va_A [(h0, .inr (0, [.int nu, .int pk, .ref h1, .ref h2, .int dc, .ref h3, .int rc, .ref h4, .ref h5])), (h1, .inl (cA, 7, .inl pr)), (h2, .inl (cA, 7, .inl ex)), (h3, .inl (cA, 360, .inl dv)), (h4, .inl (cA, 4096, .inl rt)), (h5, .inl (cA, 4096, .inl sp))] sz)) 0 0 (va_A [(h0, .inr (0, [.int nu, .int pk, .ref h1, .ref h2, .int dc, .ref h3, .int rc, .ref h4, .ref h5])), (h1, .inl (cA, 7, .inl pr)), (h2, .inl (cA, 7, .inl ex)), (h3, .inl (cA, 360, .inl dv)), (h4, .inl (cA, 4096, .inl rt)), (h5, .inl (cA, 4096, .inl sp))] sz) := by
  refine Met.ofW (cc := cX0_addMultiples) (maxL := 4) (ret := none) (by decide) rfl ?_
  intro p e s m args below meth c s₁ B hml hv
  obtain ⟨rfl, hsz, hP, hK, hD0⟩ := hv
  have hx := B.exec
  have hb := B.bytes
  have hr := B.returns
  have hts := atoms_spec (ws := wsX0_addMultiples) B.pre
  have hown : s.vm.findClass RX0 = some m.cls := findClass_of_methodNamed B.named
  have hlocks := B.notSynchronized
  subst hsz
  have hD := hD0.self (sz := s.heap.size)
  generalize hAe : va_A [(h0, .inr (0, [.int nu, .int pk, .ref h1, .ref h2, .int dc, .ref h3, .int rc, .ref h4, .ref h5])), (h1, .inl (cA, 7, .inl pr)), (h2, .inl (cA, 7, .inl ex)), (h3, .inl (cA, 360, .inl dv)), (h4, .inl (cA, 4096, .inl rt)), (h5, .inl (cA, 4096, .inl sp))] s.heap.size = A at hD ⊢
  have hA : ∀ q : Nat, s.heap.size ≤ q → A q := fun q h => by rw [← hAe]; exact Or.inr h
  have hS : va_S A s.heap s.heap [] := va_S.rf
  have hl := lv_entry ([.ref h0, .int p0, .int p1]) (n := 4) (Nat.le_of_ble_eq_true rfl)
  rw [lg_entry_eq]
  generalize (lg_sl ([.ref h0, .int p0, .int p1]) ++ List.replicate (4 - (lg_sl ([.ref h0, .int p0, .int p1])).length) Slot.unset).toArray = ls at hl ⊢
  have hl : lv_has ls 4 [(0, .ref h0), (1, .int p0), (2, .int p1)] := hl
  unfold f_r_addMultiples at h
  refine lv_iconst (v := 0) hx hb dX0_addMultiples_0 (by decide) ?_
  refine lv_istore_n (lv' := [(3, .int 0), (0, .ref h0), (1, .int p0), (2, .int p1)]) hx hb dX0_addMultiples_1 rfl hl (by decide) rfl (fun ls hl => ?_)
  obtain ⟨dc_1, dv_1, hr1, h⟩ := rf_b2 h
  refine w_r_addMultiples_2 F hx hb hml hown hts hA h0 h1 h2 h3 h4 h5 cA hK p0 p1 nu pk rc pr ex rt sp F 0 dc dv dc_1 dv_1 hr1 _ _ hP hD hS _ (lv_sub hl [1, 2, 3, 0] rfl) (fun H locs ls hP hD hS hl => ?_)
  cases h
  exact W.vret hx hb hr (fun t ht hW => ⟨⟨(), rfl, trivial, by rw [ht]; exact hP, hD⟩, hS.F ht⟩) hS.2.2 dX0_addMultiples_50
def l_r_isRising_2 (F : Nat) (n1 : Nat) (x1 : Int32) (ra : Nat → Int32) : Nat → Int32 → Option (Int32)
  | 0, _ => none
  | n + 1, x2 => if x1 ≤ x2 then some 1 else if (x2 - 1).toInt < 0 ∨ (n1 : Int) ≤ (x2 - 1).toInt then none else if x2.toInt < 0 ∨ (n1 : Int) ≤ x2.toInt then none else if (ra (x2 - 1).toNatClampNeg) ≤ (ra x2.toNatClampNeg) then l_r_isRising_2 F n1 x1 ra n (x2 + 1) else some 0
set_option maxHeartbeats 4000000 in
set_option maxRecDepth 100000 in
theorem w_r_isRising_2 {p : Program} {l : Launch} {e : Env} {s : State} {m : MethodId} {args : Array Value} {below : List Frame} {meth : Method} {c : Code} {A : Nat → Prop} {Q : State → Prop} {dC : Nat → ClassId} {dI : Nat → Nat → Nat} (F : Nat) (hx : p.tables.exec = Jvm.exec) (hb : c.code = cX0_isRising) (hml : c.maxLocals = 3) (hown : s.vm.findClass RX0 = some m.cls) (hts : ∀ w ∈ wsX0_isRising, w.before args s = true) (hA : ∀ q, s.heap.size ≤ q → A q) (qa n1 : Nat) (cA : ClassId) (hK : va_K (dC, dI) vwCl [(cA, .int)] s) (x1 : Int32) (ra : Nat → Int32) :
    ∀ (n : Nat) (x2 rv : Int32), l_r_isRising_2 F n1 x1 ra n x2 = some rv → ∀ (H : Heap) (locs : List Loc), va_P (dC, dI) vwCl [(qa, .inl (cA, n1, .inl ra))] H → va_D A [(qa, .inl (cA, n1, .inl ra))] → va_S A s.heap H locs → ∀ ls : Array Slot, lv_has ls 3 [(0, .ref qa), (1, .int x1), (2, .int x2)] → (∀ (pc : Nat) (H : Heap) (locs : List Loc) (ls : Array Slot), decode cX0_isRising pc = .ok (.ireturn, 1) → narrow .boolean (.int rv) = .int rv → va_P (dC, dI) vwCl [(qa, .inl (cA, n1, .inl ra))] H → va_D A [(qa, .inl (cA, n1, .inl ra))] → va_S A s.heap H locs → W p l e { frames := 0, cells := 0, slots := 0, locals := 0 } s m args below meth c H locs 0 0 Q (F0 m pc ls [.int rv])) → W p l e { frames := 0, cells := 0, slots := 0, locals := 0 } s m args below meth c H locs 0 0 Q (F0 m 2 ls []) := by
  intro n
  induction n with
  | zero => intro x2 rv h; exact nomatch (show (none : Option _) = some _ from h)
  | succ n ih =>
    intro x2 rv h H locs hP hD hS ls hl K
    rw [l_r_isRising_2] at h
    refine lv_iload_n hx hb dX0_isRising_2 rfl (lv_at hl 2 rfl) ?_
    refine lv_iload_n hx hb dX0_isRising_3 rfl (lv_at hl 1 rfl) ?_
    refine lv_icmp_ge (tgt := 26) hx hb dX0_isRising_4 (by decide) (fun c1 => ?_) (fun c1 => ?_)
    · rw [if_pos c1] at h
      refine lv_iconst (v := 1) hx hb dX0_isRising_26 (by decide) ?_
      cases h
      exact K 27 _ _ _ dX0_isRising_27 rfl hP hD hS
    · rw [if_neg c1] at h
      refine lv_aload_n hx hb dX0_isRising_7 rfl (lv_at hl 0 rfl) ?_
      refine lv_iload_n hx hb dX0_isRising_8 rfl (lv_at hl 2 rfl) ?_
      refine lv_iconst (v := 1) hx hb dX0_isRising_9 (by decide) ?_
      refine lv_isub hx hb dX0_isRising_10 ?_
      obtain ⟨g2, h⟩ := rf_gd h
      refine va_iald hx hb hK hP 0 0 rfl rfl (rf_in g2) dX0_isRising_11 ?_
      refine lv_aload_n hx hb dX0_isRising_12 rfl (lv_at hl 0 rfl) ?_
      refine lv_iload_n hx hb dX0_isRising_13 rfl (lv_at hl 2 rfl) ?_
      obtain ⟨g3, h⟩ := rf_gd h
      refine va_iald hx hb hK hP 0 0 rfl rfl (rf_in g3) dX0_isRising_14 ?_
      refine lv_icmp_le (tgt := 20) hx hb dX0_isRising_15 (by decide) (fun c4 => ?_) (fun c4 => ?_)
      · rw [if_pos c4] at h
        refine lv_iinc (v := (x2 + 1)) (lv' := [(2, .int (x2 + 1)), (0, .ref qa), (1, .int x1)]) hx hb dX0_isRising_20 hl (k := 2) rfl rfl (by decide) rfl (fun ls hl => ?_)
        refine lv_goto (tgt := 2) hx hb dX0_isRising_23 (by decide) ?_
        exact ih (x2 + 1) rv h _ _ hP hD hS _ (lv_sub hl [1, 2, 0] rfl) K
      · rw [if_neg c4] at h
        refine lv_iconst (v := 0) hx hb dX0_isRising_18 (by decide) ?_
        cases h
        exact K 19 _ _ _ dX0_isRising_19 rfl hP hD hS
def f_r_isRising (F : Nat) (n1 : Nat) (ra : Nat → Int32) (p1 : Int32) : Option (Int32) := l_r_isRising_2 F n1 p1 ra F 1
set_option maxHeartbeats 4000000 in
set_option maxRecDepth 100000 in
theorem c_r_isRising (l : Launch) (dC : Nat → ClassId) (dI : Nat → Nat → Nat) (sz F : Nat) (qa n1 : Nat) (cA : ClassId) (ra : Nat → Int32) (p1 rv : Int32) (h : f_r_isRising F n1 ra p1 = some rv) : Met l yX0_isRising wsX0_isRising { frames := 0, cells := 0, slots := 0, locals := 0 } (rf_Pc (dC, dI) [(cA, .int)] [(qa, .inl (cA, n1, .inl ra))] sz [.ref qa, .int p1]) (va_Qi (fun (r : Int32) (_ : Unit) => rv = r) (fun (_ : Unit) t => va_P (dC, dI) vwCl [(qa, .inl (cA, n1, .inl ra))] t.heap ∧ va_D (va_A [(qa, .inl (cA, n1, .inl ra))] sz) [(qa, .inl (cA, n1, .inl ra))]) (va_A [(qa, .inl (cA, n1, .inl ra))] sz)) 0 0 (va_A [(qa, .inl (cA, n1, .inl ra))] sz) := by
  refine Met.ofW (cc := cX0_isRising) (maxL := 3) (ret := (some .boolean)) (by decide) rfl ?_
  intro p e s m args below meth c s₁ B hml hv
  obtain ⟨rfl, hsz, hP, hK, hD0⟩ := hv
  have hx := B.exec
  have hb := B.bytes
  have hr := B.returns
  have hts := atoms_spec (ws := wsX0_isRising) B.pre
  have hown : s.vm.findClass RX0 = some m.cls := findClass_of_methodNamed B.named
  have hlocks := B.notSynchronized
  subst hsz
  have hD := hD0.self (sz := s.heap.size)
  generalize hAe : va_A [(qa, .inl (cA, n1, .inl ra))] s.heap.size = A at hD ⊢
  have hA : ∀ q : Nat, s.heap.size ≤ q → A q := fun q h => by rw [← hAe]; exact Or.inr h
  have hS : va_S A s.heap s.heap [] := va_S.rf
  have hl := lv_entry ([.ref qa, .int p1]) (n := 3) (Nat.le_of_ble_eq_true rfl)
  rw [lg_entry_eq]
  generalize (lg_sl ([.ref qa, .int p1]) ++ List.replicate (3 - (lg_sl ([.ref qa, .int p1])).length) Slot.unset).toArray = ls at hl ⊢
  have hl : lv_has ls 3 [(0, .ref qa), (1, .int p1)] := hl
  unfold f_r_isRising at h
  refine lv_iconst (v := 1) hx hb dX0_isRising_0 (by decide) ?_
  refine lv_istore_n (lv' := [(2, .int 1), (0, .ref qa), (1, .int p1)]) hx hb dX0_isRising_1 rfl hl (by decide) rfl (fun ls hl => ?_)
  refine w_r_isRising_2 F hx hb hml hown hts hA qa n1 cA hK p1 ra F 1 rv h _ _ hP hD hS _ (lv_sub hl [1, 2, 0] rfl) (fun pc H locs ls hdg hn hP hD hS => ?_)
  exact W.zret hx hb hr hn (fun t ht hW => ⟨⟨_, (), rfl, rfl, by rw [ht]; exact hP, hD⟩, hS.F ht⟩) hS.2.2 hdg
def l_r_mergeRuns_9 (F : Nat) (n1 n2 : Nat) (x3 x4 : Int32) (ra : Nat → Int32) : Nat → Int32 → Int32 → Int32 → (Nat → Int32) → Option ((Nat → Int32))
  | 0, _, _, _, _ => none
  | n + 1, x5, x6, x7, tb => if x4 ≤ x7 then some tb else if x4 ≤ x6 then if x5.toInt < 0 ∨ (n1 : Int) ≤ x5.toInt then none else if x7.toInt < 0 ∨ (n2 : Int) ≤ x7.toInt then none else l_r_mergeRuns_9 F n1 n2 x3 x4 ra n (x5 + 1) x6 (x7 + 1) (upd tb x7.toNatClampNeg (ra x5.toNatClampNeg)) else if x3 ≤ x5 then if x6.toInt < 0 ∨ (n1 : Int) ≤ x6.toInt then none else if x7.toInt < 0 ∨ (n2 : Int) ≤ x7.toInt then none else l_r_mergeRuns_9 F n1 n2 x3 x4 ra n x5 (x6 + 1) (x7 + 1) (upd tb x7.toNatClampNeg (ra x6.toNatClampNeg)) else if x5.toInt < 0 ∨ (n1 : Int) ≤ x5.toInt then none else if x6.toInt < 0 ∨ (n1 : Int) ≤ x6.toInt then none else if (ra x6.toNatClampNeg) < (ra x5.toNatClampNeg) then if x6.toInt < 0 ∨ (n1 : Int) ≤ x6.toInt then none else if x7.toInt < 0 ∨ (n2 : Int) ≤ x7.toInt then none else l_r_mergeRuns_9 F n1 n2 x3 x4 ra n x5 (x6 + 1) (x7 + 1) (upd tb x7.toNatClampNeg (ra x6.toNatClampNeg)) else if x5.toInt < 0 ∨ (n1 : Int) ≤ x5.toInt then none else if x7.toInt < 0 ∨ (n2 : Int) ≤ x7.toInt then none else l_r_mergeRuns_9 F n1 n2 x3 x4 ra n (x5 + 1) x6 (x7 + 1) (upd tb x7.toNatClampNeg (ra x5.toNatClampNeg))
set_option maxHeartbeats 4000000 in
set_option maxRecDepth 100000 in
theorem w_r_mergeRuns_9 {p : Program} {l : Launch} {e : Env} {s : State} {m : MethodId} {args : Array Value} {below : List Frame} {meth : Method} {c : Code} {A : Nat → Prop} {Q : State → Prop} {dC : Nat → ClassId} {dI : Nat → Nat → Nat} (F : Nat) (hx : p.tables.exec = Jvm.exec) (hb : c.code = cX0_mergeRuns) (hml : c.maxLocals = 8) (hown : s.vm.findClass RX0 = some m.cls) (hts : ∀ w ∈ wsX0_mergeRuns, w.before args s = true) (hA : ∀ q, s.heap.size ≤ q → A q) (qa qb n1 n2 : Nat) (cA : ClassId) (hK : va_K (dC, dI) vwCl [(cA, .int)] s) (x3 x4 : Int32) (ra : Nat → Int32) :
    ∀ (n : Nat) (x5 x6 x7 : Int32) (tb tb' : Nat → Int32), l_r_mergeRuns_9 F n1 n2 x3 x4 ra n x5 x6 x7 tb = some tb' → ∀ (H : Heap) (locs : List Loc), va_P (dC, dI) vwCl [(qa, .inl (cA, n1, .inl ra)), (qb, .inl (cA, n2, .inl tb))] H → va_D A [(qa, .inl (cA, n1, .inl ra)), (qb, .inl (cA, n2, .inl tb))] → va_S A s.heap H locs → ∀ ls : Array Slot, lv_has ls 8 [(0, .ref qa), (1, .ref qb), (3, .int x3), (4, .int x4), (5, .int x5), (6, .int x6), (7, .int x7)] → (∀ (H : Heap) (locs : List Loc) (ls : Array Slot), va_P (dC, dI) vwCl [(qa, .inl (cA, n1, .inl ra)), (qb, .inl (cA, n2, .inl tb'))] H → va_D A [(qa, .inl (cA, n1, .inl ra)), (qb, .inl (cA, n2, .inl tb'))] → va_S A s.heap H locs → lv_has ls 8 [] → W p l e { frames := 0, cells := 0, slots := 0, locals := 0 } s m args below meth c H locs 0 0 Q (F0 m 71 ls [])) → W p l e { frames := 0, cells := 0, slots := 0, locals := 0 } s m args below meth c H locs 0 0 Q (F0 m 9 ls []) := by
  intro n
  induction n with
  | zero => intro x5 x6 x7 tb tb' h; exact nomatch (show (none : Option _) = some _ from h)
  | succ n ih =>
    intro x5 x6 x7 tb tb' h H locs hP hD hS ls hl K
    rw [l_r_mergeRuns_9] at h
    refine lv_iload hx hb dX0_mergeRuns_9 (lv_at hl 6 rfl) ?_
    refine lv_iload hx hb dX0_mergeRuns_11 (lv_at hl 3 rfl) ?_
    refine lv_icmp_ge (tgt := 71) hx hb dX0_mergeRuns_13 (by decide) (fun c1 => ?_) (fun c1 => ?_)
    · rw [if_pos c1] at h
      cases h
      exact K _ _ _ hP hD hS (lv_sub hl [] rfl)
    · rw [if_neg c1] at h
      refine lv_iload hx hb dX0_mergeRuns_16 (lv_at hl 5 rfl) ?_
      refine lv_iload hx hb dX0_mergeRuns_18 (lv_at hl 3 rfl) ?_
      refine lv_icmp_ge (tgt := 40) hx hb dX0_mergeRuns_20 (by decide) (fun c2 => ?_) (fun c2 => ?_)
      · rw [if_pos c2] at h
        refine lv_aload_n hx hb dX0_mergeRuns_40 rfl (lv_at hl 1 rfl) ?_
        refine lv_iload hx hb dX0_mergeRuns_41 (lv_at hl 6 rfl) ?_
        refine lv_aload_n hx hb dX0_mergeRuns_43 rfl (lv_at hl 0 rfl) ?_
        refine lv_iload hx hb dX0_mergeRuns_44 (lv_at hl 4 rfl) ?_
        obtain ⟨g3, h⟩ := rf_gd h
        refine va_iald hx hb hK hP 0 0 rfl rfl (rf_in g3) dX0_mergeRuns_46 ?_
        obtain ⟨g4, h⟩ := rf_gd h
        refine va_iast hx hb hK hP hD hS 1 0 rfl rfl (rf_in g4) dX0_mergeRuns_47 (fun H locs hP hD hS => ?_)
        have hP : va_P (dC, dI) vwCl [(qa, .inl (cA, n1, .inl ra)), (qb, .inl (cA, n2, .inl (upd tb x7.toNatClampNeg (ra x5.toNatClampNeg))))] H := hP
        have hD : va_D A [(qa, .inl (cA, n1, .inl ra)), (qb, .inl (cA, n2, .inl (upd tb x7.toNatClampNeg (ra x5.toNatClampNeg))))] := hD
        refine lv_iinc (v := (x5 + 1)) (lv' := [(5, .int (x5 + 1)), (0, .ref qa), (1, .ref qb), (3, .int x3), (4, .int x4), (6, .int x6), (7, .int x7)]) hx hb dX0_mergeRuns_48 hl (k := 4) rfl rfl (by decide) rfl (fun ls hl => ?_)
        refine lv_goto (tgt := 65) hx hb dX0_mergeRuns_51 (by decide) ?_
        refine lv_iinc (v := (x7 + 1)) (lv' := [(7, .int (x7 + 1)), (5, .int (x5 + 1)), (0, .ref qa), (1, .ref qb), (3, .int x3), (4, .int x4), (6, .int x6)]) hx hb dX0_mergeRuns_65 hl (k := 6) rfl rfl (by decide) rfl (fun ls hl => ?_)
        refine lv_goto (tgt := 9) hx hb dX0_mergeRuns_68 (by decide) ?_
        exact ih (x5 + 1) x6 (x7 + 1) (upd tb x7.toNatClampNeg (ra x5.toNatClampNeg)) tb' h _ _ hP hD hS _ (lv_sub hl [2, 3, 4, 5, 1, 6, 0] rfl) K
      · rw [if_neg c2] at h
        refine lv_iload hx hb dX0_mergeRuns_23 (lv_at hl 4 rfl) ?_
        refine lv_iload_n hx hb dX0_mergeRuns_25 rfl (lv_at hl 2 rfl) ?_
        refine lv_icmp_ge (tgt := 54) hx hb dX0_mergeRuns_26 (by decide) (fun c5 => ?_) (fun c5 => ?_)
        · rw [if_pos c5] at h
          refine lv_aload_n hx hb dX0_mergeRuns_54 rfl (lv_at hl 1 rfl) ?_
          refine lv_iload hx hb dX0_mergeRuns_55 (lv_at hl 6 rfl) ?_
          refine lv_aload_n hx hb dX0_mergeRuns_57 rfl (lv_at hl 0 rfl) ?_
          refine lv_iload hx hb dX0_mergeRuns_58 (lv_at hl 5 rfl) ?_
          obtain ⟨g6, h⟩ := rf_gd h
          refine va_iald hx hb hK hP 0 0 rfl rfl (rf_in g6) dX0_mergeRuns_60 ?_
          obtain ⟨g7, h⟩ := rf_gd h
          refine va_iast hx hb hK hP hD hS 1 0 rfl rfl (rf_in g7) dX0_mergeRuns_61 (fun H locs hP hD hS => ?_)
          have hP : va_P (dC, dI) vwCl [(qa, .inl (cA, n1, .inl ra)), (qb, .inl (cA, n2, .inl (upd tb x7.toNatClampNeg (ra x6.toNatClampNeg))))] H := hP
          have hD : va_D A [(qa, .inl (cA, n1, .inl ra)), (qb, .inl (cA, n2, .inl (upd tb x7.toNatClampNeg (ra x6.toNatClampNeg))))] := hD
          refine lv_iinc (v := (x6 + 1)) (lv' := [(6, .int (x6 + 1)), (0, .ref qa), (1, .ref qb), (3, .int x3), (4, .int x4), (5, .int x5), (7, .int x7)]) hx hb dX0_mergeRuns_62 hl (k := 5) rfl rfl (by decide) rfl (fun ls hl => ?_)
          refine lv_iinc (v := (x7 + 1)) (lv' := [(7, .int (x7 + 1)), (6, .int (x6 + 1)), (0, .ref qa), (1, .ref qb), (3, .int x3), (4, .int x4), (5, .int x5)]) hx hb dX0_mergeRuns_65 hl (k := 6) rfl rfl (by decide) rfl (fun ls hl => ?_)
          refine lv_goto (tgt := 9) hx hb dX0_mergeRuns_68 (by decide) ?_
          exact ih x5 (x6 + 1) (x7 + 1) (upd tb x7.toNatClampNeg (ra x6.toNatClampNeg)) tb' h _ _ hP hD hS _ (lv_sub hl [2, 3, 4, 5, 6, 1, 0] rfl) K
        · rw [if_neg c5] at h
          refine lv_aload_n hx hb dX0_mergeRuns_29 rfl (lv_at hl 0 rfl) ?_
          refine lv_iload hx hb dX0_mergeRuns_30 (lv_at hl 4 rfl) ?_
          obtain ⟨g8, h⟩ := rf_gd h
          refine va_iald hx hb hK hP 0 0 rfl rfl (rf_in g8) dX0_mergeRuns_32 ?_
          refine lv_aload_n hx hb dX0_mergeRuns_33 rfl (lv_at hl 0 rfl) ?_
          refine lv_iload hx hb dX0_mergeRuns_34 (lv_at hl 5 rfl) ?_
          obtain ⟨g9, h⟩ := rf_gd h
          refine va_iald hx hb hK hP 0 0 rfl rfl (rf_in g9) dX0_mergeRuns_36 ?_
          refine lv_icmp_gt (tgt := 54) hx hb dX0_mergeRuns_37 (by decide) (fun c10 => ?_) (fun c10 => ?_)
          · rw [if_pos c10] at h
            refine lv_aload_n hx hb dX0_mergeRuns_54 rfl (lv_at hl 1 rfl) ?_
            refine lv_iload hx hb dX0_mergeRuns_55 (lv_at hl 6 rfl) ?_
            refine lv_aload_n hx hb dX0_mergeRuns_57 rfl (lv_at hl 0 rfl) ?_
            refine lv_iload hx hb dX0_mergeRuns_58 (lv_at hl 5 rfl) ?_
            obtain ⟨g11, h⟩ := rf_gd h
            refine va_iald hx hb hK hP 0 0 rfl rfl (rf_in g11) dX0_mergeRuns_60 ?_
            obtain ⟨g12, h⟩ := rf_gd h
            refine va_iast hx hb hK hP hD hS 1 0 rfl rfl (rf_in g12) dX0_mergeRuns_61 (fun H locs hP hD hS => ?_)
            have hP : va_P (dC, dI) vwCl [(qa, .inl (cA, n1, .inl ra)), (qb, .inl (cA, n2, .inl (upd tb x7.toNatClampNeg (ra x6.toNatClampNeg))))] H := hP
            have hD : va_D A [(qa, .inl (cA, n1, .inl ra)), (qb, .inl (cA, n2, .inl (upd tb x7.toNatClampNeg (ra x6.toNatClampNeg))))] := hD
            refine lv_iinc (v := (x6 + 1)) (lv' := [(6, .int (x6 + 1)), (0, .ref qa), (1, .ref qb), (3, .int x3), (4, .int x4), (5, .int x5), (7, .int x7)]) hx hb dX0_mergeRuns_62 hl (k := 5) rfl rfl (by decide) rfl (fun ls hl => ?_)
            refine lv_iinc (v := (x7 + 1)) (lv' := [(7, .int (x7 + 1)), (6, .int (x6 + 1)), (0, .ref qa), (1, .ref qb), (3, .int x3), (4, .int x4), (5, .int x5)]) hx hb dX0_mergeRuns_65 hl (k := 6) rfl rfl (by decide) rfl (fun ls hl => ?_)
            refine lv_goto (tgt := 9) hx hb dX0_mergeRuns_68 (by decide) ?_
            exact ih x5 (x6 + 1) (x7 + 1) (upd tb x7.toNatClampNeg (ra x6.toNatClampNeg)) tb' h _ _ hP hD hS _ (lv_sub hl [2, 3, 4, 5, 6, 1, 0] rfl) K
          · rw [if_neg c10] at h
            refine lv_aload_n hx hb dX0_mergeRuns_40 rfl (lv_at hl 1 rfl) ?_
            refine lv_iload hx hb dX0_mergeRuns_41 (lv_at hl 6 rfl) ?_
            refine lv_aload_n hx hb dX0_mergeRuns_43 rfl (lv_at hl 0 rfl) ?_
            refine lv_iload hx hb dX0_mergeRuns_44 (lv_at hl 4 rfl) ?_
            obtain ⟨g13, h⟩ := rf_gd h
            refine va_iald hx hb hK hP 0 0 rfl rfl (rf_in g13) dX0_mergeRuns_46 ?_
            obtain ⟨g14, h⟩ := rf_gd h
            refine va_iast hx hb hK hP hD hS 1 0 rfl rfl (rf_in g14) dX0_mergeRuns_47 (fun H locs hP hD hS => ?_)
            have hP : va_P (dC, dI) vwCl [(qa, .inl (cA, n1, .inl ra)), (qb, .inl (cA, n2, .inl (upd tb x7.toNatClampNeg (ra x5.toNatClampNeg))))] H := hP
            have hD : va_D A [(qa, .inl (cA, n1, .inl ra)), (qb, .inl (cA, n2, .inl (upd tb x7.toNatClampNeg (ra x5.toNatClampNeg))))] := hD
            refine lv_iinc (v := (x5 + 1)) (lv' := [(5, .int (x5 + 1)), (0, .ref qa), (1, .ref qb), (3, .int x3), (4, .int x4), (6, .int x6), (7, .int x7)]) hx hb dX0_mergeRuns_48 hl (k := 4) rfl rfl (by decide) rfl (fun ls hl => ?_)
            refine lv_goto (tgt := 65) hx hb dX0_mergeRuns_51 (by decide) ?_
            refine lv_iinc (v := (x7 + 1)) (lv' := [(7, .int (x7 + 1)), (5, .int (x5 + 1)), (0, .ref qa), (1, .ref qb), (3, .int x3), (4, .int x4), (6, .int x6)]) hx hb dX0_mergeRuns_65 hl (k := 6) rfl rfl (by decide) rfl (fun ls hl => ?_)
            refine lv_goto (tgt := 9) hx hb dX0_mergeRuns_68 (by decide) ?_
            exact ih (x5 + 1) x6 (x7 + 1) (upd tb x7.toNatClampNeg (ra x5.toNatClampNeg)) tb' h _ _ hP hD hS _ (lv_sub hl [2, 3, 4, 5, 1, 6, 0] rfl) K
def f_r_mergeRuns (F : Nat) (n1 n2 : Nat) (ra tb : Nat → Int32) (p2 p3 p4 : Int32) : Option ((Nat → Int32)) := b1 (l_r_mergeRuns_9 F n1 n2 p3 p4 ra F p2 p3 p2 tb) fun tb_1 => some tb_1
set_option maxHeartbeats 4000000 in
set_option maxRecDepth 100000 in
theorem c_r_mergeRuns (l : Launch) (dC : Nat → ClassId) (dI : Nat → Nat → Nat) (sz F : Nat) (qa qb n1 n2 : Nat) (cA : ClassId) (ra tb : Nat → Int32) (p2 p3 p4 : Int32) (tb' : Nat → Int32) (h : f_r_mergeRuns F n1 n2 ra tb p2 p3 p4 = some tb') : Met l yX0_mergeRuns wsX0_mergeRuns { frames := 0, cells := 0, slots := 0, locals := 0 } (rf_Pc (dC, dI) [(cA, .int)] [(qa, .inl (cA, n1, .inl ra)), (qb, .inl (cA, n2, .inl tb))] sz [.ref qa, .ref qb, .int p2, .int p3, .int p4]) (va_Qv (fun _ : Unit => True) (fun (_ : Unit) t => va_P (dC, dI) vwCl [(qa, .inl (cA, n1, .inl ra)), (qb, .inl (cA, n2, .inl tb'))] t.heap ∧ va_D (va_A [(qa, .inl (cA, n1, .inl ra)), (qb, .inl (cA, n2, .inl tb))] sz) [(qa, .inl (cA, n1, .inl ra)), (qb, .inl (cA, n2, .inl tb'))]) (va_A [(qa, .inl (cA, n1, .inl ra)), (qb, .inl (cA, n2, .inl tb))] sz)) 0 0 (va_A [(qa, .inl (cA, n1, .inl ra)), (qb, .inl (cA, n2, .inl tb))] sz) := by
  refine Met.ofW (cc := cX0_mergeRuns) (maxL := 8) (ret := none) (by decide) rfl ?_
  intro p e s m args below meth c s₁ B hml hv
  obtain ⟨rfl, hsz, hP, hK, hD0⟩ := hv
  have hx := B.exec
  have hb := B.bytes
  have hr := B.returns
  have hts := atoms_spec (ws := wsX0_mergeRuns) B.pre
  have hown : s.vm.findClass RX0 = some m.cls := findClass_of_methodNamed B.named
  have hlocks := B.notSynchronized
  subst hsz
  have hD := hD0.self (sz := s.heap.size)
  generalize hAe : va_A [(qa, .inl (cA, n1, .inl ra)), (qb, .inl (cA, n2, .inl tb))] s.heap.size = A at hD ⊢
  have hA : ∀ q : Nat, s.heap.size ≤ q → A q := fun q h => by rw [← hAe]; exact Or.inr h
  have hS : va_S A s.heap s.heap [] := va_S.rf
  have hl := lv_entry ([.ref qa, .ref qb, .int p2, .int p3, .int p4]) (n := 8) (Nat.le_of_ble_eq_true rfl)
  rw [lg_entry_eq]
  generalize (lg_sl ([.ref qa, .ref qb, .int p2, .int p3, .int p4]) ++ List.replicate (8 - (lg_sl ([.ref qa, .ref qb, .int p2, .int p3, .int p4])).length) Slot.unset).toArray = ls at hl ⊢
  have hl : lv_has ls 8 [(0, .ref qa), (1, .ref qb), (2, .int p2), (3, .int p3), (4, .int p4)] := hl
  unfold f_r_mergeRuns at h
  refine lv_iload_n hx hb dX0_mergeRuns_0 rfl (lv_at hl 2 rfl) ?_
  refine lv_istore (lv' := [(5, .int p2), (0, .ref qa), (1, .ref qb), (2, .int p2), (3, .int p3), (4, .int p4)]) hx hb dX0_mergeRuns_1 hl (by decide) rfl (fun ls hl => ?_)
  refine lv_iload_n hx hb dX0_mergeRuns_3 rfl (lv_at hl 4 rfl) ?_
  refine lv_istore (lv' := [(6, .int p3), (5, .int p2), (0, .ref qa), (1, .ref qb), (2, .int p2), (3, .int p3), (4, .int p4)]) hx hb dX0_mergeRuns_4 hl (by decide) rfl (fun ls hl => ?_)
  refine lv_iload_n hx hb dX0_mergeRuns_6 rfl (lv_at hl 4 rfl) ?_
  refine lv_istore (lv' := [(7, .int p2), (6, .int p3), (5, .int p2), (0, .ref qa), (1, .ref qb), (2, .int p2), (3, .int p3), (4, .int p4)]) hx hb dX0_mergeRuns_7 hl (by decide) rfl (fun ls hl => ?_)
  obtain ⟨tb_1, hr1, h⟩ := rf_b1 h
  refine w_r_mergeRuns_9 F hx hb hml hown hts hA qa qb n1 n2 cA hK p3 p4 ra F p2 p3 p2 tb tb_1 hr1 _ _ hP hD hS _ (lv_sub hl [3, 4, 6, 7, 2, 1, 0] rfl) (fun H locs ls hP hD hS hl => ?_)
  cases h
  exact W.vret hx hb hr (fun t ht hW => ⟨⟨(), rfl, trivial, by rw [ht]; exact hP, hD⟩, hS.F ht⟩) hS.2.2 dX0_mergeRuns_71
def l_r_sortRising_34 (F : Nat) (n1 : Nat) (x2 x3 : Int32) (ra : Nat → Int32) : Nat → Int32 → (Nat → Int32) → Option ((Nat → Int32))
  | 0, _, _ => none
  | n + 1, x4, sp => if x2 ≤ x4 then some sp else b1 (f_r_mergeRuns F n1 4096 ra sp x4 (if x2 < (x4 + x3) then x2 else (x4 + x3)) (if x2 < ((if x2 < (x4 + x3) then x2 else (x4 + x3)) + x3) then x2 else ((if x2 < (x4 + x3) then x2 else (x4 + x3)) + x3))) fun tb_2 => l_r_sortRising_34 F n1 x2 x3 ra n (x4 + (2 * x3)) tb_2
set_option maxHeartbeats 4000000 in
set_option maxRecDepth 100000 in
theorem w_r_sortRising_34 {p : Program} {l : Launch} {e : Env} {s : State} {m : MethodId} {args : Array Value} {below : List Frame} {meth : Method} {c : Code} {A : Nat → Prop} {Q : State → Prop} {dC : Nat → ClassId} {dI : Nat → Nat → Nat} (F : Nat) (hx : p.tables.exec = Jvm.exec) (hb : c.code = cX0_sortRising) (hml : c.maxLocals = 7) (hown : s.vm.findClass RX0 = some m.cls) (hts : ∀ w ∈ wsX0_sortRising, w.before args s = true) (hA : ∀ q, s.heap.size ≤ q → A q) (h0 qa h5 h1 h2 h3 h4 n1 : Nat) (cA : ClassId) (hK : va_K (dC, dI) vwCl [(cA, .int)] s) (x2 x3 nu pk dc rc : Int32) (ra : Nat → Int32) :
    ∀ (n : Nat) (x4 : Int32) (sp sp' : Nat → Int32), l_r_sortRising_34 F n1 x2 x3 ra n x4 sp = some sp' → ∀ (H : Heap) (locs : List Loc), va_P (dC, dI) vwCl [(h0, .inr (0, [.int nu, .int pk, .ref h1, .ref h2, .int dc, .ref h3, .int rc, .ref h4, .ref h5])), (qa, .inl (cA, n1, .inl ra)), (h5, .inl (cA, 4096, .inl sp))] H → va_D A [(h0, .inr (0, [.int nu, .int pk, .ref h1, .ref h2, .int dc, .ref h3, .int rc, .ref h4, .ref h5])), (qa, .inl (cA, n1, .inl ra)), (h5, .inl (cA, 4096, .inl sp))] → va_S A s.heap H locs → ∀ ls : Array Slot, lv_has ls 7 [(0, .ref h0), (1, .ref qa), (2, .int x2), (3, .int x3), (4, .int x4)] → (∀ (H : Heap) (locs : List Loc) (ls : Array Slot), va_P (dC, dI) vwCl [(h0, .inr (0, [.int nu, .int pk, .ref h1, .ref h2, .int dc, .ref h3, .int rc, .ref h4, .ref h5])), (qa, .inl (cA, n1, .inl ra)), (h5, .inl (cA, 4096, .inl sp'))] H → va_D A [(h0, .inr (0, [.int nu, .int pk, .ref h1, .ref h2, .int dc, .ref h3, .int rc, .ref h4, .ref h5])), (qa, .inl (cA, n1, .inl ra)), (h5, .inl (cA, 4096, .inl sp'))] → va_S A s.heap H locs → lv_has ls 7 [(0, .ref h0), (1, .ref qa), (2, .int x2), (3, .int x3)] → W p l e { frames := 1, cells := 0, slots := 0, locals := 60 } s m args below meth c H locs 0 0 Q (F0 m 85 ls [])) → W p l e { frames := 1, cells := 0, slots := 0, locals := 60 } s m args below meth c H locs 0 0 Q (F0 m 34 ls []) := by
  intro n
  induction n with
  | zero => intro x4 sp sp' h; exact nomatch (show (none : Option _) = some _ from h)
  | succ n ih =>
    intro x4 sp sp' h H locs hP hD hS ls hl K
    rw [l_r_sortRising_34] at h
    refine lv_iload hx hb dX0_sortRising_34 (lv_at hl 4 rfl) ?_
    refine lv_iload_n hx hb dX0_sortRising_36 rfl (lv_at hl 2 rfl) ?_
    refine lv_icmp_ge (tgt := 85) hx hb dX0_sortRising_37 (by decide) (fun c1 => ?_) (fun c1 => ?_)
    · rw [if_pos c1] at h
      cases h
      exact K _ _ _ hP hD hS (lv_sub hl [0, 1, 2, 3] rfl)
    · rw [if_neg c1] at h
      refine lv_iload hx hb dX0_sortRising_40 (lv_at hl 4 rfl) ?_
      refine lv_iload_n hx hb dX0_sortRising_42 rfl (lv_at hl 3 rfl) ?_
      refine lv_iadd hx hb dX0_sortRising_43 ?_
      refine lv_iload_n hx hb dX0_sortRising_44 rfl (lv_at hl 2 rfl) ?_
      refine va_mmin hx hb (hml.trans hl.1.symm) hown (hts _ (List.mem_of_getElem? (i := 6) rfl)) (hts _ (List.mem_of_getElem? (i := 7) rfl)) (hts _ (List.mem_of_getElem? (i := 8) rfl)) (hts _ (List.mem_of_getElem? (i := 9) rfl)) (Nat.le_of_ble_eq_true rfl) (Nat.le_of_ble_eq_true rfl) (Nat.le_refl _) (Nat.le_refl _) dX0_sortRising_45 ?_
      refine lv_istore (lv' := [(5, .int (if x2 < (x4 + x3) then x2 else (x4 + x3))), (0, .ref h0), (1, .ref qa), (2, .int x2), (3, .int x3), (4, .int x4)]) hx hb dX0_sortRising_48 hl (by decide) rfl (fun ls hl => ?_)
      refine lv_iload hx hb dX0_sortRising_50 (lv_at hl 0 rfl) ?_
      refine lv_iload_n hx hb dX0_sortRising_52 rfl (lv_at hl 4 rfl) ?_
      refine lv_iadd hx hb dX0_sortRising_53 ?_
      refine lv_iload_n hx hb dX0_sortRising_54 rfl (lv_at hl 3 rfl) ?_
      refine va_mmin hx hb (hml.trans hl.1.symm) hown (hts _ (List.mem_of_getElem? (i := 6) rfl)) (hts _ (List.mem_of_getElem? (i := 7) rfl)) (hts _ (List.mem_of_getElem? (i := 8) rfl)) (hts _ (List.mem_of_getElem? (i := 9) rfl)) (Nat.le_of_ble_eq_true rfl) (Nat.le_of_ble_eq_true rfl) (Nat.le_refl _) (Nat.le_refl _) dX0_sortRising_55 ?_
      refine lv_istore (lv' := [(6, .int (if x2 < ((if x2 < (x4 + x3) then x2 else (x4 + x3)) + x3) then x2 else ((if x2 < (x4 + x3) then x2 else (x4 + x3)) + x3))), (5, .int (if x2 < (x4 + x3) then x2 else (x4 + x3))), (0, .ref h0), (1, .ref qa), (2, .int x2), (3, .int x3), (4, .int x4)]) hx hb dX0_sortRising_58 hl (by decide) rfl (fun ls hl => ?_)
      refine lv_aload_n hx hb dX0_sortRising_60 rfl (lv_at hl 3 rfl) ?_
      refine lv_aload_n hx hb dX0_sortRising_61 rfl (lv_at hl 2 rfl) ?_
      refine va_get (D := (dC, dI)) (ci := 0) (v := .ref h5) (C := RX0) (T := TX0) (N := 9) hx hb hts (fun _ h => List.mem_cons_of_mem _ (List.mem_append_right _ h)) hown hK hP 0 rfl rfl 8 (by decide) (hts _ (List.mem_of_getElem? (i := 1) rfl)) (fun _ h9 => h9) rfl dX0_sortRising_62 ?_
      refine lv_iload hx hb dX0_sortRising_65 (lv_at hl 6 rfl) ?_
      refine lv_iload hx hb dX0_sortRising_67 (lv_at hl 1 rfl) ?_
      refine lv_iload hx hb dX0_sortRising_69 (lv_at hl 0 rfl) ?_
      obtain ⟨tb_2, hr2, h⟩ := rf_b1 h
      refine rf_cv (wn := (fun _ : Unit => [(qa, .inl (cA, n1, .inl ra)), (h5, .inl (cA, 4096, .inl tb_2))])) (wc := [(qa, .inl (cA, n1, .inl ra)), (h5, .inl (cA, 4096, .inl sp))]) (wr := [(h0, .inr (0, [.int nu, .int pk, .ref h1, .ref h2, .int dc, .ref h3, .int rc, .ref h4, .ref h5]))]) hP hD hS hA [1, 2] [0] rfl rfl (by decide) (by decide) (va_runS (As := [.ref qa, .ref h5, .int x4, .int (if x2 < (x4 + x3) then x2 else (x4 + x3)), .int (if x2 < ((if x2 < (x4 + x3) then x2 else (x4 + x3)) + x3) then x2 else ((if x2 < (x4 + x3) then x2 else (x4 + x3)) + x3))]) (rest := []) ⟨hx, hb, hml, hown, hts⟩ (c_r_mergeRuns l dC dI _ F qa h5 n1 4096 cA ra sp x4 (if x2 < (x4 + x3) then x2 else (x4 + x3)) (if x2 < ((if x2 < (x4 + x3) then x2 else (x4 + x3)) + x3) then x2 else ((if x2 < (x4 + x3) then x2 else (x4 + x3)) + x3)) tb_2 hr2) (va_cwS 5 hts gX0_sortRising_X0_mergeRuns rfl rfl rfl (by decide +kernel) ⟨Nat.le_of_ble_eq_true rfl, Nat.le_of_ble_eq_true rfl⟩) ⟨rf_blind, fun U hU hW => ⟨rfl, rf_pre (hP.sub (ws' := [(qa, .inl (cA, n1, .inl ra)), (h5, .inl (cA, 4096, .inl sp))]) [1, 2] rfl) (hK.sub (tys' := [(cA, .int)]) [0] rfl) (hD.sub (ws' := [(qa, .inl (cA, n1, .inl ra)), (h5, .inl (cA, 4096, .inl sp))]) [1, 2] (by decide) rfl) U hU hW⟩⟩ rfl rfl hl.1 rfl (lv_room (Nat.le_of_ble_eq_true rfl)) dX0_sortRising_71 ⟨Nat.zero_le _, Nat.zero_le _⟩) (fun u H locs hw hP hD hS => ?_)
      have hP : va_P (dC, dI) vwCl [(h0, .inr (0, [.int nu, .int pk, .ref h1, .ref h2, .int dc, .ref h3, .int rc, .ref h4, .ref h5])), (qa, .inl (cA, n1, .inl ra)), (h5, .inl (cA, 4096, .inl tb_2))] H := hP
      have hD : va_D A [(h0, .inr (0, [.int nu, .int pk, .ref h1, .ref h2, .int dc, .ref h3, .int rc, .ref h4, .ref h5])), (qa, .inl (cA, n1, .inl ra)), (h5, .inl (cA, 4096, .inl tb_2))] := hD
      refine lv_iload hx hb dX0_sortRising_74 (lv_at hl 6 rfl) ?_
      refine lv_iconst (v := 2) hx hb dX0_sortRising_76 (by decide) ?_
      refine lv_iload_n hx hb dX0_sortRising_77 rfl (lv_at hl 5 rfl) ?_
      refine lv_imul hx hb dX0_sortRising_78 ?_
      refine lv_iadd hx hb dX0_sortRising_79 ?_
      refine lv_istore (lv' := [(4, .int (x4 + (2 * x3))), (6, .int (if x2 < ((if x2 < (x4 + x3) then x2 else (x4 + x3)) + x3) then x2 else ((if x2 < (x4 + x3) then x2 else (x4 + x3)) + x3))), (5, .int (if x2 < (x4 + x3) then x2 else (x4 + x3))), (0, .ref h0), (1, .ref qa), (2, .int x2), (3, .int x3)]) hx hb dX0_sortRising_80 hl (by decide) rfl (fun ls hl => ?_)
      refine lv_goto (tgt := 34) hx hb dX0_sortRising_82 (by decide) ?_
      exact ih (x4 + (2 * x3)) tb_2 sp' h _ _ hP hD hS _ (lv_sub hl [3, 4, 5, 6, 0] rfl) K
def l_r_sortRising_26 (F : Nat) (n1 : Nat) (x2 : Int32) : Nat → Int32 → (Nat → Int32) → (Nat → Int32) → Option ((Nat → Int32) × (Nat → Int32))
  | 0, _, _, _ => none
  | n + 1, x3, ra, sp => if x2 ≤ x3 then some (ra, sp) else b1 (l_r_sortRising_34 F n1 x2 x3 ra F 0 sp) fun sp_2 => if (0 : Int32) < 0 ∨ (0 : Int32) < 0 ∨ x2 < 0 ∨ 4096 < (0 : Int32).toNatClampNeg + x2.toNatClampNeg ∨ n1 < (0 : Int32).toNatClampNeg + x2.toNatClampNeg then none else l_r_sortRising_26 F n1 x2 n (x3 * 2) (va_cpy sp_2 ra (0 : Int32).toNatClampNeg (0 : Int32).toNatClampNeg x2.toNatClampNeg) sp_2
set_option maxHeartbeats 4000000 in
set_option maxRecDepth 100000 in
theorem w_r_sortRising_26 {p : Program} {l : Launch} {e : Env} {s : State} {m : MethodId} {args : Array Value} {below : List Frame} {meth : Method} {c : Code} {A : Nat → Prop} {Q : State → Prop} {dC : Nat → ClassId} {dI : Nat → Nat → Nat} (F : Nat) (hx : p.tables.exec = Jvm.exec) (hb : c.code = cX0_sortRising) (hml : c.maxLocals = 7) (hown : s.vm.findClass RX0 = some m.cls) (hts : ∀ w ∈ wsX0_sortRising, w.before args s = true) (hA : ∀ q, s.heap.size ≤ q → A q) (h0 qa h5 h1 h2 h3 h4 n1 : Nat) (cA : ClassId) (hK : va_K (dC, dI) vwCl [(cA, .int)] s) (x2 nu pk dc rc : Int32) :
    ∀ (n : Nat) (x3 : Int32) (ra sp ra' sp' : Nat → Int32), l_r_sortRising_26 F n1 x2 n x3 ra sp = some (ra', sp') → ∀ (H : Heap) (locs : List Loc), va_P (dC, dI) vwCl [(h0, .inr (0, [.int nu, .int pk, .ref h1, .ref h2, .int dc, .ref h3, .int rc, .ref h4, .ref h5])), (qa, .inl (cA, n1, .inl ra)), (h5, .inl (cA, 4096, .inl sp))] H → va_D A [(h0, .inr (0, [.int nu, .int pk, .ref h1, .ref h2, .int dc, .ref h3, .int rc, .ref h4, .ref h5])), (qa, .inl (cA, n1, .inl ra)), (h5, .inl (cA, 4096, .inl sp))] → va_S A s.heap H locs → ∀ ls : Array Slot, lv_has ls 7 [(0, .ref h0), (1, .ref qa), (2, .int x2), (3, .int x3)] → (∀ (H : Heap) (locs : List Loc) (ls : Array Slot), va_P (dC, dI) vwCl [(h0, .inr (0, [.int nu, .int pk, .ref h1, .ref h2, .int dc, .ref h3, .int rc, .ref h4, .ref h5])), (qa, .inl (cA, n1, .inl ra')), (h5, .inl (cA, 4096, .inl sp'))] H → va_D A [(h0, .inr (0, [.int nu, .int pk, .ref h1, .ref h2, .int dc, .ref h3, .int rc, .ref h4, .ref h5])), (qa, .inl (cA, n1, .inl ra')), (h5, .inl (cA, 4096, .inl sp'))] → va_S A s.heap H locs → lv_has ls 7 [] → W p l e { frames := 1, cells := 0, slots := 0, locals := 60 } s m args below meth c H locs 0 0 Q (F0 m 103 ls [])) → W p l e { frames := 1, cells := 0, slots := 0, locals := 60 } s m args below meth c H locs 0 0 Q (F0 m 26 ls []) := by
  intro n
  induction n with
  | zero => intro x3 ra sp ra' sp' h; exact nomatch (show (none : Option _) = some _ from h)
  | succ n ih =>
    intro x3 ra sp ra' sp' h H locs hP hD hS ls hl K
    rw [l_r_sortRising_26] at h
    refine lv_iload_n hx hb dX0_sortRising_26 rfl (lv_at hl 3 rfl) ?_
    refine lv_iload_n hx hb dX0_sortRising_27 rfl (lv_at hl 2 rfl) ?_
    refine lv_icmp_ge (tgt := 103) hx hb dX0_sortRising_28 (by decide) (fun c1 => ?_) (fun c1 => ?_)
    · rw [if_pos c1] at h
      cases h
      exact K _ _ _ hP hD hS (lv_sub hl [] rfl)
    · rw [if_neg c1] at h
      refine lv_iconst (v := 0) hx hb dX0_sortRising_31 (by decide) ?_
      refine lv_istore (lv' := [(4, .int 0), (0, .ref h0), (1, .ref qa), (2, .int x2), (3, .int x3)]) hx hb dX0_sortRising_32 hl (by decide) rfl (fun ls hl => ?_)
      obtain ⟨sp_2, hr2, h⟩ := rf_b1 h
      refine w_r_sortRising_34 F hx hb hml hown hts hA h0 qa h5 h1 h2 h3 h4 n1 cA hK x2 x3 nu pk dc rc ra F 0 sp sp_2 hr2 _ _ hP hD hS _ (lv_sub hl [1, 2, 3, 4, 0] rfl) (fun H locs ls hP hD hS hl => ?_)
      refine lv_aload_n hx hb dX0_sortRising_85 rfl (lv_at hl 0 rfl) ?_
      refine va_get (D := (dC, dI)) (ci := 0) (v := .ref h5) (C := RX0) (T := TX0) (N := 9) hx hb hts (fun _ h => List.mem_cons_of_mem _ (List.mem_append_right _ h)) hown hK hP 0 rfl rfl 8 (by decide) (hts _ (List.mem_of_getElem? (i := 1) rfl)) (fun _ h9 => h9) rfl dX0_sortRising_86 ?_
      refine lv_iconst (v := 0) hx hb dX0_sortRising_89 (by decide) ?_
      refine lv_aload_n hx hb dX0_sortRising_90 rfl (lv_at hl 1 rfl) ?_
      refine lv_iconst (v := 0) hx hb dX0_sortRising_91 (by decide) ?_
      refine lv_iload_n hx hb dX0_sortRising_92 rfl (lv_at hl 2 rfl) ?_
      obtain ⟨g3, h⟩ := rf_gd h
      refine va_copyi hx hb (hml.trans hl.1.symm) hown (hts _ (List.mem_of_getElem? (i := 13) rfl)) (hts _ (List.mem_of_getElem? (i := 14) rfl)) (hts _ (List.mem_of_getElem? (i := 15) rfl)) (hts _ (List.mem_of_getElem? (i := 16) rfl)) hK hP hD hS 2 1 0 0 rfl rfl rfl rfl rfl (fun z => g3 (Or.inl z)) (fun z => g3 (Or.inr (Or.inl z))) (fun z => g3 (Or.inr (Or.inr (Or.inl z)))) (Nat.not_lt.mp (fun z => g3 (Or.inr (Or.inr (Or.inr (Or.inl z)))))) (Nat.not_lt.mp (fun z => g3 (Or.inr (Or.inr (Or.inr (Or.inr z)))))) (fun _ _ => rfl) (Nat.le_of_ble_eq_true rfl) (Nat.le_of_ble_eq_true rfl) dX0_sortRising_93 (fun H locs hP hD hS => ?_)
      have hP : va_P (dC, dI) vwCl [(h0, .inr (0, [.int nu, .int pk, .ref h1, .ref h2, .int dc, .ref h3, .int rc, .ref h4, .ref h5])), (qa, .inl (cA, n1, .inl (va_cpy sp_2 ra (0 : Int32).toNatClampNeg (0 : Int32).toNatClampNeg x2.toNatClampNeg))), (h5, .inl (cA, 4096, .inl sp_2))] H := hP
      have hD : va_D A [(h0, .inr (0, [.int nu, .int pk, .ref h1, .ref h2, .int dc, .ref h3, .int rc, .ref h4, .ref h5])), (qa, .inl (cA, n1, .inl (va_cpy sp_2 ra (0 : Int32).toNatClampNeg (0 : Int32).toNatClampNeg x2.toNatClampNeg))), (h5, .inl (cA, 4096, .inl sp_2))] := hD
      refine lv_iload_n hx hb dX0_sortRising_96 rfl (lv_at hl 3 rfl) ?_
      refine lv_iconst (v := 2) hx hb dX0_sortRising_97 (by decide) ?_
      refine lv_imul hx hb dX0_sortRising_98 ?_
      refine lv_istore_n (lv' := [(3, .int (x3 * 2)), (0, .ref h0), (1, .ref qa), (2, .int x2)]) hx hb dX0_sortRising_99 rfl hl (by decide) rfl (fun ls hl => ?_)
      refine lv_goto (tgt := 26) hx hb dX0_sortRising_100 (by decide) ?_
      exact ih (x3 * 2) (va_cpy sp_2 ra (0 : Int32).toNatClampNeg (0 : Int32).toNatClampNeg x2.toNatClampNeg) sp_2 ra' sp' h _ _ hP hD hS _ (lv_sub hl [1, 2, 3, 0] rfl) K
def f_r_sortRising (F : Nat) (n1 : Nat) (ra sp : Nat → Int32) (p1 : Int32) : Option ((Nat → Int32) × (Nat → Int32)) := if (nI n1) < p1 then some (ra, sp) else if (nI 4096) < p1 then some (ra, sp) else b1 (f_r_isRising F n1 ra p1) fun r3 => if r3 = 0 then b2 (l_r_sortRising_26 F n1 p1 F 1 ra sp) fun ra_5 sp_5 => some (ra_5, sp_5) else some (ra, sp)
set_option maxHeartbeats 4000000 in
set_option maxRecDepth 100000 in
theorem c_r_sortRising (l : Launch) (dC : Nat → ClassId) (dI : Nat → Nat → Nat) (sz F : Nat) (h0 qa h5 h1 h2 h3 h4 n1 : Nat) (cA : ClassId) (nu pk dc rc : Int32) (ra sp : Nat → Int32) (p1 : Int32) (ra' sp' : Nat → Int32) (h : f_r_sortRising F n1 ra sp p1 = some (ra', sp')) : Met l yX0_sortRising wsX0_sortRising { frames := 1, cells := 0, slots := 0, locals := 60 } (rf_Pc (dC, dI) [(cA, .int)] [(h0, .inr (0, [.int nu, .int pk, .ref h1, .ref h2, .int dc, .ref h3, .int rc, .ref h4, .ref h5])), (qa, .inl (cA, n1, .inl ra)), (h5, .inl (cA, 4096, .inl sp))] sz [.ref h0, .ref qa, .int p1]) (va_Qv (fun _ : Unit => True) (fun (_ : Unit) t => va_P (dC, dI) vwCl [(h0, .inr (0, [.int nu, .int pk, .ref h1, .ref h2, .int dc, .ref h3, .int rc, .ref h4, .ref h5])), (qa, .inl (cA, n1, .inl ra')), (h5, .inl (cA, 4096, .inl sp'))] t.heap ∧ va_D (va_A [(h0, .inr (0, [.int nu, .int pk, .ref h1, .ref h2, .int dc, .ref h3, .int rc, .ref h4, .ref h5])), (qa, .inl (cA, n1, .inl ra)), (h5, .inl (cA, 4096, .inl sp))] sz) [(h0, .inr (0, [.int nu, .int pk, .ref h1, .ref h2, .int dc, .ref h3, .int rc, .ref h4, .ref h5])), (qa, .inl (cA, n1, .inl ra')), (h5, .inl (cA, 4096, .inl sp'))]) (va_A [(h0, .inr (0, [.int nu, .int pk, .ref h1, .ref h2, .int dc, .ref h3, .int rc, .ref h4, .ref h5])), (qa, .inl (cA, n1, .inl ra)), (h5, .inl (cA, 4096, .inl sp))] sz)) 0 0 (va_A [(h0, .inr (0, [.int nu, .int pk, .ref h1, .ref h2, .int dc, .ref h3, .int rc, .ref h4, .ref h5])), (qa, .inl (cA, n1, .inl ra)), (h5, .inl (cA, 4096, .inl sp))] sz) := by
  refine Met.ofW (cc := cX0_sortRising) (maxL := 7) (ret := none) (by decide) rfl ?_
  intro p e s m args below meth c s₁ B hml hv
  obtain ⟨rfl, hsz, hP, hK, hD0⟩ := hv
  have hx := B.exec
  have hb := B.bytes
  have hr := B.returns
  have hts := atoms_spec (ws := wsX0_sortRising) B.pre
  have hown : s.vm.findClass RX0 = some m.cls := findClass_of_methodNamed B.named
  have hlocks := B.notSynchronized
  subst hsz
  have hD := hD0.self (sz := s.heap.size)
  generalize hAe : va_A [(h0, .inr (0, [.int nu, .int pk, .ref h1, .ref h2, .int dc, .ref h3, .int rc, .ref h4, .ref h5])), (qa, .inl (cA, n1, .inl ra)), (h5, .inl (cA, 4096, .inl sp))] s.heap.size = A at hD ⊢
  have hA : ∀ q : Nat, s.heap.size ≤ q → A q := fun q h => by rw [← hAe]; exact Or.inr h
  have hS : va_S A s.heap s.heap [] := va_S.rf
  have hl := lv_entry ([.ref h0, .ref qa, .int p1]) (n := 7) (Nat.le_of_ble_eq_true rfl)
  rw [lg_entry_eq]
  generalize (lg_sl ([.ref h0, .ref qa, .int p1]) ++ List.replicate (7 - (lg_sl ([.ref h0, .ref qa, .int p1])).length) Slot.unset).toArray = ls at hl ⊢
  have hl : lv_has ls 7 [(0, .ref h0), (1, .ref qa), (2, .int p1)] := hl
  unfold f_r_sortRising at h
  refine lv_iload_n hx hb dX0_sortRising_0 rfl (lv_at hl 2 rfl) ?_
  refine lv_aload_n hx hb dX0_sortRising_1 rfl (lv_at hl 1 rfl) ?_
  refine va_alen hx hb hK hP 1 0 rfl (ty := .int) rfl (v := nI n1) rfl dX0_sortRising_2 ?_
  refine lv_icmp_gt (tgt := 23) hx hb dX0_sortRising_3 (by decide) (fun c1 => ?_) (fun c1 => ?_)
  · rw [if_pos c1] at h
    cases h
    exact W.vret hx hb hr (fun t ht hW => ⟨⟨(), rfl, trivial, by rw [ht]; exact hP, hD⟩, hS.F ht⟩) hS.2.2 dX0_sortRising_23
  · rw [if_neg c1] at h
    refine lv_iload_n hx hb dX0_sortRising_6 rfl (lv_at hl 2 rfl) ?_
    refine lv_aload_n hx hb dX0_sortRising_7 rfl (lv_at hl 0 rfl) ?_
    refine va_get (D := (dC, dI)) (ci := 0) (v := .ref h5) (C := RX0) (T := TX0) (N := 9) hx hb hts (fun _ h => List.mem_cons_of_mem _ (List.mem_append_right _ h)) hown hK hP 0 rfl rfl 8 (by decide) (hts _ (List.mem_of_getElem? (i := 1) rfl)) (fun _ h9 => h9) rfl dX0_sortRising_8 ?_
    refine va_alen hx hb hK hP 2 0 rfl (ty := .int) rfl (v := nI 4096) rfl dX0_sortRising_11 ?_
    refine lv_icmp_gt (tgt := 23) hx hb dX0_sortRising_12 (by decide) (fun c2 => ?_) (fun c2 => ?_)
    · rw [if_pos c2] at h
      cases h
      exact W.vret hx hb hr (fun t ht hW => ⟨⟨(), rfl, trivial, by rw [ht]; exact hP, hD⟩, hS.F ht⟩) hS.2.2 dX0_sortRising_23
    · rw [if_neg c2] at h
      refine lv_aload_n hx hb dX0_sortRising_15 rfl (lv_at hl 1 rfl) ?_
      refine lv_iload_n hx hb dX0_sortRising_16 rfl (lv_at hl 2 rfl) ?_
      obtain ⟨r3, hr3, h⟩ := rf_b1 h
      refine rf_ci (wn := (fun _ : Unit => [(qa, .inl (cA, n1, .inl ra))])) (wc := [(qa, .inl (cA, n1, .inl ra))]) (wr := [(h0, .inr (0, [.int nu, .int pk, .ref h1, .ref h2, .int dc, .ref h3, .int rc, .ref h4, .ref h5])), (h5, .inl (cA, 4096, .inl sp))]) hP hD hS hA [1] [0, 2] rfl rfl (by decide) (by decide) (va_runS (As := [.ref qa, .int p1]) (rest := []) ⟨hx, hb, hml, hown, hts⟩ (c_r_isRising l dC dI _ F qa n1 cA ra p1 r3 hr3) (va_cwS 2 hts gX0_sortRising_X0_isRising rfl rfl rfl (by decide +kernel) ⟨Nat.le_of_ble_eq_true rfl, Nat.le_of_ble_eq_true rfl⟩) ⟨rf_blind, fun U hU hW => ⟨rfl, rf_pre (hP.sub (ws' := [(qa, .inl (cA, n1, .inl ra))]) [1] rfl) (hK.sub (tys' := [(cA, .int)]) [0] rfl) (hD.sub (ws' := [(qa, .inl (cA, n1, .inl ra))]) [1] (by decide) rfl) U hU hW⟩⟩ rfl rfl hl.1 rfl (lv_room (Nat.le_of_ble_eq_true rfl)) dX0_sortRising_17 ⟨Nat.zero_le _, Nat.zero_le _⟩) (fun r3' u H locs hw hP hD hS => ?_)
      subst hw
      have hP : va_P (dC, dI) vwCl [(h0, .inr (0, [.int nu, .int pk, .ref h1, .ref h2, .int dc, .ref h3, .int rc, .ref h4, .ref h5])), (qa, .inl (cA, n1, .inl ra)), (h5, .inl (cA, 4096, .inl sp))] H := hP.sub [0, 2, 1] rfl
      have hD : va_D A [(h0, .inr (0, [.int nu, .int pk, .ref h1, .ref h2, .int dc, .ref h3, .int rc, .ref h4, .ref h5])), (qa, .inl (cA, n1, .inl ra)), (h5, .inl (cA, 4096, .inl sp))] := hD.sub [0, 2, 1] (by decide) rfl
      refine lv_if_eq (tgt := 24) hx hb dX0_sortRising_20 (by decide) (fun c4 => ?_) (fun c4 => ?_)
      · rw [if_pos c4] at h
        refine lv_iconst (v := 1) hx hb dX0_sortRising_24 (by decide) ?_
        refine lv_istore_n (lv' := [(3, .int 1), (0, .ref h0), (1, .ref qa), (2, .int p1)]) hx hb dX0_sortRising_25 rfl hl (by decide) rfl (fun ls hl => ?_)
        obtain ⟨ra_5, sp_5, hr5, h⟩ := rf_b2 h
        refine w_r_sortRising_26 F hx hb hml hown hts hA h0 qa h5 h1 h2 h3 h4 n1 cA hK p1 nu pk dc rc F 1 ra sp ra_5 sp_5 hr5 _ _ hP hD hS _ (lv_sub hl [1, 2, 3, 0] rfl) (fun H locs ls hP hD hS hl => ?_)
        cases h
        exact W.vret hx hb hr (fun t ht hW => ⟨⟨(), rfl, trivial, by rw [ht]; exact hP, hD⟩, hS.F ht⟩) hS.2.2 dX0_sortRising_103
      · rw [if_neg c4] at h
        cases h
        exact W.vret hx hb hr (fun t ht hW => ⟨⟨(), rfl, trivial, by rw [ht]; exact hP, hD⟩, hS.F ht⟩) hS.2.2 dX0_sortRising_23
def l_r_findDivisors_32 (F : Nat) (x1 x2 : Int32) (pr ex : Nat → Int32) : Nat → Int32 → Int32 → Int32 → (Nat → Int32) → Option (Int32 × (Nat → Int32))
  | 0, _, _, _, _ => none
  | n + 1, x3, x4, dc, dv => if x1.toInt < 0 ∨ (7 : Int) ≤ x1.toInt then none else if (ex x1.toNatClampNeg) ≤ x4 then some (dc, dv) else if x1.toInt < 0 ∨ (7 : Int) ≤ x1.toInt then none else b2 (f_r_addMultiples F dc dv x2 (x3 * (pr x1.toNatClampNeg))) fun dc_4 dv_4 => l_r_findDivisors_32 F x1 x2 pr ex n (x3 * (pr x1.toNatClampNeg)) (x4 + 1) dc_4 dv_4
set_option maxHeartbeats 4000000 in
set_option maxRecDepth 100000 in
theorem w_r_findDivisors_32 {p : Program} {l : Launch} {e : Env} {s : State} {m : MethodId} {args : Array Value} {below : List Frame} {meth : Method} {c : Code} {A : Nat → Prop} {Q : State → Prop} {dC : Nat → ClassId} {dI : Nat → Nat → Nat} (F : Nat) (hx : p.tables.exec = Jvm.exec) (hb : c.code = cX0_findDivisors) (hml : c.maxLocals = 5) (hown : s.vm.findClass RX0 = some m.cls) (hts : ∀ w ∈ wsX0_findDivisors, w.before args s = true) (hA : ∀ q, s.heap.size ≤ q → A q) (h0 h1 h2 h3 h4 h5 : Nat) (cA : ClassId) (hK : va_K (dC, dI) vwCl [(cA, .int)] s) (x1 x2 nu pk rc : Int32) (pr ex rt sp : Nat → Int32) :
    ∀ (n : Nat) (x3 x4 dc : Int32) (dv : Nat → Int32) (dc' : Int32) (dv' : Nat → Int32), l_r_findDivisors_32 F x1 x2 pr ex n x3 x4 dc dv = some (dc', dv') → ∀ (H : Heap) (locs : List Loc), va_P (dC, dI) vwCl [(h0, .inr (0, [.int nu, .int pk, .ref h1, .ref h2, .int dc, .ref h3, .int rc, .ref h4, .ref h5])), (h1, .inl (cA, 7, .inl pr)), (h2, .inl (cA, 7, .inl ex)), (h3, .inl (cA, 360, .inl dv)), (h4, .inl (cA, 4096, .inl rt)), (h5, .inl (cA, 4096, .inl sp))] H → va_D A [(h0, .inr (0, [.int nu, .int pk, .ref h1, .ref h2, .int dc, .ref h3, .int rc, .ref h4, .ref h5])), (h1, .inl (cA, 7, .inl pr)), (h2, .inl (cA, 7, .inl ex)), (h3, .inl (cA, 360, .inl dv)), (h4, .inl (cA, 4096, .inl rt)), (h5, .inl (cA, 4096, .inl sp))] → va_S A s.heap H locs → ∀ ls : Array Slot, lv_has ls 5 [(0, .ref h0), (1, .int x1), (2, .int x2), (3, .int x3), (4, .int x4)] → (∀ (H : Heap) (locs : List Loc) (ls : Array Slot), va_P (dC, dI) vwCl [(h0, .inr (0, [.int nu, .int pk, .ref h1, .ref h2, .int dc', .ref h3, .int rc, .ref h4, .ref h5])), (h1, .inl (cA, 7, .inl pr)), (h2, .inl (cA, 7, .inl ex)), (h3, .inl (cA, 360, .inl dv')), (h4, .inl (cA, 4096, .inl rt)), (h5, .inl (cA, 4096, .inl sp))] H → va_D A [(h0, .inr (0, [.int nu, .int pk, .ref h1, .ref h2, .int dc', .ref h3, .int rc, .ref h4, .ref h5])), (h1, .inl (cA, 7, .inl pr)), (h2, .inl (cA, 7, .inl ex)), (h3, .inl (cA, 360, .inl dv')), (h4, .inl (cA, 4096, .inl rt)), (h5, .inl (cA, 4096, .inl sp))] → va_S A s.heap H locs → lv_has ls 5 [(0, .ref h0), (1, .int x1)] → W p l e { frames := 2, cells := 0, slots := 0, locals := 86 } s m args below meth c H locs 0 0 Q (F0 m 64 ls [])) → W p l e { frames := 2, cells := 0, slots := 0, locals := 86 } s m args below meth c H locs 0 0 Q (F0 m 32 ls []) := by
  intro n
  induction n with
  | zero => intro x3 x4 dc dv dc' dv' h; exact nomatch (show (none : Option _) = some _ from h)
  | succ n ih =>
    intro x3 x4 dc dv dc' dv' h H locs hP hD hS ls hl K
    rw [l_r_findDivisors_32] at h
    refine lv_iload hx hb dX0_findDivisors_32 (lv_at hl 4 rfl) ?_
    refine lv_aload_n hx hb dX0_findDivisors_34 rfl (lv_at hl 0 rfl) ?_
    refine va_get (D := (dC, dI)) (ci := 0) (v := .ref h2) (C := RX0) (T := TX0) (N := 9) hx hb hts (fun _ h => List.mem_cons_of_mem _ (List.mem_append_right _ h)) hown hK hP 0 rfl rfl 3 (by decide) (hts _ (List.mem_of_getElem? (i := 4) rfl)) (fun _ h9 => h9) rfl dX0_findDivisors_35 ?_
    refine lv_iload_n hx hb dX0_findDivisors_38 rfl (lv_at hl 1 rfl) ?_
    obtain ⟨g1, h⟩ := rf_gd h
    refine va_iald hx hb hK hP 2 0 rfl rfl (rf_in g1) dX0_findDivisors_39 ?_
    refine lv_icmp_ge (tgt := 64) hx hb dX0_findDivisors_40 (by decide) (fun c2 => ?_) (fun c2 => ?_)
    · rw [if_pos c2] at h
      cases h
      exact K _ _ _ hP hD hS (lv_sub hl [0, 1] rfl)
    · rw [if_neg c2] at h
      refine lv_iload_n hx hb dX0_findDivisors_43 rfl (lv_at hl 3 rfl) ?_
      refine lv_aload_n hx hb dX0_findDivisors_44 rfl (lv_at hl 0 rfl) ?_
      refine va_get (D := (dC, dI)) (ci := 0) (v := .ref h1) (C := RX0) (T := TX0) (N := 9) hx hb hts (fun _ h => List.mem_cons_of_mem _ (List.mem_append_right _ h)) hown hK hP 0 rfl rfl 2 (by decide) (hts _ (List.mem_of_getElem? (i := 5) rfl)) (fun _ h9 => h9) rfl dX0_findDivisors_45 ?_
      refine lv_iload_n hx hb dX0_findDivisors_48 rfl (lv_at hl 1 rfl) ?_
      obtain ⟨g3, h⟩ := rf_gd h
      refine va_iald hx hb hK hP 1 0 rfl rfl (rf_in g3) dX0_findDivisors_49 ?_
      refine lv_imul hx hb dX0_findDivisors_50 ?_
      refine lv_istore_n (lv' := [(3, .int (x3 * (pr x1.toNatClampNeg))), (0, .ref h0), (1, .int x1), (2, .int x2), (4, .int x4)]) hx hb dX0_findDivisors_51 rfl hl (by decide) rfl (fun ls hl => ?_)
      refine lv_aload_n hx hb dX0_findDivisors_52 rfl (lv_at hl 1 rfl) ?_
      refine lv_iload_n hx hb dX0_findDivisors_53 rfl (lv_at hl 3 rfl) ?_
      refine lv_iload_n hx hb dX0_findDivisors_54 rfl (lv_at hl 0 rfl) ?_
      obtain ⟨dc_4, dv_4, hr4, h⟩ := rf_b2 h
      refine rf_cv (wn := (fun _ : Unit => [(h0, .inr (0, [.int nu, .int pk, .ref h1, .ref h2, .int dc_4, .ref h3, .int rc, .ref h4, .ref h5])), (h1, .inl (cA, 7, .inl pr)), (h2, .inl (cA, 7, .inl ex)), (h3, .inl (cA, 360, .inl dv_4)), (h4, .inl (cA, 4096, .inl rt)), (h5, .inl (cA, 4096, .inl sp))])) (wc := [(h0, .inr (0, [.int nu, .int pk, .ref h1, .ref h2, .int dc, .ref h3, .int rc, .ref h4, .ref h5])), (h1, .inl (cA, 7, .inl pr)), (h2, .inl (cA, 7, .inl ex)), (h3, .inl (cA, 360, .inl dv)), (h4, .inl (cA, 4096, .inl rt)), (h5, .inl (cA, 4096, .inl sp))]) (wr := []) hP hD hS hA [0, 1, 2, 3, 4, 5] [] rfl rfl (by decide) (by decide) (va_runV (As := [.int x2, .int (x3 * (pr x1.toNatClampNeg))]) (rest := []) ⟨hx, hb, hml, hown, hts⟩ (c_r_addMultiples l dC dI _ F h0 h1 h2 h3 h4 h5 cA nu pk dc rc pr ex dv rt sp x2 (x3 * (pr x1.toNatClampNeg)) dc_4 dv_4 hr4) (cwV 2 hts gX0_findDivisors_X0_addMultiples rfl rfl rfl (by decide +kernel) ⟨Nat.le_of_ble_eq_true rfl, Nat.le_of_ble_eq_true rfl⟩) ⟨rf_blind, va_recv hK hP (ci := 0) (q0 := 0) rfl rfl, fun U hU hW => ⟨rfl, rf_pre (hP.sub (ws' := [(h0, .inr (0, [.int nu, .int pk, .ref h1, .ref h2, .int dc, .ref h3, .int rc, .ref h4, .ref h5])), (h1, .inl (cA, 7, .inl pr)), (h2, .inl (cA, 7, .inl ex)), (h3, .inl (cA, 360, .inl dv)), (h4, .inl (cA, 4096, .inl rt)), (h5, .inl (cA, 4096, .inl sp))]) [0, 1, 2, 3, 4, 5] rfl) (hK.sub (tys' := [(cA, .int)]) [0] rfl) (hD.sub (ws' := [(h0, .inr (0, [.int nu, .int pk, .ref h1, .ref h2, .int dc, .ref h3, .int rc, .ref h4, .ref h5])), (h1, .inl (cA, 7, .inl pr)), (h2, .inl (cA, 7, .inl ex)), (h3, .inl (cA, 360, .inl dv)), (h4, .inl (cA, 4096, .inl rt)), (h5, .inl (cA, 4096, .inl sp))]) [0, 1, 2, 3, 4, 5] (by decide) rfl) U hU hW⟩⟩ rfl rfl hl.1 rfl (lv_room (Nat.le_of_ble_eq_true rfl)) dX0_findDivisors_55 ⟨Nat.zero_le _, Nat.zero_le _⟩) (fun u H locs hw hP hD hS => ?_)
      have hP : va_P (dC, dI) vwCl [(h0, .inr (0, [.int nu, .int pk, .ref h1, .ref h2, .int dc_4, .ref h3, .int rc, .ref h4, .ref h5])), (h1, .inl (cA, 7, .inl pr)), (h2, .inl (cA, 7, .inl ex)), (h3, .inl (cA, 360, .inl dv_4)), (h4, .inl (cA, 4096, .inl rt)), (h5, .inl (cA, 4096, .inl sp))] H := hP
      have hD : va_D A [(h0, .inr (0, [.int nu, .int pk, .ref h1, .ref h2, .int dc_4, .ref h3, .int rc, .ref h4, .ref h5])), (h1, .inl (cA, 7, .inl pr)), (h2, .inl (cA, 7, .inl ex)), (h3, .inl (cA, 360, .inl dv_4)), (h4, .inl (cA, 4096, .inl rt)), (h5, .inl (cA, 4096, .inl sp))] := hD
      refine lv_iinc (v := (x4 + 1)) (lv' := [(4, .int (x4 + 1)), (3, .int (x3 * (pr x1.toNatClampNeg))), (0, .ref h0), (1, .int x1), (2, .int x2)]) hx hb dX0_findDivisors_58 hl (k := 4) rfl rfl (by decide) rfl (fun ls hl => ?_)
      refine lv_goto (tgt := 32) hx hb dX0_findDivisors_61 (by decide) ?_
      exact ih (x3 * (pr x1.toNatClampNeg)) (x4 + 1) dc_4 dv_4 dc' dv' h _ _ hP hD hS _ (lv_sub hl [2, 3, 4, 1, 0] rfl) K
def l_r_findDivisors_14 (F : Nat) (pk : Int32) (pr ex : Nat → Int32) : Nat → Int32 → Int32 → (Nat → Int32) → Option (Int32 × (Nat → Int32))
  | 0, _, _, _ => none
  | n + 1, x1, dc, dv => if pk ≤ x1 then some (dc, dv) else b2 (l_r_findDivisors_32 F x1 dc pr ex F 1 0 dc dv) fun dc_2 dv_2 => l_r_findDivisors_14 F pk pr ex n (x1 + 1) dc_2 dv_2
set_option maxHeartbeats 4000000 in
set_option maxRecDepth 100000 in
theorem w_r_findDivisors_14 {p : Program} {l : Launch} {e : Env} {s : State} {m : MethodId} {args : Array Value} {below : List Frame} {meth : Method} {c : Code} {A : Nat → Prop} {Q : State → Prop} {dC : Nat → ClassId} {dI : Nat → Nat → Nat} (F : Nat) (hx : p.tables.exec = Jvm.exec) (hb : c.code = cX0_findDivisors) (hml : c.maxLocals = 5) (hown : s.vm.findClass RX0 = some m.cls) (hts : ∀ w ∈ wsX0_findDivisors, w.before args s = true) (hA : ∀ q, s.heap.size ≤ q → A q) (h0 h1 h2 h3 h4 h5 : Nat) (cA : ClassId) (hK : va_K (dC, dI) vwCl [(cA, .int)] s) (nu pk rc : Int32) (pr ex rt sp : Nat → Int32) :
    ∀ (n : Nat) (x1 dc : Int32) (dv : Nat → Int32) (dc' : Int32) (dv' : Nat → Int32), l_r_findDivisors_14 F pk pr ex n x1 dc dv = some (dc', dv') → ∀ (H : Heap) (locs : List Loc), va_P (dC, dI) vwCl [(h0, .inr (0, [.int nu, .int pk, .ref h1, .ref h2, .int dc, .ref h3, .int rc, .ref h4, .ref h5])), (h1, .inl (cA, 7, .inl pr)), (h2, .inl (cA, 7, .inl ex)), (h3, .inl (cA, 360, .inl dv)), (h4, .inl (cA, 4096, .inl rt)), (h5, .inl (cA, 4096, .inl sp))] H → va_D A [(h0, .inr (0, [.int nu, .int pk, .ref h1, .ref h2, .int dc, .ref h3, .int rc, .ref h4, .ref h5])), (h1, .inl (cA, 7, .inl pr)), (h2, .inl (cA, 7, .inl ex)), (h3, .inl (cA, 360, .inl dv)), (h4, .inl (cA, 4096, .inl rt)), (h5, .inl (cA, 4096, .inl sp))] → va_S A s.heap H locs → ∀ ls : Array Slot, lv_has ls 5 [(0, .ref h0), (1, .int x1)] → (∀ (H : Heap) (locs : List Loc) (ls : Array Slot), va_P (dC, dI) vwCl [(h0, .inr (0, [.int nu, .int pk, .ref h1, .ref h2, .int dc', .ref h3, .int rc, .ref h4, .ref h5])), (h1, .inl (cA, 7, .inl pr)), (h2, .inl (cA, 7, .inl ex)), (h3, .inl (cA, 360, .inl dv')), (h4, .inl (cA, 4096, .inl rt)), (h5, .inl (cA, 4096, .inl sp))] H → va_D A [(h0, .inr (0, [.int nu, .int pk, .ref h1, .ref h2, .int dc', .ref h3, .int rc, .ref h4, .ref h5])), (h1, .inl (cA, 7, .inl pr)), (h2, .inl (cA, 7, .inl ex)), (h3, .inl (cA, 360, .inl dv')), (h4, .inl (cA, 4096, .inl rt)), (h5, .inl (cA, 4096, .inl sp))] → va_S A s.heap H locs → lv_has ls 5 [(0, .ref h0)] → W p l e { frames := 2, cells := 0, slots := 0, locals := 86 } s m args below meth c H locs 0 0 Q (F0 m 70 ls [])) → W p l e { frames := 2, cells := 0, slots := 0, locals := 86 } s m args below meth c H locs 0 0 Q (F0 m 14 ls []) := by
  intro n
  induction n with
  | zero => intro x1 dc dv dc' dv' h; exact nomatch (show (none : Option _) = some _ from h)
  | succ n ih =>
    intro x1 dc dv dc' dv' h H locs hP hD hS ls hl K
    rw [l_r_findDivisors_14] at h
    refine lv_iload_n hx hb dX0_findDivisors_14 rfl (lv_at hl 1 rfl) ?_
    refine lv_aload_n hx hb dX0_findDivisors_15 rfl (lv_at hl 0 rfl) ?_
    refine va_get (D := (dC, dI)) (ci := 0) (v := .int pk) (C := RX0) (T := TX0) (N := 9) hx hb hts (fun _ h => List.mem_cons_of_mem _ (List.mem_append_right _ h)) hown hK hP 0 rfl rfl 1 (by decide) (hts _ (List.mem_of_getElem? (i := 3) rfl)) (fun _ h9 => h9) rfl dX0_findDivisors_16 ?_
    refine lv_icmp_ge (tgt := 70) hx hb dX0_findDivisors_19 (by decide) (fun c1 => ?_) (fun c1 => ?_)
    · rw [if_pos c1] at h
      cases h
      exact K _ _ _ hP hD hS (lv_sub hl [0] rfl)
    · rw [if_neg c1] at h
      refine lv_aload_n hx hb dX0_findDivisors_22 rfl (lv_at hl 0 rfl) ?_
      refine va_get (D := (dC, dI)) (ci := 0) (v := .int dc) (C := RX0) (T := TX0) (N := 9) hx hb hts (fun _ h => List.mem_cons_of_mem _ (List.mem_append_right _ h)) hown hK hP 0 rfl rfl 4 (by decide) (hts _ (List.mem_of_getElem? (i := 2) rfl)) (fun _ h9 => h9) rfl dX0_findDivisors_23 ?_
      refine lv_istore_n (lv' := [(2, .int dc), (0, .ref h0), (1, .int x1)]) hx hb dX0_findDivisors_26 rfl hl (by decide) rfl (fun ls hl => ?_)
      refine lv_iconst (v := 1) hx hb dX0_findDivisors_27 (by decide) ?_
      refine lv_istore_n (lv' := [(3, .int 1), (2, .int dc), (0, .ref h0), (1, .int x1)]) hx hb dX0_findDivisors_28 rfl hl (by decide) rfl (fun ls hl => ?_)
      refine lv_iconst (v := 0) hx hb dX0_findDivisors_29 (by decide) ?_
      refine lv_istore (lv' := [(4, .int 0), (3, .int 1), (2, .int dc), (0, .ref h0), (1, .int x1)]) hx hb dX0_findDivisors_30 hl (by decide) rfl (fun ls hl => ?_)
      obtain ⟨dc_2, dv_2, hr2, h⟩ := rf_b2 h
      refine w_r_findDivisors_32 F hx hb hml hown hts hA h0 h1 h2 h3 h4 h5 cA hK x1 dc nu pk rc pr ex rt sp F 1 0 dc dv dc_2 dv_2 hr2 _ _ hP hD hS _ (lv_sub hl [3, 4, 2, 1, 0] rfl) (fun H locs ls hP hD hS hl => ?_)
      refine lv_iinc (v := (x1 + 1)) (lv' := [(1, .int (x1 + 1)), (0, .ref h0)]) hx hb dX0_findDivisors_64 hl (k := 1) rfl rfl (by decide) rfl (fun ls hl => ?_)
      refine lv_goto (tgt := 14) hx hb dX0_findDivisors_67 (by decide) ?_
      exact ih (x1 + 1) dc_2 dv_2 dc' dv' h _ _ hP hD hS _ (lv_sub hl [1, 0] rfl) K
def f_r_findDivisors (F : Nat) (pk dc : Int32) (pr ex dv sp : Nat → Int32) : Option (Int32 × (Nat → Int32) × (Nat → Int32)) := if (0 : Int32).toInt < 0 ∨ (360 : Int) ≤ (0 : Int32).toInt then none else b2 (l_r_findDivisors_14 F pk pr ex F 0 1 (upd dv (0 : Int32).toNatClampNeg 1)) fun dc_2 dv_2 => b2 (f_r_sortRising F 360 dv_2 sp dc_2) fun ra_3 sp_3 => some (dc_2, ra_3, sp_3)
set_option maxHeartbeats 4000000 in
set_option maxRecDepth 100000 in
theorem c_r_findDivisors (l : Launch) (dC : Nat → ClassId) (dI : Nat → Nat → Nat) (sz F : Nat) (h0 h1 h2 h3 h4 h5 : Nat) (cA : ClassId) (nu pk dc rc : Int32) (pr ex dv rt sp : Nat → Int32) (dc' : Int32) (dv' sp' : Nat → Int32) (h : f_r_findDivisors F pk dc pr ex dv sp = some (dc', dv', sp')) : Met l yX0_findDivisors wsX0_findDivisors { frames := 2, cells := 0, slots := 0, locals := 86 } (rf_Pc (dC, dI) [(cA, .int)] [(h0, .inr (0, [.int nu, .int pk, .ref h1, .ref h2, .int dc, .ref h3, .int rc, .ref h4, .ref h5])), (h1, .inl (cA, 7, .inl pr)), (h2, .inl (cA, 7, .inl ex)), (h3, .inl (cA, 360, .inl dv)), (h4, .inl (cA, 4096, .inl rt)), (h5, .inl (cA, 4096, .inl sp))] sz [.ref h0]) (va_Qv (fun _ : Unit => True) (fun (_ : Unit) t => va_P (dC, dI) vwCl [(h0, .inr (0, [.int nu, .int pk, .ref h1, .ref h2, .int dc', .ref h3, .int rc, .ref h4, .ref h5])), (h1, .inl (cA, 7, .inl pr)), (h2, .inl (cA, 7, .inl ex)), (h3, .inl (cA, 360, .inl dv')), (h4, .inl (cA, 4096, .inl rt)), (h5, .inl (cA, 4096, .inl sp'))] t.heap ∧ va_D (va_A [(h0, .inr (0, [.int nu, .int pk, .ref h1, .ref h2, .int dc, .ref h3, .int rc, .ref h4, .ref h5])), (h1, .inl (cA, 7, .inl pr)), (h2, .inl (cA, 7, .inl ex)), (h3, .inl (cA, 360, .inl dv)), (h4, .inl (cA, 4096, .inl rt)), (h5, .inl (cA, 4096, .inl sp))] sz) [(h0, .inr (0, [.int nu, .int pk, .ref h1, .ref h2, .int dc', .ref h3, .int rc, .ref h4, .ref h5])), (h1, .inl (cA, 7, .inl pr)), (h2, .inl (cA, 7, .inl ex)), (h3, .inl (cA, 360, .inl dv')), (h4, .inl (cA, 4096, .inl rt)), (h5, .inl (cA, 4096, .inl sp'))]) (va_A [(h0, .inr (0, [.int nu, .int pk, .ref h1, .ref h2, .int dc, .ref h3, .int rc, .ref h4, .ref h5])), (h1, .inl (cA, 7, .inl pr)), (h2, .inl (cA, 7, .inl ex)), (h3, .inl (cA, 360, .inl dv)), (h4, .inl (cA, 4096, .inl rt)), (h5, .inl (cA, 4096, .inl sp))] sz)) 0 0 (va_A [(h0, .inr (0, [.int nu, .int pk, .ref h1, .ref h2, .int dc, .ref h3, .int rc, .ref h4, .ref h5])), (h1, .inl (cA, 7, .inl pr)), (h2, .inl (cA, 7, .inl ex)), (h3, .inl (cA, 360, .inl dv)), (h4, .inl (cA, 4096, .inl rt)), (h5, .inl (cA, 4096, .inl sp))] sz) := by
  refine Met.ofW (cc := cX0_findDivisors) (maxL := 5) (ret := none) (by decide) rfl ?_
  intro p e s m args below meth c s₁ B hml hv
  obtain ⟨rfl, hsz, hP, hK, hD0⟩ := hv
  have hx := B.exec
  have hb := B.bytes
  have hr := B.returns
  have hts := atoms_spec (ws := wsX0_findDivisors) B.pre
  have hown : s.vm.findClass RX0 = some m.cls := findClass_of_methodNamed B.named
  have hlocks := B.notSynchronized
  subst hsz
  have hD := hD0.self (sz := s.heap.size)
  generalize hAe : va_A [(h0, .inr (0, [.int nu, .int pk, .ref h1, .ref h2, .int dc, .ref h3, .int rc, .ref h4, .ref h5])), (h1, .inl (cA, 7, .inl pr)), (h2, .inl (cA, 7, .inl ex)), (h3, .inl (cA, 360, .inl dv)), (h4, .inl (cA, 4096, .inl rt)), (h5, .inl (cA, 4096, .inl sp))] s.heap.size = A at hD ⊢
  have hA : ∀ q : Nat, s.heap.size ≤ q → A q := fun q h => by rw [← hAe]; exact Or.inr h
  have hS : va_S A s.heap s.heap [] := va_S.rf
  have hl := lv_entry ([.ref h0]) (n := 5) (Nat.le_of_ble_eq_true rfl)
  rw [lg_entry_eq]
  generalize (lg_sl ([.ref h0]) ++ List.replicate (5 - (lg_sl ([.ref h0])).length) Slot.unset).toArray = ls at hl ⊢
  have hl : lv_has ls 5 [(0, .ref h0)] := hl
  unfold f_r_findDivisors at h
  refine lv_aload_n hx hb dX0_findDivisors_0 rfl (lv_at hl 0 rfl) ?_
  refine va_get (D := (dC, dI)) (ci := 0) (v := .ref h3) (C := RX0) (T := TX0) (N := 9) hx hb hts (fun _ h => List.mem_cons_of_mem _ (List.mem_append_right _ h)) hown hK hP 0 rfl rfl 5 (by decide) (hts _ (List.mem_of_getElem? (i := 1) rfl)) (fun _ h9 => h9) rfl dX0_findDivisors_1 ?_
  refine lv_iconst (v := 0) hx hb dX0_findDivisors_4 (by decide) ?_
  refine lv_iconst (v := 1) hx hb dX0_findDivisors_5 (by decide) ?_
  obtain ⟨g1, h⟩ := rf_gd h
  refine va_iast hx hb hK hP hD hS 3 0 rfl rfl (rf_in g1) dX0_findDivisors_6 (fun H locs hP hD hS => ?_)
  have hP : va_P (dC, dI) vwCl [(h0, .inr (0, [.int nu, .int pk, .ref h1, .ref h2, .int dc, .ref h3, .int rc, .ref h4, .ref h5])), (h1, .inl (cA, 7, .inl pr)), (h2, .inl (cA, 7, .inl ex)), (h3, .inl (cA, 360, .inl (upd dv (0 : Int32).toNatClampNeg 1))), (h4, .inl (cA, 4096, .inl rt)), (h5, .inl (cA, 4096, .inl sp))] H := hP
  have hD : va_D A [(h0, .inr (0, [.int nu, .int pk, .ref h1, .ref h2, .int dc, .ref h3, .int rc, .ref h4, .ref h5])), (h1, .inl (cA, 7, .inl pr)), (h2, .inl (cA, 7, .inl ex)), (h3, .inl (cA, 360, .inl (upd dv (0 : Int32).toNatClampNeg 1))), (h4, .inl (cA, 4096, .inl rt)), (h5, .inl (cA, 4096, .inl sp))] := hD
  refine lv_aload_n hx hb dX0_findDivisors_7 rfl (lv_at hl 0 rfl) ?_
  refine lv_iconst (v := 1) hx hb dX0_findDivisors_8 (by decide) ?_
  refine va_put (D := (dC, dI)) (ci := 0) (v := .int 1) (ty := .int) (C := RX0) (T := TX0) (N := 9) hx hb hts (fun _ h => List.mem_cons_of_mem _ (List.mem_append_right _ h)) tyX0 tyX0_ok nX0 hown hK hP hD hS 0 rfl rfl 4 (by decide) (hts _ (List.mem_of_getElem? (i := 2) rfl)) (fun _ h9 => h9) rfl (by decide +kernel) rfl rfl (Nat.le_of_ble_eq_true rfl) dX0_findDivisors_9 (fun H locs hP hD hS => ?_)
  have hP : va_P (dC, dI) vwCl [(h0, .inr (0, [.int nu, .int pk, .ref h1, .ref h2, .int 1, .ref h3, .int rc, .ref h4, .ref h5])), (h1, .inl (cA, 7, .inl pr)), (h2, .inl (cA, 7, .inl ex)), (h3, .inl (cA, 360, .inl (upd dv (0 : Int32).toNatClampNeg 1))), (h4, .inl (cA, 4096, .inl rt)), (h5, .inl (cA, 4096, .inl sp))] H := hP
  have hD : va_D A [(h0, .inr (0, [.int nu, .int pk, .ref h1, .ref h2, .int 1, .ref h3, .int rc, .ref h4, .ref h5])), (h1, .inl (cA, 7, .inl pr)), (h2, .inl (cA, 7, .inl ex)), (h3, .inl (cA, 360, .inl (upd dv (0 : Int32).toNatClampNeg 1))), (h4, .inl (cA, 4096, .inl rt)), (h5, .inl (cA, 4096, .inl sp))] := hD
  refine lv_iconst (v := 0) hx hb dX0_findDivisors_12 (by decide) ?_
  refine lv_istore_n (lv' := [(1, .int 0), (0, .ref h0)]) hx hb dX0_findDivisors_13 rfl hl (by decide) rfl (fun ls hl => ?_)
  obtain ⟨dc_2, dv_2, hr2, h⟩ := rf_b2 h
  refine w_r_findDivisors_14 F hx hb hml hown hts hA h0 h1 h2 h3 h4 h5 cA hK nu pk rc pr ex rt sp F 0 1 (upd dv (0 : Int32).toNatClampNeg 1) dc_2 dv_2 hr2 _ _ hP hD hS _ (lv_sub hl [1, 0] rfl) (fun H locs ls hP hD hS hl => ?_)
  refine lv_aload_n hx hb dX0_findDivisors_70 rfl (lv_at hl 0 rfl) ?_
  refine lv_aload_n hx hb dX0_findDivisors_71 rfl (lv_at hl 0 rfl) ?_
  refine va_get (D := (dC, dI)) (ci := 0) (v := .ref h3) (C := RX0) (T := TX0) (N := 9) hx hb hts (fun _ h => List.mem_cons_of_mem _ (List.mem_append_right _ h)) hown hK hP 0 rfl rfl 5 (by decide) (hts _ (List.mem_of_getElem? (i := 1) rfl)) (fun _ h9 => h9) rfl dX0_findDivisors_72 ?_
  refine lv_aload_n hx hb dX0_findDivisors_75 rfl (lv_at hl 0 rfl) ?_
  refine va_get (D := (dC, dI)) (ci := 0) (v := .int dc_2) (C := RX0) (T := TX0) (N := 9) hx hb hts (fun _ h => List.mem_cons_of_mem _ (List.mem_append_right _ h)) hown hK hP 0 rfl rfl 4 (by decide) (hts _ (List.mem_of_getElem? (i := 2) rfl)) (fun _ h9 => h9) rfl dX0_findDivisors_76 ?_
  obtain ⟨ra_3, sp_3, hr3, h⟩ := rf_b2 h
  refine rf_cv (wn := (fun _ : Unit => [(h0, .inr (0, [.int nu, .int pk, .ref h1, .ref h2, .int dc_2, .ref h3, .int rc, .ref h4, .ref h5])), (h3, .inl (cA, 360, .inl ra_3)), (h5, .inl (cA, 4096, .inl sp_3))])) (wc := [(h0, .inr (0, [.int nu, .int pk, .ref h1, .ref h2, .int dc_2, .ref h3, .int rc, .ref h4, .ref h5])), (h3, .inl (cA, 360, .inl dv_2)), (h5, .inl (cA, 4096, .inl sp))]) (wr := [(h1, .inl (cA, 7, .inl pr)), (h2, .inl (cA, 7, .inl ex)), (h4, .inl (cA, 4096, .inl rt))]) hP hD hS hA [0, 3, 5] [1, 2, 4] rfl rfl (by decide) (by decide) (va_runV (As := [.ref h3, .int dc_2]) (rest := []) ⟨hx, hb, hml, hown, hts⟩ (c_r_sortRising l dC dI _ F h0 h3 h5 h1 h2 h3 h4 360 cA nu pk dc_2 rc dv_2 sp dc_2 ra_3 sp_3 hr3) (cwV 2 hts gX0_findDivisors_X0_sortRising rfl rfl rfl (by decide +kernel) ⟨Nat.le_of_ble_eq_true rfl, Nat.le_of_ble_eq_true rfl⟩) ⟨rf_blind, va_recv hK hP (ci := 0) (q0 := 0) rfl rfl, fun U hU hW => ⟨rfl, rf_pre (hP.sub (ws' := [(h0, .inr (0, [.int nu, .int pk, .ref h1, .ref h2, .int dc_2, .ref h3, .int rc, .ref h4, .ref h5])), (h3, .inl (cA, 360, .inl dv_2)), (h5, .inl (cA, 4096, .inl sp))]) [0, 3, 5] rfl) (hK.sub (tys' := [(cA, .int)]) [0] rfl) (hD.sub (ws' := [(h0, .inr (0, [.int nu, .int pk, .ref h1, .ref h2, .int dc_2, .ref h3, .int rc, .ref h4, .ref h5])), (h3, .inl (cA, 360, .inl dv_2)), (h5, .inl (cA, 4096, .inl sp))]) [0, 3, 5] (by decide) rfl) U hU hW⟩⟩ rfl rfl hl.1 rfl (lv_room (Nat.le_of_ble_eq_true rfl)) dX0_findDivisors_79 ⟨Nat.zero_le _, Nat.zero_le _⟩) (fun u H locs hw hP hD hS => ?_)
  have hP : va_P (dC, dI) vwCl [(h0, .inr (0, [.int nu, .int pk, .ref h1, .ref h2, .int dc_2, .ref h3, .int rc, .ref h4, .ref h5])), (h1, .inl (cA, 7, .inl pr)), (h2, .inl (cA, 7, .inl ex)), (h3, .inl (cA, 360, .inl ra_3)), (h4, .inl (cA, 4096, .inl rt)), (h5, .inl (cA, 4096, .inl sp_3))] H := hP.sub [3, 0, 1, 4, 2, 5] rfl
  have hD : va_D A [(h0, .inr (0, [.int nu, .int pk, .ref h1, .ref h2, .int dc_2, .ref h3, .int rc, .ref h4, .ref h5])), (h1, .inl (cA, 7, .inl pr)), (h2, .inl (cA, 7, .inl ex)), (h3, .inl (cA, 360, .inl ra_3)), (h4, .inl (cA, 4096, .inl rt)), (h5, .inl (cA, 4096, .inl sp_3))] := hD.sub [3, 0, 1, 4, 2, 5] (by decide) rfl
  cases h
  exact W.vret hx hb hr (fun t ht hW => ⟨⟨(), rfl, trivial, by rw [ht]; exact hP, hD⟩, hS.F ht⟩) hS.2.2 dX0_findDivisors_82
def f_r_take (F : Nat) (nu pk dc rc : Int32) (pr ex dv sp : Nat → Int32) (p0 : Int32) : Option (Option (Int32 × Int32 × Int32 × Int32 × Int32 × (Nat → Int32) × (Nat → Int32) × (Nat → Int32) × (Nat → Int32))) := if p0 < 1 then some none else if p0 ≤ 4194304 then sm (b3 (f_r_findPrimes F p0 pk pr ex) fun pk_3 pr_3 ex_3 => b3 (f_r_findDivisors F pk_3 dc pr_3 ex_3 dv sp) fun dc_4 dv_4 sp_4 => some (pk_3, p0, pk_3, dc_4, 0, pr_3, ex_3, dv_4, sp_4)) else some none
set_option maxHeartbeats 4000000 in
set_option maxRecDepth 100000 in
theorem c_r_take (l : Launch) (dC : Nat → ClassId) (dI : Nat → Nat → Nat) (sz F : Nat) (h0 h1 h2 h3 h4 h5 : Nat) (cA : ClassId) (nu pk dc rc : Int32) (pr ex dv rt sp : Nat → Int32) (p0 rv nu' pk' dc' rc' : Int32) (pr' ex' dv' sp' : Nat → Int32) (h : f_r_take F nu pk dc rc pr ex dv sp p0 = some (some (rv, nu', pk', dc', rc', pr', ex', dv', sp'))) : Met l yX0_take wsX0_take { frames := 3, cells := 0, slots := 0, locals := 110 } (rf_Pc (dC, dI) [(cA, .int)] [(h0, .inr (0, [.int nu, .int pk, .ref h1, .ref h2, .int dc, .ref h3, .int rc, .ref h4, .ref h5])), (h1, .inl (cA, 7, .inl pr)), (h2, .inl (cA, 7, .inl ex)), (h3, .inl (cA, 360, .inl dv)), (h4, .inl (cA, 4096, .inl rt)), (h5, .inl (cA, 4096, .inl sp))] sz [.ref h0, .int p0]) (va_Qi (fun (r : Int32) (_ : Unit) => rv = r) (fun (_ : Unit) t => va_P (dC, dI) vwCl [(h0, .inr (0, [.int nu', .int pk', .ref h1, .ref h2, .int dc', .ref h3, .int rc', .ref h4, .ref h5])), (h1, .inl (cA, 7, .inl pr')), (h2, .inl (cA, 7, .inl ex')), (h3, .inl (cA, 360, .inl dv')), (h4, .inl (cA, 4096, .inl rt)), (h5, .inl (cA, 4096, .inl sp'))] t.heap ∧ va_D (va_A [(h0, .inr (0, [.int nu, .int pk, .ref h1, .ref h2, .int dc, .ref h3, .int rc, .ref h4, .ref h5])), (h1, .inl (cA, 7, .inl pr)), (h2, .inl (cA, 7, .inl ex)), (h3, .inl (cA, 360, .inl dv)), (h4, .inl (cA, 4096, .inl rt)), (h5, .inl (cA, 4096, .inl sp))] sz) [(h0, .inr (0, [.int nu', .int pk', .ref h1, .ref h2, .int dc', .ref h3, .int rc', .ref h4, .ref h5])), (h1, .inl (cA, 7, .inl pr')), (h2, .inl (cA, 7, .inl ex')), (h3, .inl (cA, 360, .inl dv')), (h4, .inl (cA, 4096, .inl rt)), (h5, .inl (cA, 4096, .inl sp'))]) (va_A [(h0, .inr (0, [.int nu, .int pk, .ref h1, .ref h2, .int dc, .ref h3, .int rc, .ref h4, .ref h5])), (h1, .inl (cA, 7, .inl pr)), (h2, .inl (cA, 7, .inl ex)), (h3, .inl (cA, 360, .inl dv)), (h4, .inl (cA, 4096, .inl rt)), (h5, .inl (cA, 4096, .inl sp))] sz)) 0 0 (va_A [(h0, .inr (0, [.int nu, .int pk, .ref h1, .ref h2, .int dc, .ref h3, .int rc, .ref h4, .ref h5])), (h1, .inl (cA, 7, .inl pr)), (h2, .inl (cA, 7, .inl ex)), (h3, .inl (cA, 360, .inl dv)), (h4, .inl (cA, 4096, .inl rt)), (h5, .inl (cA, 4096, .inl sp))] sz) := by
  refine Met.ofW (cc := cX0_take) (maxL := 2) (ret := (some .int)) (by decide) rfl ?_
  intro p e s m args below meth c s₁ B hml hv
  obtain ⟨rfl, hsz, hP, hK, hD0⟩ := hv
  have hx := B.exec
  have hb := B.bytes
  have hr := B.returns
  have hts := atoms_spec (ws := wsX0_take) B.pre
  have hown : s.vm.findClass RX0 = some m.cls := findClass_of_methodNamed B.named
  have hlocks := B.notSynchronized
  subst hsz
  have hD := hD0.self (sz := s.heap.size)
  generalize hAe : va_A [(h0, .inr (0, [.int nu, .int pk, .ref h1, .ref h2, .int dc, .ref h3, .int rc, .ref h4, .ref h5])), (h1, .inl (cA, 7, .inl pr)), (h2, .inl (cA, 7, .inl ex)), (h3, .inl (cA, 360, .inl dv)), (h4, .inl (cA, 4096, .inl rt)), (h5, .inl (cA, 4096, .inl sp))] s.heap.size = A at hD ⊢
  have hA : ∀ q : Nat, s.heap.size ≤ q → A q := fun q h => by rw [← hAe]; exact Or.inr h
  have hS : va_S A s.heap s.heap [] := va_S.rf
  have hl := lv_entry ([.ref h0, .int p0]) (n := 2) (Nat.le_of_ble_eq_true rfl)
  rw [lg_entry_eq]
  generalize (lg_sl ([.ref h0, .int p0]) ++ List.replicate (2 - (lg_sl ([.ref h0, .int p0])).length) Slot.unset).toArray = ls at hl ⊢
  have hl : lv_has ls 2 [(0, .ref h0), (1, .int p0)] := hl
  unfold f_r_take at h
  refine lv_iload_n hx hb dX0_take_0 rfl (lv_at hl 1 rfl) ?_
  refine lv_iconst (v := 1) hx hb dX0_take_1 (by decide) ?_
  refine lv_icmp_lt (tgt := 11) hx hb dX0_take_2 (by decide) (fun c1 => ?_) (fun c1 => ?_)
  · rw [if_pos c1] at h
    cases h
  · rw [if_neg c1] at h
    refine lv_iload_n hx hb dX0_take_5 rfl (lv_at hl 1 rfl) ?_
    refine lv_ldc (v := 4194304) hx hb hown (hts _ (List.mem_of_getElem? (i := 1) rfl)) dX0_take_6 ?_
    refine lv_icmp_le (tgt := 21) hx hb dX0_take_8 (by decide) (fun c2 => ?_) (fun c2 => ?_)
    · rw [if_pos c2] at h
      have h := rf_sm h
      refine lv_aload_n hx hb dX0_take_21 rfl (lv_at hl 0 rfl) ?_
      refine lv_iload_n hx hb dX0_take_22 rfl (lv_at hl 1 rfl) ?_
      refine va_put (D := (dC, dI)) (ci := 0) (v := .int p0) (ty := .int) (C := RX0) (T := TX0) (N := 9) hx hb hts (fun _ h => List.mem_cons_of_mem _ (List.mem_append_right _ h)) tyX0 tyX0_ok nX0 hown hK hP hD hS 0 rfl rfl 0 (by decide) (hts _ (List.mem_of_getElem? (i := 2) rfl)) (fun _ h9 => h9) rfl (by decide +kernel) rfl rfl (Nat.le_of_ble_eq_true rfl) dX0_take_23 (fun H locs hP hD hS => ?_)
      have hP : va_P (dC, dI) vwCl [(h0, .inr (0, [.int p0, .int pk, .ref h1, .ref h2, .int dc, .ref h3, .int rc, .ref h4, .ref h5])), (h1, .inl (cA, 7, .inl pr)), (h2, .inl (cA, 7, .inl ex)), (h3, .inl (cA, 360, .inl dv)), (h4, .inl (cA, 4096, .inl rt)), (h5, .inl (cA, 4096, .inl sp))] H := hP
      have hD : va_D A [(h0, .inr (0, [.int p0, .int pk, .ref h1, .ref h2, .int dc, .ref h3, .int rc, .ref h4, .ref h5])), (h1, .inl (cA, 7, .inl pr)), (h2, .inl (cA, 7, .inl ex)), (h3, .inl (cA, 360, .inl dv)), (h4, .inl (cA, 4096, .inl rt)), (h5, .inl (cA, 4096, .inl sp))] := hD
      refine lv_aload_n hx hb dX0_take_26 rfl (lv_at hl 0 rfl) ?_
      refine lv_iconst (v := 0) hx hb dX0_take_27 (by decide) ?_
      refine va_put (D := (dC, dI)) (ci := 0) (v := .int 0) (ty := .int) (C := RX0) (T := TX0) (N := 9) hx hb hts (fun _ h => List.mem_cons_of_mem _ (List.mem_append_right _ h)) tyX0 tyX0_ok nX0 hown hK hP hD hS 0 rfl rfl 6 (by decide) (hts _ (List.mem_of_getElem? (i := 3) rfl)) (fun _ h9 => h9) rfl (by decide +kernel) rfl rfl (Nat.le_of_ble_eq_true rfl) dX0_take_28 (fun H locs hP hD hS => ?_)
      have hP : va_P (dC, dI) vwCl [(h0, .inr (0, [.int p0, .int pk, .ref h1, .ref h2, .int dc, .ref h3, .int 0, .ref h4, .ref h5])), (h1, .inl (cA, 7, .inl pr)), (h2, .inl (cA, 7, .inl ex)), (h3, .inl (cA, 360, .inl dv)), (h4, .inl (cA, 4096, .inl rt)), (h5, .inl (cA, 4096, .inl sp))] H := hP
      have hD : va_D A [(h0, .inr (0, [.int p0, .int pk, .ref h1, .ref h2, .int dc, .ref h3, .int 0, .ref h4, .ref h5])), (h1, .inl (cA, 7, .inl pr)), (h2, .inl (cA, 7, .inl ex)), (h3, .inl (cA, 360, .inl dv)), (h4, .inl (cA, 4096, .inl rt)), (h5, .inl (cA, 4096, .inl sp))] := hD
      refine lv_aload_n hx hb dX0_take_31 rfl (lv_at hl 0 rfl) ?_
      obtain ⟨pk_3, pr_3, ex_3, hr3, h⟩ := rf_b3 h
      refine rf_cv (wn := (fun _ : Unit => [(h0, .inr (0, [.int p0, .int pk_3, .ref h1, .ref h2, .int dc, .ref h3, .int 0, .ref h4, .ref h5])), (h1, .inl (cA, 7, .inl pr_3)), (h2, .inl (cA, 7, .inl ex_3)), (h3, .inl (cA, 360, .inl dv)), (h4, .inl (cA, 4096, .inl rt)), (h5, .inl (cA, 4096, .inl sp))])) (wc := [(h0, .inr (0, [.int p0, .int pk, .ref h1, .ref h2, .int dc, .ref h3, .int 0, .ref h4, .ref h5])), (h1, .inl (cA, 7, .inl pr)), (h2, .inl (cA, 7, .inl ex)), (h3, .inl (cA, 360, .inl dv)), (h4, .inl (cA, 4096, .inl rt)), (h5, .inl (cA, 4096, .inl sp))]) (wr := []) hP hD hS hA [0, 1, 2, 3, 4, 5] [] rfl rfl (by decide) (by decide) (va_runV (As := []) (rest := []) ⟨hx, hb, hml, hown, hts⟩ (c_r_findPrimes l dC dI _ F h0 h1 h2 h3 h4 h5 cA p0 pk dc 0 pr ex dv rt sp pk_3 pr_3 ex_3 hr3) (cwV 0 hts gX0_take_X0_findPrimes rfl rfl rfl (by decide +kernel) ⟨Nat.le_of_ble_eq_true rfl, Nat.le_of_ble_eq_true rfl⟩) ⟨rf_blind, va_recv hK hP (ci := 0) (q0 := 0) rfl rfl, fun U hU hW => ⟨rfl, rf_pre (hP.sub (ws' := [(h0, .inr (0, [.int p0, .int pk, .ref h1, .ref h2, .int dc, .ref h3, .int 0, .ref h4, .ref h5])), (h1, .inl (cA, 7, .inl pr)), (h2, .inl (cA, 7, .inl ex)), (h3, .inl (cA, 360, .inl dv)), (h4, .inl (cA, 4096, .inl rt)), (h5, .inl (cA, 4096, .inl sp))]) [0, 1, 2, 3, 4, 5] rfl) (hK.sub (tys' := [(cA, .int)]) [0] rfl) (hD.sub (ws' := [(h0, .inr (0, [.int p0, .int pk, .ref h1, .ref h2, .int dc, .ref h3, .int 0, .ref h4, .ref h5])), (h1, .inl (cA, 7, .inl pr)), (h2, .inl (cA, 7, .inl ex)), (h3, .inl (cA, 360, .inl dv)), (h4, .inl (cA, 4096, .inl rt)), (h5, .inl (cA, 4096, .inl sp))]) [0, 1, 2, 3, 4, 5] (by decide) rfl) U hU hW⟩⟩ rfl rfl hl.1 rfl (lv_room (Nat.le_of_ble_eq_true rfl)) dX0_take_32 ⟨Nat.zero_le _, Nat.zero_le _⟩) (fun u H locs hw hP hD hS => ?_)
      have hP : va_P (dC, dI) vwCl [(h0, .inr (0, [.int p0, .int pk_3, .ref h1, .ref h2, .int dc, .ref h3, .int 0, .ref h4, .ref h5])), (h1, .inl (cA, 7, .inl pr_3)), (h2, .inl (cA, 7, .inl ex_3)), (h3, .inl (cA, 360, .inl dv)), (h4, .inl (cA, 4096, .inl rt)), (h5, .inl (cA, 4096, .inl sp))] H := hP
      have hD : va_D A [(h0, .inr (0, [.int p0, .int pk_3, .ref h1, .ref h2, .int dc, .ref h3, .int 0, .ref h4, .ref h5])), (h1, .inl (cA, 7, .inl pr_3)), (h2, .inl (cA, 7, .inl ex_3)), (h3, .inl (cA, 360, .inl dv)), (h4, .inl (cA, 4096, .inl rt)), (h5, .inl (cA, 4096, .inl sp))] := hD
      refine lv_aload_n hx hb dX0_take_35 rfl (lv_at hl 0 rfl) ?_
      obtain ⟨dc_4, dv_4, sp_4, hr4, h⟩ := rf_b3 h
      refine rf_cv (wn := (fun _ : Unit => [(h0, .inr (0, [.int p0, .int pk_3, .ref h1, .ref h2, .int dc_4, .ref h3, .int 0, .ref h4, .ref h5])), (h1, .inl (cA, 7, .inl pr_3)), (h2, .inl (cA, 7, .inl ex_3)), (h3, .inl (cA, 360, .inl dv_4)), (h4, .inl (cA, 4096, .inl rt)), (h5, .inl (cA, 4096, .inl sp_4))])) (wc := [(h0, .inr (0, [.int p0, .int pk_3, .ref h1, .ref h2, .int dc, .ref h3, .int 0, .ref h4, .ref h5])), (h1, .inl (cA, 7, .inl pr_3)), (h2, .inl (cA, 7, .inl ex_3)), (h3, .inl (cA, 360, .inl dv)), (h4, .inl (cA, 4096, .inl rt)), (h5, .inl (cA, 4096, .inl sp))]) (wr := []) hP hD hS hA [0, 1, 2, 3, 4, 5] [] rfl rfl (by decide) (by decide) (va_runV (As := []) (rest := []) ⟨hx, hb, hml, hown, hts⟩ (c_r_findDivisors l dC dI _ F h0 h1 h2 h3 h4 h5 cA p0 pk_3 dc 0 pr_3 ex_3 dv rt sp dc_4 dv_4 sp_4 hr4) (cwV 0 hts gX0_take_X0_findDivisors rfl rfl rfl (by decide +kernel) ⟨Nat.le_of_ble_eq_true rfl, Nat.le_of_ble_eq_true rfl⟩) ⟨rf_blind, va_recv hK hP (ci := 0) (q0 := 0) rfl rfl, fun U hU hW => ⟨rfl, rf_pre (hP.sub (ws' := [(h0, .inr (0, [.int p0, .int pk_3, .ref h1, .ref h2, .int dc, .ref h3, .int 0, .ref h4, .ref h5])), (h1, .inl (cA, 7, .inl pr_3)), (h2, .inl (cA, 7, .inl ex_3)), (h3, .inl (cA, 360, .inl dv)), (h4, .inl (cA, 4096, .inl rt)), (h5, .inl (cA, 4096, .inl sp))]) [0, 1, 2, 3, 4, 5] rfl) (hK.sub (tys' := [(cA, .int)]) [0] rfl) (hD.sub (ws' := [(h0, .inr (0, [.int p0, .int pk_3, .ref h1, .ref h2, .int dc, .ref h3, .int 0, .ref h4, .ref h5])), (h1, .inl (cA, 7, .inl pr_3)), (h2, .inl (cA, 7, .inl ex_3)), (h3, .inl (cA, 360, .inl dv)), (h4, .inl (cA, 4096, .inl rt)), (h5, .inl (cA, 4096, .inl sp))]) [0, 1, 2, 3, 4, 5] (by decide) rfl) U hU hW⟩⟩ rfl rfl hl.1 rfl (lv_room (Nat.le_of_ble_eq_true rfl)) dX0_take_36 ⟨Nat.zero_le _, Nat.zero_le _⟩) (fun u H locs hw hP hD hS => ?_)
      have hP : va_P (dC, dI) vwCl [(h0, .inr (0, [.int p0, .int pk_3, .ref h1, .ref h2, .int dc_4, .ref h3, .int 0, .ref h4, .ref h5])), (h1, .inl (cA, 7, .inl pr_3)), (h2, .inl (cA, 7, .inl ex_3)), (h3, .inl (cA, 360, .inl dv_4)), (h4, .inl (cA, 4096, .inl rt)), (h5, .inl (cA, 4096, .inl sp_4))] H := hP
      have hD : va_D A [(h0, .inr (0, [.int p0, .int pk_3, .ref h1, .ref h2, .int dc_4, .ref h3, .int 0, .ref h4, .ref h5])), (h1, .inl (cA, 7, .inl pr_3)), (h2, .inl (cA, 7, .inl ex_3)), (h3, .inl (cA, 360, .inl dv_4)), (h4, .inl (cA, 4096, .inl rt)), (h5, .inl (cA, 4096, .inl sp_4))] := hD
      refine lv_aload_n hx hb dX0_take_39 rfl (lv_at hl 0 rfl) ?_
      refine va_get (D := (dC, dI)) (ci := 0) (v := .int pk_3) (C := RX0) (T := TX0) (N := 9) hx hb hts (fun _ h => List.mem_cons_of_mem _ (List.mem_append_right _ h)) hown hK hP 0 rfl rfl 1 (by decide) (hts _ (List.mem_of_getElem? (i := 9) rfl)) (fun _ h9 => h9) rfl dX0_take_40 ?_
      cases h
      exact W.iret hx hb hr (fun t ht hW => ⟨⟨_, (), rfl, rfl, by rw [ht]; exact hP, hD⟩, hS.F ht⟩) hS.2.2 dX0_take_43
    · rw [if_neg c2] at h
      cases h
def f_r_prime (F : Nat) (pk : Int32) (pr : Nat → Int32) (p0 : Int32) : Option (Option (Int32)) := if p0 < 0 then some none else if p0 < pk then sm (if p0.toInt < 0 ∨ (7 : Int) ≤ p0.toInt then none else some (pr p0.toNatClampNeg)) else some none
set_option maxHeartbeats 4000000 in
set_option maxRecDepth 100000 in
theorem c_r_prime (l : Launch) (dC : Nat → ClassId) (dI : Nat → Nat → Nat) (sz F : Nat) (h0 h1 h2 h3 h4 h5 : Nat) (cA : ClassId) (nu pk dc rc : Int32) (pr ex dv rt sp : Nat → Int32) (p0 rv : Int32) (h : f_r_prime F pk pr p0 = some (some rv)) : Met l yX0_prime wsX0_prime { frames := 0, cells := 0, slots := 0, locals := 0 } (rf_Pc (dC, dI) [(cA, .int)] [(h0, .inr (0, [.int nu, .int pk, .ref h1, .ref h2, .int dc, .ref h3, .int rc, .ref h4, .ref h5])), (h1, .inl (cA, 7, .inl pr)), (h2, .inl (cA, 7, .inl ex)), (h3, .inl (cA, 360, .inl dv)), (h4, .inl (cA, 4096, .inl rt)), (h5, .inl (cA, 4096, .inl sp))] sz [.ref h0, .int p0]) (va_Qi (fun (r : Int32) (_ : Unit) => rv = r) (fun (_ : Unit) t => va_P (dC, dI) vwCl [(h0, .inr (0, [.int nu, .int pk, .ref h1, .ref h2, .int dc, .ref h3, .int rc, .ref h4, .ref h5])), (h1, .inl (cA, 7, .inl pr)), (h2, .inl (cA, 7, .inl ex)), (h3, .inl (cA, 360, .inl dv)), (h4, .inl (cA, 4096, .inl rt)), (h5, .inl (cA, 4096, .inl sp))] t.heap ∧ va_D (va_A [(h0, .inr (0, [.int nu, .int pk, .ref h1, .ref h2, .int dc, .ref h3, .int rc, .ref h4, .ref h5])), (h1, .inl (cA, 7, .inl pr)), (h2, .inl (cA, 7, .inl ex)), (h3, .inl (cA, 360, .inl dv)), (h4, .inl (cA, 4096, .inl rt)), (h5, .inl (cA, 4096, .inl sp))] sz) [(h0, .inr (0, [.int nu, .int pk, .ref h1, .ref h2, .int dc, .ref h3, .int rc, .ref h4, .ref h5])), (h1, .inl (cA, 7, .inl pr)), (h2, .inl (cA, 7, .inl ex)), (h3, .inl (cA, 360, .inl dv)), (h4, .inl (cA, 4096, .inl rt)), (h5, .inl (cA, 4096, .inl sp))]) (va_A [(h0, .inr (0, [.int nu, .int pk, .ref h1, .ref h2, .int dc, .ref h3, .int rc, .ref h4, .ref h5])), (h1, .inl (cA, 7, .inl pr)), (h2, .inl (cA, 7, .inl ex)), (h3, .inl (cA, 360, .inl dv)), (h4, .inl (cA, 4096, .inl rt)), (h5, .inl (cA, 4096, .inl sp))] sz)) 0 0 (va_A [(h0, .inr (0, [.int nu, .int pk, .ref h1, .ref h2, .int dc, .ref h3, .int rc, .ref h4, .ref h5])), (h1, .inl (cA, 7, .inl pr)), (h2, .inl (cA, 7, .inl ex)), (h3, .inl (cA, 360, .inl dv)), (h4, .inl (cA, 4096, .inl rt)), (h5, .inl (cA, 4096, .inl sp))] sz) := by
  refine Met.ofW (cc := cX0_prime) (maxL := 2) (ret := (some .int)) (by decide) rfl ?_
  intro p e s m args below meth c s₁ B hml hv
  obtain ⟨rfl, hsz, hP, hK, hD0⟩ := hv
  have hx := B.exec
  have hb := B.bytes
  have hr := B.returns
  have hts := atoms_spec (ws := wsX0_prime) B.pre
  have hown : s.vm.findClass RX0 = some m.cls := findClass_of_methodNamed B.named
  have hlocks := B.notSynchronized
  subst hsz
  have hD := hD0.self (sz := s.heap.size)
  generalize hAe : va_A [(h0, .inr (0, [.int nu, .int pk, .ref h1, .ref h2, .int dc, .ref h3, .int rc, .ref h4, .ref h5])), (h1, .inl (cA, 7, .inl pr)), (h2, .inl (cA, 7, .inl ex)), (h3, .inl (cA, 360, .inl dv)), (h4, .inl (cA, 4096, .inl rt)), (h5, .inl (cA, 4096, .inl sp))] s.heap.size = A at hD ⊢
  have hA : ∀ q : Nat, s.heap.size ≤ q → A q := fun q h => by rw [← hAe]; exact Or.inr h
  have hS : va_S A s.heap s.heap [] := va_S.rf
  have hl := lv_entry ([.ref h0, .int p0]) (n := 2) (Nat.le_of_ble_eq_true rfl)
  rw [lg_entry_eq]
  generalize (lg_sl ([.ref h0, .int p0]) ++ List.replicate (2 - (lg_sl ([.ref h0, .int p0])).length) Slot.unset).toArray = ls at hl ⊢
  have hl : lv_has ls 2 [(0, .ref h0), (1, .int p0)] := hl
  unfold f_r_prime at h
  refine lv_iload_n hx hb dX0_prime_0 rfl (lv_at hl 1 rfl) ?_
  refine lv_if_lt (tgt := 12) hx hb dX0_prime_1 (by decide) (fun c1 => ?_) (fun c1 => ?_)
  · rw [if_pos c1] at h
    cases h
  · rw [if_neg c1] at h
    refine lv_iload_n hx hb dX0_prime_4 rfl (lv_at hl 1 rfl) ?_
    refine lv_aload_n hx hb dX0_prime_5 rfl (lv_at hl 0 rfl) ?_
    refine va_get (D := (dC, dI)) (ci := 0) (v := .int pk) (C := RX0) (T := TX0) (N := 9) hx hb hts (fun _ h => List.mem_cons_of_mem _ (List.mem_append_right _ h)) hown hK hP 0 rfl rfl 1 (by decide) (hts _ (List.mem_of_getElem? (i := 1) rfl)) (fun _ h9 => h9) rfl dX0_prime_6 ?_
    refine lv_icmp_lt (tgt := 22) hx hb dX0_prime_9 (by decide) (fun c2 => ?_) (fun c2 => ?_)
    · rw [if_pos c2] at h
      have h := rf_sm h
      refine lv_aload_n hx hb dX0_prime_22 rfl (lv_at hl 0 rfl) ?_
      refine va_get (D := (dC, dI)) (ci := 0) (v := .ref h1) (C := RX0) (T := TX0) (N := 9) hx hb hts (fun _ h => List.mem_cons_of_mem _ (List.mem_append_right _ h)) hown hK hP 0 rfl rfl 2 (by decide) (hts _ (List.mem_of_getElem? (i := 2) rfl)) (fun _ h9 => h9) rfl dX0_prime_23 ?_
      refine lv_iload_n hx hb dX0_prime_26 rfl (lv_at hl 1 rfl) ?_
      obtain ⟨g3, h⟩ := rf_gd h
      refine va_iald hx hb hK hP 1 0 rfl rfl (rf_in g3) dX0_prime_27 ?_
      cases h
      exact W.iret hx hb hr (fun t ht hW => ⟨⟨_, (), rfl, rfl, by rw [ht]; exact hP, hD⟩, hS.F ht⟩) hS.2.2 dX0_prime_28
    · rw [if_neg c2] at h
      cases h
def f_r_exponent (F : Nat) (pk : Int32) (ex : Nat → Int32) (p0 : Int32) : Option (Option (Int32)) := if p0 < 0 then some none else if p0 < pk then sm (if p0.toInt < 0 ∨ (7 : Int) ≤ p0.toInt then none else some (ex p0.toNatClampNeg)) else some none
set_option maxHeartbeats 4000000 in
set_option maxRecDepth 100000 in
theorem c_r_exponent (l : Launch) (dC : Nat → ClassId) (dI : Nat → Nat → Nat) (sz F : Nat) (h0 h1 h2 h3 h4 h5 : Nat) (cA : ClassId) (nu pk dc rc : Int32) (pr ex dv rt sp : Nat → Int32) (p0 rv : Int32) (h : f_r_exponent F pk ex p0 = some (some rv)) : Met l yX0_exponent wsX0_exponent { frames := 0, cells := 0, slots := 0, locals := 0 } (rf_Pc (dC, dI) [(cA, .int)] [(h0, .inr (0, [.int nu, .int pk, .ref h1, .ref h2, .int dc, .ref h3, .int rc, .ref h4, .ref h5])), (h1, .inl (cA, 7, .inl pr)), (h2, .inl (cA, 7, .inl ex)), (h3, .inl (cA, 360, .inl dv)), (h4, .inl (cA, 4096, .inl rt)), (h5, .inl (cA, 4096, .inl sp))] sz [.ref h0, .int p0]) (va_Qi (fun (r : Int32) (_ : Unit) => rv = r) (fun (_ : Unit) t => va_P (dC, dI) vwCl [(h0, .inr (0, [.int nu, .int pk, .ref h1, .ref h2, .int dc, .ref h3, .int rc, .ref h4, .ref h5])), (h1, .inl (cA, 7, .inl pr)), (h2, .inl (cA, 7, .inl ex)), (h3, .inl (cA, 360, .inl dv)), (h4, .inl (cA, 4096, .inl rt)), (h5, .inl (cA, 4096, .inl sp))] t.heap ∧ va_D (va_A [(h0, .inr (0, [.int nu, .int pk, .ref h1, .ref h2, .int dc, .ref h3, .int rc, .ref h4, .ref h5])), (h1, .inl (cA, 7, .inl pr)), (h2, .inl (cA, 7, .inl ex)), (h3, .inl (cA, 360, .inl dv)), (h4, .inl (cA, 4096, .inl rt)), (h5, .inl (cA, 4096, .inl sp))] sz) [(h0, .inr (0, [.int nu, .int pk, .ref h1, .ref h2, .int dc, .ref h3, .int rc, .ref h4, .ref h5])), (h1, .inl (cA, 7, .inl pr)), (h2, .inl (cA, 7, .inl ex)), (h3, .inl (cA, 360, .inl dv)), (h4, .inl (cA, 4096, .inl rt)), (h5, .inl (cA, 4096, .inl sp))]) (va_A [(h0, .inr (0, [.int nu, .int pk, .ref h1, .ref h2, .int dc, .ref h3, .int rc, .ref h4, .ref h5])), (h1, .inl (cA, 7, .inl pr)), (h2, .inl (cA, 7, .inl ex)), (h3, .inl (cA, 360, .inl dv)), (h4, .inl (cA, 4096, .inl rt)), (h5, .inl (cA, 4096, .inl sp))] sz)) 0 0 (va_A [(h0, .inr (0, [.int nu, .int pk, .ref h1, .ref h2, .int dc, .ref h3, .int rc, .ref h4, .ref h5])), (h1, .inl (cA, 7, .inl pr)), (h2, .inl (cA, 7, .inl ex)), (h3, .inl (cA, 360, .inl dv)), (h4, .inl (cA, 4096, .inl rt)), (h5, .inl (cA, 4096, .inl sp))] sz) := by
  refine Met.ofW (cc := cX0_exponent) (maxL := 2) (ret := (some .int)) (by decide) rfl ?_
  intro p e s m args below meth c s₁ B hml hv
  obtain ⟨rfl, hsz, hP, hK, hD0⟩ := hv
  have hx := B.exec
  have hb := B.bytes
  have hr := B.returns
  have hts := atoms_spec (ws := wsX0_exponent) B.pre
  have hown : s.vm.findClass RX0 = some m.cls := findClass_of_methodNamed B.named
  have hlocks := B.notSynchronized
  subst hsz
  have hD := hD0.self (sz := s.heap.size)
  generalize hAe : va_A [(h0, .inr (0, [.int nu, .int pk, .ref h1, .ref h2, .int dc, .ref h3, .int rc, .ref h4, .ref h5])), (h1, .inl (cA, 7, .inl pr)), (h2, .inl (cA, 7, .inl ex)), (h3, .inl (cA, 360, .inl dv)), (h4, .inl (cA, 4096, .inl rt)), (h5, .inl (cA, 4096, .inl sp))] s.heap.size = A at hD ⊢
  have hA : ∀ q : Nat, s.heap.size ≤ q → A q := fun q h => by rw [← hAe]; exact Or.inr h
  have hS : va_S A s.heap s.heap [] := va_S.rf
  have hl := lv_entry ([.ref h0, .int p0]) (n := 2) (Nat.le_of_ble_eq_true rfl)
  rw [lg_entry_eq]
  generalize (lg_sl ([.ref h0, .int p0]) ++ List.replicate (2 - (lg_sl ([.ref h0, .int p0])).length) Slot.unset).toArray = ls at hl ⊢
  have hl : lv_has ls 2 [(0, .ref h0), (1, .int p0)] := hl
  unfold f_r_exponent at h
  refine lv_iload_n hx hb dX0_exponent_0 rfl (lv_at hl 1 rfl) ?_
  refine lv_if_lt (tgt := 12) hx hb dX0_exponent_1 (by decide) (fun c1 => ?_) (fun c1 => ?_)
  · rw [if_pos c1] at h
    cases h
  · rw [if_neg c1] at h
    refine lv_iload_n hx hb dX0_exponent_4 rfl (lv_at hl 1 rfl) ?_
    refine lv_aload_n hx hb dX0_exponent_5 rfl (lv_at hl 0 rfl) ?_
    refine va_get (D := (dC, dI)) (ci := 0) (v := .int pk) (C := RX0) (T := TX0) (N := 9) hx hb hts (fun _ h => List.mem_cons_of_mem _ (List.mem_append_right _ h)) hown hK hP 0 rfl rfl 1 (by decide) (hts _ (List.mem_of_getElem? (i := 1) rfl)) (fun _ h9 => h9) rfl dX0_exponent_6 ?_
    refine lv_icmp_lt (tgt := 22) hx hb dX0_exponent_9 (by decide) (fun c2 => ?_) (fun c2 => ?_)
    · rw [if_pos c2] at h
      have h := rf_sm h
      refine lv_aload_n hx hb dX0_exponent_22 rfl (lv_at hl 0 rfl) ?_
      refine va_get (D := (dC, dI)) (ci := 0) (v := .ref h2) (C := RX0) (T := TX0) (N := 9) hx hb hts (fun _ h => List.mem_cons_of_mem _ (List.mem_append_right _ h)) hown hK hP 0 rfl rfl 3 (by decide) (hts _ (List.mem_of_getElem? (i := 2) rfl)) (fun _ h9 => h9) rfl dX0_exponent_23 ?_
      refine lv_iload_n hx hb dX0_exponent_26 rfl (lv_at hl 1 rfl) ?_
      obtain ⟨g3, h⟩ := rf_gd h
      refine va_iald hx hb hK hP 2 0 rfl rfl (rf_in g3) dX0_exponent_27 ?_
      cases h
      exact W.iret hx hb hr (fun t ht hW => ⟨⟨_, (), rfl, rfl, by rw [ht]; exact hP, hD⟩, hS.F ht⟩) hS.2.2 dX0_exponent_28
    · rw [if_neg c2] at h
      cases h
