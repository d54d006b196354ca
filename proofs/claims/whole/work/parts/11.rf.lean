def f_r_divisor (F : Nat) (dc : Int32) (dv : Nat → Int32) (p0 : Int32) : Option (Option (Int32)) := if p0 < 0 then some none else if p0 < dc then sm (if p0.toInt < 0 ∨ (360 : Int) ≤ p0.toInt then none else some (dv p0.toNatClampNeg)) else some none
set_option maxHeartbeats 4000000 in
set_option maxRecDepth 100000 in
theorem c_r_divisor (l : Launch) (dC : Nat → ClassId) (dI : Nat → Nat → Nat) (sz F : Nat) (h0 h1 h2 h3 h4 h5 : Nat) (cA : ClassId) (nu pk dc rc : Int32) (pr ex dv rt sp : Nat → Int32) (p0 rv : Int32) (h : f_r_divisor F dc dv p0 = some (some rv)) : Met l yX0_divisor wsX0_divisor { frames := 0, cells := 0, slots := 0, locals := 0 } (rf_Pc (dC, dI) [(cA, .int)] [(h0, .inr (0, [.int nu, .int pk, .ref h1, .ref h2, .int dc, .ref h3, .int rc, .ref h4, .ref h5])), (h1, .inl (cA, 7, .inl pr)), (h2, .inl (cA, 7, .inl ex)), (h3, .inl (cA, 360, .inl dv)), (h4, .inl (cA, 4096, .inl rt)), (h5, .inl (cA, 4096, .inl sp))] sz [.ref h0, .int p0]) (va_Qi (fun (r : Int32) (_ : Unit) => rv = r) (fun (_ : Unit) t => va_P (dC, dI) vwCl [(h0, .inr (0, [.int nu, .int pk, .ref h1, .ref h2, .int dc, .ref h3, .int rc, .ref h4, .ref h5])), (h1, .inl (cA, 7, .inl pr)), (h2, .inl (cA, 7, .inl ex)), (h3, .inl (cA, 360, .inl dv)), (h4, .inl (cA, 4096, .inl rt)), (h5, .inl (cA, 4096, .inl sp))] t.heap ∧ va_D (va_A [(h0, .inr (0, [.int nu, .int pk, .ref h1, .ref h2, .int dc, .ref h3, .int rc, .ref h4, .ref h5])), (h1, .inl (cA, 7, .inl pr)), (h2, .inl (cA, 7, .inl ex)), (h3, .inl (cA, 360, .inl dv)), (h4, .inl (cA, 4096, .inl rt)), (h5, .inl (cA, 4096, .inl sp))] sz) [(h0, .inr (0, [.int nu, .int pk, .ref h1, .ref h2, .int dc, .ref h3, .int rc, .ref h4, .ref h5])), (h1, .inl (cA, 7, .inl pr)), (h2, .inl (cA, 7, .inl ex)), (h3, .inl (cA, 360, .inl dv)), (h4, .inl (cA, 4096, .inl rt)), (h5, .inl (cA, 4096, .inl sp))]) (va_A [(h0, .inr (0, [.int nu, .int pk, .ref h1, .ref h2, .int dc, .ref h3, .int rc, .ref h4, .ref h5])), (h1, .inl (cA, 7, .inl pr)), (h2, .inl (cA, 7, .inl ex)), (h3, .inl (cA, 360, .inl dv)), (h4, .inl (cA, 4096, .inl rt)), (h5, .inl (cA, 4096, .inl sp))] sz)) 0 0 (va_A [(h0, .inr (0, [.int nu, .int pk, .ref h1, .ref h2, .int dc, .ref h3, .int rc, .ref h4, .ref h5])), (h1, .inl (cA, 7, .inl pr)), (h2, .inl (cA, 7, .inl ex)), (h3, .inl (cA, 360, .inl dv)), (h4, .inl (cA, 4096, .inl rt)), (h5, .inl (cA, 4096, .inl sp))] sz) := by
  refine Met.ofW (cc := cX0_divisor) (maxL := 2) (ret := (some .int)) (by decide) rfl ?_
  intro p e s m args below meth c s₁ B hml hv
  obtain ⟨rfl, hsz, hP, hK, hD0⟩ := hv
  have hx := B.exec
  have hb := B.bytes
  have hr := B.returns
  have hts := atoms_spec (ws := wsX0_divisor) B.pre
  have hown : s.vm.findClass RX0 = some m.cls := findClass_of_methodNamed B.named
  have hlocks := B.notSynchronized
  subst hsz
  have hD := hD0.self (sz := s.heap.size)
  generalize hAe : va_A [(h0, .inr (0, [.int nu, .int pk, .ref h1, .ref h2, .int dc, .ref h3, .int rc, .ref h4, .ref h5])), (h1, .inl (cA, 7, .inl pr)), (h2, .inl (cA, 7, .inl ex)), (h3, .inl (cA, 360, .inl dv)), (h4, .inl (cA, 4096, .inl rt)), (h5, .inl (cA, 4096, .inl sp))] s.heap.size = A at hD ⊢
  have hA : ∀ q : Nat, s.heap.size ≤ q → A q := fun q h => by rw [← hAe]; exact Or.inr h
  have hS : va_S A s.heap s.heap [] := va_S.rf
  have hl := lv_entry ([.ref h0, .int p0]) (n := 2) (Nat.le_of_ble_eq_true rfl)
  rw [lg_entry_eq]
  generalize (lg_sl ([.ref h0, .int p0]) ++ List.replicate (2 - (lg_sl ([.ref h0, .int p0])).length) Slot.unset).toArray = ls at hl ⊢
  have hl : lv_has ls 2 [(0, .ref h0), (1, .int p0)] := hl
  unfold f_r_divisor at h
  refine lv_iload_n hx hb dX0_divisor_0 rfl (lv_at hl 1 rfl) ?_
  refine lv_if_lt (tgt := 12) hx hb dX0_divisor_1 (by decide) (fun c1 => ?_) (fun c1 => ?_)
  · rw [if_pos c1] at h
    cases h
  · rw [if_neg c1] at h
    refine lv_iload_n hx hb dX0_divisor_4 rfl (lv_at hl 1 rfl) ?_
    refine lv_aload_n hx hb dX0_divisor_5 rfl (lv_at hl 0 rfl) ?_
    refine va_get (D := (dC, dI)) (ci := 0) (v := .int dc) (C := RX0) (T := TX0) (N := 9) hx hb hts (fun _ h => List.mem_cons_of_mem _ (List.mem_append_right _ h)) hown hK hP 0 rfl rfl 4 (by decide) (hts _ (List.mem_of_getElem? (i := 1) rfl)) (fun _ h9 => h9) rfl dX0_divisor_6 ?_
    refine lv_icmp_lt (tgt := 22) hx hb dX0_divisor_9 (by decide) (fun c2 => ?_) (fun c2 => ?_)
    · rw [if_pos c2] at h
      have h := rf_sm h
      refine lv_aload_n hx hb dX0_divisor_22 rfl (lv_at hl 0 rfl) ?_
      refine va_get (D := (dC, dI)) (ci := 0) (v := .ref h3) (C := RX0) (T := TX0) (N := 9) hx hb hts (fun _ h => List.mem_cons_of_mem _ (List.mem_append_right _ h)) hown hK hP 0 rfl rfl 5 (by decide) (hts _ (List.mem_of_getElem? (i := 2) rfl)) (fun _ h9 => h9) rfl dX0_divisor_23 ?_
      refine lv_iload_n hx hb dX0_divisor_26 rfl (lv_at hl 1 rfl) ?_
      obtain ⟨g3, h⟩ := rf_gd h
      refine va_iald hx hb hK hP 3 0 rfl rfl (rf_in g3) dX0_divisor_27 ?_
      cases h
      exact W.iret hx hb hr (fun t ht hW => ⟨⟨_, (), rfl, rfl, by rw [ht]; exact hP, hD⟩, hS.F ht⟩) hS.2.2 dX0_divisor_28
    · rw [if_neg c2] at h
      cases h
def l_r_countCoprimes_25 (F : Nat) (x2 : Int32) (pr ex : Nat → Int32) : Nat → Int32 → Int32 → Option (Int32)
  | 0, _, _ => none
  | n + 1, x1, x3 => if x2.toInt < 0 ∨ (7 : Int) ≤ x2.toInt then none else if (ex x2.toNatClampNeg) ≤ x3 then some x1 else if x2.toInt < 0 ∨ (7 : Int) ≤ x2.toInt then none else l_r_countCoprimes_25 F x2 pr ex n (x1 * (pr x2.toNatClampNeg)) (x3 + 1)
set_option maxHeartbeats 4000000 in
set_option maxRecDepth 100000 in
theorem w_r_countCoprimes_25 {p : Program} {l : Launch} {e : Env} {s : State} {m : MethodId} {args : Array Value} {below : List Frame} {meth : Method} {c : Code} {A : Nat → Prop} {Q : State → Prop} {dC : Nat → ClassId} {dI : Nat → Nat → Nat} (F : Nat) (hx : p.tables.exec = Jvm.exec) (hb : c.code = cX0_countCoprimes) (hml : c.maxLocals = 4) (hown : s.vm.findClass RX0 = some m.cls) (hts : ∀ w ∈ wsX0_countCoprimes, w.before args s = true) (hA : ∀ q, s.heap.size ≤ q → A q) (h0 h1 h2 h3 h4 h5 : Nat) (cA : ClassId) (hK : va_K (dC, dI) vwCl [(cA, .int)] s) (x2 nu pk dc rc : Int32) (pr ex dv rt sp : Nat → Int32) :
    ∀ (n : Nat) (x1 x3 x1' : Int32), l_r_countCoprimes_25 F x2 pr ex n x1 x3 = some x1' → ∀ (H : Heap) (locs : List Loc), va_P (dC, dI) vwCl [(h0, .inr (0, [.int nu, .int pk, .ref h1, .ref h2, .int dc, .ref h3, .int rc, .ref h4, .ref h5])), (h1, .inl (cA, 7, .inl pr)), (h2, .inl (cA, 7, .inl ex)), (h3, .inl (cA, 360, .inl dv)), (h4, .inl (cA, 4096, .inl rt)), (h5, .inl (cA, 4096, .inl sp))] H → va_D A [(h0, .inr (0, [.int nu, .int pk, .ref h1, .ref h2, .int dc, .ref h3, .int rc, .ref h4, .ref h5])), (h1, .inl (cA, 7, .inl pr)), (h2, .inl (cA, 7, .inl ex)), (h3, .inl (cA, 360, .inl dv)), (h4, .inl (cA, 4096, .inl rt)), (h5, .inl (cA, 4096, .inl sp))] → va_S A s.heap H locs → ∀ ls : Array Slot, lv_has ls 4 [(0, .ref h0), (1, .int x1), (2, .int x2), (3, .int x3)] → (∀ (H : Heap) (locs : List Loc) (ls : Array Slot), va_P (dC, dI) vwCl [(h0, .inr (0, [.int nu, .int pk, .ref h1, .ref h2, .int dc, .ref h3, .int rc, .ref h4, .ref h5])), (h1, .inl (cA, 7, .inl pr)), (h2, .inl (cA, 7, .inl ex)), (h3, .inl (cA, 360, .inl dv)), (h4, .inl (cA, 4096, .inl rt)), (h5, .inl (cA, 4096, .inl sp))] H → va_D A [(h0, .inr (0, [.int nu, .int pk, .ref h1, .ref h2, .int dc, .ref h3, .int rc, .ref h4, .ref h5])), (h1, .inl (cA, 7, .inl pr)), (h2, .inl (cA, 7, .inl ex)), (h3, .inl (cA, 360, .inl dv)), (h4, .inl (cA, 4096, .inl rt)), (h5, .inl (cA, 4096, .inl sp))] → va_S A s.heap H locs → lv_has ls 4 [(0, .ref h0), (1, .int x1'), (2, .int x2)] → W p l e { frames := 0, cells := 0, slots := 0, locals := 0 } s m args below meth c H locs 0 0 Q (F0 m 50 ls [])) → W p l e { frames := 0, cells := 0, slots := 0, locals := 0 } s m args below meth c H locs 0 0 Q (F0 m 25 ls []) := by
  intro n
  induction n with
  | zero => intro x1 x3 x1' h; exact nomatch (show (none : Option _) = some _ from h)
  | succ n ih =>
    intro x1 x3 x1' h H locs hP hD hS ls hl K
    rw [l_r_countCoprimes_25] at h
    refine lv_iload_n hx hb dX0_countCoprimes_25 rfl (lv_at hl 3 rfl) ?_
    refine lv_aload_n hx hb dX0_countCoprimes_26 rfl (lv_at hl 0 rfl) ?_
    refine va_get (D := (dC, dI)) (ci := 0) (v := .ref h2) (C := RX0) (T := TX0) (N := 9) hx hb hts (fun _ h => List.mem_cons_of_mem _ (List.mem_append_right _ h)) hown hK hP 0 rfl rfl 3 (by decide) (hts _ (List.mem_of_getElem? (i := 3) rfl)) (fun _ h9 => h9) rfl dX0_countCoprimes_27 ?_
    refine lv_iload_n hx hb dX0_countCoprimes_30 rfl (lv_at hl 2 rfl) ?_
    obtain ⟨g1, h⟩ := rf_gd h
    refine va_iald hx hb hK hP 2 0 rfl rfl (rf_in g1) dX0_countCoprimes_31 ?_
    refine lv_icmp_ge (tgt := 50) hx hb dX0_countCoprimes_32 (by decide) (fun c2 => ?_) (fun c2 => ?_)
    · rw [if_pos c2] at h
      cases h
      exact K _ _ _ hP hD hS (lv_sub hl [0, 1, 2] rfl)
    · rw [if_neg c2] at h
      refine lv_iload_n hx hb dX0_countCoprimes_35 rfl (lv_at hl 1 rfl) ?_
      refine lv_aload_n hx hb dX0_countCoprimes_36 rfl (lv_at hl 0 rfl) ?_
      refine va_get (D := (dC, dI)) (ci := 0) (v := .ref h1) (C := RX0) (T := TX0) (N := 9) hx hb hts (fun _ h => List.mem_cons_of_mem _ (List.mem_append_right _ h)) hown hK hP 0 rfl rfl 2 (by decide) (hts _ (List.mem_of_getElem? (i := 2) rfl)) (fun _ h9 => h9) rfl dX0_countCoprimes_37 ?_
      refine lv_iload_n hx hb dX0_countCoprimes_40 rfl (lv_at hl 2 rfl) ?_
      obtain ⟨g3, h⟩ := rf_gd h
      refine va_iald hx hb hK hP 1 0 rfl rfl (rf_in g3) dX0_countCoprimes_41 ?_
      refine lv_imul hx hb dX0_countCoprimes_42 ?_
      refine lv_istore_n (lv' := [(1, .int (x1 * (pr x2.toNatClampNeg))), (0, .ref h0), (2, .int x2), (3, .int x3)]) hx hb dX0_countCoprimes_43 rfl hl (by decide) rfl (fun ls hl => ?_)
      refine lv_iinc (v := (x3 + 1)) (lv' := [(3, .int (x3 + 1)), (1, .int (x1 * (pr x2.toNatClampNeg))), (0, .ref h0), (2, .int x2)]) hx hb dX0_countCoprimes_44 hl (k := 3) rfl rfl (by decide) rfl (fun ls hl => ?_)
      refine lv_goto (tgt := 25) hx hb dX0_countCoprimes_47 (by decide) ?_
      exact ih (x1 * (pr x2.toNatClampNeg)) (x3 + 1) x1' h _ _ hP hD hS _ (lv_sub hl [2, 1, 3, 0] rfl) K
def l_r_countCoprimes_4 (F : Nat) (pk : Int32) (pr ex : Nat → Int32) : Nat → Int32 → Int32 → Option (Int32)
  | 0, _, _ => none
  | n + 1, x1, x2 => if pk ≤ x2 then some x1 else if x2.toInt < 0 ∨ (7 : Int) ≤ x2.toInt then none else b1 (l_r_countCoprimes_25 F x2 pr ex F (x1 * ((pr x2.toNatClampNeg) - 1)) 1) fun x1_3 => l_r_countCoprimes_4 F pk pr ex n x1_3 (x2 + 1)
set_option maxHeartbeats 4000000 in
set_option maxRecDepth 100000 in
theorem w_r_countCoprimes_4 {p : Program} {l : Launch} {e : Env} {s : State} {m : MethodId} {args : Array Value} {below : List Frame} {meth : Method} {c : Code} {A : Nat → Prop} {Q : State → Prop} {dC : Nat → ClassId} {dI : Nat → Nat → Nat} (F : Nat) (hx : p.tables.exec = Jvm.exec) (hb : c.code = cX0_countCoprimes) (hml : c.maxLocals = 4) (hown : s.vm.findClass RX0 = some m.cls) (hts : ∀ w ∈ wsX0_countCoprimes, w.before args s = true) (hA : ∀ q, s.heap.size ≤ q → A q) (h0 h1 h2 h3 h4 h5 : Nat) (cA : ClassId) (hK : va_K (dC, dI) vwCl [(cA, .int)] s) (nu pk dc rc : Int32) (pr ex dv rt sp : Nat → Int32) :
    ∀ (n : Nat) (x1 x2 x1' : Int32), l_r_countCoprimes_4 F pk pr ex n x1 x2 = some x1' → ∀ (H : Heap) (locs : List Loc), va_P (dC, dI) vwCl [(h0, .inr (0, [.int nu, .int pk, .ref h1, .ref h2, .int dc, .ref h3, .int rc, .ref h4, .ref h5])), (h1, .inl (cA, 7, .inl pr)), (h2, .inl (cA, 7, .inl ex)), (h3, .inl (cA, 360, .inl dv)), (h4, .inl (cA, 4096, .inl rt)), (h5, .inl (cA, 4096, .inl sp))] H → va_D A [(h0, .inr (0, [.int nu, .int pk, .ref h1, .ref h2, .int dc, .ref h3, .int rc, .ref h4, .ref h5])), (h1, .inl (cA, 7, .inl pr)), (h2, .inl (cA, 7, .inl ex)), (h3, .inl (cA, 360, .inl dv)), (h4, .inl (cA, 4096, .inl rt)), (h5, .inl (cA, 4096, .inl sp))] → va_S A s.heap H locs → ∀ ls : Array Slot, lv_has ls 4 [(0, .ref h0), (1, .int x1), (2, .int x2)] → (∀ (H : Heap) (locs : List Loc) (ls : Array Slot), va_P (dC, dI) vwCl [(h0, .inr (0, [.int nu, .int pk, .ref h1, .ref h2, .int dc, .ref h3, .int rc, .ref h4, .ref h5])), (h1, .inl (cA, 7, .inl pr)), (h2, .inl (cA, 7, .inl ex)), (h3, .inl (cA, 360, .inl dv)), (h4, .inl (cA, 4096, .inl rt)), (h5, .inl (cA, 4096, .inl sp))] H → va_D A [(h0, .inr (0, [.int nu, .int pk, .ref h1, .ref h2, .int dc, .ref h3, .int rc, .ref h4, .ref h5])), (h1, .inl (cA, 7, .inl pr)), (h2, .inl (cA, 7, .inl ex)), (h3, .inl (cA, 360, .inl dv)), (h4, .inl (cA, 4096, .inl rt)), (h5, .inl (cA, 4096, .inl sp))] → va_S A s.heap H locs → lv_has ls 4 [(1, .int x1')] → W p l e { frames := 0, cells := 0, slots := 0, locals := 0 } s m args below meth c H locs 0 0 Q (F0 m 56 ls [])) → W p l e { frames := 0, cells := 0, slots := 0, locals := 0 } s m args below meth c H locs 0 0 Q (F0 m 4 ls []) := by
  intro n
  induction n with
  | zero => intro x1 x2 x1' h; exact nomatch (show (none : Option _) = some _ from h)
  | succ n ih =>
    intro x1 x2 x1' h H locs hP hD hS ls hl K
    rw [l_r_countCoprimes_4] at h
    refine lv_iload_n hx hb dX0_countCoprimes_4 rfl (lv_at hl 2 rfl) ?_
    refine lv_aload_n hx hb dX0_countCoprimes_5 rfl (lv_at hl 0 rfl) ?_
    refine va_get (D := (dC, dI)) (ci := 0) (v := .int pk) (C := RX0) (T := TX0) (N := 9) hx hb hts (fun _ h => List.mem_cons_of_mem _ (List.mem_append_right _ h)) hown hK hP 0 rfl rfl 1 (by decide) (hts _ (List.mem_of_getElem? (i := 1) rfl)) (fun _ h9 => h9) rfl dX0_countCoprimes_6 ?_
    refine lv_icmp_ge (tgt := 56) hx hb dX0_countCoprimes_9 (by decide) (fun c1 => ?_) (fun c1 => ?_)
    · rw [if_pos c1] at h
      cases h
      exact K _ _ _ hP hD hS (lv_sub hl [1] rfl)
    · rw [if_neg c1] at h
      refine lv_iload_n hx hb dX0_countCoprimes_12 rfl (lv_at hl 1 rfl) ?_
      refine lv_aload_n hx hb dX0_countCoprimes_13 rfl (lv_at hl 0 rfl) ?_
      refine va_get (D := (dC, dI)) (ci := 0) (v := .ref h1) (C := RX0) (T := TX0) (N := 9) hx hb hts (fun _ h => List.mem_cons_of_mem _ (List.mem_append_right _ h)) hown hK hP 0 rfl rfl 2 (by decide) (hts _ (List.mem_of_getElem? (i := 2) rfl)) (fun _ h9 => h9) rfl dX0_countCoprimes_14 ?_
      refine lv_iload_n hx hb dX0_countCoprimes_17 rfl (lv_at hl 2 rfl) ?_
      obtain ⟨g2, h⟩ := rf_gd h
      refine va_iald hx hb hK hP 1 0 rfl rfl (rf_in g2) dX0_countCoprimes_18 ?_
      refine lv_iconst (v := 1) hx hb dX0_countCoprimes_19 (by decide) ?_
      refine lv_isub hx hb dX0_countCoprimes_20 ?_
      refine lv_imul hx hb dX0_countCoprimes_21 ?_
      refine lv_istore_n (lv' := [(1, .int (x1 * ((pr x2.toNatClampNeg) - 1))), (0, .ref h0), (2, .int x2)]) hx hb dX0_countCoprimes_22 rfl hl (by decide) rfl (fun ls hl => ?_)
      refine lv_iconst (v := 1) hx hb dX0_countCoprimes_23 (by decide) ?_
      refine lv_istore_n (lv' := [(3, .int 1), (1, .int (x1 * ((pr x2.toNatClampNeg) - 1))), (0, .ref h0), (2, .int x2)]) hx hb dX0_countCoprimes_24 rfl hl (by decide) rfl (fun ls hl => ?_)
      obtain ⟨x1_3, hr3, h⟩ := rf_b1 h
      refine w_r_countCoprimes_25 F hx hb hml hown hts hA h0 h1 h2 h3 h4 h5 cA hK x2 nu pk dc rc pr ex dv rt sp F (x1 * ((pr x2.toNatClampNeg) - 1)) 1 x1_3 hr3 _ _ hP hD hS _ (lv_sub hl [2, 1, 3, 0] rfl) (fun H locs ls hP hD hS hl => ?_)
      refine lv_iinc (v := (x2 + 1)) (lv' := [(2, .int (x2 + 1)), (0, .ref h0), (1, .int x1_3)]) hx hb dX0_countCoprimes_50 hl (k := 2) rfl rfl (by decide) rfl (fun ls hl => ?_)
      refine lv_goto (tgt := 4) hx hb dX0_countCoprimes_53 (by decide) ?_
      exact ih x1_3 (x2 + 1) x1' h _ _ hP hD hS _ (lv_sub hl [1, 2, 0] rfl) K
def f_r_countCoprimes (F : Nat) (pk : Int32) (pr ex : Nat → Int32) : Option (Int32) := b1 (l_r_countCoprimes_4 F pk pr ex F 1 0) fun x1_1 => some x1_1
set_option maxHeartbeats 4000000 in
set_option maxRecDepth 100000 in
theorem c_r_countCoprimes (l : Launch) (dC : Nat → ClassId) (dI : Nat → Nat → Nat) (sz F : Nat) (h0 h1 h2 h3 h4 h5 : Nat) (cA : ClassId) (nu pk dc rc : Int32) (pr ex dv rt sp : Nat → Int32) (rv : Int32) (h : f_r_countCoprimes F pk pr ex = some rv) : Met l yX0_countCoprimes wsX0_countCoprimes { frames := 0, cells := 0, slots := 0, locals := 0 } (rf_Pc (dC, dI) [(cA, .int)] [(h0, .inr (0, [.int nu, .int pk, .ref h1, .ref h2, .int dc, .ref h3, .int rc, .ref h4, .ref h5])), (h1, .inl (cA, 7, .inl pr)), (h2, .inl (cA, 7, .inl ex)), (h3, .inl (cA, 360, .inl dv)), (h4, .inl (cA, 4096, .inl rt)), (h5, .inl (cA, 4096, .inl sp))] sz [.ref h0]) (va_Qi (fun (r : Int32) (_ : Unit) => rv = r) (fun (_ : Unit) t => va_P (dC, dI) vwCl [(h0, .inr (0, [.int nu, .int pk, .ref h1, .ref h2, .int dc, .ref h3, .int rc, .ref h4, .ref h5])), (h1, .inl (cA, 7, .inl pr)), (h2, .inl (cA, 7, .inl ex)), (h3, .inl (cA, 360, .inl dv)), (h4, .inl (cA, 4096, .inl rt)), (h5, .inl (cA, 4096, .inl sp))] t.heap ∧ va_D (va_A [(h0, .inr (0, [.int nu, .int pk, .ref h1, .ref h2, .int dc, .ref h3, .int rc, .ref h4, .ref h5])), (h1, .inl (cA, 7, .inl pr)), (h2, .inl (cA, 7, .inl ex)), (h3, .inl (cA, 360, .inl dv)), (h4, .inl (cA, 4096, .inl rt)), (h5, .inl (cA, 4096, .inl sp))] sz) [(h0, .inr (0, [.int nu, .int pk, .ref h1, .ref h2, .int dc, .ref h3, .int rc, .ref h4, .ref h5])), (h1, .inl (cA, 7, .inl pr)), (h2, .inl (cA, 7, .inl ex)), (h3, .inl (cA, 360, .inl dv)), (h4, .inl (cA, 4096, .inl rt)), (h5, .inl (cA, 4096, .inl sp))]) (va_A [(h0, .inr (0, [.int nu, .int pk, .ref h1, .ref h2, .int dc, .ref h3, .int rc, .ref h4, .ref h5])), (h1, .inl (cA, 7, .inl pr)), (h2, .inl (cA, 7, .inl ex)), (h3, .inl (cA, 360, .inl dv)), (h4, .inl (cA, 4096, .inl rt)), (h5, .inl (cA, 4096, .inl sp))] sz)) 0 0 (va_A [(h0, .inr (0, [.int nu, .int pk, .ref h1, .ref h2, .int dc, .ref h3, .int rc, .ref h4, .ref h5])), (h1, .inl (cA, 7, .inl pr)), (h2, .inl (cA, 7, .inl ex)), (h3, .inl (cA, 360, .inl dv)), (h4, .inl (cA, 4096, .inl rt)), (h5, .inl (cA, 4096, .inl sp))] sz) := by
  refine Met.ofW (cc := cX0_countCoprimes) (maxL := 4) (ret := (some .int)) (by decide) rfl ?_
  intro p e s m args below meth c s₁ B hml hv
  obtain ⟨rfl, hsz, hP, hK, hD0⟩ := hv
  have hx := B.exec
  have hb := B.bytes
  have hr := B.returns
  have hts := atoms_spec (ws := wsX0_countCoprimes) B.pre
  have hown : s.vm.findClass RX0 = some m.cls := findClass_of_methodNamed B.named
  have hlocks := B.notSynchronized
  subst hsz
  have hD := hD0.self (sz := s.heap.size)
  generalize hAe : va_A [(h0, .inr (0, [.int nu, .int pk, .ref h1, .ref h2, .int dc, .ref h3, .int rc, .ref h4, .ref h5])), (h1, .inl (cA, 7, .inl pr)), (h2, .inl (cA, 7, .inl ex)), (h3, .inl (cA, 360, .inl dv)), (h4, .inl (cA, 4096, .inl rt)), (h5, .inl (cA, 4096, .inl sp))] s.heap.size = A at hD ⊢
  have hA : ∀ q : Nat, s.heap.size ≤ q → A q := fun q h => by rw [← hAe]; exact Or.inr h
  have hS : va_S A s.heap s.heap [] := va_S.rf
  have hl := lv_entry ([.ref h0]) (n := 4) (Nat.le_of_ble_eq_true rfl)
  rw [lg_entry_eq]
  generalize (lg_sl ([.ref h0]) ++ List.replicate (4 - (lg_sl ([.ref h0])).length) Slot.unset).toArray = ls at hl ⊢
  have hl : lv_has ls 4 [(0, .ref h0)] := hl
  unfold f_r_countCoprimes at h
  refine lv_iconst (v := 1) hx hb dX0_countCoprimes_0 (by decide) ?_
  refine lv_istore_n (lv' := [(1, .int 1), (0, .ref h0)]) hx hb dX0_countCoprimes_1 rfl hl (by decide) rfl (fun ls hl => ?_)
  refine lv_iconst (v := 0) hx hb dX0_countCoprimes_2 (by decide) ?_
  refine lv_istore_n (lv' := [(2, .int 0), (1, .int 1), (0, .ref h0)]) hx hb dX0_countCoprimes_3 rfl hl (by decide) rfl (fun ls hl => ?_)
  obtain ⟨x1_1, hr1, h⟩ := rf_b1 h
  refine w_r_countCoprimes_4 F hx hb hml hown hts hA h0 h1 h2 h3 h4 h5 cA hK nu pk dc rc pr ex dv rt sp F 1 0 x1_1 hr1 _ _ hP hD hS _ (lv_sub hl [2, 1, 0] rfl) (fun H locs ls hP hD hS hl => ?_)
  refine lv_iload_n hx hb dX0_countCoprimes_56 rfl (lv_at hl 0 rfl) ?_
  cases h
  exact W.iret hx hb hr (fun t ht hW => ⟨⟨_, (), rfl, rfl, by rw [ht]; exact hP, hD⟩, hS.F ht⟩) hS.2.2 dX0_countCoprimes_57
def l_r_greatestSquaredDivisor_14 (F : Nat) (x2 : Int32) (pr ex : Nat → Int32) : Nat → Int32 → Int32 → Option (Int32)
  | 0, _, _ => none
  | n + 1, x1, x3 => if x2.toInt < 0 ∨ (7 : Int) ≤ x2.toInt then none else if (ex x2.toNatClampNeg) < x3 then some x1 else if x2.toInt < 0 ∨ (7 : Int) ≤ x2.toInt then none else l_r_greatestSquaredDivisor_14 F x2 pr ex n (x1 * (pr x2.toNatClampNeg)) (x3 + 2)
set_option maxHeartbeats 4000000 in
set_option maxRecDepth 100000 in
theorem w_r_greatestSquaredDivisor_14 {p : Program} {l : Launch} {e : Env} {s : State} {m : MethodId} {args : Array Value} {below : List Frame} {meth : Method} {c : Code} {A : Nat → Prop} {Q : State → Prop} {dC : Nat → ClassId} {dI : Nat → Nat → Nat} (F : Nat) (hx : p.tables.exec = Jvm.exec) (hb : c.code = cX0_greatestSquaredDivisor) (hml : c.maxLocals = 4) (hown : s.vm.findClass RX0 = some m.cls) (hts : ∀ w ∈ wsX0_greatestSquaredDivisor, w.before args s = true) (hA : ∀ q, s.heap.size ≤ q → A q) (h0 h1 h2 h3 h4 h5 : Nat) (cA : ClassId) (hK : va_K (dC, dI) vwCl [(cA, .int)] s) (x2 nu pk dc rc : Int32) (pr ex dv rt sp : Nat → Int32) :
    ∀ (n : Nat) (x1 x3 x1' : Int32), l_r_greatestSquaredDivisor_14 F x2 pr ex n x1 x3 = some x1' → ∀ (H : Heap) (locs : List Loc), va_P (dC, dI) vwCl [(h0, .inr (0, [.int nu, .int pk, .ref h1, .ref h2, .int dc, .ref h3, .int rc, .ref h4, .ref h5])), (h1, .inl (cA, 7, .inl pr)), (h2, .inl (cA, 7, .inl ex)), (h3, .inl (cA, 360, .inl dv)), (h4, .inl (cA, 4096, .inl rt)), (h5, .inl (cA, 4096, .inl sp))] H → va_D A [(h0, .inr (0, [.int nu, .int pk, .ref h1, .ref h2, .int dc, .ref h3, .int rc, .ref h4, .ref h5])), (h1, .inl (cA, 7, .inl pr)), (h2, .inl (cA, 7, .inl ex)), (h3, .inl (cA, 360, .inl dv)), (h4, .inl (cA, 4096, .inl rt)), (h5, .inl (cA, 4096, .inl sp))] → va_S A s.heap H locs → ∀ ls : Array Slot, lv_has ls 4 [(0, .ref h0), (1, .int x1), (2, .int x2), (3, .int x3)] → (∀ (H : Heap) (locs : List Loc) (ls : Array Slot), va_P (dC, dI) vwCl [(h0, .inr (0, [.int nu, .int pk, .ref h1, .ref h2, .int dc, .ref h3, .int rc, .ref h4, .ref h5])), (h1, .inl (cA, 7, .inl pr)), (h2, .inl (cA, 7, .inl ex)), (h3, .inl (cA, 360, .inl dv)), (h4, .inl (cA, 4096, .inl rt)), (h5, .inl (cA, 4096, .inl sp))] H → va_D A [(h0, .inr (0, [.int nu, .int pk, .ref h1, .ref h2, .int dc, .ref h3, .int rc, .ref h4, .ref h5])), (h1, .inl (cA, 7, .inl pr)), (h2, .inl (cA, 7, .inl ex)), (h3, .inl (cA, 360, .inl dv)), (h4, .inl (cA, 4096, .inl rt)), (h5, .inl (cA, 4096, .inl sp))] → va_S A s.heap H locs → lv_has ls 4 [(0, .ref h0), (1, .int x1'), (2, .int x2)] → W p l e { frames := 0, cells := 0, slots := 0, locals := 0 } s m args below meth c H locs 0 0 Q (F0 m 39 ls [])) → W p l e { frames := 0, cells := 0, slots := 0, locals := 0 } s m args below meth c H locs 0 0 Q (F0 m 14 ls []) := by
  intro n
  induction n with
  | zero => intro x1 x3 x1' h; exact nomatch (show (none : Option _) = some _ from h)
  | succ n ih =>
    intro x1 x3 x1' h H locs hP hD hS ls hl K
    rw [l_r_greatestSquaredDivisor_14] at h
    refine lv_iload_n hx hb dX0_greatestSquaredDivisor_14 rfl (lv_at hl 3 rfl) ?_
    refine lv_aload_n hx hb dX0_greatestSquaredDivisor_15 rfl (lv_at hl 0 rfl) ?_
    refine va_get (D := (dC, dI)) (ci := 0) (v := .ref h2) (C := RX0) (T := TX0) (N := 9) hx hb hts (fun _ h => List.mem_cons_of_mem _ (List.mem_append_right _ h)) hown hK hP 0 rfl rfl 3 (by decide) (hts _ (List.mem_of_getElem? (i := 2) rfl)) (fun _ h9 => h9) rfl dX0_greatestSquaredDivisor_16 ?_
    refine lv_iload_n hx hb dX0_greatestSquaredDivisor_19 rfl (lv_at hl 2 rfl) ?_
    obtain ⟨g1, h⟩ := rf_gd h
    refine va_iald hx hb hK hP 2 0 rfl rfl (rf_in g1) dX0_greatestSquaredDivisor_20 ?_
    refine lv_icmp_gt (tgt := 39) hx hb dX0_greatestSquaredDivisor_21 (by decide) (fun c2 => ?_) (fun c2 => ?_)
    · rw [if_pos c2] at h
      cases h
      exact K _ _ _ hP hD hS (lv_sub hl [0, 1, 2] rfl)
    · rw [if_neg c2] at h
      refine lv_iload_n hx hb dX0_greatestSquaredDivisor_24 rfl (lv_at hl 1 rfl) ?_
      refine lv_aload_n hx hb dX0_greatestSquaredDivisor_25 rfl (lv_at hl 0 rfl) ?_
      refine va_get (D := (dC, dI)) (ci := 0) (v := .ref h1) (C := RX0) (T := TX0) (N := 9) hx hb hts (fun _ h => List.mem_cons_of_mem _ (List.mem_append_right _ h)) hown hK hP 0 rfl rfl 2 (by decide) (hts _ (List.mem_of_getElem? (i := 3) rfl)) (fun _ h9 => h9) rfl dX0_greatestSquaredDivisor_26 ?_
      refine lv_iload_n hx hb dX0_greatestSquaredDivisor_29 rfl (lv_at hl 2 rfl) ?_
      obtain ⟨g3, h⟩ := rf_gd h
      refine va_iald hx hb hK hP 1 0 rfl rfl (rf_in g3) dX0_greatestSquaredDivisor_30 ?_
      refine lv_imul hx hb dX0_greatestSquaredDivisor_31 ?_
      refine lv_istore_n (lv' := [(1, .int (x1 * (pr x2.toNatClampNeg))), (0, .ref h0), (2, .int x2), (3, .int x3)]) hx hb dX0_greatestSquaredDivisor_32 rfl hl (by decide) rfl (fun ls hl => ?_)
      refine lv_iinc (v := (x3 + 2)) (lv' := [(3, .int (x3 + 2)), (1, .int (x1 * (pr x2.toNatClampNeg))), (0, .ref h0), (2, .int x2)]) hx hb dX0_greatestSquaredDivisor_33 hl (k := 3) rfl rfl (by decide) rfl (fun ls hl => ?_)
      refine lv_goto (tgt := 14) hx hb dX0_greatestSquaredDivisor_36 (by decide) ?_
      exact ih (x1 * (pr x2.toNatClampNeg)) (x3 + 2) x1' h _ _ hP hD hS _ (lv_sub hl [2, 1, 3, 0] rfl) K
def l_r_greatestSquaredDivisor_4 (F : Nat) (pk : Int32) (pr ex : Nat → Int32) : Nat → Int32 → Int32 → Option (Int32)
  | 0, _, _ => none
  | n + 1, x1, x2 => if pk ≤ x2 then some x1 else b1 (l_r_greatestSquaredDivisor_14 F x2 pr ex F x1 2) fun x1_2 => l_r_greatestSquaredDivisor_4 F pk pr ex n x1_2 (x2 + 1)
set_option maxHeartbeats 4000000 in
set_option maxRecDepth 100000 in
theorem w_r_greatestSquaredDivisor_4 {p : Program} {l : Launch} {e : Env} {s : State} {m : MethodId} {args : Array Value} {below : List Frame} {meth : Method} {c : Code} {A : Nat → Prop} {Q : State → Prop} {dC : Nat → ClassId} {dI : Nat → Nat → Nat} (F : Nat) (hx : p.tables.exec = Jvm.exec) (hb : c.code = cX0_greatestSquaredDivisor) (hml : c.maxLocals = 4) (hown : s.vm.findClass RX0 = some m.cls) (hts : ∀ w ∈ wsX0_greatestSquaredDivisor, w.before args s = true) (hA : ∀ q, s.heap.size ≤ q → A q) (h0 h1 h2 h3 h4 h5 : Nat) (cA : ClassId) (hK : va_K (dC, dI) vwCl [(cA, .int)] s) (nu pk dc rc : Int32) (pr ex dv rt sp : Nat → Int32) :
    ∀ (n : Nat) (x1 x2 x1' : Int32), l_r_greatestSquaredDivisor_4 F pk pr ex n x1 x2 = some x1' → ∀ (H : Heap) (locs : List Loc), va_P (dC, dI) vwCl [(h0, .inr (0, [.int nu, .int pk, .ref h1, .ref h2, .int dc, .ref h3, .int rc, .ref h4, .ref h5])), (h1, .inl (cA, 7, .inl pr)), (h2, .inl (cA, 7, .inl ex)), (h3, .inl (cA, 360, .inl dv)), (h4, .inl (cA, 4096, .inl rt)), (h5, .inl (cA, 4096, .inl sp))] H → va_D A [(h0, .inr (0, [.int nu, .int pk, .ref h1, .ref h2, .int dc, .ref h3, .int rc, .ref h4, .ref h5])), (h1, .inl (cA, 7, .inl pr)), (h2, .inl (cA, 7, .inl ex)), (h3, .inl (cA, 360, .inl dv)), (h4, .inl (cA, 4096, .inl rt)), (h5, .inl (cA, 4096, .inl sp))] → va_S A s.heap H locs → ∀ ls : Array Slot, lv_has ls 4 [(0, .ref h0), (1, .int x1), (2, .int x2)] → (∀ (H : Heap) (locs : List Loc) (ls : Array Slot), va_P (dC, dI) vwCl [(h0, .inr (0, [.int nu, .int pk, .ref h1, .ref h2, .int dc, .ref h3, .int rc, .ref h4, .ref h5])), (h1, .inl (cA, 7, .inl pr)), (h2, .inl (cA, 7, .inl ex)), (h3, .inl (cA, 360, .inl dv)), (h4, .inl (cA, 4096, .inl rt)), (h5, .inl (cA, 4096, .inl sp))] H → va_D A [(h0, .inr (0, [.int nu, .int pk, .ref h1, .ref h2, .int dc, .ref h3, .int rc, .ref h4, .ref h5])), (h1, .inl (cA, 7, .inl pr)), (h2, .inl (cA, 7, .inl ex)), (h3, .inl (cA, 360, .inl dv)), (h4, .inl (cA, 4096, .inl rt)), (h5, .inl (cA, 4096, .inl sp))] → va_S A s.heap H locs → lv_has ls 4 [(1, .int x1')] → W p l e { frames := 0, cells := 0, slots := 0, locals := 0 } s m args below meth c H locs 0 0 Q (F0 m 45 ls [])) → W p l e { frames := 0, cells := 0, slots := 0, locals := 0 } s m args below meth c H locs 0 0 Q (F0 m 4 ls []) := by
  intro n
  induction n with
  | zero => intro x1 x2 x1' h; exact nomatch (show (none : Option _) = some _ from h)
  | succ n ih =>
    intro x1 x2 x1' h H locs hP hD hS ls hl K
    rw [l_r_greatestSquaredDivisor_4] at h
    refine lv_iload_n hx hb dX0_greatestSquaredDivisor_4 rfl (lv_at hl 2 rfl) ?_
    refine lv_aload_n hx hb dX0_greatestSquaredDivisor_5 rfl (lv_at hl 0 rfl) ?_
    refine va_get (D := (dC, dI)) (ci := 0) (v := .int pk) (C := RX0) (T := TX0) (N := 9) hx hb hts (fun _ h => List.mem_cons_of_mem _ (List.mem_append_right _ h)) hown hK hP 0 rfl rfl 1 (by decide) (hts _ (List.mem_of_getElem? (i := 1) rfl)) (fun _ h9 => h9) rfl dX0_greatestSquaredDivisor_6 ?_
    refine lv_icmp_ge (tgt := 45) hx hb dX0_greatestSquaredDivisor_9 (by decide) (fun c1 => ?_) (fun c1 => ?_)
    · rw [if_pos c1] at h
      cases h
      exact K _ _ _ hP hD hS (lv_sub hl [1] rfl)
    · rw [if_neg c1] at h
      refine lv_iconst (v := 2) hx hb dX0_greatestSquaredDivisor_12 (by decide) ?_
      refine lv_istore_n (lv' := [(3, .int 2), (0, .ref h0), (1, .int x1), (2, .int x2)]) hx hb dX0_greatestSquaredDivisor_13 rfl hl (by decide) rfl (fun ls hl => ?_)
      obtain ⟨x1_2, hr2, h⟩ := rf_b1 h
      refine w_r_greatestSquaredDivisor_14 F hx hb hml hown hts hA h0 h1 h2 h3 h4 h5 cA hK x2 nu pk dc rc pr ex dv rt sp F x1 2 x1_2 hr2 _ _ hP hD hS _ (lv_sub hl [1, 2, 3, 0] rfl) (fun H locs ls hP hD hS hl => ?_)
      refine lv_iinc (v := (x2 + 1)) (lv' := [(2, .int (x2 + 1)), (0, .ref h0), (1, .int x1_2)]) hx hb dX0_greatestSquaredDivisor_39 hl (k := 2) rfl rfl (by decide) rfl (fun ls hl => ?_)
      refine lv_goto (tgt := 4) hx hb dX0_greatestSquaredDivisor_42 (by decide) ?_
      exact ih x1_2 (x2 + 1) x1' h _ _ hP hD hS _ (lv_sub hl [1, 2, 0] rfl) K
def f_r_greatestSquaredDivisor (F : Nat) (pk : Int32) (pr ex : Nat → Int32) : Option (Int32) := b1 (l_r_greatestSquaredDivisor_4 F pk pr ex F 1 0) fun x1_1 => some x1_1
set_option maxHeartbeats 4000000 in
set_option maxRecDepth 100000 in
theorem c_r_greatestSquaredDivisor (l : Launch) (dC : Nat → ClassId) (dI : Nat → Nat → Nat) (sz F : Nat) (h0 h1 h2 h3 h4 h5 : Nat) (cA : ClassId) (nu pk dc rc : Int32) (pr ex dv rt sp : Nat → Int32) (rv : Int32) (h : f_r_greatestSquaredDivisor F pk pr ex = some rv) : Met l yX0_greatestSquaredDivisor wsX0_greatestSquaredDivisor { frames := 0, cells := 0, slots := 0, locals := 0 } (rf_Pc (dC, dI) [(cA, .int)] [(h0, .inr (0, [.int nu, .int pk, .ref h1, .ref h2, .int dc, .ref h3, .int rc, .ref h4, .ref h5])), (h1, .inl (cA, 7, .inl pr)), (h2, .inl (cA, 7, .inl ex)), (h3, .inl (cA, 360, .inl dv)), (h4, .inl (cA, 4096, .inl rt)), (h5, .inl (cA, 4096, .inl sp))] sz [.ref h0]) (va_Qi (fun (r : Int32) (_ : Unit) => rv = r) (fun (_ : Unit) t => va_P (dC, dI) vwCl [(h0, .inr (0, [.int nu, .int pk, .ref h1, .ref h2, .int dc, .ref h3, .int rc, .ref h4, .ref h5])), (h1, .inl (cA, 7, .inl pr)), (h2, .inl (cA, 7, .inl ex)), (h3, .inl (cA, 360, .inl dv)), (h4, .inl (cA, 4096, .inl rt)), (h5, .inl (cA, 4096, .inl sp))] t.heap ∧ va_D (va_A [(h0, .inr (0, [.int nu, .int pk, .ref h1, .ref h2, .int dc, .ref h3, .int rc, .ref h4, .ref h5])), (h1, .inl (cA, 7, .inl pr)), (h2, .inl (cA, 7, .inl ex)), (h3, .inl (cA, 360, .inl dv)), (h4, .inl (cA, 4096, .inl rt)), (h5, .inl (cA, 4096, .inl sp))] sz) [(h0, .inr (0, [.int nu, .int pk, .ref h1, .ref h2, .int dc, .ref h3, .int rc, .ref h4, .ref h5])), (h1, .inl (cA, 7, .inl pr)), (h2, .inl (cA, 7, .inl ex)), (h3, .inl (cA, 360, .inl dv)), (h4, .inl (cA, 4096, .inl rt)), (h5, .inl (cA, 4096, .inl sp))]) (va_A [(h0, .inr (0, [.int nu, .int pk, .ref h1, .ref h2, .int dc, .ref h3, .int rc, .ref h4, .ref h5])), (h1, .inl (cA, 7, .inl pr)), (h2, .inl (cA, 7, .inl ex)), (h3, .inl (cA, 360, .inl dv)), (h4, .inl (cA, 4096, .inl rt)), (h5, .inl (cA, 4096, .inl sp))] sz)) 0 0 (va_A [(h0, .inr (0, [.int nu, .int pk, .ref h1, .ref h2, .int dc, .ref h3, .int rc, .ref h4, .ref h5])), (h1, .inl (cA, 7, .inl pr)), (h2, .inl (cA, 7, .inl ex)), (h3, .inl (cA, 360, .inl dv)), (h4, .inl (cA, 4096, .inl rt)), (h5, .inl (cA, 4096, .inl sp))] sz) := by
  refine Met.ofW (cc := cX0_greatestSquaredDivisor) (maxL := 4) (ret := (some .int)) (by decide) rfl ?_
  intro p e s m args below meth c s₁ B hml hv
  obtain ⟨rfl, hsz, hP, hK, hD0⟩ := hv
  have hx := B.exec
  have hb := B.bytes
  have hr := B.returns
  have hts := atoms_spec (ws := wsX0_greatestSquaredDivisor) B.pre
  have hown : s.vm.findClass RX0 = some m.cls := findClass_of_methodNamed B.named
  have hlocks := B.notSynchronized
  subst hsz
  have hD := hD0.self (sz := s.heap.size)
  generalize hAe : va_A [(h0, .inr (0, [.int nu, .int pk, .ref h1, .ref h2, .int dc, .ref h3, .int rc, .ref h4, .ref h5])), (h1, .inl (cA, 7, .inl pr)), (h2, .inl (cA, 7, .inl ex)), (h3, .inl (cA, 360, .inl dv)), (h4, .inl (cA, 4096, .inl rt)), (h5, .inl (cA, 4096, .inl sp))] s.heap.size = A at hD ⊢
  have hA : ∀ q : Nat, s.heap.size ≤ q → A q := fun q h => by rw [← hAe]; exact Or.inr h
  have hS : va_S A s.heap s.heap [] := va_S.rf
  have hl := lv_entry ([.ref h0]) (n := 4) (Nat.le_of_ble_eq_true rfl)
  rw [lg_entry_eq]
  generalize (lg_sl ([.ref h0]) ++ List.replicate (4 - (lg_sl ([.ref h0])).length) Slot.unset).toArray = ls at hl ⊢
  have hl : lv_has ls 4 [(0, .ref h0)] := hl
  unfold f_r_greatestSquaredDivisor at h
  refine lv_iconst (v := 1) hx hb dX0_greatestSquaredDivisor_0 (by decide) ?_
  refine lv_istore_n (lv' := [(1, .int 1), (0, .ref h0)]) hx hb dX0_greatestSquaredDivisor_1 rfl hl (by decide) rfl (fun ls hl => ?_)
  refine lv_iconst (v := 0) hx hb dX0_greatestSquaredDivisor_2 (by decide) ?_
  refine lv_istore_n (lv' := [(2, .int 0), (1, .int 1), (0, .ref h0)]) hx hb dX0_greatestSquaredDivisor_3 rfl hl (by decide) rfl (fun ls hl => ?_)
  obtain ⟨x1_1, hr1, h⟩ := rf_b1 h
  refine w_r_greatestSquaredDivisor_4 F hx hb hml hown hts hA h0 h1 h2 h3 h4 h5 cA hK nu pk dc rc pr ex dv rt sp F 1 0 x1_1 hr1 _ _ hP hD hS _ (lv_sub hl [2, 1, 0] rfl) (fun H locs ls hP hD hS hl => ?_)
  refine lv_iload_n hx hb dX0_greatestSquaredDivisor_45 rfl (lv_at hl 0 rfl) ?_
  cases h
  exact W.iret hx hb hr (fun t ht hW => ⟨⟨_, (), rfl, rfl, by rw [ht]; exact hP, hD⟩, hS.F ht⟩) hS.2.2 dX0_greatestSquaredDivisor_46
def f_r_count (F : Nat) (nu pk dc rc : Int32) (pr ex : Nat → Int32) (p0 : Int32) : Option (Int32) := if p0 = 0 then some nu else if p0 = 1 then some pk else if p0 = 2 then some dc else if p0 = 3 then b1 (f_r_countCoprimes F pk pr ex) fun r2 => some r2 else if p0 = 4 then b1 (f_r_greatestSquaredDivisor F pk pr ex) fun r3 => some r3 else if p0 = 5 then some rc else some (-1)
set_option maxHeartbeats 4000000 in
set_option maxRecDepth 100000 in
theorem c_r_count (l : Launch) (dC : Nat → ClassId) (dI : Nat → Nat → Nat) (sz F : Nat) (h0 h1 h2 h3 h4 h5 : Nat) (cA : ClassId) (nu pk dc rc : Int32) (pr ex dv rt sp : Nat → Int32) (p0 rv : Int32) (h : f_r_count F nu pk dc rc pr ex p0 = some rv) : Met l yX0_count wsX0_count { frames := 1, cells := 0, slots := 0, locals := 23 } (rf_Pc (dC, dI) [(cA, .int)] [(h0, .inr (0, [.int nu, .int pk, .ref h1, .ref h2, .int dc, .ref h3, .int rc, .ref h4, .ref h5])), (h1, .inl (cA, 7, .inl pr)), (h2, .inl (cA, 7, .inl ex)), (h3, .inl (cA, 360, .inl dv)), (h4, .inl (cA, 4096, .inl rt)), (h5, .inl (cA, 4096, .inl sp))] sz [.ref h0, .int p0]) (va_Qi (fun (r : Int32) (_ : Unit) => rv = r) (fun (_ : Unit) t => va_P (dC, dI) vwCl [(h0, .inr (0, [.int nu, .int pk, .ref h1, .ref h2, .int dc, .ref h3, .int rc, .ref h4, .ref h5])), (h1, .inl (cA, 7, .inl pr)), (h2, .inl (cA, 7, .inl ex)), (h3, .inl (cA, 360, .inl dv)), (h4, .inl (cA, 4096, .inl rt)), (h5, .inl (cA, 4096, .inl sp))] t.heap ∧ va_D (va_A [(h0, .inr (0, [.int nu, .int pk, .ref h1, .ref h2, .int dc, .ref h3, .int rc, .ref h4, .ref h5])), (h1, .inl (cA, 7, .inl pr)), (h2, .inl (cA, 7, .inl ex)), (h3, .inl (cA, 360, .inl dv)), (h4, .inl (cA, 4096, .inl rt)), (h5, .inl (cA, 4096, .inl sp))] sz) [(h0, .inr (0, [.int nu, .int pk, .ref h1, .ref h2, .int dc, .ref h3, .int rc, .ref h4, .ref h5])), (h1, .inl (cA, 7, .inl pr)), (h2, .inl (cA, 7, .inl ex)), (h3, .inl (cA, 360, .inl dv)), (h4, .inl (cA, 4096, .inl rt)), (h5, .inl (cA, 4096, .inl sp))]) (va_A [(h0, .inr (0, [.int nu, .int pk, .ref h1, .ref h2, .int dc, .ref h3, .int rc, .ref h4, .ref h5])), (h1, .inl (cA, 7, .inl pr)), (h2, .inl (cA, 7, .inl ex)), (h3, .inl (cA, 360, .inl dv)), (h4, .inl (cA, 4096, .inl rt)), (h5, .inl (cA, 4096, .inl sp))] sz)) 0 0 (va_A [(h0, .inr (0, [.int nu, .int pk, .ref h1, .ref h2, .int dc, .ref h3, .int rc, .ref h4, .ref h5])), (h1, .inl (cA, 7, .inl pr)), (h2, .inl (cA, 7, .inl ex)), (h3, .inl (cA, 360, .inl dv)), (h4, .inl (cA, 4096, .inl rt)), (h5, .inl (cA, 4096, .inl sp))] sz) := by
  refine Met.ofW (cc := cX0_count) (maxL := 2) (ret := (some .int)) (by decide) rfl ?_
  intro p e s m args below meth c s₁ B hml hv
  obtain ⟨rfl, hsz, hP, hK, hD0⟩ := hv
  have hx := B.exec
  have hb := B.bytes
  have hr := B.returns
  have hts := atoms_spec (ws := wsX0_count) B.pre
  have hown : s.vm.findClass RX0 = some m.cls := findClass_of_methodNamed B.named
  have hlocks := B.notSynchronized
  subst hsz
  have hD := hD0.self (sz := s.heap.size)
  generalize hAe : va_A [(h0, .inr (0, [.int nu, .int pk, .ref h1, .ref h2, .int dc, .ref h3, .int rc, .ref h4, .ref h5])), (h1, .inl (cA, 7, .inl pr)), (h2, .inl (cA, 7, .inl ex)), (h3, .inl (cA, 360, .inl dv)), (h4, .inl (cA, 4096, .inl rt)), (h5, .inl (cA, 4096, .inl sp))] s.heap.size = A at hD ⊢
  have hA : ∀ q : Nat, s.heap.size ≤ q → A q := fun q h => by rw [← hAe]; exact Or.inr h
  have hS : va_S A s.heap s.heap [] := va_S.rf
  have hl := lv_entry ([.ref h0, .int p0]) (n := 2) (Nat.le_of_ble_eq_true rfl)
  rw [lg_entry_eq]
  generalize (lg_sl ([.ref h0, .int p0]) ++ List.replicate (2 - (lg_sl ([.ref h0, .int p0])).length) Slot.unset).toArray = ls at hl ⊢
  have hl : lv_has ls 2 [(0, .ref h0), (1, .int p0)] := hl
  unfold f_r_count at h
  refine lv_iload_n hx hb dX0_count_0 rfl (lv_at hl 1 rfl) ?_
  by_cases c1_0 : p0 = 0
  · rw [if_pos c1_0] at h
    refine lv_tableIn (tgt := 40) hx hb dX0_count_1 (by rw [c1_0]; decide) (by rw [c1_0]; decide) (by rw [c1_0]; rfl) (by decide) ?_
    refine lv_aload_n hx hb dX0_count_40 rfl (lv_at hl 0 rfl) ?_
    refine va_get (D := (dC, dI)) (ci := 0) (v := .int nu) (C := RX0) (T := TX0) (N := 9) hx hb hts (fun _ h => List.mem_cons_of_mem _ (List.mem_append_right _ h)) hown hK hP 0 rfl rfl 0 (by decide) (hts _ (List.mem_of_getElem? (i := 1) rfl)) (fun _ h9 => h9) rfl dX0_count_41 ?_
    cases h
    exact W.iret hx hb hr (fun t ht hW => ⟨⟨_, (), rfl, rfl, by rw [ht]; exact hP, hD⟩, hS.F ht⟩) hS.2.2 dX0_count_44
  · rw [if_neg c1_0] at h
    by_cases c1_1 : p0 = 1
    · rw [if_pos c1_1] at h
      refine lv_tableIn (tgt := 45) hx hb dX0_count_1 (by rw [c1_1]; decide) (by rw [c1_1]; decide) (by rw [c1_1]; rfl) (by decide) ?_
      refine lv_aload_n hx hb dX0_count_45 rfl (lv_at hl 0 rfl) ?_
      refine va_get (D := (dC, dI)) (ci := 0) (v := .int pk) (C := RX0) (T := TX0) (N := 9) hx hb hts (fun _ h => List.mem_cons_of_mem _ (List.mem_append_right _ h)) hown hK hP 0 rfl rfl 1 (by decide) (hts _ (List.mem_of_getElem? (i := 2) rfl)) (fun _ h9 => h9) rfl dX0_count_46 ?_
      cases h
      exact W.iret hx hb hr (fun t ht hW => ⟨⟨_, (), rfl, rfl, by rw [ht]; exact hP, hD⟩, hS.F ht⟩) hS.2.2 dX0_count_49
    · rw [if_neg c1_1] at h
      by_cases c1_2 : p0 = 2
      · rw [if_pos c1_2] at h
        refine lv_tableIn (tgt := 50) hx hb dX0_count_1 (by rw [c1_2]; decide) (by rw [c1_2]; decide) (by rw [c1_2]; rfl) (by decide) ?_
        refine lv_aload_n hx hb dX0_count_50 rfl (lv_at hl 0 rfl) ?_
        refine va_get (D := (dC, dI)) (ci := 0) (v := .int dc) (C := RX0) (T := TX0) (N := 9) hx hb hts (fun _ h => List.mem_cons_of_mem _ (List.mem_append_right _ h)) hown hK hP 0 rfl rfl 4 (by decide) (hts _ (List.mem_of_getElem? (i := 3) rfl)) (fun _ h9 => h9) rfl dX0_count_51 ?_
        cases h
        exact W.iret hx hb hr (fun t ht hW => ⟨⟨_, (), rfl, rfl, by rw [ht]; exact hP, hD⟩, hS.F ht⟩) hS.2.2 dX0_count_54
      · rw [if_neg c1_2] at h
        by_cases c1_3 : p0 = 3
        · rw [if_pos c1_3] at h
          refine lv_tableIn (tgt := 55) hx hb dX0_count_1 (by rw [c1_3]; decide) (by rw [c1_3]; decide) (by rw [c1_3]; rfl) (by decide) ?_
          refine lv_aload_n hx hb dX0_count_55 rfl (lv_at hl 0 rfl) ?_
          obtain ⟨r2, hr2, h⟩ := rf_b1 h
          refine rf_ci (wn := (fun _ : Unit => [(h0, .inr (0, [.int nu, .int pk, .ref h1, .ref h2, .int dc, .ref h3, .int rc, .ref h4, .ref h5])), (h1, .inl (cA, 7, .inl pr)), (h2, .inl (cA, 7, .inl ex)), (h3, .inl (cA, 360, .inl dv)), (h4, .inl (cA, 4096, .inl rt)), (h5, .inl (cA, 4096, .inl sp))])) (wc := [(h0, .inr (0, [.int nu, .int pk, .ref h1, .ref h2, .int dc, .ref h3, .int rc, .ref h4, .ref h5])), (h1, .inl (cA, 7, .inl pr)), (h2, .inl (cA, 7, .inl ex)), (h3, .inl (cA, 360, .inl dv)), (h4, .inl (cA, 4096, .inl rt)), (h5, .inl (cA, 4096, .inl sp))]) (wr := []) hP hD hS hA [0, 1, 2, 3, 4, 5] [] rfl rfl (by decide) (by decide) (va_runV (As := []) (rest := []) ⟨hx, hb, hml, hown, hts⟩ (c_r_countCoprimes l dC dI _ F h0 h1 h2 h3 h4 h5 cA nu pk dc rc pr ex dv rt sp r2 hr2) (cwV 0 hts gX0_count_X0_countCoprimes rfl rfl rfl (by decide +kernel) ⟨Nat.le_of_ble_eq_true rfl, Nat.le_of_ble_eq_true rfl⟩) ⟨rf_blind, va_recv hK hP (ci := 0) (q0 := 0) rfl rfl, fun U hU hW => ⟨rfl, rf_pre (hP.sub (ws' := [(h0, .inr (0, [.int nu, .int pk, .ref h1, .ref h2, .int dc, .ref h3, .int rc, .ref h4, .ref h5])), (h1, .inl (cA, 7, .inl pr)), (h2, .inl (cA, 7, .inl ex)), (h3, .inl (cA, 360, .inl dv)), (h4, .inl (cA, 4096, .inl rt)), (h5, .inl (cA, 4096, .inl sp))]) [0, 1, 2, 3, 4, 5] rfl) (hK.sub (tys' := [(cA, .int)]) [0] rfl) (hD.sub (ws' := [(h0, .inr (0, [.int nu, .int pk, .ref h1, .ref h2, .int dc, .ref h3, .int rc, .ref h4, .ref h5])), (h1, .inl (cA, 7, .inl pr)), (h2, .inl (cA, 7, .inl ex)), (h3, .inl (cA, 360, .inl dv)), (h4, .inl (cA, 4096, .inl rt)), (h5, .inl (cA, 4096, .inl sp))]) [0, 1, 2, 3, 4, 5] (by decide) rfl) U hU hW⟩⟩ rfl rfl hl.1 rfl (lv_room (Nat.le_of_ble_eq_true rfl)) dX0_count_56 ⟨Nat.zero_le _, Nat.zero_le _⟩) (fun r2' u H locs hw hP hD hS => ?_)
          subst hw
          have hP : va_P (dC, dI) vwCl [(h0, .inr (0, [.int nu, .int pk, .ref h1, .ref h2, .int dc, .ref h3, .int rc, .ref h4, .ref h5])), (h1, .inl (cA, 7, .inl pr)), (h2, .inl (cA, 7, .inl ex)), (h3, .inl (cA, 360, .inl dv)), (h4, .inl (cA, 4096, .inl rt)), (h5, .inl (cA, 4096, .inl sp))] H := hP
          have hD : va_D A [(h0, .inr (0, [.int nu, .int pk, .ref h1, .ref h2, .int dc, .ref h3, .int rc, .ref h4, .ref h5])), (h1, .inl (cA, 7, .inl pr)), (h2, .inl (cA, 7, .inl ex)), (h3, .inl (cA, 360, .inl dv)), (h4, .inl (cA, 4096, .inl rt)), (h5, .inl (cA, 4096, .inl sp))] := hD
          cases h
          exact W.iret hx hb hr (fun t ht hW => ⟨⟨_, (), rfl, rfl, by rw [ht]; exact hP, hD⟩, hS.F ht⟩) hS.2.2 dX0_count_59
        · rw [if_neg c1_3] at h
          by_cases c1_4 : p0 = 4
          · rw [if_pos c1_4] at h
            refine lv_tableIn (tgt := 60) hx hb dX0_count_1 (by rw [c1_4]; decide) (by rw [c1_4]; decide) (by rw [c1_4]; rfl) (by decide) ?_
            refine lv_aload_n hx hb dX0_count_60 rfl (lv_at hl 0 rfl) ?_
            obtain ⟨r3, hr3, h⟩ := rf_b1 h
            refine rf_ci (wn := (fun _ : Unit => [(h0, .inr (0, [.int nu, .int pk, .ref h1, .ref h2, .int dc, .ref h3, .int rc, .ref h4, .ref h5])), (h1, .inl (cA, 7, .inl pr)), (h2, .inl (cA, 7, .inl ex)), (h3, .inl (cA, 360, .inl dv)), (h4, .inl (cA, 4096, .inl rt)), (h5, .inl (cA, 4096, .inl sp))])) (wc := [(h0, .inr (0, [.int nu, .int pk, .ref h1, .ref h2, .int dc, .ref h3, .int rc, .ref h4, .ref h5])), (h1, .inl (cA, 7, .inl pr)), (h2, .inl (cA, 7, .inl ex)), (h3, .inl (cA, 360, .inl dv)), (h4, .inl (cA, 4096, .inl rt)), (h5, .inl (cA, 4096, .inl sp))]) (wr := []) hP hD hS hA [0, 1, 2, 3, 4, 5] [] rfl rfl (by decide) (by decide) (va_runV (As := []) (rest := []) ⟨hx, hb, hml, hown, hts⟩ (c_r_greatestSquaredDivisor l dC dI _ F h0 h1 h2 h3 h4 h5 cA nu pk dc rc pr ex dv rt sp r3 hr3) (cwV 0 hts gX0_count_X0_greatestSquaredDivisor rfl rfl rfl (by decide +kernel) ⟨Nat.le_of_ble_eq_true rfl, Nat.le_of_ble_eq_true rfl⟩) ⟨rf_blind, va_recv hK hP (ci := 0) (q0 := 0) rfl rfl, fun U hU hW => ⟨rfl, rf_pre (hP.sub (ws' := [(h0, .inr (0, [.int nu, .int pk, .ref h1, .ref h2, .int dc, .ref h3, .int rc, .ref h4, .ref h5])), (h1, .inl (cA, 7, .inl pr)), (h2, .inl (cA, 7, .inl ex)), (h3, .inl (cA, 360, .inl dv)), (h4, .inl (cA, 4096, .inl rt)), (h5, .inl (cA, 4096, .inl sp))]) [0, 1, 2, 3, 4, 5] rfl) (hK.sub (tys' := [(cA, .int)]) [0] rfl) (hD.sub (ws' := [(h0, .inr (0, [.int nu, .int pk, .ref h1, .ref h2, .int dc, .ref h3, .int rc, .ref h4, .ref h5])), (h1, .inl (cA, 7, .inl pr)), (h2, .inl (cA, 7, .inl ex)), (h3, .inl (cA, 360, .inl dv)), (h4, .inl (cA, 4096, .inl rt)), (h5, .inl (cA, 4096, .inl sp))]) [0, 1, 2, 3, 4, 5] (by decide) rfl) U hU hW⟩⟩ rfl rfl hl.1 rfl (lv_room (Nat.le_of_ble_eq_true rfl)) dX0_count_61 ⟨Nat.zero_le _, Nat.zero_le _⟩) (fun r3' u H locs hw hP hD hS => ?_)
            subst hw
            have hP : va_P (dC, dI) vwCl [(h0, .inr (0, [.int nu, .int pk, .ref h1, .ref h2, .int dc, .ref h3, .int rc, .ref h4, .ref h5])), (h1, .inl (cA, 7, .inl pr)), (h2, .inl (cA, 7, .inl ex)), (h3, .inl (cA, 360, .inl dv)), (h4, .inl (cA, 4096, .inl rt)), (h5, .inl (cA, 4096, .inl sp))] H := hP
            have hD : va_D A [(h0, .inr (0, [.int nu, .int pk, .ref h1, .ref h2, .int dc, .ref h3, .int rc, .ref h4, .ref h5])), (h1, .inl (cA, 7, .inl pr)), (h2, .inl (cA, 7, .inl ex)), (h3, .inl (cA, 360, .inl dv)), (h4, .inl (cA, 4096, .inl rt)), (h5, .inl (cA, 4096, .inl sp))] := hD
            cases h
            exact W.iret hx hb hr (fun t ht hW => ⟨⟨_, (), rfl, rfl, by rw [ht]; exact hP, hD⟩, hS.F ht⟩) hS.2.2 dX0_count_64
          · rw [if_neg c1_4] at h
            by_cases c1_5 : p0 = 5
            · rw [if_pos c1_5] at h
              refine lv_tableIn (tgt := 65) hx hb dX0_count_1 (by rw [c1_5]; decide) (by rw [c1_5]; decide) (by rw [c1_5]; rfl) (by decide) ?_
              refine lv_aload_n hx hb dX0_count_65 rfl (lv_at hl 0 rfl) ?_
              refine va_get (D := (dC, dI)) (ci := 0) (v := .int rc) (C := RX0) (T := TX0) (N := 9) hx hb hts (fun _ h => List.mem_cons_of_mem _ (List.mem_append_right _ h)) hown hK hP 0 rfl rfl 6 (by decide) (hts _ (List.mem_of_getElem? (i := 15) rfl)) (fun _ h9 => h9) rfl dX0_count_66 ?_
              cases h
              exact W.iret hx hb hr (fun t ht hW => ⟨⟨_, (), rfl, rfl, by rw [ht]; exact hP, hD⟩, hS.F ht⟩) hS.2.2 dX0_count_69
            · rw [if_neg c1_5] at h
              refine lv_tableOut (tgt := 70) hx hb dX0_count_1 (rf_swout5 c1_0 c1_1 c1_2 c1_3 c1_4 c1_5) (by decide) ?_
              refine lv_iconst (v := (-1)) hx hb dX0_count_70 (by decide) ?_
              cases h
              exact W.iret hx hb hr (fun t ht hW => ⟨⟨_, (), rfl, rfl, by rw [ht]; exact hP, hD⟩, hS.F ht⟩) hS.2.2 dX0_count_71
def f_r_symbolWithTwo (F : Nat) (p0 : Int64) : Option (Int32) := if (lrm (p0 &&& 7) 2) = 0 then some 0 else if (p0 &&& 7) = 1 then some 1 else if (p0 &&& 7) = 7 then some 1 else some (-1)
set_option maxHeartbeats 4000000 in
set_option maxRecDepth 100000 in
theorem c_r_symbolWithTwo (l : Launch) (dC : Nat → ClassId) (dI : Nat → Nat → Nat) (sz F : Nat)  (p0 : Int64) (rv : Int32) (h : f_r_symbolWithTwo F p0 = some rv) : Met l yX0_symbolWithTwo wsX0_symbolWithTwo { frames := 0, cells := 0, slots := 0, locals := 0 } (rf_Pc (dC, dI) [] [] sz [.long p0]) (va_Qi (fun (r : Int32) (_ : Unit) => rv = r) (fun (_ : Unit) t => va_P (dC, dI) vwCl [] t.heap ∧ va_D (va_A [] sz) []) (va_A [] sz)) 0 0 (va_A [] sz) := by
  refine Met.ofW (cc := cX0_symbolWithTwo) (maxL := 4) (ret := (some .int)) (by decide) rfl ?_
  intro p e s m args below meth c s₁ B hml hv
  obtain ⟨rfl, hsz, hP, hK, hD0⟩ := hv
  have hx := B.exec
  have hb := B.bytes
  have hr := B.returns
  have hts := atoms_spec (ws := wsX0_symbolWithTwo) B.pre
  have hown : s.vm.findClass RX0 = some m.cls := findClass_of_methodNamed B.named
  have hlocks := B.notSynchronized
  subst hsz
  have hD := hD0.self (sz := s.heap.size)
  generalize hAe : va_A [] s.heap.size = A at hD ⊢
  have hA : ∀ q : Nat, s.heap.size ≤ q → A q := fun q h => by rw [← hAe]; exact Or.inr h
  have hS : va_S A s.heap s.heap [] := va_S.rf
  have hl := lv_entry ([.long p0]) (n := 4) (Nat.le_of_ble_eq_true rfl)
  rw [lg_entry_eq]
  generalize (lg_sl ([.long p0]) ++ List.replicate (4 - (lg_sl ([.long p0])).length) Slot.unset).toArray = ls at hl ⊢
  have hl : lv_has ls 4 [(0, .long p0)] := hl
  unfold f_r_symbolWithTwo at h
  refine lv_lload_n hx hb dX0_symbolWithTwo_0 rfl (lv_at hl 0 rfl) ?_
  refine lv_ldc2 (v := 7) hx hb hown (hts _ (List.mem_of_getElem? (i := 1) rfl)) dX0_symbolWithTwo_1 ?_
  refine lv_land hx hb dX0_symbolWithTwo_4 ?_
  refine lv_lstore_n (lv' := [(2, .long (p0 &&& 7)), (0, .long p0)]) hx hb dX0_symbolWithTwo_5 rfl hl (by decide) rfl (fun ls hl => ?_)
  refine lv_lload_n hx hb dX0_symbolWithTwo_6 rfl (lv_at hl 0 rfl) ?_
  refine lv_ldc2 (v := 2) hx hb hown (hts _ (List.mem_of_getElem? (i := 2) rfl)) dX0_symbolWithTwo_7 ?_
  refine lv_lrem hx hb dX0_symbolWithTwo_10 (by decide) ?_
  refine lv_lconst (v := 0) hx hb dX0_symbolWithTwo_11 (by decide) ?_
  refine W.lcmp hx hb dX0_symbolWithTwo_12 ?_
  refine lv_if_ne (tgt := 18) hx hb dX0_symbolWithTwo_13 (by decide) (fun c1 => ?_) (fun c1 => ?_)
  · rw [lg_cmp_eq] at c1
    rw [if_neg c1] at h
    refine lv_lload_n hx hb dX0_symbolWithTwo_18 rfl (lv_at hl 0 rfl) ?_
    refine lv_lconst (v := 1) hx hb dX0_symbolWithTwo_19 (by decide) ?_
    refine W.lcmp hx hb dX0_symbolWithTwo_20 ?_
    refine lv_if_eq (tgt := 32) hx hb dX0_symbolWithTwo_21 (by decide) (fun c2 => ?_) (fun c2 => ?_)
    · rw [lg_cmp_eq] at c2
      rw [if_pos c2] at h
      refine lv_iconst (v := 1) hx hb dX0_symbolWithTwo_32 (by decide) ?_
      refine lv_goto (tgt := 37) hx hb dX0_symbolWithTwo_33 (by decide) ?_
      cases h
      exact W.iret hx hb hr (fun t ht hW => ⟨⟨_, (), rfl, rfl, by rw [ht]; exact hP, hD⟩, hS.F ht⟩) hS.2.2 dX0_symbolWithTwo_37
    · rw [lg_cmp_eq] at c2
      rw [if_neg c2] at h
      refine lv_lload_n hx hb dX0_symbolWithTwo_24 rfl (lv_at hl 0 rfl) ?_
      refine lv_ldc2 (v := 7) hx hb hown (hts _ (List.mem_of_getElem? (i := 1) rfl)) dX0_symbolWithTwo_25 ?_
      refine W.lcmp hx hb dX0_symbolWithTwo_28 ?_
      refine lv_if_ne (tgt := 36) hx hb dX0_symbolWithTwo_29 (by decide) (fun c3 => ?_) (fun c3 => ?_)
      · rw [lg_cmp_eq] at c3
        rw [if_neg c3] at h
        refine lv_iconst (v := (-1)) hx hb dX0_symbolWithTwo_36 (by decide) ?_
        cases h
        exact W.iret hx hb hr (fun t ht hW => ⟨⟨_, (), rfl, rfl, by rw [ht]; exact hP, hD⟩, hS.F ht⟩) hS.2.2 dX0_symbolWithTwo_37
      · rw [lg_cmp_eq] at c3
        rw [if_pos c3] at h
        refine lv_iconst (v := 1) hx hb dX0_symbolWithTwo_32 (by decide) ?_
        refine lv_goto (tgt := 37) hx hb dX0_symbolWithTwo_33 (by decide) ?_
        cases h
        exact W.iret hx hb hr (fun t ht hW => ⟨⟨_, (), rfl, rfl, by rw [ht]; exact hP, hD⟩, hS.F ht⟩) hS.2.2 dX0_symbolWithTwo_37
  · rw [lg_cmp_eq] at c1
    rw [if_pos c1] at h
    refine lv_iconst (v := 0) hx hb dX0_symbolWithTwo_16 (by decide) ?_
    cases h
    exact W.iret hx hb hr (fun t ht hW => ⟨⟨_, (), rfl, rfl, by rw [ht]; exact hP, hD⟩, hS.F ht⟩) hS.2.2 dX0_symbolWithTwo_17
def f_r_residue (F : Nat) (p0 : Int64) (p1 : Int32) : Option (Int32) := if 1 ≤ p1 then if (Int32.toInt64 p1) = 0 then none else if 0 ≤ (lrm p0 (Int32.toInt64 p1)) then some (Int64.toInt32 (lrm p0 (Int32.toInt64 p1))) else some (Int64.toInt32 ((lrm p0 (Int32.toInt64 p1)) + (Int32.toInt64 p1))) else some 0
set_option maxHeartbeats 4000000 in
set_option maxRecDepth 100000 in
theorem c_r_residue (l : Launch) (dC : Nat → ClassId) (dI : Nat → Nat → Nat) (sz F : Nat)  (p0 : Int64) (p1 rv : Int32) (h : f_r_residue F p0 p1 = some rv) : Met l yX0_residue wsX0_residue { frames := 0, cells := 0, slots := 0, locals := 0 } (rf_Pc (dC, dI) [] [] sz [.long p0, .int p1]) (va_Qi (fun (r : Int32) (_ : Unit) => rv = r) (fun (_ : Unit) t => va_P (dC, dI) vwCl [] t.heap ∧ va_D (va_A [] sz) []) (va_A [] sz)) 0 0 (va_A [] sz) := by
  refine Met.ofW (cc := cX0_residue) (maxL := 5) (ret := (some .int)) (by decide) rfl ?_
  intro p e s m args below meth c s₁ B hml hv
  obtain ⟨rfl, hsz, hP, hK, hD0⟩ := hv
  have hx := B.exec
  have hb := B.bytes
  have hr := B.returns
  have hts := atoms_spec (ws := wsX0_residue) B.pre
  have hown : s.vm.findClass RX0 = some m.cls := findClass_of_methodNamed B.named
  have hlocks := B.notSynchronized
  subst hsz
  have hD := hD0.self (sz := s.heap.size)
  generalize hAe : va_A [] s.heap.size = A at hD ⊢
  have hA : ∀ q : Nat, s.heap.size ≤ q → A q := fun q h => by rw [← hAe]; exact Or.inr h
  have hS : va_S A s.heap s.heap [] := va_S.rf
  have hl := lv_entry ([.long p0, .int p1]) (n := 5) (Nat.le_of_ble_eq_true rfl)
  rw [lg_entry_eq]
  generalize (lg_sl ([.long p0, .int p1]) ++ List.replicate (5 - (lg_sl ([.long p0, .int p1])).length) Slot.unset).toArray = ls at hl ⊢
  have hl : lv_has ls 5 [(0, .long p0), (2, .int p1)] := hl
  unfold f_r_residue at h
  refine lv_iload_n hx hb dX0_residue_0 rfl (lv_at hl 1 rfl) ?_
  refine lv_iconst (v := 1) hx hb dX0_residue_1 (by decide) ?_
  refine lv_icmp_ge (tgt := 7) hx hb dX0_residue_2 (by decide) (fun c1 => ?_) (fun c1 => ?_)
  · rw [if_pos c1] at h
    refine lv_lload_n hx hb dX0_residue_7 rfl (lv_at hl 0 rfl) ?_
    refine lv_iload_n hx hb dX0_residue_8 rfl (lv_at hl 1 rfl) ?_
    refine lv_i2l (v := (Int32.toInt64 p1)) hx hb dX0_residue_9 rfl ?_
    obtain ⟨g2, h⟩ := rf_gd h
    refine lv_lrem hx hb dX0_residue_10 g2 ?_
    refine lv_lstore_n (lv' := [(3, .long (lrm p0 (Int32.toInt64 p1))), (0, .long p0), (2, .int p1)]) hx hb dX0_residue_11 rfl hl (by decide) rfl (fun ls hl => ?_)
    refine lv_lload_n hx hb dX0_residue_12 rfl (lv_at hl 0 rfl) ?_
    refine lv_lconst (v := 0) hx hb dX0_residue_13 (by decide) ?_
    refine W.lcmp hx hb dX0_residue_14 ?_
    refine lv_if_ge (tgt := 25) hx hb dX0_residue_15 (by decide) (fun c3 => ?_) (fun c3 => ?_)
    · rw [lg_cmp_ge] at c3
      rw [if_pos c3] at h
      refine lv_lload_n hx hb dX0_residue_25 rfl (lv_at hl 0 rfl) ?_
      refine lv_l2i (v := (Int64.toInt32 (lrm p0 (Int32.toInt64 p1)))) hx hb dX0_residue_26 rfl ?_
      cases h
      exact W.iret hx hb hr (fun t ht hW => ⟨⟨_, (), rfl, rfl, by rw [ht]; exact hP, hD⟩, hS.F ht⟩) hS.2.2 dX0_residue_27
    · rw [lg_cmp_ge] at c3
      rw [if_neg c3] at h
      refine lv_lload_n hx hb dX0_residue_18 rfl (lv_at hl 0 rfl) ?_
      refine lv_iload_n hx hb dX0_residue_19 rfl (lv_at hl 2 rfl) ?_
      refine lv_i2l (v := (Int32.toInt64 p1)) hx hb dX0_residue_20 rfl ?_
      refine lv_ladd hx hb dX0_residue_21 ?_
      refine lv_goto (tgt := 26) hx hb dX0_residue_22 (by decide) ?_
      refine lv_l2i (v := (Int64.toInt32 ((lrm p0 (Int32.toInt64 p1)) + (Int32.toInt64 p1)))) hx hb dX0_residue_26 rfl ?_
      cases h
      exact W.iret hx hb hr (fun t ht hW => ⟨⟨_, (), rfl, rfl, by rw [ht]; exact hP, hD⟩, hS.F ht⟩) hS.2.2 dX0_residue_27
  · rw [if_neg c1] at h
    refine lv_iconst (v := 0) hx hb dX0_residue_5 (by decide) ?_
    cases h
    exact W.iret hx hb hr (fun t ht hW => ⟨⟨_, (), rfl, rfl, by rw [ht]; exact hP, hD⟩, hS.F ht⟩) hS.2.2 dX0_residue_6
def l_r_jacobi_30 (F : Nat) (x4 : Int32) : Nat → Int32 → Int32 → Int32 → Option (Int32 × Int32)
  | 0, _, _, _ => none
  | n + 1, x3, x5, x7 => if 22 ≤ x7 then some (x3, x5) else if (irm x5 2) = 0 then b1 (f_r_symbolWithTwo F (Int32.toInt64 x4)) fun r3 => l_r_jacobi_30 F x4 n (x3 * r3) (x5 / 2) (x7 + 1) else some (x3, x5)
set_option maxHeartbeats 4000000 in
set_option maxRecDepth 100000 in
theorem w_r_jacobi_30 {p : Program} {l : Launch} {e : Env} {s : State} {m : MethodId} {args : Array Value} {below : List Frame} {meth : Method} {c : Code} {A : Nat → Prop} {Q : State → Prop} {dC : Nat → ClassId} {dI : Nat → Nat → Nat} (F : Nat) (hx : p.tables.exec = Jvm.exec) (hb : c.code = cX0_jacobi) (hml : c.maxLocals = 8) (hown : s.vm.findClass RX0 = some m.cls) (hts : ∀ w ∈ wsX0_jacobi, w.before args s = true) (hA : ∀ q, s.heap.size ≤ q → A q)  (hK : va_K (dC, dI) vwCl [] s) (x4 x6 : Int32) :
    ∀ (n : Nat) (x3 x5 x7 x3' x5' : Int32), l_r_jacobi_30 F x4 n x3 x5 x7 = some (x3', x5') → ∀ (H : Heap) (locs : List Loc), va_P (dC, dI) vwCl [] H → va_D A [] → va_S A s.heap H locs → ∀ ls : Array Slot, lv_has ls 8 [(3, .int x3), (4, .int x4), (5, .int x5), (6, .int x6), (7, .int x7)] → (∀ (H : Heap) (locs : List Loc) (ls : Array Slot), va_P (dC, dI) vwCl [] H → va_D A [] → va_S A s.heap H locs → lv_has ls 8 [(3, .int x3'), (4, .int x4), (5, .int x5'), (6, .int x6)] → W p l e { frames := 1, cells := 0, slots := 0, locals := 24 } s m args below meth c H locs 0 0 Q (F0 m 65 ls [])) → W p l e { frames := 1, cells := 0, slots := 0, locals := 24 } s m args below meth c H locs 0 0 Q (F0 m 30 ls []) := by
  intro n
  induction n with
  | zero => intro x3 x5 x7 x3' x5' h; exact nomatch (show (none : Option _) = some _ from h)
  | succ n ih =>
    intro x3 x5 x7 x3' x5' h H locs hP hD hS ls hl K
    rw [l_r_jacobi_30] at h
    refine lv_iload hx hb dX0_jacobi_30 (lv_at hl 4 rfl) ?_
    refine lv_bipush (v := 22) hx hb dX0_jacobi_32 (by decide) ?_
    refine lv_icmp_ge (tgt := 65) hx hb dX0_jacobi_34 (by decide) (fun c1 => ?_) (fun c1 => ?_)
    · rw [if_pos c1] at h
      cases h
      exact K _ _ _ hP hD hS (lv_sub hl [0, 1, 2, 3] rfl)
    · rw [if_neg c1] at h
      refine lv_iload hx hb dX0_jacobi_37 (lv_at hl 2 rfl) ?_
      refine lv_iconst (v := 2) hx hb dX0_jacobi_39 (by decide) ?_
      refine lv_irem hx hb dX0_jacobi_40 (by decide) ?_
      refine lv_if_ne (tgt := 65) hx hb dX0_jacobi_41 (by decide) (fun c2 => ?_) (fun c2 => ?_)
      · rw [if_neg c2] at h
        cases h
        exact K _ _ _ hP hD hS (lv_sub hl [0, 1, 2, 3] rfl)
      · rw [if_pos c2] at h
        refine lv_iload hx hb dX0_jacobi_44 (lv_at hl 2 rfl) ?_
        refine lv_iconst (v := 2) hx hb dX0_jacobi_46 (by decide) ?_
        refine lv_idiv hx hb dX0_jacobi_47 (by decide) ?_
        refine lv_istore (lv' := [(5, .int (x5 / 2)), (3, .int x3), (4, .int x4), (6, .int x6), (7, .int x7)]) hx hb dX0_jacobi_48 hl (by decide) rfl (fun ls hl => ?_)
        refine lv_iload_n hx hb dX0_jacobi_50 rfl (lv_at hl 1 rfl) ?_
        refine lv_iload hx hb dX0_jacobi_51 (lv_at hl 2 rfl) ?_
        refine lv_i2l (v := (Int32.toInt64 x4)) hx hb dX0_jacobi_53 rfl ?_
        obtain ⟨r3, hr3, h⟩ := rf_b1 h
        refine rf_ci (wn := (fun _ : Unit => [])) (wc := []) (wr := []) hP hD hS hA [] [] rfl rfl (by decide) (by decide) (va_runS (As := [.long (Int32.toInt64 x4)]) (rest := [.int x3]) ⟨hx, hb, hml, hown, hts⟩ (c_r_symbolWithTwo l dC dI _ F (Int32.toInt64 x4) r3 hr3) (va_cwS 1 hts gX0_jacobi_X0_symbolWithTwo rfl rfl rfl (by decide +kernel) ⟨Nat.le_of_ble_eq_true rfl, Nat.le_of_ble_eq_true rfl⟩) ⟨rf_blind, fun U hU hW => ⟨rfl, rf_pre (hP.sub (ws' := []) [] rfl) (hK.sub (tys' := []) [] rfl) (hD.sub (ws' := []) [] (by decide) rfl) U hU hW⟩⟩ rfl rfl hl.1 rfl (lv_room (Nat.le_of_ble_eq_true rfl)) dX0_jacobi_54 ⟨Nat.zero_le _, Nat.zero_le _⟩) (fun r3' u H locs hw hP hD hS => ?_)
        subst hw
        have hP : va_P (dC, dI) vwCl [] H := hP
        have hD : va_D A [] := hD
        refine lv_imul hx hb dX0_jacobi_57 ?_
        refine lv_istore_n (lv' := [(3, .int (x3 * r3)), (5, .int (x5 / 2)), (4, .int x4), (6, .int x6), (7, .int x7)]) hx hb dX0_jacobi_58 rfl hl (by decide) rfl (fun ls hl => ?_)
        refine lv_iinc (v := (x7 + 1)) (lv' := [(7, .int (x7 + 1)), (3, .int (x3 * r3)), (5, .int (x5 / 2)), (4, .int x4), (6, .int x6)]) hx hb dX0_jacobi_59 hl (k := 4) rfl rfl (by decide) rfl (fun ls hl => ?_)
        refine lv_goto (tgt := 30) hx hb dX0_jacobi_62 (by decide) ?_
        exact ih (x3 * r3) (x5 / 2) (x7 + 1) x3' x5' h _ _ hP hD hS _ (lv_sub hl [1, 3, 2, 4, 0] rfl) K
def l_r_jacobi_15 (F : Nat) : Nat → Int32 → Int32 → Int32 → Int32 → Option (Int32 × Int32)
  | 0, _, _, _, _ => none
  | n + 1, x3, x4, x5, x6 => if 64 ≤ x6 then some (x3, x4) else if x5 ≤ 0 then some (x3, x4) else b2 (l_r_jacobi_30 F x4 F x3 x5 0) fun x3_3 x5_3 => if (irm x5_3 4) = 3 then if (irm x4 4) = 3 then b1 (f_r_residue F (Int32.toInt64 x4) x5_3) fun r8 => l_r_jacobi_15 F n (-x3_3) x5_3 r8 (x6 + 1) else b1 (f_r_residue F (Int32.toInt64 x4) x5_3) fun r7 => l_r_jacobi_15 F n x3_3 x5_3 r7 (x6 + 1) else b1 (f_r_residue F (Int32.toInt64 x4) x5_3) fun r5 => l_r_jacobi_15 F n x3_3 x5_3 r5 (x6 + 1)
set_option maxHeartbeats 4000000 in
set_option maxRecDepth 100000 in
theorem w_r_jacobi_15 {p : Program} {l : Launch} {e : Env} {s : State} {m : MethodId} {args : Array Value} {below : List Frame} {meth : Method} {c : Code} {A : Nat → Prop} {Q : State → Prop} {dC : Nat → ClassId} {dI : Nat → Nat → Nat} (F : Nat) (hx : p.tables.exec = Jvm.exec) (hb : c.code = cX0_jacobi) (hml : c.maxLocals = 8) (hown : s.vm.findClass RX0 = some m.cls) (hts : ∀ w ∈ wsX0_jacobi, w.before args s = true) (hA : ∀ q, s.heap.size ≤ q → A q)  (hK : va_K (dC, dI) vwCl [] s)  :
    ∀ (n : Nat) (x3 x4 x5 x6 x3' x4' : Int32), l_r_jacobi_15 F n x3 x4 x5 x6 = some (x3', x4') → ∀ (H : Heap) (locs : List Loc), va_P (dC, dI) vwCl [] H → va_D A [] → va_S A s.heap H locs → ∀ ls : Array Slot, lv_has ls 8 [(3, .int x3), (4, .int x4), (5, .int x5), (6, .int x6)] → (∀ (H : Heap) (locs : List Loc) (ls : Array Slot), va_P (dC, dI) vwCl [] H → va_D A [] → va_S A s.heap H locs → lv_has ls 8 [(3, .int x3'), (4, .int x4')] → W p l e { frames := 1, cells := 0, slots := 0, locals := 24 } s m args below meth c H locs 0 0 Q (F0 m 108 ls [])) → W p l e { frames := 1, cells := 0, slots := 0, locals := 24 } s m args below meth c H locs 0 0 Q (F0 m 15 ls []) := by
  intro n
  induction n with
  | zero => intro x3 x4 x5 x6 x3' x4' h; exact nomatch (show (none : Option _) = some _ from h)
  | succ n ih =>
    intro x3 x4 x5 x6 x3' x4' h H locs hP hD hS ls hl K
    rw [l_r_jacobi_15] at h
    refine lv_iload hx hb dX0_jacobi_15 (lv_at hl 3 rfl) ?_
    refine lv_bipush (v := 64) hx hb dX0_jacobi_17 (by decide) ?_
    refine lv_icmp_ge (tgt := 108) hx hb dX0_jacobi_19 (by decide) (fun c1 => ?_) (fun c1 => ?_)
    · rw [if_pos c1] at h
      cases h
      exact K _ _ _ hP hD hS (lv_sub hl [0, 1] rfl)
    · rw [if_neg c1] at h
      refine lv_iload hx hb dX0_jacobi_22 (lv_at hl 2 rfl) ?_
      refine lv_if_le (tgt := 108) hx hb dX0_jacobi_24 (by decide) (fun c2 => ?_) (fun c2 => ?_)
      · rw [if_pos c2] at h
        cases h
        exact K _ _ _ hP hD hS (lv_sub hl [0, 1] rfl)
      · rw [if_neg c2] at h
        refine lv_iconst (v := 0) hx hb dX0_jacobi_27 (by decide) ?_
        refine lv_istore (lv' := [(7, .int 0), (3, .int x3), (4, .int x4), (5, .int x5), (6, .int x6)]) hx hb dX0_jacobi_28 hl (by decide) rfl (fun ls hl => ?_)
        obtain ⟨x3_3, x5_3, hr3, h⟩ := rf_b2 h
        refine w_r_jacobi_30 F hx hb hml hown hts hA hK x4 x6 F x3 x5 0 x3_3 x5_3 hr3 _ _ hP hD hS _ (lv_sub hl [1, 2, 3, 4, 0] rfl) (fun H locs ls hP hD hS hl => ?_)
        refine lv_iload hx hb dX0_jacobi_65 (lv_at hl 2 rfl) ?_
        refine lv_iconst (v := 4) hx hb dX0_jacobi_67 (by decide) ?_
        refine lv_irem hx hb dX0_jacobi_68 (by decide) ?_
        refine lv_iconst (v := 3) hx hb dX0_jacobi_69 (by decide) ?_
        refine lv_icmp_ne (tgt := 84) hx hb dX0_jacobi_70 (by decide) (fun c4 => ?_) (fun c4 => ?_)
        · rw [if_neg c4] at h
          refine lv_iload hx hb dX0_jacobi_84 (lv_at hl 1 rfl) ?_
          refine lv_i2l (v := (Int32.toInt64 x4)) hx hb dX0_jacobi_86 rfl ?_
          refine lv_iload hx hb dX0_jacobi_87 (lv_at hl 2 rfl) ?_
          obtain ⟨r5, hr5, h⟩ := rf_b1 h
          refine rf_ci (wn := (fun _ : Unit => [])) (wc := []) (wr := []) hP hD hS hA [] [] rfl rfl (by decide) (by decide) (va_runS (As := [.long (Int32.toInt64 x4), .int x5_3]) (rest := []) ⟨hx, hb, hml, hown, hts⟩ (c_r_residue l dC dI _ F (Int32.toInt64 x4) x5_3 r5 hr5) (va_cwS 2 hts gX0_jacobi_X0_residue rfl rfl rfl (by decide +kernel) ⟨Nat.le_of_ble_eq_true rfl, Nat.le_of_ble_eq_true rfl⟩) ⟨rf_blind, fun U hU hW => ⟨rfl, rf_pre (hP.sub (ws' := []) [] rfl) (hK.sub (tys' := []) [] rfl) (hD.sub (ws' := []) [] (by decide) rfl) U hU hW⟩⟩ rfl rfl hl.1 rfl (lv_room (Nat.le_of_ble_eq_true rfl)) dX0_jacobi_89 ⟨Nat.zero_le _, Nat.zero_le _⟩) (fun r5' u H locs hw hP hD hS => ?_)
          subst hw
          have hP : va_P (dC, dI) vwCl [] H := hP
          have hD : va_D A [] := hD
          refine lv_istore (lv' := [(7, .int r5), (3, .int x3_3), (4, .int x4), (5, .int x5_3), (6, .int x6)]) hx hb dX0_jacobi_92 hl (by decide) rfl (fun ls hl => ?_)
          refine lv_iload hx hb dX0_jacobi_94 (lv_at hl 3 rfl) ?_
          refine lv_istore (lv' := [(4, .int x5_3), (7, .int r5), (3, .int x3_3), (5, .int x5_3), (6, .int x6)]) hx hb dX0_jacobi_96 hl (by decide) rfl (fun ls hl => ?_)
          refine lv_iload hx hb dX0_jacobi_98 (lv_at hl 1 rfl) ?_
          refine lv_istore (lv' := [(5, .int r5), (4, .int x5_3), (7, .int r5), (3, .int x3_3), (6, .int x6)]) hx hb dX0_jacobi_100 hl (by decide) rfl (fun ls hl => ?_)
          refine lv_iinc (v := (x6 + 1)) (lv' := [(6, .int (x6 + 1)), (5, .int r5), (4, .int x5_3), (7, .int r5), (3, .int x3_3)]) hx hb dX0_jacobi_102 hl (k := 4) rfl rfl (by decide) rfl (fun ls hl => ?_)
          refine lv_goto (tgt := 15) hx hb dX0_jacobi_105 (by decide) ?_
          exact ih x3_3 x5_3 r5 (x6 + 1) x3' x4' h _ _ hP hD hS _ (lv_sub hl [4, 2, 1, 0] rfl) K
        · rw [if_pos c4] at h
          refine lv_iload hx hb dX0_jacobi_73 (lv_at hl 1 rfl) ?_
          refine lv_iconst (v := 4) hx hb dX0_jacobi_75 (by decide) ?_
          refine lv_irem hx hb dX0_jacobi_76 (by decide) ?_
          refine lv_iconst (v := 3) hx hb dX0_jacobi_77 (by decide) ?_
          refine lv_icmp_ne (tgt := 84) hx hb dX0_jacobi_78 (by decide) (fun c6 => ?_) (fun c6 => ?_)
          · rw [if_neg c6] at h
            refine lv_iload hx hb dX0_jacobi_84 (lv_at hl 1 rfl) ?_
            refine lv_i2l (v := (Int32.toInt64 x4)) hx hb dX0_jacobi_86 rfl ?_
            refine lv_iload hx hb dX0_jacobi_87 (lv_at hl 2 rfl) ?_
            obtain ⟨r7, hr7, h⟩ := rf_b1 h
            refine rf_ci (wn := (fun _ : Unit => [])) (wc := []) (wr := []) hP hD hS hA [] [] rfl rfl (by decide) (by decide) (va_runS (As := [.long (Int32.toInt64 x4), .int x5_3]) (rest := []) ⟨hx, hb, hml, hown, hts⟩ (c_r_residue l dC dI _ F (Int32.toInt64 x4) x5_3 r7 hr7) (va_cwS 2 hts gX0_jacobi_X0_residue rfl rfl rfl (by decide +kernel) ⟨Nat.le_of_ble_eq_true rfl, Nat.le_of_ble_eq_true rfl⟩) ⟨rf_blind, fun U hU hW => ⟨rfl, rf_pre (hP.sub (ws' := []) [] rfl) (hK.sub (tys' := []) [] rfl) (hD.sub (ws' := []) [] (by decide) rfl) U hU hW⟩⟩ rfl rfl hl.1 rfl (lv_room (Nat.le_of_ble_eq_true rfl)) dX0_jacobi_89 ⟨Nat.zero_le _, Nat.zero_le _⟩) (fun r7' u H locs hw hP hD hS => ?_)
            subst hw
            have hP : va_P (dC, dI) vwCl [] H := hP
            have hD : va_D A [] := hD
            refine lv_istore (lv' := [(7, .int r7), (3, .int x3_3), (4, .int x4), (5, .int x5_3), (6, .int x6)]) hx hb dX0_jacobi_92 hl (by decide) rfl (fun ls hl => ?_)
            refine lv_iload hx hb dX0_jacobi_94 (lv_at hl 3 rfl) ?_
            refine lv_istore (lv' := [(4, .int x5_3), (7, .int r7), (3, .int x3_3), (5, .int x5_3), (6, .int x6)]) hx hb dX0_jacobi_96 hl (by decide) rfl (fun ls hl => ?_)
            refine lv_iload hx hb dX0_jacobi_98 (lv_at hl 1 rfl) ?_
            refine lv_istore (lv' := [(5, .int r7), (4, .int x5_3), (7, .int r7), (3, .int x3_3), (6, .int x6)]) hx hb dX0_jacobi_100 hl (by decide) rfl (fun ls hl => ?_)
            refine lv_iinc (v := (x6 + 1)) (lv' := [(6, .int (x6 + 1)), (5, .int r7), (4, .int x5_3), (7, .int r7), (3, .int x3_3)]) hx hb dX0_jacobi_102 hl (k := 4) rfl rfl (by decide) rfl (fun ls hl => ?_)
            refine lv_goto (tgt := 15) hx hb dX0_jacobi_105 (by decide) ?_
            exact ih x3_3 x5_3 r7 (x6 + 1) x3' x4' h _ _ hP hD hS _ (lv_sub hl [4, 2, 1, 0] rfl) K
          · rw [if_pos c6] at h
            refine lv_iload_n hx hb dX0_jacobi_81 rfl (lv_at hl 0 rfl) ?_
            refine lv_ineg hx hb dX0_jacobi_82 ?_
            refine lv_istore_n (lv' := [(3, .int (-x3_3)), (4, .int x4), (5, .int x5_3), (6, .int x6)]) hx hb dX0_jacobi_83 rfl hl (by decide) rfl (fun ls hl => ?_)
            refine lv_iload hx hb dX0_jacobi_84 (lv_at hl 1 rfl) ?_
            refine lv_i2l (v := (Int32.toInt64 x4)) hx hb dX0_jacobi_86 rfl ?_
            refine lv_iload hx hb dX0_jacobi_87 (lv_at hl 2 rfl) ?_
            obtain ⟨r8, hr8, h⟩ := rf_b1 h
            refine rf_ci (wn := (fun _ : Unit => [])) (wc := []) (wr := []) hP hD hS hA [] [] rfl rfl (by decide) (by decide) (va_runS (As := [.long (Int32.toInt64 x4), .int x5_3]) (rest := []) ⟨hx, hb, hml, hown, hts⟩ (c_r_residue l dC dI _ F (Int32.toInt64 x4) x5_3 r8 hr8) (va_cwS 2 hts gX0_jacobi_X0_residue rfl rfl rfl (by decide +kernel) ⟨Nat.le_of_ble_eq_true rfl, Nat.le_of_ble_eq_true rfl⟩) ⟨rf_blind, fun U hU hW => ⟨rfl, rf_pre (hP.sub (ws' := []) [] rfl) (hK.sub (tys' := []) [] rfl) (hD.sub (ws' := []) [] (by decide) rfl) U hU hW⟩⟩ rfl rfl hl.1 rfl (lv_room (Nat.le_of_ble_eq_true rfl)) dX0_jacobi_89 ⟨Nat.zero_le _, Nat.zero_le _⟩) (fun r8' u H locs hw hP hD hS => ?_)
            subst hw
            have hP : va_P (dC, dI) vwCl [] H := hP
            have hD : va_D A [] := hD
            refine lv_istore (lv' := [(7, .int r8), (3, .int (-x3_3)), (4, .int x4), (5, .int x5_3), (6, .int x6)]) hx hb dX0_jacobi_92 hl (by decide) rfl (fun ls hl => ?_)
            refine lv_iload hx hb dX0_jacobi_94 (lv_at hl 3 rfl) ?_
            refine lv_istore (lv' := [(4, .int x5_3), (7, .int r8), (3, .int (-x3_3)), (5, .int x5_3), (6, .int x6)]) hx hb dX0_jacobi_96 hl (by decide) rfl (fun ls hl => ?_)
            refine lv_iload hx hb dX0_jacobi_98 (lv_at hl 1 rfl) ?_
            refine lv_istore (lv' := [(5, .int r8), (4, .int x5_3), (7, .int r8), (3, .int (-x3_3)), (6, .int x6)]) hx hb dX0_jacobi_100 hl (by decide) rfl (fun ls hl => ?_)
            refine lv_iinc (v := (x6 + 1)) (lv' := [(6, .int (x6 + 1)), (5, .int r8), (4, .int x5_3), (7, .int r8), (3, .int (-x3_3))]) hx hb dX0_jacobi_102 hl (k := 4) rfl rfl (by decide) rfl (fun ls hl => ?_)
            refine lv_goto (tgt := 15) hx hb dX0_jacobi_105 (by decide) ?_
            exact ih (-x3_3) x5_3 r8 (x6 + 1) x3' x4' h _ _ hP hD hS _ (lv_sub hl [4, 2, 1, 0] rfl) K
def f_r_jacobi (F : Nat) (p0 : Int64) (p1 : Int32) : Option (Int32) := b1 (f_r_residue F p0 p1) fun r1 => b2 (l_r_jacobi_15 F F 1 p1 r1 0) fun x3_2 x4_2 => if x4_2 = 1 then some x3_2 else some 0
set_option maxHeartbeats 4000000 in
set_option maxRecDepth 100000 in
theorem c_r_jacobi (l : Launch) (dC : Nat → ClassId) (dI : Nat → Nat → Nat) (sz F : Nat)  (p0 : Int64) (p1 rv : Int32) (h : f_r_jacobi F p0 p1 = some rv) : Met l yX0_jacobi wsX0_jacobi { frames := 1, cells := 0, slots := 0, locals := 24 } (rf_Pc (dC, dI) [] [] sz [.long p0, .int p1]) (va_Qi (fun (r : Int32) (_ : Unit) => rv = r) (fun (_ : Unit) t => va_P (dC, dI) vwCl [] t.heap ∧ va_D (va_A [] sz) []) (va_A [] sz)) 0 0 (va_A [] sz) := by
  refine Met.ofW (cc := cX0_jacobi) (maxL := 8) (ret := (some .int)) (by decide) rfl ?_
  intro p e s m args below meth c s₁ B hml hv
  obtain ⟨rfl, hsz, hP, hK, hD0⟩ := hv
  have hx := B.exec
  have hb := B.bytes
  have hr := B.returns
  have hts := atoms_spec (ws := wsX0_jacobi) B.pre
  have hown : s.vm.findClass RX0 = some m.cls := findClass_of_methodNamed B.named
  have hlocks := B.notSynchronized
  subst hsz
  have hD := hD0.self (sz := s.heap.size)
  generalize hAe : va_A [] s.heap.size = A at hD ⊢
  have hA : ∀ q : Nat, s.heap.size ≤ q → A q := fun q h => by rw [← hAe]; exact Or.inr h
  have hS : va_S A s.heap s.heap [] := va_S.rf
  have hl := lv_entry ([.long p0, .int p1]) (n := 8) (Nat.le_of_ble_eq_true rfl)
  rw [lg_entry_eq]
  generalize (lg_sl ([.long p0, .int p1]) ++ List.replicate (8 - (lg_sl ([.long p0, .int p1])).length) Slot.unset).toArray = ls at hl ⊢
  have hl : lv_has ls 8 [(0, .long p0), (2, .int p1)] := hl
  unfold f_r_jacobi at h
  refine lv_iconst (v := 1) hx hb dX0_jacobi_0 (by decide) ?_
  refine lv_istore_n (lv' := [(3, .int 1), (0, .long p0), (2, .int p1)]) hx hb dX0_jacobi_1 rfl hl (by decide) rfl (fun ls hl => ?_)
  refine lv_iload_n hx hb dX0_jacobi_2 rfl (lv_at hl 2 rfl) ?_
  refine lv_istore (lv' := [(4, .int p1), (3, .int 1), (0, .long p0), (2, .int p1)]) hx hb dX0_jacobi_3 hl (by decide) rfl (fun ls hl => ?_)
  refine lv_lload_n hx hb dX0_jacobi_5 rfl (lv_at hl 2 rfl) ?_
  refine lv_iload_n hx hb dX0_jacobi_6 rfl (lv_at hl 3 rfl) ?_
  obtain ⟨r1, hr1, h⟩ := rf_b1 h
  refine rf_ci (wn := (fun _ : Unit => [])) (wc := []) (wr := []) hP hD hS hA [] [] rfl rfl (by decide) (by decide) (va_runS (As := [.long p0, .int p1]) (rest := []) ⟨hx, hb, hml, hown, hts⟩ (c_r_residue l dC dI _ F p0 p1 r1 hr1) (va_cwS 2 hts gX0_jacobi_X0_residue rfl rfl rfl (by decide +kernel) ⟨Nat.le_of_ble_eq_true rfl, Nat.le_of_ble_eq_true rfl⟩) ⟨rf_blind, fun U hU hW => ⟨rfl, rf_pre (hP.sub (ws' := []) [] rfl) (hK.sub (tys' := []) [] rfl) (hD.sub (ws' := []) [] (by decide) rfl) U hU hW⟩⟩ rfl rfl hl.1 rfl (lv_room (Nat.le_of_ble_eq_true rfl)) dX0_jacobi_7 ⟨Nat.zero_le _, Nat.zero_le _⟩) (fun r1' u H locs hw hP hD hS => ?_)
  subst hw
  have hP : va_P (dC, dI) vwCl [] H := hP
  have hD : va_D A [] := hD
  refine lv_istore (lv' := [(5, .int r1), (4, .int p1), (3, .int 1), (0, .long p0), (2, .int p1)]) hx hb dX0_jacobi_10 hl (by decide) rfl (fun ls hl => ?_)
  refine lv_iconst (v := 0) hx hb dX0_jacobi_12 (by decide) ?_
  refine lv_istore (lv' := [(6, .int 0), (5, .int r1), (4, .int p1), (3, .int 1), (0, .long p0), (2, .int p1)]) hx hb dX0_jacobi_13 hl (by decide) rfl (fun ls hl => ?_)
  obtain ⟨x3_2, x4_2, hr2, h⟩ := rf_b2 h
  refine w_r_jacobi_15 F hx hb hml hown hts hA hK F 1 p1 r1 0 x3_2 x4_2 hr2 _ _ hP hD hS _ (lv_sub hl [3, 2, 1, 0] rfl) (fun H locs ls hP hD hS hl => ?_)
  refine lv_iload hx hb dX0_jacobi_108 (lv_at hl 1 rfl) ?_
  refine lv_iconst (v := 1) hx hb dX0_jacobi_110 (by decide) ?_
  refine lv_icmp_ne (tgt := 118) hx hb dX0_jacobi_111 (by decide) (fun c3 => ?_) (fun c3 => ?_)
  · rw [if_neg c3] at h
    refine lv_iconst (v := 0) hx hb dX0_jacobi_118 (by decide) ?_
    cases h
    exact W.iret hx hb hr (fun t ht hW => ⟨⟨_, (), rfl, rfl, by rw [ht]; exact hP, hD⟩, hS.F ht⟩) hS.2.2 dX0_jacobi_119
  · rw [if_pos c3] at h
    refine lv_iload_n hx hb dX0_jacobi_114 rfl (lv_at hl 0 rfl) ?_
    refine lv_goto (tgt := 119) hx hb dX0_jacobi_115 (by decide) ?_
    cases h
    exact W.iret hx hb hr (fun t ht hW => ⟨⟨_, (), rfl, rfl, by rw [ht]; exact hP, hD⟩, hS.F ht⟩) hS.2.2 dX0_jacobi_119
def l_r_kronecker_78 (F : Nat) (x1 : Int64) : Nat → Int32 → Int32 → Int32 → Option (Int32 × Int32)
  | 0, _, _, _ => none
  | n + 1, x4, x5, x6 => if 22 ≤ x6 then some (x4, x5) else if (irm x5 2) = 0 then b1 (f_r_symbolWithTwo F x1) fun r3 => l_r_kronecker_78 F x1 n (x4 * r3) (x5 / 2) (x6 + 1) else some (x4, x5)
set_option maxHeartbeats 4000000 in
set_option maxRecDepth 100000 in
theorem w_r_kronecker_78 {p : Program} {l : Launch} {e : Env} {s : State} {m : MethodId} {args : Array Value} {below : List Frame} {meth : Method} {c : Code} {A : Nat → Prop} {Q : State → Prop} {dC : Nat → ClassId} {dI : Nat → Nat → Nat} (F : Nat) (hx : p.tables.exec = Jvm.exec) (hb : c.code = cX0_kronecker) (hml : c.maxLocals = 7) (hown : s.vm.findClass RX0 = some m.cls) (hts : ∀ w ∈ wsX0_kronecker, w.before args s = true) (hA : ∀ q, s.heap.size ≤ q → A q) (h0 h1 h2 h3 h4 h5 : Nat) (cA : ClassId) (hK : va_K (dC, dI) vwCl [(cA, .int)] s) (x1 : Int64) (nu pk dc rc : Int32) (pr ex dv rt sp : Nat → Int32) :
    ∀ (n : Nat) (x4 x5 x6 x4' x5' : Int32), l_r_kronecker_78 F x1 n x4 x5 x6 = some (x4', x5') → ∀ (H : Heap) (locs : List Loc), va_P (dC, dI) vwCl [(h0, .inr (0, [.int nu, .int pk, .ref h1, .ref h2, .int dc, .ref h3, .int rc, .ref h4, .ref h5])), (h1, .inl (cA, 7, .inl pr)), (h2, .inl (cA, 7, .inl ex)), (h3, .inl (cA, 360, .inl dv)), (h4, .inl (cA, 4096, .inl rt)), (h5, .inl (cA, 4096, .inl sp))] H → va_D A [(h0, .inr (0, [.int nu, .int pk, .ref h1, .ref h2, .int dc, .ref h3, .int rc, .ref h4, .ref h5])), (h1, .inl (cA, 7, .inl pr)), (h2, .inl (cA, 7, .inl ex)), (h3, .inl (cA, 360, .inl dv)), (h4, .inl (cA, 4096, .inl rt)), (h5, .inl (cA, 4096, .inl sp))] → va_S A s.heap H locs → ∀ ls : Array Slot, lv_has ls 7 [(1, .long x1), (4, .int x4), (5, .int x5), (6, .int x6)] → (∀ (H : Heap) (locs : List Loc) (ls : Array Slot), va_P (dC, dI) vwCl [(h0, .inr (0, [.int nu, .int pk, .ref h1, .ref h2, .int dc, .ref h3, .int rc, .ref h4, .ref h5])), (h1, .inl (cA, 7, .inl pr)), (h2, .inl (cA, 7, .inl ex)), (h3, .inl (cA, 360, .inl dv)), (h4, .inl (cA, 4096, .inl rt)), (h5, .inl (cA, 4096, .inl sp))] H → va_D A [(h0, .inr (0, [.int nu, .int pk, .ref h1, .ref h2, .int dc, .ref h3, .int rc, .ref h4, .ref h5])), (h1, .inl (cA, 7, .inl pr)), (h2, .inl (cA, 7, .inl ex)), (h3, .inl (cA, 360, .inl dv)), (h4, .inl (cA, 4096, .inl rt)), (h5, .inl (cA, 4096, .inl sp))] → va_S A s.heap H locs → lv_has ls 7 [(1, .long x1), (4, .int x4'), (5, .int x5')] → W p l e { frames := 2, cells := 0, slots := 0, locals := 51 } s m args below meth c H locs 0 0 Q (F0 m 113 ls [])) → W p l e { frames := 2, cells := 0, slots := 0, locals := 51 } s m args below meth c H locs 0 0 Q (F0 m 78 ls []) := by
  intro n
  induction n with
  | zero => intro x4 x5 x6 x4' x5' h; exact nomatch (show (none : Option _) = some _ from h)
  | succ n ih =>
    intro x4 x5 x6 x4' x5' h H locs hP hD hS ls hl K
    rw [l_r_kronecker_78] at h
    refine lv_iload hx hb dX0_kronecker_78 (lv_at hl 3 rfl) ?_
    refine lv_bipush (v := 22) hx hb dX0_kronecker_80 (by decide) ?_
    refine lv_icmp_ge (tgt := 113) hx hb dX0_kronecker_82 (by decide) (fun c1 => ?_) (fun c1 => ?_)
    · rw [if_pos c1] at h
      cases h
      exact K _ _ _ hP hD hS (lv_sub hl [0, 1, 2] rfl)
    · rw [if_neg c1] at h
      refine lv_iload hx hb dX0_kronecker_85 (lv_at hl 2 rfl) ?_
      refine lv_iconst (v := 2) hx hb dX0_kronecker_87 (by decide) ?_
      refine lv_irem hx hb dX0_kronecker_88 (by decide) ?_
      refine lv_if_ne (tgt := 113) hx hb dX0_kronecker_89 (by decide) (fun c2 => ?_) (fun c2 => ?_)
      · rw [if_neg c2] at h
        cases h
        exact K _ _ _ hP hD hS (lv_sub hl [0, 1, 2] rfl)
      · rw [if_pos c2] at h
        refine lv_iload hx hb dX0_kronecker_92 (lv_at hl 2 rfl) ?_
        refine lv_iconst (v := 2) hx hb dX0_kronecker_94 (by decide) ?_
        refine lv_idiv hx hb dX0_kronecker_95 (by decide) ?_
        refine lv_istore (lv' := [(5, .int (x5 / 2)), (1, .long x1), (4, .int x4), (6, .int x6)]) hx hb dX0_kronecker_96 hl (by decide) rfl (fun ls hl => ?_)
        refine lv_iload hx hb dX0_kronecker_98 (lv_at hl 2 rfl) ?_
        refine lv_lload_n hx hb dX0_kronecker_100 rfl (lv_at hl 1 rfl) ?_
        obtain ⟨r3, hr3, h⟩ := rf_b1 h
        refine rf_ci (wn := (fun _ : Unit => [])) (wc := []) (wr := [(h0, .inr (0, [.int nu, .int pk, .ref h1, .ref h2, .int dc, .ref h3, .int rc, .ref h4, .ref h5])), (h1, .inl (cA, 7, .inl pr)), (h2, .inl (cA, 7, .inl ex)), (h3, .inl (cA, 360, .inl dv)), (h4, .inl (cA, 4096, .inl rt)), (h5, .inl (cA, 4096, .inl sp))]) hP hD hS hA [] [0, 1, 2, 3, 4, 5] rfl rfl (by decide) (by decide) (va_runS (As := [.long x1]) (rest := [.int x4]) ⟨hx, hb, hml, hown, hts⟩ (c_r_symbolWithTwo l dC dI _ F x1 r3 hr3) (va_cwS 1 hts gX0_kronecker_X0_symbolWithTwo rfl rfl rfl (by decide +kernel) ⟨Nat.le_of_ble_eq_true rfl, Nat.le_of_ble_eq_true rfl⟩) ⟨rf_blind, fun U hU hW => ⟨rfl, rf_pre (hP.sub (ws' := []) [] rfl) (hK.sub (tys' := []) [] rfl) (hD.sub (ws' := []) [] (by decide) rfl) U hU hW⟩⟩ rfl rfl hl.1 rfl (lv_room (Nat.le_of_ble_eq_true rfl)) dX0_kronecker_101 ⟨Nat.zero_le _, Nat.zero_le _⟩) (fun r3' u H locs hw hP hD hS => ?_)
        subst hw
        have hP : va_P (dC, dI) vwCl [(h0, .inr (0, [.int nu, .int pk, .ref h1, .ref h2, .int dc, .ref h3, .int rc, .ref h4, .ref h5])), (h1, .inl (cA, 7, .inl pr)), (h2, .inl (cA, 7, .inl ex)), (h3, .inl (cA, 360, .inl dv)), (h4, .inl (cA, 4096, .inl rt)), (h5, .inl (cA, 4096, .inl sp))] H := hP
        have hD : va_D A [(h0, .inr (0, [.int nu, .int pk, .ref h1, .ref h2, .int dc, .ref h3, .int rc, .ref h4, .ref h5])), (h1, .inl (cA, 7, .inl pr)), (h2, .inl (cA, 7, .inl ex)), (h3, .inl (cA, 360, .inl dv)), (h4, .inl (cA, 4096, .inl rt)), (h5, .inl (cA, 4096, .inl sp))] := hD
        refine lv_imul hx hb dX0_kronecker_104 ?_
        refine lv_istore (lv' := [(4, .int (x4 * r3)), (5, .int (x5 / 2)), (1, .long x1), (6, .int x6)]) hx hb dX0_kronecker_105 hl (by decide) rfl (fun ls hl => ?_)
        refine lv_iinc (v := (x6 + 1)) (lv' := [(6, .int (x6 + 1)), (4, .int (x4 * r3)), (5, .int (x5 / 2)), (1, .long x1)]) hx hb dX0_kronecker_107 hl (k := 3) rfl rfl (by decide) rfl (fun ls hl => ?_)
        refine lv_goto (tgt := 78) hx hb dX0_kronecker_110 (by decide) ?_
        exact ih (x4 * r3) (x5 / 2) (x6 + 1) x4' x5' h _ _ hP hD hS _ (lv_sub hl [3, 1, 2, 0] rfl) K
def f_r_kronecker (F : Nat) (p0 : Int64) (p1 : Int32) : Option (Option (Int32)) := if p1 < (-4194304) then some none else if p1 ≤ 4194304 then sm (if p1 = 0 then if p0 = 1 then some 1 else if p0 = (-1) then some 1 else some 0 else if 0 ≤ p1 then if 0 ≤ p1 then b2 (l_r_kronecker_78 F p0 F 1 p1 0) fun x4_6 x5_6 => b1 (f_r_jacobi F p0 x5_6) fun r7 => some (x4_6 * r7) else b2 (l_r_kronecker_78 F p0 F 1 (-p1) 0) fun x4_8 x5_8 => b1 (f_r_jacobi F p0 x5_8) fun r9 => some (x4_8 * r9) else if 0 ≤ p0 then if 0 ≤ p1 then b2 (l_r_kronecker_78 F p0 F 1 p1 0) fun x4_12 x5_12 => b1 (f_r_jacobi F p0 x5_12) fun r13 => some (x4_12 * r13) else b2 (l_r_kronecker_78 F p0 F 1 (-p1) 0) fun x4_14 x5_14 => b1 (f_r_jacobi F p0 x5_14) fun r15 => some (x4_14 * r15) else if 0 ≤ p1 then b2 (l_r_kronecker_78 F p0 F (-1) p1 0) fun x4_17 x5_17 => b1 (f_r_jacobi F p0 x5_17) fun r18 => some (x4_17 * r18) else b2 (l_r_kronecker_78 F p0 F (-1) (-p1) 0) fun x4_19 x5_19 => b1 (f_r_jacobi F p0 x5_19) fun r20 => some (x4_19 * r20)) else some none
set_option maxHeartbeats 4000000 in
set_option maxRecDepth 100000 in
theorem c_r_kronecker (l : Launch) (dC : Nat → ClassId) (dI : Nat → Nat → Nat) (sz F : Nat) (h0 h1 h2 h3 h4 h5 : Nat) (cA : ClassId) (nu pk dc rc : Int32) (pr ex dv rt sp : Nat → Int32) (p0 : Int64) (p1 rv : Int32) (h : f_r_kronecker F p0 p1 = some (some rv)) : Met l yX0_kronecker wsX0_kronecker { frames := 2, cells := 0, slots := 0, locals := 51 } (rf_Pc (dC, dI) [(cA, .int)] [(h0, .inr (0, [.int nu, .int pk, .ref h1, .ref h2, .int dc, .ref h3, .int rc, .ref h4, .ref h5])), (h1, .inl (cA, 7, .inl pr)), (h2, .inl (cA, 7, .inl ex)), (h3, .inl (cA, 360, .inl dv)), (h4, .inl (cA, 4096, .inl rt)), (h5, .inl (cA, 4096, .inl sp))] sz [.ref h0, .long p0, .int p1]) (va_Qi (fun (r : Int32) (_ : Unit) => rv = r) (fun (_ : Unit) t => va_P (dC, dI) vwCl [(h0, .inr (0, [.int nu, .int pk, .ref h1, .ref h2, .int dc, .ref h3, .int rc, .ref h4, .ref h5])), (h1, .inl (cA, 7, .inl pr)), (h2, .inl (cA, 7, .inl ex)), (h3, .inl (cA, 360, .inl dv)), (h4, .inl (cA, 4096, .inl rt)), (h5, .inl (cA, 4096, .inl sp))] t.heap ∧ va_D (va_A [(h0, .inr (0, [.int nu, .int pk, .ref h1, .ref h2, .int dc, .ref h3, .int rc, .ref h4, .ref h5])), (h1, .inl (cA, 7, .inl pr)), (h2, .inl (cA, 7, .inl ex)), (h3, .inl (cA, 360, .inl dv)), (h4, .inl (cA, 4096, .inl rt)), (h5, .inl (cA, 4096, .inl sp))] sz) [(h0, .inr (0, [.int nu, .int pk, .ref h1, .ref h2, .int dc, .ref h3, .int rc, .ref h4, .ref h5])), (h1, .inl (cA, 7, .inl pr)), (h2, .inl (cA, 7, .inl ex)), (h3, .inl (cA, 360, .inl dv)), (h4, .inl (cA, 4096, .inl rt)), (h5, .inl (cA, 4096, .inl sp))]) (va_A [(h0, .inr (0, [.int nu, .int pk, .ref h1, .ref h2, .int dc, .ref h3, .int rc, .ref h4, .ref h5])), (h1, .inl (cA, 7, .inl pr)), (h2, .inl (cA, 7, .inl ex)), (h3, .inl (cA, 360, .inl dv)), (h4, .inl (cA, 4096, .inl rt)), (h5, .inl (cA, 4096, .inl sp))] sz)) 0 0 (va_A [(h0, .inr (0, [.int nu, .int pk, .ref h1, .ref h2, .int dc, .ref h3, .int rc, .ref h4, .ref h5])), (h1, .inl (cA, 7, .inl pr)), (h2, .inl (cA, 7, .inl ex)), (h3, .inl (cA, 360, .inl dv)), (h4, .inl (cA, 4096, .inl rt)), (h5, .inl (cA, 4096, .inl sp))] sz) := by
  refine Met.ofW (cc := cX0_kronecker) (maxL := 7) (ret := (some .int)) (by decide) rfl ?_
  intro p e s m args below meth c s₁ B hml hv
  obtain ⟨rfl, hsz, hP, hK, hD0⟩ := hv
  have hx := B.exec
  have hb := B.bytes
  have hr := B.returns
  have hts := atoms_spec (ws := wsX0_kronecker) B.pre
  have hown : s.vm.findClass RX0 = some m.cls := findClass_of_methodNamed B.named
  have hlocks := B.notSynchronized
  subst hsz
  have hD := hD0.self (sz := s.heap.size)
  generalize hAe : va_A [(h0, .inr (0, [.int nu, .int pk, .ref h1, .ref h2, .int dc, .ref h3, .int rc, .ref h4, .ref h5])), (h1, .inl (cA, 7, .inl pr)), (h2, .inl (cA, 7, .inl ex)), (h3, .inl (cA, 360, .inl dv)), (h4, .inl (cA, 4096, .inl rt)), (h5, .inl (cA, 4096, .inl sp))] s.heap.size = A at hD ⊢
  have hA : ∀ q : Nat, s.heap.size ≤ q → A q := fun q h => by rw [← hAe]; exact Or.inr h
  have hS : va_S A s.heap s.heap [] := va_S.rf
  have hl := lv_entry ([.ref h0, .long p0, .int p1]) (n := 7) (Nat.le_of_ble_eq_true rfl)
  rw [lg_entry_eq]
  generalize (lg_sl ([.ref h0, .long p0, .int p1]) ++ List.replicate (7 - (lg_sl ([.ref h0, .long p0, .int p1])).length) Slot.unset).toArray = ls at hl ⊢
  have hl : lv_has ls 7 [(0, .ref h0), (1, .long p0), (3, .int p1)] := hl
  unfold f_r_kronecker at h
  refine lv_iload_n hx hb dX0_kronecker_0 rfl (lv_at hl 2 rfl) ?_
  refine lv_ldc (v := (-4194304)) hx hb hown (hts _ (List.mem_of_getElem? (i := 1) rfl)) dX0_kronecker_1 ?_
  refine lv_icmp_lt (tgt := 12) hx hb dX0_kronecker_3 (by decide) (fun c1 => ?_) (fun c1 => ?_)
  · rw [if_pos c1] at h
    cases h
  · rw [if_neg c1] at h
    refine lv_iload_n hx hb dX0_kronecker_6 rfl (lv_at hl 2 rfl) ?_
    refine lv_ldc (v := 4194304) hx hb hown (hts _ (List.mem_of_getElem? (i := 2) rfl)) dX0_kronecker_7 ?_
    refine lv_icmp_le (tgt := 22) hx hb dX0_kronecker_9 (by decide) (fun c2 => ?_) (fun c2 => ?_)
    · rw [if_pos c2] at h
      have h := rf_sm h
      refine lv_iload_n hx hb dX0_kronecker_22 rfl (lv_at hl 2 rfl) ?_
      refine lv_if_ne (tgt := 46) hx hb dX0_kronecker_23 (by decide) (fun c3 => ?_) (fun c3 => ?_)
      · rw [if_neg c3] at h
        refine lv_iload_n hx hb dX0_kronecker_46 rfl (lv_at hl 2 rfl) ?_
        refine lv_if_ge (tgt := 60) hx hb dX0_kronecker_47 (by decide) (fun c4 => ?_) (fun c4 => ?_)
        · rw [if_pos c4] at h
          refine lv_iconst (v := 1) hx hb dX0_kronecker_60 (by decide) ?_
          refine lv_istore (lv' := [(4, .int 1), (0, .ref h0), (1, .long p0), (3, .int p1)]) hx hb dX0_kronecker_61 hl (by decide) rfl (fun ls hl => ?_)
          refine lv_iload_n hx hb dX0_kronecker_63 rfl (lv_at hl 3 rfl) ?_
          refine lv_if_ge (tgt := 72) hx hb dX0_kronecker_64 (by decide) (fun c5 => ?_) (fun c5 => ?_)
          · rw [if_pos c5] at h
            refine lv_iload_n hx hb dX0_kronecker_72 rfl (lv_at hl 3 rfl) ?_
            refine lv_istore (lv' := [(5, .int p1), (4, .int 1), (0, .ref h0), (1, .long p0), (3, .int p1)]) hx hb dX0_kronecker_73 hl (by decide) rfl (fun ls hl => ?_)
            refine lv_iconst (v := 0) hx hb dX0_kronecker_75 (by decide) ?_
            refine lv_istore (lv' := [(6, .int 0), (5, .int p1), (4, .int 1), (0, .ref h0), (1, .long p0), (3, .int p1)]) hx hb dX0_kronecker_76 hl (by decide) rfl (fun ls hl => ?_)
            obtain ⟨x4_6, x5_6, hr6, h⟩ := rf_b2 h
            refine w_r_kronecker_78 F hx hb hml hown hts hA h0 h1 h2 h3 h4 h5 cA hK p0 nu pk dc rc pr ex dv rt sp F 1 p1 0 x4_6 x5_6 hr6 _ _ hP hD hS _ (lv_sub hl [4, 2, 1, 0] rfl) (fun H locs ls hP hD hS hl => ?_)
            refine lv_iload hx hb dX0_kronecker_113 (lv_at hl 1 rfl) ?_
            refine lv_lload_n hx hb dX0_kronecker_115 rfl (lv_at hl 0 rfl) ?_
            refine lv_iload hx hb dX0_kronecker_116 (lv_at hl 2 rfl) ?_
            obtain ⟨r7, hr7, h⟩ := rf_b1 h
            refine rf_ci (wn := (fun _ : Unit => [])) (wc := []) (wr := [(h0, .inr (0, [.int nu, .int pk, .ref h1, .ref h2, .int dc, .ref h3, .int rc, .ref h4, .ref h5])), (h1, .inl (cA, 7, .inl pr)), (h2, .inl (cA, 7, .inl ex)), (h3, .inl (cA, 360, .inl dv)), (h4, .inl (cA, 4096, .inl rt)), (h5, .inl (cA, 4096, .inl sp))]) hP hD hS hA [] [0, 1, 2, 3, 4, 5] rfl rfl (by decide) (by decide) (va_runS (As := [.long p0, .int x5_6]) (rest := [.int x4_6]) ⟨hx, hb, hml, hown, hts⟩ (c_r_jacobi l dC dI _ F p0 x5_6 r7 hr7) (va_cwS 2 hts gX0_kronecker_X0_jacobi rfl rfl rfl (by decide +kernel) ⟨Nat.le_of_ble_eq_true rfl, Nat.le_of_ble_eq_true rfl⟩) ⟨rf_blind, fun U hU hW => ⟨rfl, rf_pre (hP.sub (ws' := []) [] rfl) (hK.sub (tys' := []) [] rfl) (hD.sub (ws' := []) [] (by decide) rfl) U hU hW⟩⟩ rfl rfl hl.1 rfl (lv_room (Nat.le_of_ble_eq_true rfl)) dX0_kronecker_118 ⟨Nat.zero_le _, Nat.zero_le _⟩) (fun r7' u H locs hw hP hD hS => ?_)
            subst hw
            have hP : va_P (dC, dI) vwCl [(h0, .inr (0, [.int nu, .int pk, .ref h1, .ref h2, .int dc, .ref h3, .int rc, .ref h4, .ref h5])), (h1, .inl (cA, 7, .inl pr)), (h2, .inl (cA, 7, .inl ex)), (h3, .inl (cA, 360, .inl dv)), (h4, .inl (cA, 4096, .inl rt)), (h5, .inl (cA, 4096, .inl sp))] H := hP
            have hD : va_D A [(h0, .inr (0, [.int nu, .int pk, .ref h1, .ref h2, .int dc, .ref h3, .int rc, .ref h4, .ref h5])), (h1, .inl (cA, 7, .inl pr)), (h2, .inl (cA, 7, .inl ex)), (h3, .inl (cA, 360, .inl dv)), (h4, .inl (cA, 4096, .inl rt)), (h5, .inl (cA, 4096, .inl sp))] := hD
            refine lv_imul hx hb dX0_kronecker_121 ?_
            cases h
            exact W.iret hx hb hr (fun t ht hW => ⟨⟨_, (), rfl, rfl, by rw [ht]; exact hP, hD⟩, hS.F ht⟩) hS.2.2 dX0_kronecker_122
          · rw [if_neg c5] at h
            refine lv_iload_n hx hb dX0_kronecker_67 rfl (lv_at hl 3 rfl) ?_
            refine lv_ineg hx hb dX0_kronecker_68 ?_
            refine lv_goto (tgt := 73) hx hb dX0_kronecker_69 (by decide) ?_
            refine lv_istore (lv' := [(5, .int (-p1)), (4, .int 1), (0, .ref h0), (1, .long p0), (3, .int p1)]) hx hb dX0_kronecker_73 hl (by decide) rfl (fun ls hl => ?_)
            refine lv_iconst (v := 0) hx hb dX0_kronecker_75 (by decide) ?_
            refine lv_istore (lv' := [(6, .int 0), (5, .int (-p1)), (4, .int 1), (0, .ref h0), (1, .long p0), (3, .int p1)]) hx hb dX0_kronecker_76 hl (by decide) rfl (fun ls hl => ?_)
            obtain ⟨x4_8, x5_8, hr8, h⟩ := rf_b2 h
            refine w_r_kronecker_78 F hx hb hml hown hts hA h0 h1 h2 h3 h4 h5 cA hK p0 nu pk dc rc pr ex dv rt sp F 1 (-p1) 0 x4_8 x5_8 hr8 _ _ hP hD hS _ (lv_sub hl [4, 2, 1, 0] rfl) (fun H locs ls hP hD hS hl => ?_)
            refine lv_iload hx hb dX0_kronecker_113 (lv_at hl 1 rfl) ?_
            refine lv_lload_n hx hb dX0_kronecker_115 rfl (lv_at hl 0 rfl) ?_
            refine lv_iload hx hb dX0_kronecker_116 (lv_at hl 2 rfl) ?_
            obtain ⟨r9, hr9, h⟩ := rf_b1 h
            refine rf_ci (wn := (fun _ : Unit => [])) (wc := []) (wr := [(h0, .inr (0, [.int nu, .int pk, .ref h1, .ref h2, .int dc, .ref h3, .int rc, .ref h4, .ref h5])), (h1, .inl (cA, 7, .inl pr)), (h2, .inl (cA, 7, .inl ex)), (h3, .inl (cA, 360, .inl dv)), (h4, .inl (cA, 4096, .inl rt)), (h5, .inl (cA, 4096, .inl sp))]) hP hD hS hA [] [0, 1, 2, 3, 4, 5] rfl rfl (by decide) (by decide) (va_runS (As := [.long p0, .int x5_8]) (rest := [.int x4_8]) ⟨hx, hb, hml, hown, hts⟩ (c_r_jacobi l dC dI _ F p0 x5_8 r9 hr9) (va_cwS 2 hts gX0_kronecker_X0_jacobi rfl rfl rfl (by decide +kernel) ⟨Nat.le_of_ble_eq_true rfl, Nat.le_of_ble_eq_true rfl⟩) ⟨rf_blind, fun U hU hW => ⟨rfl, rf_pre (hP.sub (ws' := []) [] rfl) (hK.sub (tys' := []) [] rfl) (hD.sub (ws' := []) [] (by decide) rfl) U hU hW⟩⟩ rfl rfl hl.1 rfl (lv_room (Nat.le_of_ble_eq_true rfl)) dX0_kronecker_118 ⟨Nat.zero_le _, Nat.zero_le _⟩) (fun r9' u H locs hw hP hD hS => ?_)
            subst hw
            have hP : va_P (dC, dI) vwCl [(h0, .inr (0, [.int nu, .int pk, .ref h1, .ref h2, .int dc, .ref h3, .int rc, .ref h4, .ref h5])), (h1, .inl (cA, 7, .inl pr)), (h2, .inl (cA, 7, .inl ex)), (h3, .inl (cA, 360, .inl dv)), (h4, .inl (cA, 4096, .inl rt)), (h5, .inl (cA, 4096, .inl sp))] H := hP
            have hD : va_D A [(h0, .inr (0, [.int nu, .int pk, .ref h1, .ref h2, .int dc, .ref h3, .int rc, .ref h4, .ref h5])), (h1, .inl (cA, 7, .inl pr)), (h2, .inl (cA, 7, .inl ex)), (h3, .inl (cA, 360, .inl dv)), (h4, .inl (cA, 4096, .inl rt)), (h5, .inl (cA, 4096, .inl sp))] := hD
            refine lv_imul hx hb dX0_kronecker_121 ?_
            cases h
            exact W.iret hx hb hr (fun t ht hW => ⟨⟨_, (), rfl, rfl, by rw [ht]; exact hP, hD⟩, hS.F ht⟩) hS.2.2 dX0_kronecker_122
        · rw [if_neg c4] at h
          refine lv_lload_n hx hb dX0_kronecker_50 rfl (lv_at hl 1 rfl) ?_
          refine lv_lconst (v := 0) hx hb dX0_kronecker_51 (by decide) ?_
          refine W.lcmp hx hb dX0_kronecker_52 ?_
          refine lv_if_ge (tgt := 60) hx hb dX0_kronecker_53 (by decide) (fun c10 => ?_) (fun c10 => ?_)
          · rw [lg_cmp_ge] at c10
            rw [if_pos c10] at h
            refine lv_iconst (v := 1) hx hb dX0_kronecker_60 (by decide) ?_
            refine lv_istore (lv' := [(4, .int 1), (0, .ref h0), (1, .long p0), (3, .int p1)]) hx hb dX0_kronecker_61 hl (by decide) rfl (fun ls hl => ?_)
            refine lv_iload_n hx hb dX0_kronecker_63 rfl (lv_at hl 3 rfl) ?_
            refine lv_if_ge (tgt := 72) hx hb dX0_kronecker_64 (by decide) (fun c11 => ?_) (fun c11 => ?_)
            · rw [if_pos c11] at h
              refine lv_iload_n hx hb dX0_kronecker_72 rfl (lv_at hl 3 rfl) ?_
              refine lv_istore (lv' := [(5, .int p1), (4, .int 1), (0, .ref h0), (1, .long p0), (3, .int p1)]) hx hb dX0_kronecker_73 hl (by decide) rfl (fun ls hl => ?_)
              refine lv_iconst (v := 0) hx hb dX0_kronecker_75 (by decide) ?_
              refine lv_istore (lv' := [(6, .int 0), (5, .int p1), (4, .int 1), (0, .ref h0), (1, .long p0), (3, .int p1)]) hx hb dX0_kronecker_76 hl (by decide) rfl (fun ls hl => ?_)
              obtain ⟨x4_12, x5_12, hr12, h⟩ := rf_b2 h
              refine w_r_kronecker_78 F hx hb hml hown hts hA h0 h1 h2 h3 h4 h5 cA hK p0 nu pk dc rc pr ex dv rt sp F 1 p1 0 x4_12 x5_12 hr12 _ _ hP hD hS _ (lv_sub hl [4, 2, 1, 0] rfl) (fun H locs ls hP hD hS hl => ?_)
              refine lv_iload hx hb dX0_kronecker_113 (lv_at hl 1 rfl) ?_
              refine lv_lload_n hx hb dX0_kronecker_115 rfl (lv_at hl 0 rfl) ?_
              refine lv_iload hx hb dX0_kronecker_116 (lv_at hl 2 rfl) ?_
              obtain ⟨r13, hr13, h⟩ := rf_b1 h
              refine rf_ci (wn := (fun _ : Unit => [])) (wc := []) (wr := [(h0, .inr (0, [.int nu, .int pk, .ref h1, .ref h2, .int dc, .ref h3, .int rc, .ref h4, .ref h5])), (h1, .inl (cA, 7, .inl pr)), (h2, .inl (cA, 7, .inl ex)), (h3, .inl (cA, 360, .inl dv)), (h4, .inl (cA, 4096, .inl rt)), (h5, .inl (cA, 4096, .inl sp))]) hP hD hS hA [] [0, 1, 2, 3, 4, 5] rfl rfl (by decide) (by decide) (va_runS (As := [.long p0, .int x5_12]) (rest := [.int x4_12]) ⟨hx, hb, hml, hown, hts⟩ (c_r_jacobi l dC dI _ F p0 x5_12 r13 hr13) (va_cwS 2 hts gX0_kronecker_X0_jacobi rfl rfl rfl (by decide +kernel) ⟨Nat.le_of_ble_eq_true rfl, Nat.le_of_ble_eq_true rfl⟩) ⟨rf_blind, fun U hU hW => ⟨rfl, rf_pre (hP.sub (ws' := []) [] rfl) (hK.sub (tys' := []) [] rfl) (hD.sub (ws' := []) [] (by decide) rfl) U hU hW⟩⟩ rfl rfl hl.1 rfl (lv_room (Nat.le_of_ble_eq_true rfl)) dX0_kronecker_118 ⟨Nat.zero_le _, Nat.zero_le _⟩) (fun r13' u H locs hw hP hD hS => ?_)
              subst hw
              have hP : va_P (dC, dI) vwCl [(h0, .inr (0, [.int nu, .int pk, .ref h1, .ref h2, .int dc, .ref h3, .int rc, .ref h4, .ref h5])), (h1, .inl (cA, 7, .inl pr)), (h2, .inl (cA, 7, .inl ex)), (h3, .inl (cA, 360, .inl dv)), (h4, .inl (cA, 4096, .inl rt)), (h5, .inl (cA, 4096, .inl sp))] H := hP
              have hD : va_D A [(h0, .inr (0, [.int nu, .int pk, .ref h1, .ref h2, .int dc, .ref h3, .int rc, .ref h4, .ref h5])), (h1, .inl (cA, 7, .inl pr)), (h2, .inl (cA, 7, .inl ex)), (h3, .inl (cA, 360, .inl dv)), (h4, .inl (cA, 4096, .inl rt)), (h5, .inl (cA, 4096, .inl sp))] := hD
              refine lv_imul hx hb dX0_kronecker_121 ?_
              cases h
              exact W.iret hx hb hr (fun t ht hW => ⟨⟨_, (), rfl, rfl, by rw [ht]; exact hP, hD⟩, hS.F ht⟩) hS.2.2 dX0_kronecker_122
            · rw [if_neg c11] at h
              refine lv_iload_n hx hb dX0_kronecker_67 rfl (lv_at hl 3 rfl) ?_
              refine lv_ineg hx hb dX0_kronecker_68 ?_
              refine lv_goto (tgt := 73) hx hb dX0_kronecker_69 (by decide) ?_
              refine lv_istore (lv' := [(5, .int (-p1)), (4, .int 1), (0, .ref h0), (1, .long p0), (3, .int p1)]) hx hb dX0_kronecker_73 hl (by decide) rfl (fun ls hl => ?_)
              refine lv_iconst (v := 0) hx hb dX0_kronecker_75 (by decide) ?_
              refine lv_istore (lv' := [(6, .int 0), (5, .int (-p1)), (4, .int 1), (0, .ref h0), (1, .long p0), (3, .int p1)]) hx hb dX0_kronecker_76 hl (by decide) rfl (fun ls hl => ?_)
              obtain ⟨x4_14, x5_14, hr14, h⟩ := rf_b2 h
              refine w_r_kronecker_78 F hx hb hml hown hts hA h0 h1 h2 h3 h4 h5 cA hK p0 nu pk dc rc pr ex dv rt sp F 1 (-p1) 0 x4_14 x5_14 hr14 _ _ hP hD hS _ (lv_sub hl [4, 2, 1, 0] rfl) (fun H locs ls hP hD hS hl => ?_)
              refine lv_iload hx hb dX0_kronecker_113 (lv_at hl 1 rfl) ?_
              refine lv_lload_n hx hb dX0_kronecker_115 rfl (lv_at hl 0 rfl) ?_
              refine lv_iload hx hb dX0_kronecker_116 (lv_at hl 2 rfl) ?_
              obtain ⟨r15, hr15, h⟩ := rf_b1 h
              refine rf_ci (wn := (fun _ : Unit => [])) (wc := []) (wr := [(h0, .inr (0, [.int nu, .int pk, .ref h1, .ref h2, .int dc, .ref h3, .int rc, .ref h4, .ref h5])), (h1, .inl (cA, 7, .inl pr)), (h2, .inl (cA, 7, .inl ex)), (h3, .inl (cA, 360, .inl dv)), (h4, .inl (cA, 4096, .inl rt)), (h5, .inl (cA, 4096, .inl sp))]) hP hD hS hA [] [0, 1, 2, 3, 4, 5] rfl rfl (by decide) (by decide) (va_runS (As := [.long p0, .int x5_14]) (rest := [.int x4_14]) ⟨hx, hb, hml, hown, hts⟩ (c_r_jacobi l dC dI _ F p0 x5_14 r15 hr15) (va_cwS 2 hts gX0_kronecker_X0_jacobi rfl rfl rfl (by decide +kernel) ⟨Nat.le_of_ble_eq_true rfl, Nat.le_of_ble_eq_true rfl⟩) ⟨rf_blind, fun U hU hW => ⟨rfl, rf_pre (hP.sub (ws' := []) [] rfl) (hK.sub (tys' := []) [] rfl) (hD.sub (ws' := []) [] (by decide) rfl) U hU hW⟩⟩ rfl rfl hl.1 rfl (lv_room (Nat.le_of_ble_eq_true rfl)) dX0_kronecker_118 ⟨Nat.zero_le _, Nat.zero_le _⟩) (fun r15' u H locs hw hP hD hS => ?_)
              subst hw
              have hP : va_P (dC, dI) vwCl [(h0, .inr (0, [.int nu, .int pk, .ref h1, .ref h2, .int dc, .ref h3, .int rc, .ref h4, .ref h5])), (h1, .inl (cA, 7, .inl pr)), (h2, .inl (cA, 7, .inl ex)), (h3, .inl (cA, 360, .inl dv)), (h4, .inl (cA, 4096, .inl rt)), (h5, .inl (cA, 4096, .inl sp))] H := hP
              have hD : va_D A [(h0, .inr (0, [.int nu, .int pk, .ref h1, .ref h2, .int dc, .ref h3, .int rc, .ref h4, .ref h5])), (h1, .inl (cA, 7, .inl pr)), (h2, .inl (cA, 7, .inl ex)), (h3, .inl (cA, 360, .inl dv)), (h4, .inl (cA, 4096, .inl rt)), (h5, .inl (cA, 4096, .inl sp))] := hD
              refine lv_imul hx hb dX0_kronecker_121 ?_
              cases h
              exact W.iret hx hb hr (fun t ht hW => ⟨⟨_, (), rfl, rfl, by rw [ht]; exact hP, hD⟩, hS.F ht⟩) hS.2.2 dX0_kronecker_122
          · rw [lg_cmp_ge] at c10
            rw [if_neg c10] at h
            refine lv_iconst (v := (-1)) hx hb dX0_kronecker_56 (by decide) ?_
            refine lv_goto (tgt := 61) hx hb dX0_kronecker_57 (by decide) ?_
            refine lv_istore (lv' := [(4, .int (-1)), (0, .ref h0), (1, .long p0), (3, .int p1)]) hx hb dX0_kronecker_61 hl (by decide) rfl (fun ls hl => ?_)
            refine lv_iload_n hx hb dX0_kronecker_63 rfl (lv_at hl 3 rfl) ?_
            refine lv_if_ge (tgt := 72) hx hb dX0_kronecker_64 (by decide) (fun c16 => ?_) (fun c16 => ?_)
            · rw [if_pos c16] at h
              refine lv_iload_n hx hb dX0_kronecker_72 rfl (lv_at hl 3 rfl) ?_
              refine lv_istore (lv' := [(5, .int p1), (4, .int (-1)), (0, .ref h0), (1, .long p0), (3, .int p1)]) hx hb dX0_kronecker_73 hl (by decide) rfl (fun ls hl => ?_)
              refine lv_iconst (v := 0) hx hb dX0_kronecker_75 (by decide) ?_
              refine lv_istore (lv' := [(6, .int 0), (5, .int p1), (4, .int (-1)), (0, .ref h0), (1, .long p0), (3, .int p1)]) hx hb dX0_kronecker_76 hl (by decide) rfl (fun ls hl => ?_)
              obtain ⟨x4_17, x5_17, hr17, h⟩ := rf_b2 h
              refine w_r_kronecker_78 F hx hb hml hown hts hA h0 h1 h2 h3 h4 h5 cA hK p0 nu pk dc rc pr ex dv rt sp F (-1) p1 0 x4_17 x5_17 hr17 _ _ hP hD hS _ (lv_sub hl [4, 2, 1, 0] rfl) (fun H locs ls hP hD hS hl => ?_)
              refine lv_iload hx hb dX0_kronecker_113 (lv_at hl 1 rfl) ?_
              refine lv_lload_n hx hb dX0_kronecker_115 rfl (lv_at hl 0 rfl) ?_
              refine lv_iload hx hb dX0_kronecker_116 (lv_at hl 2 rfl) ?_
              obtain ⟨r18, hr18, h⟩ := rf_b1 h
              refine rf_ci (wn := (fun _ : Unit => [])) (wc := []) (wr := [(h0, .inr (0, [.int nu, .int pk, .ref h1, .ref h2, .int dc, .ref h3, .int rc, .ref h4, .ref h5])), (h1, .inl (cA, 7, .inl pr)), (h2, .inl (cA, 7, .inl ex)), (h3, .inl (cA, 360, .inl dv)), (h4, .inl (cA, 4096, .inl rt)), (h5, .inl (cA, 4096, .inl sp))]) hP hD hS hA [] [0, 1, 2, 3, 4, 5] rfl rfl (by decide) (by decide) (va_runS (As := [.long p0, .int x5_17]) (rest := [.int x4_17]) ⟨hx, hb, hml, hown, hts⟩ (c_r_jacobi l dC dI _ F p0 x5_17 r18 hr18) (va_cwS 2 hts gX0_kronecker_X0_jacobi rfl rfl rfl (by decide +kernel) ⟨Nat.le_of_ble_eq_true rfl, Nat.le_of_ble_eq_true rfl⟩) ⟨rf_blind, fun U hU hW => ⟨rfl, rf_pre (hP.sub (ws' := []) [] rfl) (hK.sub (tys' := []) [] rfl) (hD.sub (ws' := []) [] (by decide) rfl) U hU hW⟩⟩ rfl rfl hl.1 rfl (lv_room (Nat.le_of_ble_eq_true rfl)) dX0_kronecker_118 ⟨Nat.zero_le _, Nat.zero_le _⟩) (fun r18' u H locs hw hP hD hS => ?_)
              subst hw
              have hP : va_P (dC, dI) vwCl [(h0, .inr (0, [.int nu, .int pk, .ref h1, .ref h2, .int dc, .ref h3, .int rc, .ref h4, .ref h5])), (h1, .inl (cA, 7, .inl pr)), (h2, .inl (cA, 7, .inl ex)), (h3, .inl (cA, 360, .inl dv)), (h4, .inl (cA, 4096, .inl rt)), (h5, .inl (cA, 4096, .inl sp))] H := hP
              have hD : va_D A [(h0, .inr (0, [.int nu, .int pk, .ref h1, .ref h2, .int dc, .ref h3, .int rc, .ref h4, .ref h5])), (h1, .inl (cA, 7, .inl pr)), (h2, .inl (cA, 7, .inl ex)), (h3, .inl (cA, 360, .inl dv)), (h4, .inl (cA, 4096, .inl rt)), (h5, .inl (cA, 4096, .inl sp))] := hD
              refine lv_imul hx hb dX0_kronecker_121 ?_
              cases h
              exact W.iret hx hb hr (fun t ht hW => ⟨⟨_, (), rfl, rfl, by rw [ht]; exact hP, hD⟩, hS.F ht⟩) hS.2.2 dX0_kronecker_122
            · rw [if_neg c16] at h
              refine lv_iload_n hx hb dX0_kronecker_67 rfl (lv_at hl 3 rfl) ?_
              refine lv_ineg hx hb dX0_kronecker_68 ?_
              refine lv_goto (tgt := 73) hx hb dX0_kronecker_69 (by decide) ?_
              refine lv_istore (lv' := [(5, .int (-p1)), (4, .int (-1)), (0, .ref h0), (1, .long p0), (3, .int p1)]) hx hb dX0_kronecker_73 hl (by decide) rfl (fun ls hl => ?_)
              refine lv_iconst (v := 0) hx hb dX0_kronecker_75 (by decide) ?_
              refine lv_istore (lv' := [(6, .int 0), (5, .int (-p1)), (4, .int (-1)), (0, .ref h0), (1, .long p0), (3, .int p1)]) hx hb dX0_kronecker_76 hl (by decide) rfl (fun ls hl => ?_)
              obtain ⟨x4_19, x5_19, hr19, h⟩ := rf_b2 h
              refine w_r_kronecker_78 F hx hb hml hown hts hA h0 h1 h2 h3 h4 h5 cA hK p0 nu pk dc rc pr ex dv rt sp F (-1) (-p1) 0 x4_19 x5_19 hr19 _ _ hP hD hS _ (lv_sub hl [4, 2, 1, 0] rfl) (fun H locs ls hP hD hS hl => ?_)
              refine lv_iload hx hb dX0_kronecker_113 (lv_at hl 1 rfl) ?_
              refine lv_lload_n hx hb dX0_kronecker_115 rfl (lv_at hl 0 rfl) ?_
              refine lv_iload hx hb dX0_kronecker_116 (lv_at hl 2 rfl) ?_
              obtain ⟨r20, hr20, h⟩ := rf_b1 h
              refine rf_ci (wn := (fun _ : Unit => [])) (wc := []) (wr := [(h0, .inr (0, [.int nu, .int pk, .ref h1, .ref h2, .int dc, .ref h3, .int rc, .ref h4, .ref h5])), (h1, .inl (cA, 7, .inl pr)), (h2, .inl (cA, 7, .inl ex)), (h3, .inl (cA, 360, .inl dv)), (h4, .inl (cA, 4096, .inl rt)), (h5, .inl (cA, 4096, .inl sp))]) hP hD hS hA [] [0, 1, 2, 3, 4, 5] rfl rfl (by decide) (by decide) (va_runS (As := [.long p0, .int x5_19]) (rest := [.int x4_19]) ⟨hx, hb, hml, hown, hts⟩ (c_r_jacobi l dC dI _ F p0 x5_19 r20 hr20) (va_cwS 2 hts gX0_kronecker_X0_jacobi rfl rfl rfl (by decide +kernel) ⟨Nat.le_of_ble_eq_true rfl, Nat.le_of_ble_eq_true rfl⟩) ⟨rf_blind, fun U hU hW => ⟨rfl, rf_pre (hP.sub (ws' := []) [] rfl) (hK.sub (tys' := []) [] rfl) (hD.sub (ws' := []) [] (by decide) rfl) U hU hW⟩⟩ rfl rfl hl.1 rfl (lv_room (Nat.le_of_ble_eq_true rfl)) dX0_kronecker_118 ⟨Nat.zero_le _, Nat.zero_le _⟩) (fun r20' u H locs hw hP hD hS => ?_)
              subst hw
              have hP : va_P (dC, dI) vwCl [(h0, .inr (0, [.int nu, .int pk, .ref h1, .ref h2, .int dc, .ref h3, .int rc, .ref h4, .ref h5])), (h1, .inl (cA, 7, .inl pr)), (h2, .inl (cA, 7, .inl ex)), (h3, .inl (cA, 360, .inl dv)), (h4, .inl (cA, 4096, .inl rt)), (h5, .inl (cA, 4096, .inl sp))] H := hP
              have hD : va_D A [(h0, .inr (0, [.int nu, .int pk, .ref h1, .ref h2, .int dc, .ref h3, .int rc, .ref h4, .ref h5])), (h1, .inl (cA, 7, .inl pr)), (h2, .inl (cA, 7, .inl ex)), (h3, .inl (cA, 360, .inl dv)), (h4, .inl (cA, 4096, .inl rt)), (h5, .inl (cA, 4096, .inl sp))] := hD
              refine lv_imul hx hb dX0_kronecker_121 ?_
              cases h
              exact W.iret hx hb hr (fun t ht hW => ⟨⟨_, (), rfl, rfl, by rw [ht]; exact hP, hD⟩, hS.F ht⟩) hS.2.2 dX0_kronecker_122
      · rw [if_pos c3] at h
        refine lv_lload_n hx hb dX0_kronecker_26 rfl (lv_at hl 1 rfl) ?_
        refine lv_lconst (v := 1) hx hb dX0_kronecker_27 (by decide) ?_
        refine W.lcmp hx hb dX0_kronecker_28 ?_
        refine lv_if_eq (tgt := 40) hx hb dX0_kronecker_29 (by decide) (fun c21 => ?_) (fun c21 => ?_)
        · rw [lg_cmp_eq] at c21
          rw [if_pos c21] at h
          refine lv_iconst (v := 1) hx hb dX0_kronecker_40 (by decide) ?_
          refine lv_goto (tgt := 45) hx hb dX0_kronecker_41 (by decide) ?_
          cases h
          exact W.iret hx hb hr (fun t ht hW => ⟨⟨_, (), rfl, rfl, by rw [ht]; exact hP, hD⟩, hS.F ht⟩) hS.2.2 dX0_kronecker_45
        · rw [lg_cmp_eq] at c21
          rw [if_neg c21] at h
          refine lv_lload_n hx hb dX0_kronecker_32 rfl (lv_at hl 1 rfl) ?_
          refine lv_ldc2 (v := (-1)) hx hb hown (hts _ (List.mem_of_getElem? (i := 15) rfl)) dX0_kronecker_33 ?_
          refine W.lcmp hx hb dX0_kronecker_36 ?_
          refine lv_if_ne (tgt := 44) hx hb dX0_kronecker_37 (by decide) (fun c22 => ?_) (fun c22 => ?_)
          · rw [lg_cmp_eq] at c22
            rw [if_neg c22] at h
            refine lv_iconst (v := 0) hx hb dX0_kronecker_44 (by decide) ?_
            cases h
            exact W.iret hx hb hr (fun t ht hW => ⟨⟨_, (), rfl, rfl, by rw [ht]; exact hP, hD⟩, hS.F ht⟩) hS.2.2 dX0_kronecker_45
          · rw [lg_cmp_eq] at c22
            rw [if_pos c22] at h
            refine lv_iconst (v := 1) hx hb dX0_kronecker_40 (by decide) ?_
            refine lv_goto (tgt := 45) hx hb dX0_kronecker_41 (by decide) ?_
            cases h
            exact W.iret hx hb hr (fun t ht hW => ⟨⟨_, (), rfl, rfl, by rw [ht]; exact hP, hD⟩, hS.F ht⟩) hS.2.2 dX0_kronecker_45
    · rw [if_neg c2] at h
      cases h
