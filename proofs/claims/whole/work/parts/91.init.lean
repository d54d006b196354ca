/-! the constructors -/
theorem rf_n0 (n : Nat) (cA : ClassId) : vp_cell cA (n, .inl (fun _ => 0)) = arrV cA n (fun _ => defaultValue .int) := rfl
theorem rf_same {D : va_G} {cl : List vw_C} {a b : ClassId} {U : State} (h : va_K D cl [(a, .int), (b, .int)] U) : a = b := by
  have h1 : U.vm.findClass ("[" ++ FieldType.int.toString) = some a := (h.2 0 _ rfl).2
  have h2 : U.vm.findClass ("[" ++ FieldType.int.toString) = some b := (h.2 1 _ rfl).2
  exact Option.some.inj (h1.symm.trans h2)
abbrev cX0_init : ByteArray := prog_1_method_1_code
def yX0_init : MethodName := ⟨RX0, "<init>", "()V"⟩
theorem dX0_init_0 : decode cX0_init 0 = .ok (.aload_n 0, 1) := by decide +kernel
theorem dX0_init_1 : decode cX0_init 1 = .ok (.invokespecial 1, 3) := by decide +kernel
theorem dX0_init_4 : decode cX0_init 4 = .ok (.aload_n 0, 1) := by decide +kernel
theorem dX0_init_5 : decode cX0_init 5 = .ok (.bipush 7, 2) := by decide +kernel
theorem dX0_init_7 : decode cX0_init 7 = .ok (.newarray .int, 2) := by decide +kernel
theorem dX0_init_9 : decode cX0_init 9 = .ok (.putfield 9, 3) := by decide +kernel
theorem dX0_init_12 : decode cX0_init 12 = .ok (.aload_n 0, 1) := by decide +kernel
theorem dX0_init_13 : decode cX0_init 13 = .ok (.bipush 7, 2) := by decide +kernel
theorem dX0_init_15 : decode cX0_init 15 = .ok (.newarray .int, 2) := by decide +kernel
theorem dX0_init_17 : decode cX0_init 17 = .ok (.putfield 13, 3) := by decide +kernel
theorem dX0_init_20 : decode cX0_init 20 = .ok (.aload_n 0, 1) := by decide +kernel
theorem dX0_init_21 : decode cX0_init 21 = .ok (.sipush 360, 3) := by decide +kernel
theorem dX0_init_24 : decode cX0_init 24 = .ok (.newarray .int, 2) := by decide +kernel
theorem dX0_init_26 : decode cX0_init 26 = .ok (.putfield 16, 3) := by decide +kernel
theorem dX0_init_29 : decode cX0_init 29 = .ok (.aload_n 0, 1) := by decide +kernel
theorem dX0_init_30 : decode cX0_init 30 = .ok (.sipush 4096, 3) := by decide +kernel
theorem dX0_init_33 : decode cX0_init 33 = .ok (.newarray .int, 2) := by decide +kernel
theorem dX0_init_35 : decode cX0_init 35 = .ok (.putfield 19, 3) := by decide +kernel
theorem dX0_init_38 : decode cX0_init 38 = .ok (.aload_n 0, 1) := by decide +kernel
theorem dX0_init_39 : decode cX0_init 39 = .ok (.sipush 4096, 3) := by decide +kernel
theorem dX0_init_42 : decode cX0_init 42 = .ok (.newarray .int, 2) := by decide +kernel
theorem dX0_init_44 : decode cX0_init 44 = .ok (.putfield 22, 3) := by decide +kernel
theorem dX0_init_47 : decode cX0_init 47 = .ok (.aload_n 0, 1) := by decide +kernel
theorem dX0_init_48 : decode cX0_init 48 = .ok (.iconst 1, 1) := by decide +kernel
theorem dX0_init_49 : decode cX0_init 49 = .ok (.putfield 25, 3) := by decide +kernel
theorem dX0_init_52 : decode cX0_init 52 = .ok (.aload_n 0, 1) := by decide +kernel
theorem dX0_init_53 : decode cX0_init 53 = .ok (.iconst 0, 1) := by decide +kernel
theorem dX0_init_54 : decode cX0_init 54 = .ok (.putfield 29, 3) := by decide +kernel
theorem dX0_init_57 : decode cX0_init 57 = .ok (.aload_n 0, 1) := by decide +kernel
theorem dX0_init_58 : decode cX0_init 58 = .ok (.getfield 16, 3) := by decide +kernel
theorem dX0_init_61 : decode cX0_init 61 = .ok (.iconst 0, 1) := by decide +kernel
theorem dX0_init_62 : decode cX0_init 62 = .ok (.iconst 1, 1) := by decide +kernel
theorem dX0_init_63 : decode cX0_init 63 = .ok (.iastore, 1) := by decide +kernel
theorem dX0_init_64 : decode cX0_init 64 = .ok (.aload_n 0, 1) := by decide +kernel
theorem dX0_init_65 : decode cX0_init 65 = .ok (.iconst 1, 1) := by decide +kernel
theorem dX0_init_66 : decode cX0_init 66 = .ok (.putfield 32, 3) := by decide +kernel
theorem dX0_init_69 : decode cX0_init 69 = .ok (.aload_n 0, 1) := by decide +kernel
theorem dX0_init_70 : decode cX0_init 70 = .ok (.iconst 0, 1) := by decide +kernel
theorem dX0_init_71 : decode cX0_init 71 = .ok (.putfield 35, 3) := by decide +kernel
theorem dX0_init_74 : decode cX0_init 74 = .ok (.return_, 1) := by decide +kernel
def wsX0_init : List Cond := .code yX0_init cX0_init 1 none :: (([Cond.methodLink RX0 1 objectInit, Cond.instanceMethod objectInit, Cond.code objectInit ⟨#[0xb1]⟩ 1 none, Cond.arrayClass .int, Cond.fieldLink RX0 9 "RootFinder" "primeRow" "[I", Cond.fieldLink RX0 13 "RootFinder" "exponentRow" "[I", Cond.fieldLink RX0 16 "RootFinder" "divisorRow" "[I", Cond.fieldLink RX0 19 "RootFinder" "rootRow" "[I", Cond.fieldLink RX0 22 "RootFinder" "spareRow" "[I", Cond.fieldLink RX0 25 "RootFinder" "number" "I", Cond.fieldLink RX0 29 "RootFinder" "primeCount" "I", Cond.fieldLink RX0 32 "RootFinder" "divisorCount" "I", Cond.fieldLink RX0 35 "RootFinder" "rootCount" "I"] : List Cond) ++ wsX00)
set_option maxHeartbeats 400000 in
set_option maxRecDepth 100000 in
theorem c_r_init (l : Launch) (dC : Nat → ClassId) (dI : Nat → Nat → Nat) (sz h0 : Nat) (cA : ClassId) : Met l yX0_init wsX0_init { frames := 1, cells := 5, slots := 8566, locals := 12 } (rf_Pc (dC, dI) [(cA, .int)] [(h0, .inr (0, [.int 0, .int 0, .null, .null, .int 0, .null, .int 0, .null, .null]))] sz [.ref h0]) (va_Qv (fun _ : Nat × Nat × Nat × Nat × Nat => True) (fun (u : Nat × Nat × Nat × Nat × Nat) t => va_P (dC, dI) vwCl [(h0, .inr (0, [.int 1, .int 0, .ref u.1, .ref u.2.1, .int 1, .ref u.2.2.1, .int 0, .ref u.2.2.2.1, .ref u.2.2.2.2])), (u.1, .inl (cA, 7, .inl (fun _ => 0))), (u.2.1, .inl (cA, 7, .inl (fun _ => 0))), (u.2.2.1, .inl (cA, 360, .inl (upd (fun _ => 0) (0 : Int32).toNatClampNeg 1))), (u.2.2.2.1, .inl (cA, 4096, .inl (fun _ => 0))), (u.2.2.2.2, .inl (cA, 4096, .inl (fun _ => 0)))] t.heap ∧ va_D (va_A [(h0, .inr (0, [.int 0, .int 0, .null, .null, .int 0, .null, .int 0, .null, .null]))] sz) [(h0, .inr (0, [.int 1, .int 0, .ref u.1, .ref u.2.1, .int 1, .ref u.2.2.1, .int 0, .ref u.2.2.2.1, .ref u.2.2.2.2])), (u.1, .inl (cA, 7, .inl (fun _ => 0))), (u.2.1, .inl (cA, 7, .inl (fun _ => 0))), (u.2.2.1, .inl (cA, 360, .inl (upd (fun _ => 0) (0 : Int32).toNatClampNeg 1))), (u.2.2.2.1, .inl (cA, 4096, .inl (fun _ => 0))), (u.2.2.2.2, .inl (cA, 4096, .inl (fun _ => 0)))]) (va_A [(h0, .inr (0, [.int 0, .int 0, .null, .null, .int 0, .null, .int 0, .null, .null]))] sz)) 5 8566 (va_A [(h0, .inr (0, [.int 0, .int 0, .null, .null, .int 0, .null, .int 0, .null, .null]))] sz) := by
  refine Met.ofW (cc := cX0_init) (maxL := 1) (ret := none) (by decide) rfl ?_
  intro p e s m args below meth c s₁ B hml hv
  obtain ⟨rfl, hsz, hP, hK, hD0⟩ := hv
  have hx := B.exec
  have hb := B.bytes
  have hr := B.returns
  have hts := atoms_spec (ws := wsX0_init) B.pre
  have hown : s.vm.findClass RX0 = some m.cls := findClass_of_methodNamed B.named
  have hlocks := B.notSynchronized
  have hin : meth.name = "<init>" := (name_of_methodNamed B.named B.method).1
  subst hsz
  have hD := hD0.self (sz := s.heap.size)
  generalize hAe : va_A [(h0, .inr (0, [.int 0, .int 0, .null, .null, .int 0, .null, .int 0, .null, .null]))] s.heap.size = A at hD ⊢
  have hA : ∀ q : Nat, s.heap.size ≤ q → A q := fun q h => by rw [← hAe]; exact Or.inr h
  have hS : va_S A s.heap s.heap [] := va_S.rf
  have hl := lv_entry ([.ref h0]) (n := 1) (Nat.le_of_ble_eq_true rfl)
  rw [lg_entry_eq]
  generalize (lg_sl ([.ref h0]) ++ List.replicate (1 - (lg_sl ([.ref h0])).length) Slot.unset).toArray = ls at hl ⊢
  have hl : lv_has ls 1 [(0, .ref h0)] := hl
  refine lv_aload_n hx hb dX0_init_0 rfl (lv_at hl 0 rfl) ?_
  refine W.objInit hx hb hown (hts _ (List.mem_of_getElem? (i := 1) rfl)) (hts _ (List.mem_of_getElem? (i := 2) rfl)) (hts _ (List.mem_of_getElem? (i := 3) rfl)) rfl (by rw [hml]; exact hl.1) rfl dX0_init_1 (Nat.le_of_ble_eq_true rfl) (Nat.le_of_ble_eq_true rfl) ?_
  refine W.eq (g2 := F0 m 4 ls []) rfl ?_
  refine lv_aload_n hx hb dX0_init_4 rfl (lv_at hl 0 rfl) ?_
  refine lv_bipush (v := 7) hx hb dX0_init_5 (by decide) ?_
  refine va_newa (atype := .int) (ty := .int) (N' := 7) (a0 := (7, .inl (fun _ => 0))) hx hb (hts _ (List.mem_of_getElem? (i := 4) rfl)) rfl hK hP hD hS hA (rf_n0 7) (by decide) (by decide) (by decide) (by show (_ : Nat) ≤ 5; omega) (by show (_ : Nat) ≤ 8566; omega) dX0_init_7 (fun q1 cA1 H hK1 hP hD hS => ?_)
  have e1 := rf_same hK1
  subst e1
  have hP : va_P (dC, dI) vwCl [(h0, .inr (0, [.int 0, .int 0, .null, .null, .int 0, .null, .int 0, .null, .null])), (q1, .inl (cA, 7, .inl (fun _ => 0)))] H := hP
  have hD : va_D A [(h0, .inr (0, [.int 0, .int 0, .null, .null, .int 0, .null, .int 0, .null, .null])), (q1, .inl (cA, 7, .inl (fun _ => 0)))] := hD
  refine W.widen (k := 1) (n := 7) (by omega) (by omega) ?_
  refine va_putF (D := (dC, dI)) (ci := 0) (v := .ref q1) (ty := (.array .int)) (C := RX0) (T := TX0) (N := 9) hx hb hts (fun _ h => List.mem_cons_of_mem _ (List.mem_append_right _ h)) tyX0 tyX0_ok nX0 hown hK hP hD hS 0 rfl rfl 2 (by decide) (hts _ (List.mem_of_getElem? (i := 5) rfl)) (fun _ h9 => h9) rfl hin rfl (by decide +kernel) rfl rfl (Nat.le_of_ble_eq_true rfl) dX0_init_9 (fun H locs hP hD hS => ?_)
  have hP : va_P (dC, dI) vwCl [(h0, .inr (0, [.int 0, .int 0, .ref q1, .null, .int 0, .null, .int 0, .null, .null])), (q1, .inl (cA, 7, .inl (fun _ => 0)))] H := hP
  have hD : va_D A [(h0, .inr (0, [.int 0, .int 0, .ref q1, .null, .int 0, .null, .int 0, .null, .null])), (q1, .inl (cA, 7, .inl (fun _ => 0)))] := hD
  refine lv_aload_n hx hb dX0_init_12 rfl (lv_at hl 0 rfl) ?_
  refine lv_bipush (v := 7) hx hb dX0_init_13 (by decide) ?_
  refine va_newa (atype := .int) (ty := .int) (N' := 7) (a0 := (7, .inl (fun _ => 0))) hx hb (hts _ (List.mem_of_getElem? (i := 4) rfl)) rfl hK hP hD hS hA (rf_n0 7) (by decide) (by decide) (by decide) (by show (_ : Nat) ≤ 5; omega) (by show (_ : Nat) ≤ 8566; omega) dX0_init_15 (fun q2 cA2 H hK2 hP hD hS => ?_)
  have e2 := rf_same hK2
  subst e2
  have hP : va_P (dC, dI) vwCl [(h0, .inr (0, [.int 0, .int 0, .ref q1, .null, .int 0, .null, .int 0, .null, .null])), (q1, .inl (cA, 7, .inl (fun _ => 0))), (q2, .inl (cA, 7, .inl (fun _ => 0)))] H := hP
  have hD : va_D A [(h0, .inr (0, [.int 0, .int 0, .ref q1, .null, .int 0, .null, .int 0, .null, .null])), (q1, .inl (cA, 7, .inl (fun _ => 0))), (q2, .inl (cA, 7, .inl (fun _ => 0)))] := hD
  refine W.widen (k := 2) (n := 14) (by omega) (by omega) ?_
  refine va_putF (D := (dC, dI)) (ci := 0) (v := .ref q2) (ty := (.array .int)) (C := RX0) (T := TX0) (N := 9) hx hb hts (fun _ h => List.mem_cons_of_mem _ (List.mem_append_right _ h)) tyX0 tyX0_ok nX0 hown hK hP hD hS 0 rfl rfl 3 (by decide) (hts _ (List.mem_of_getElem? (i := 6) rfl)) (fun _ h9 => h9) rfl hin rfl (by decide +kernel) rfl rfl (Nat.le_of_ble_eq_true rfl) dX0_init_17 (fun H locs hP hD hS => ?_)
  have hP : va_P (dC, dI) vwCl [(h0, .inr (0, [.int 0, .int 0, .ref q1, .ref q2, .int 0, .null, .int 0, .null, .null])), (q1, .inl (cA, 7, .inl (fun _ => 0))), (q2, .inl (cA, 7, .inl (fun _ => 0)))] H := hP
  have hD : va_D A [(h0, .inr (0, [.int 0, .int 0, .ref q1, .ref q2, .int 0, .null, .int 0, .null, .null])), (q1, .inl (cA, 7, .inl (fun _ => 0))), (q2, .inl (cA, 7, .inl (fun _ => 0)))] := hD
  refine lv_aload_n hx hb dX0_init_20 rfl (lv_at hl 0 rfl) ?_
  refine lv_sipush (v := 360) hx hb dX0_init_21 (by decide) ?_
  refine va_newa (atype := .int) (ty := .int) (N' := 360) (a0 := (360, .inl (fun _ => 0))) hx hb (hts _ (List.mem_of_getElem? (i := 4) rfl)) rfl hK hP hD hS hA (rf_n0 360) (by decide) (by decide) (by decide) (by show (_ : Nat) ≤ 5; omega) (by show (_ : Nat) ≤ 8566; omega) dX0_init_24 (fun q3 cA3 H hK3 hP hD hS => ?_)
  have e3 := rf_same hK3
  subst e3
  have hP : va_P (dC, dI) vwCl [(h0, .inr (0, [.int 0, .int 0, .ref q1, .ref q2, .int 0, .null, .int 0, .null, .null])), (q1, .inl (cA, 7, .inl (fun _ => 0))), (q2, .inl (cA, 7, .inl (fun _ => 0))), (q3, .inl (cA, 360, .inl (fun _ => 0)))] H := hP
  have hD : va_D A [(h0, .inr (0, [.int 0, .int 0, .ref q1, .ref q2, .int 0, .null, .int 0, .null, .null])), (q1, .inl (cA, 7, .inl (fun _ => 0))), (q2, .inl (cA, 7, .inl (fun _ => 0))), (q3, .inl (cA, 360, .inl (fun _ => 0)))] := hD
  refine W.widen (k := 3) (n := 374) (by omega) (by omega) ?_
  refine va_putF (D := (dC, dI)) (ci := 0) (v := .ref q3) (ty := (.array .int)) (C := RX0) (T := TX0) (N := 9) hx hb hts (fun _ h => List.mem_cons_of_mem _ (List.mem_append_right _ h)) tyX0 tyX0_ok nX0 hown hK hP hD hS 0 rfl rfl 5 (by decide) (hts _ (List.mem_of_getElem? (i := 7) rfl)) (fun _ h9 => h9) rfl hin rfl (by decide +kernel) rfl rfl (Nat.le_of_ble_eq_true rfl) dX0_init_26 (fun H locs hP hD hS => ?_)
  have hP : va_P (dC, dI) vwCl [(h0, .inr (0, [.int 0, .int 0, .ref q1, .ref q2, .int 0, .ref q3, .int 0, .null, .null])), (q1, .inl (cA, 7, .inl (fun _ => 0))), (q2, .inl (cA, 7, .inl (fun _ => 0))), (q3, .inl (cA, 360, .inl (fun _ => 0)))] H := hP
  have hD : va_D A [(h0, .inr (0, [.int 0, .int 0, .ref q1, .ref q2, .int 0, .ref q3, .int 0, .null, .null])), (q1, .inl (cA, 7, .inl (fun _ => 0))), (q2, .inl (cA, 7, .inl (fun _ => 0))), (q3, .inl (cA, 360, .inl (fun _ => 0)))] := hD
  refine lv_aload_n hx hb dX0_init_29 rfl (lv_at hl 0 rfl) ?_
  refine lv_sipush (v := 4096) hx hb dX0_init_30 (by decide) ?_
  refine va_newa (atype := .int) (ty := .int) (N' := 4096) (a0 := (4096, .inl (fun _ => 0))) hx hb (hts _ (List.mem_of_getElem? (i := 4) rfl)) rfl hK hP hD hS hA (rf_n0 4096) (by decide) (by decide) (by decide) (by show (_ : Nat) ≤ 5; omega) (by show (_ : Nat) ≤ 8566; omega) dX0_init_33 (fun q4 cA4 H hK4 hP hD hS => ?_)
  have e4 := rf_same hK4
  subst e4
  have hP : va_P (dC, dI) vwCl [(h0, .inr (0, [.int 0, .int 0, .ref q1, .ref q2, .int 0, .ref q3, .int 0, .null, .null])), (q1, .inl (cA, 7, .inl (fun _ => 0))), (q2, .inl (cA, 7, .inl (fun _ => 0))), (q3, .inl (cA, 360, .inl (fun _ => 0))), (q4, .inl (cA, 4096, .inl (fun _ => 0)))] H := hP
  have hD : va_D A [(h0, .inr (0, [.int 0, .int 0, .ref q1, .ref q2, .int 0, .ref q3, .int 0, .null, .null])), (q1, .inl (cA, 7, .inl (fun _ => 0))), (q2, .inl (cA, 7, .inl (fun _ => 0))), (q3, .inl (cA, 360, .inl (fun _ => 0))), (q4, .inl (cA, 4096, .inl (fun _ => 0)))] := hD
  refine W.widen (k := 4) (n := 4470) (by omega) (by omega) ?_
  refine va_put (D := (dC, dI)) (ci := 0) (v := .ref q4) (ty := (.array .int)) (C := RX0) (T := TX0) (N := 9) hx hb hts (fun _ h => List.mem_cons_of_mem _ (List.mem_append_right _ h)) tyX0 tyX0_ok nX0 hown hK hP hD hS 0 rfl rfl 7 (by decide) (hts _ (List.mem_of_getElem? (i := 8) rfl)) (fun _ h9 => h9) rfl (by decide +kernel) rfl rfl (Nat.le_of_ble_eq_true rfl) dX0_init_35 (fun H locs hP hD hS => ?_)
  have hP : va_P (dC, dI) vwCl [(h0, .inr (0, [.int 0, .int 0, .ref q1, .ref q2, .int 0, .ref q3, .int 0, .ref q4, .null])), (q1, .inl (cA, 7, .inl (fun _ => 0))), (q2, .inl (cA, 7, .inl (fun _ => 0))), (q3, .inl (cA, 360, .inl (fun _ => 0))), (q4, .inl (cA, 4096, .inl (fun _ => 0)))] H := hP
  have hD : va_D A [(h0, .inr (0, [.int 0, .int 0, .ref q1, .ref q2, .int 0, .ref q3, .int 0, .ref q4, .null])), (q1, .inl (cA, 7, .inl (fun _ => 0))), (q2, .inl (cA, 7, .inl (fun _ => 0))), (q3, .inl (cA, 360, .inl (fun _ => 0))), (q4, .inl (cA, 4096, .inl (fun _ => 0)))] := hD
  refine lv_aload_n hx hb dX0_init_38 rfl (lv_at hl 0 rfl) ?_
  refine lv_sipush (v := 4096) hx hb dX0_init_39 (by decide) ?_
  refine va_newa (atype := .int) (ty := .int) (N' := 4096) (a0 := (4096, .inl (fun _ => 0))) hx hb (hts _ (List.mem_of_getElem? (i := 4) rfl)) rfl hK hP hD hS hA (rf_n0 4096) (by decide) (by decide) (by decide) (by show (_ : Nat) ≤ 5; omega) (by show (_ : Nat) ≤ 8566; omega) dX0_init_42 (fun q5 cA5 H hK5 hP hD hS => ?_)
  have e5 := rf_same hK5
  subst e5
  have hP : va_P (dC, dI) vwCl [(h0, .inr (0, [.int 0, .int 0, .ref q1, .ref q2, .int 0, .ref q3, .int 0, .ref q4, .null])), (q1, .inl (cA, 7, .inl (fun _ => 0))), (q2, .inl (cA, 7, .inl (fun _ => 0))), (q3, .inl (cA, 360, .inl (fun _ => 0))), (q4, .inl (cA, 4096, .inl (fun _ => 0))), (q5, .inl (cA, 4096, .inl (fun _ => 0)))] H := hP
  have hD : va_D A [(h0, .inr (0, [.int 0, .int 0, .ref q1, .ref q2, .int 0, .ref q3, .int 0, .ref q4, .null])), (q1, .inl (cA, 7, .inl (fun _ => 0))), (q2, .inl (cA, 7, .inl (fun _ => 0))), (q3, .inl (cA, 360, .inl (fun _ => 0))), (q4, .inl (cA, 4096, .inl (fun _ => 0))), (q5, .inl (cA, 4096, .inl (fun _ => 0)))] := hD
  refine W.widen (k := 5) (n := 8566) (by omega) (by omega) ?_
  refine va_put (D := (dC, dI)) (ci := 0) (v := .ref q5) (ty := (.array .int)) (C := RX0) (T := TX0) (N := 9) hx hb hts (fun _ h => List.mem_cons_of_mem _ (List.mem_append_right _ h)) tyX0 tyX0_ok nX0 hown hK hP hD hS 0 rfl rfl 8 (by decide) (hts _ (List.mem_of_getElem? (i := 9) rfl)) (fun _ h9 => h9) rfl (by decide +kernel) rfl rfl (Nat.le_of_ble_eq_true rfl) dX0_init_44 (fun H locs hP hD hS => ?_)
  have hP : va_P (dC, dI) vwCl [(h0, .inr (0, [.int 0, .int 0, .ref q1, .ref q2, .int 0, .ref q3, .int 0, .ref q4, .ref q5])), (q1, .inl (cA, 7, .inl (fun _ => 0))), (q2, .inl (cA, 7, .inl (fun _ => 0))), (q3, .inl (cA, 360, .inl (fun _ => 0))), (q4, .inl (cA, 4096, .inl (fun _ => 0))), (q5, .inl (cA, 4096, .inl (fun _ => 0)))] H := hP
  have hD : va_D A [(h0, .inr (0, [.int 0, .int 0, .ref q1, .ref q2, .int 0, .ref q3, .int 0, .ref q4, .ref q5])), (q1, .inl (cA, 7, .inl (fun _ => 0))), (q2, .inl (cA, 7, .inl (fun _ => 0))), (q3, .inl (cA, 360, .inl (fun _ => 0))), (q4, .inl (cA, 4096, .inl (fun _ => 0))), (q5, .inl (cA, 4096, .inl (fun _ => 0)))] := hD
  refine lv_aload_n hx hb dX0_init_47 rfl (lv_at hl 0 rfl) ?_
  refine lv_iconst (v := 1) hx hb dX0_init_48 (by decide) ?_
  refine va_put (D := (dC, dI)) (ci := 0) (v := .int 1) (ty := .int) (C := RX0) (T := TX0) (N := 9) hx hb hts (fun _ h => List.mem_cons_of_mem _ (List.mem_append_right _ h)) tyX0 tyX0_ok nX0 hown hK hP hD hS 0 rfl rfl 0 (by decide) (hts _ (List.mem_of_getElem? (i := 10) rfl)) (fun _ h9 => h9) rfl (by decide +kernel) rfl rfl (Nat.le_of_ble_eq_true rfl) dX0_init_49 (fun H locs hP hD hS => ?_)
  have hP : va_P (dC, dI) vwCl [(h0, .inr (0, [.int 1, .int 0, .ref q1, .ref q2, .int 0, .ref q3, .int 0, .ref q4, .ref q5])), (q1, .inl (cA, 7, .inl (fun _ => 0))), (q2, .inl (cA, 7, .inl (fun _ => 0))), (q3, .inl (cA, 360, .inl (fun _ => 0))), (q4, .inl (cA, 4096, .inl (fun _ => 0))), (q5, .inl (cA, 4096, .inl (fun _ => 0)))] H := hP
  have hD : va_D A [(h0, .inr (0, [.int 1, .int 0, .ref q1, .ref q2, .int 0, .ref q3, .int 0, .ref q4, .ref q5])), (q1, .inl (cA, 7, .inl (fun _ => 0))), (q2, .inl (cA, 7, .inl (fun _ => 0))), (q3, .inl (cA, 360, .inl (fun _ => 0))), (q4, .inl (cA, 4096, .inl (fun _ => 0))), (q5, .inl (cA, 4096, .inl (fun _ => 0)))] := hD
  refine lv_aload_n hx hb dX0_init_52 rfl (lv_at hl 0 rfl) ?_
  refine lv_iconst (v := 0) hx hb dX0_init_53 (by decide) ?_
  refine va_put (D := (dC, dI)) (ci := 0) (v := .int 0) (ty := .int) (C := RX0) (T := TX0) (N := 9) hx hb hts (fun _ h => List.mem_cons_of_mem _ (List.mem_append_right _ h)) tyX0 tyX0_ok nX0 hown hK hP hD hS 0 rfl rfl 1 (by decide) (hts _ (List.mem_of_getElem? (i := 11) rfl)) (fun _ h9 => h9) rfl (by decide +kernel) rfl rfl (Nat.le_of_ble_eq_true rfl) dX0_init_54 (fun H locs hP hD hS => ?_)
  have hP : va_P (dC, dI) vwCl [(h0, .inr (0, [.int 1, .int 0, .ref q1, .ref q2, .int 0, .ref q3, .int 0, .ref q4, .ref q5])), (q1, .inl (cA, 7, .inl (fun _ => 0))), (q2, .inl (cA, 7, .inl (fun _ => 0))), (q3, .inl (cA, 360, .inl (fun _ => 0))), (q4, .inl (cA, 4096, .inl (fun _ => 0))), (q5, .inl (cA, 4096, .inl (fun _ => 0)))] H := hP
  have hD : va_D A [(h0, .inr (0, [.int 1, .int 0, .ref q1, .ref q2, .int 0, .ref q3, .int 0, .ref q4, .ref q5])), (q1, .inl (cA, 7, .inl (fun _ => 0))), (q2, .inl (cA, 7, .inl (fun _ => 0))), (q3, .inl (cA, 360, .inl (fun _ => 0))), (q4, .inl (cA, 4096, .inl (fun _ => 0))), (q5, .inl (cA, 4096, .inl (fun _ => 0)))] := hD
  refine lv_aload_n hx hb dX0_init_57 rfl (lv_at hl 0 rfl) ?_
  refine va_get (D := (dC, dI)) (ci := 0) (v := .ref q3) (C := RX0) (T := TX0) (N := 9) hx hb hts (fun _ h => List.mem_cons_of_mem _ (List.mem_append_right _ h)) hown hK hP 0 rfl rfl 5 (by decide) (hts _ (List.mem_of_getElem? (i := 7) rfl)) (fun _ h9 => h9) rfl dX0_init_58 ?_
  refine lv_iconst (v := 0) hx hb dX0_init_61 (by decide) ?_
  refine lv_iconst (v := 1) hx hb dX0_init_62 (by decide) ?_
  refine va_iast hx hb hK hP hD hS 3 0 rfl rfl (i := 0) (x := 1) (vp_in_iff.mpr ⟨by decide, by decide⟩) dX0_init_63 (fun H locs hP hD hS => ?_)
  have hP : va_P (dC, dI) vwCl [(h0, .inr (0, [.int 1, .int 0, .ref q1, .ref q2, .int 0, .ref q3, .int 0, .ref q4, .ref q5])), (q1, .inl (cA, 7, .inl (fun _ => 0))), (q2, .inl (cA, 7, .inl (fun _ => 0))), (q3, .inl (cA, 360, .inl (upd (fun _ => 0) (0 : Int32).toNatClampNeg 1))), (q4, .inl (cA, 4096, .inl (fun _ => 0))), (q5, .inl (cA, 4096, .inl (fun _ => 0)))] H := hP
  have hD : va_D A [(h0, .inr (0, [.int 1, .int 0, .ref q1, .ref q2, .int 0, .ref q3, .int 0, .ref q4, .ref q5])), (q1, .inl (cA, 7, .inl (fun _ => 0))), (q2, .inl (cA, 7, .inl (fun _ => 0))), (q3, .inl (cA, 360, .inl (upd (fun _ => 0) (0 : Int32).toNatClampNeg 1))), (q4, .inl (cA, 4096, .inl (fun _ => 0))), (q5, .inl (cA, 4096, .inl (fun _ => 0)))] := hD
  refine lv_aload_n hx hb dX0_init_64 rfl (lv_at hl 0 rfl) ?_
  refine lv_iconst (v := 1) hx hb dX0_init_65 (by decide) ?_
  refine va_put (D := (dC, dI)) (ci := 0) (v := .int 1) (ty := .int) (C := RX0) (T := TX0) (N := 9) hx hb hts (fun _ h => List.mem_cons_of_mem _ (List.mem_append_right _ h)) tyX0 tyX0_ok nX0 hown hK hP hD hS 0 rfl rfl 4 (by decide) (hts _ (List.mem_of_getElem? (i := 12) rfl)) (fun _ h9 => h9) rfl (by decide +kernel) rfl rfl (Nat.le_of_ble_eq_true rfl) dX0_init_66 (fun H locs hP hD hS => ?_)
  have hP : va_P (dC, dI) vwCl [(h0, .inr (0, [.int 1, .int 0, .ref q1, .ref q2, .int 1, .ref q3, .int 0, .ref q4, .ref q5])), (q1, .inl (cA, 7, .inl (fun _ => 0))), (q2, .inl (cA, 7, .inl (fun _ => 0))), (q3, .inl (cA, 360, .inl (upd (fun _ => 0) (0 : Int32).toNatClampNeg 1))), (q4, .inl (cA, 4096, .inl (fun _ => 0))), (q5, .inl (cA, 4096, .inl (fun _ => 0)))] H := hP
  have hD : va_D A [(h0, .inr (0, [.int 1, .int 0, .ref q1, .ref q2, .int 1, .ref q3, .int 0, .ref q4, .ref q5])), (q1, .inl (cA, 7, .inl (fun _ => 0))), (q2, .inl (cA, 7, .inl (fun _ => 0))), (q3, .inl (cA, 360, .inl (upd (fun _ => 0) (0 : Int32).toNatClampNeg 1))), (q4, .inl (cA, 4096, .inl (fun _ => 0))), (q5, .inl (cA, 4096, .inl (fun _ => 0)))] := hD
  refine lv_aload_n hx hb dX0_init_69 rfl (lv_at hl 0 rfl) ?_
  refine lv_iconst (v := 0) hx hb dX0_init_70 (by decide) ?_
  refine va_put (D := (dC, dI)) (ci := 0) (v := .int 0) (ty := .int) (C := RX0) (T := TX0) (N := 9) hx hb hts (fun _ h => List.mem_cons_of_mem _ (List.mem_append_right _ h)) tyX0 tyX0_ok nX0 hown hK hP hD hS 0 rfl rfl 6 (by decide) (hts _ (List.mem_of_getElem? (i := 13) rfl)) (fun _ h9 => h9) rfl (by decide +kernel) rfl rfl (Nat.le_of_ble_eq_true rfl) dX0_init_71 (fun H locs hP hD hS => ?_)
  have hP : va_P (dC, dI) vwCl [(h0, .inr (0, [.int 1, .int 0, .ref q1, .ref q2, .int 1, .ref q3, .int 0, .ref q4, .ref q5])), (q1, .inl (cA, 7, .inl (fun _ => 0))), (q2, .inl (cA, 7, .inl (fun _ => 0))), (q3, .inl (cA, 360, .inl (upd (fun _ => 0) (0 : Int32).toNatClampNeg 1))), (q4, .inl (cA, 4096, .inl (fun _ => 0))), (q5, .inl (cA, 4096, .inl (fun _ => 0)))] H := hP
  have hD : va_D A [(h0, .inr (0, [.int 1, .int 0, .ref q1, .ref q2, .int 1, .ref q3, .int 0, .ref q4, .ref q5])), (q1, .inl (cA, 7, .inl (fun _ => 0))), (q2, .inl (cA, 7, .inl (fun _ => 0))), (q3, .inl (cA, 360, .inl (upd (fun _ => 0) (0 : Int32).toNatClampNeg 1))), (q4, .inl (cA, 4096, .inl (fun _ => 0))), (q5, .inl (cA, 4096, .inl (fun _ => 0)))] := hD
  exact W.vret hx hb hr (fun t ht hW => ⟨⟨(q1, q2, q3, q4, q5), rfl, trivial, by rw [ht]; exact hP, hD⟩, hS.F ht⟩) hS.2.2 dX0_init_74
abbrev cX1_init : ByteArray := prog_3_method_1_code
def yX1_init : MethodName := ⟨RX1, "<init>", "()V"⟩
theorem dX1_init_0 : decode cX1_init 0 = .ok (.aload_n 0, 1) := by decide +kernel
theorem dX1_init_1 : decode cX1_init 1 = .ok (.invokespecial 1, 3) := by decide +kernel
theorem dX1_init_4 : decode cX1_init 4 = .ok (.aload_n 0, 1) := by decide +kernel
theorem dX1_init_5 : decode cX1_init 5 = .ok (.iconst 1, 1) := by decide +kernel
theorem dX1_init_6 : decode cX1_init 6 = .ok (.putfield 7, 3) := by decide +kernel
theorem dX1_init_9 : decode cX1_init 9 = .ok (.aload_n 0, 1) := by decide +kernel
theorem dX1_init_10 : decode cX1_init 10 = .ok (.iconst 1, 1) := by decide +kernel
theorem dX1_init_11 : decode cX1_init 11 = .ok (.putfield 13, 3) := by decide +kernel
theorem dX1_init_14 : decode cX1_init 14 = .ok (.aload_n 0, 1) := by decide +kernel
theorem dX1_init_15 : decode cX1_init 15 = .ok (.sipush 400, 3) := by decide +kernel
theorem dX1_init_18 : decode cX1_init 18 = .ok (.newarray .int, 2) := by decide +kernel
theorem dX1_init_20 : decode cX1_init 20 = .ok (.putfield 16, 3) := by decide +kernel
theorem dX1_init_23 : decode cX1_init 23 = .ok (.aload_n 0, 1) := by decide +kernel
theorem dX1_init_24 : decode cX1_init 24 = .ok (.bipush 8, 2) := by decide +kernel
theorem dX1_init_26 : decode cX1_init 26 = .ok (.newarray .int, 2) := by decide +kernel
theorem dX1_init_28 : decode cX1_init 28 = .ok (.putfield 20, 3) := by decide +kernel
theorem dX1_init_31 : decode cX1_init 31 = .ok (.aload_n 0, 1) := by decide +kernel
theorem dX1_init_32 : decode cX1_init 32 = .ok (.bipush 8, 2) := by decide +kernel
theorem dX1_init_34 : decode cX1_init 34 = .ok (.newarray .int, 2) := by decide +kernel
theorem dX1_init_36 : decode cX1_init 36 = .ok (.putfield 23, 3) := by decide +kernel
theorem dX1_init_39 : decode cX1_init 39 = .ok (.aload_n 0, 1) := by decide +kernel
theorem dX1_init_40 : decode cX1_init 40 = .ok (.sipush 4096, 3) := by decide +kernel
theorem dX1_init_43 : decode cX1_init 43 = .ok (.newarray .int, 2) := by decide +kernel
theorem dX1_init_45 : decode cX1_init 45 = .ok (.putfield 26, 3) := by decide +kernel
theorem dX1_init_48 : decode cX1_init 48 = .ok (.aload_n 0, 1) := by decide +kernel
theorem dX1_init_49 : decode cX1_init 49 = .ok (.getfield 16, 3) := by decide +kernel
theorem dX1_init_52 : decode cX1_init 52 = .ok (.iconst 0, 1) := by decide +kernel
theorem dX1_init_53 : decode cX1_init 53 = .ok (.iconst 1, 1) := by decide +kernel
theorem dX1_init_54 : decode cX1_init 54 = .ok (.iastore, 1) := by decide +kernel
theorem dX1_init_55 : decode cX1_init 55 = .ok (.return_, 1) := by decide +kernel
def wsX1_init : List Cond := .code yX1_init cX1_init 1 none :: (([Cond.methodLink RX1 1 objectInit, Cond.instanceMethod objectInit, Cond.code objectInit ⟨#[0xb1]⟩ 1 none, Cond.arrayClass .int, Cond.fieldLink RX1 7 "RootFinderModel" "n" "I", Cond.fieldLink RX1 13 "RootFinderModel" "divisors" "I", Cond.fieldLink RX1 16 "RootFinderModel" "divisor" "[I", Cond.fieldLink RX1 20 "RootFinderModel" "prime" "[I", Cond.fieldLink RX1 23 "RootFinderModel" "exponent" "[I", Cond.fieldLink RX1 26 "RootFinderModel" "rootsFound" "[I"] : List Cond) ++ wsX10)
set_option maxHeartbeats 400000 in
set_option maxRecDepth 100000 in
theorem c_m_init (l : Launch) (dC : Nat → ClassId) (dI : Nat → Nat → Nat) (sz h0 : Nat) (cA : ClassId) : Met l yX1_init wsX1_init { frames := 1, cells := 4, slots := 4512, locals := 12 } (rf_Pc (dC, dI) [(cA, .int)] [(h0, .inr (1, [.int 0, .int 0, .int 0, .null, .int 0, .null, .null, .int 0, .null]))] sz [.ref h0]) (va_Qv (fun _ : Nat × Nat × Nat × Nat => True) (fun (u : Nat × Nat × Nat × Nat) t => va_P (dC, dI) vwCl [(h0, .inr (1, [.int 0, .int 1, .int 1, .ref u.1, .int 0, .ref u.2.1, .ref u.2.2.1, .int 0, .ref u.2.2.2])), (u.1, .inl (cA, 400, .inl (upd (fun _ => 0) (0 : Int32).toNatClampNeg 1))), (u.2.1, .inl (cA, 8, .inl (fun _ => 0))), (u.2.2.1, .inl (cA, 8, .inl (fun _ => 0))), (u.2.2.2, .inl (cA, 4096, .inl (fun _ => 0)))] t.heap ∧ va_D (va_A [(h0, .inr (1, [.int 0, .int 0, .int 0, .null, .int 0, .null, .null, .int 0, .null]))] sz) [(h0, .inr (1, [.int 0, .int 1, .int 1, .ref u.1, .int 0, .ref u.2.1, .ref u.2.2.1, .int 0, .ref u.2.2.2])), (u.1, .inl (cA, 400, .inl (upd (fun _ => 0) (0 : Int32).toNatClampNeg 1))), (u.2.1, .inl (cA, 8, .inl (fun _ => 0))), (u.2.2.1, .inl (cA, 8, .inl (fun _ => 0))), (u.2.2.2, .inl (cA, 4096, .inl (fun _ => 0)))]) (va_A [(h0, .inr (1, [.int 0, .int 0, .int 0, .null, .int 0, .null, .null, .int 0, .null]))] sz)) 4 4512 (va_A [(h0, .inr (1, [.int 0, .int 0, .int 0, .null, .int 0, .null, .null, .int 0, .null]))] sz) := by
  refine Met.ofW (cc := cX1_init) (maxL := 1) (ret := none) (by decide) rfl ?_
  intro p e s m args below meth c s₁ B hml hv
  obtain ⟨rfl, hsz, hP, hK, hD0⟩ := hv
  have hx := B.exec
  have hb := B.bytes
  have hr := B.returns
  have hts := atoms_spec (ws := wsX1_init) B.pre
  have hown : s.vm.findClass RX1 = some m.cls := findClass_of_methodNamed B.named
  have hlocks := B.notSynchronized
  have hin : meth.name = "<init>" := (name_of_methodNamed B.named B.method).1
  subst hsz
  have hD := hD0.self (sz := s.heap.size)
  generalize hAe : va_A [(h0, .inr (1, [.int 0, .int 0, .int 0, .null, .int 0, .null, .null, .int 0, .null]))] s.heap.size = A at hD ⊢
  have hA : ∀ q : Nat, s.heap.size ≤ q → A q := fun q h => by rw [← hAe]; exact Or.inr h
  have hS : va_S A s.heap s.heap [] := va_S.rf
  have hl := lv_entry ([.ref h0]) (n := 1) (Nat.le_of_ble_eq_true rfl)
  rw [lg_entry_eq]
  generalize (lg_sl ([.ref h0]) ++ List.replicate (1 - (lg_sl ([.ref h0])).length) Slot.unset).toArray = ls at hl ⊢
  have hl : lv_has ls 1 [(0, .ref h0)] := hl
  refine lv_aload_n hx hb dX1_init_0 rfl (lv_at hl 0 rfl) ?_
  refine W.objInit hx hb hown (hts _ (List.mem_of_getElem? (i := 1) rfl)) (hts _ (List.mem_of_getElem? (i := 2) rfl)) (hts _ (List.mem_of_getElem? (i := 3) rfl)) rfl (by rw [hml]; exact hl.1) rfl dX1_init_1 (Nat.le_of_ble_eq_true rfl) (Nat.le_of_ble_eq_true rfl) ?_
  refine W.eq (g2 := F0 m 4 ls []) rfl ?_
  refine lv_aload_n hx hb dX1_init_4 rfl (lv_at hl 0 rfl) ?_
  refine lv_iconst (v := 1) hx hb dX1_init_5 (by decide) ?_
  refine va_put (D := (dC, dI)) (ci := 1) (v := .int 1) (ty := .int) (C := RX1) (T := TX1) (N := 9) hx hb hts (fun _ h => List.mem_cons_of_mem _ (List.mem_append_right _ h)) tyX1 tyX1_ok nX1 hown hK hP hD hS 0 rfl rfl 1 (by decide) (hts _ (List.mem_of_getElem? (i := 5) rfl)) (fun _ h9 => h9) rfl (by decide +kernel) rfl rfl (Nat.le_of_ble_eq_true rfl) dX1_init_6 (fun H locs hP hD hS => ?_)
  have hP : va_P (dC, dI) vwCl [(h0, .inr (1, [.int 0, .int 1, .int 0, .null, .int 0, .null, .null, .int 0, .null]))] H := hP
  have hD : va_D A [(h0, .inr (1, [.int 0, .int 1, .int 0, .null, .int 0, .null, .null, .int 0, .null]))] := hD
  refine lv_aload_n hx hb dX1_init_9 rfl (lv_at hl 0 rfl) ?_
  refine lv_iconst (v := 1) hx hb dX1_init_10 (by decide) ?_
  refine va_put (D := (dC, dI)) (ci := 1) (v := .int 1) (ty := .int) (C := RX1) (T := TX1) (N := 9) hx hb hts (fun _ h => List.mem_cons_of_mem _ (List.mem_append_right _ h)) tyX1 tyX1_ok nX1 hown hK hP hD hS 0 rfl rfl 2 (by decide) (hts _ (List.mem_of_getElem? (i := 6) rfl)) (fun _ h9 => h9) rfl (by decide +kernel) rfl rfl (Nat.le_of_ble_eq_true rfl) dX1_init_11 (fun H locs hP hD hS => ?_)
  have hP : va_P (dC, dI) vwCl [(h0, .inr (1, [.int 0, .int 1, .int 1, .null, .int 0, .null, .null, .int 0, .null]))] H := hP
  have hD : va_D A [(h0, .inr (1, [.int 0, .int 1, .int 1, .null, .int 0, .null, .null, .int 0, .null]))] := hD
  refine lv_aload_n hx hb dX1_init_14 rfl (lv_at hl 0 rfl) ?_
  refine lv_sipush (v := 400) hx hb dX1_init_15 (by decide) ?_
  refine va_newa (atype := .int) (ty := .int) (N' := 400) (a0 := (400, .inl (fun _ => 0))) hx hb (hts _ (List.mem_of_getElem? (i := 4) rfl)) rfl hK hP hD hS hA (rf_n0 400) (by decide) (by decide) (by decide) (by show (_ : Nat) ≤ 4; omega) (by show (_ : Nat) ≤ 4512; omega) dX1_init_18 (fun q1 cA1 H hK1 hP hD hS => ?_)
  have e1 := rf_same hK1
  subst e1
  have hP : va_P (dC, dI) vwCl [(h0, .inr (1, [.int 0, .int 1, .int 1, .null, .int 0, .null, .null, .int 0, .null])), (q1, .inl (cA, 400, .inl (fun _ => 0)))] H := hP
  have hD : va_D A [(h0, .inr (1, [.int 0, .int 1, .int 1, .null, .int 0, .null, .null, .int 0, .null])), (q1, .inl (cA, 400, .inl (fun _ => 0)))] := hD
  refine W.widen (k := 1) (n := 400) (by omega) (by omega) ?_
  refine va_putF (D := (dC, dI)) (ci := 1) (v := .ref q1) (ty := (.array .int)) (C := RX1) (T := TX1) (N := 9) hx hb hts (fun _ h => List.mem_cons_of_mem _ (List.mem_append_right _ h)) tyX1 tyX1_ok nX1 hown hK hP hD hS 0 rfl rfl 3 (by decide) (hts _ (List.mem_of_getElem? (i := 7) rfl)) (fun _ h9 => h9) rfl hin rfl (by decide +kernel) rfl rfl (Nat.le_of_ble_eq_true rfl) dX1_init_20 (fun H locs hP hD hS => ?_)
  have hP : va_P (dC, dI) vwCl [(h0, .inr (1, [.int 0, .int 1, .int 1, .ref q1, .int 0, .null, .null, .int 0, .null])), (q1, .inl (cA, 400, .inl (fun _ => 0)))] H := hP
  have hD : va_D A [(h0, .inr (1, [.int 0, .int 1, .int 1, .ref q1, .int 0, .null, .null, .int 0, .null])), (q1, .inl (cA, 400, .inl (fun _ => 0)))] := hD
  refine lv_aload_n hx hb dX1_init_23 rfl (lv_at hl 0 rfl) ?_
  refine lv_bipush (v := 8) hx hb dX1_init_24 (by decide) ?_
  refine va_newa (atype := .int) (ty := .int) (N' := 8) (a0 := (8, .inl (fun _ => 0))) hx hb (hts _ (List.mem_of_getElem? (i := 4) rfl)) rfl hK hP hD hS hA (rf_n0 8) (by decide) (by decide) (by decide) (by show (_ : Nat) ≤ 4; omega) (by show (_ : Nat) ≤ 4512; omega) dX1_init_26 (fun q2 cA2 H hK2 hP hD hS => ?_)
  have e2 := rf_same hK2
  subst e2
  have hP : va_P (dC, dI) vwCl [(h0, .inr (1, [.int 0, .int 1, .int 1, .ref q1, .int 0, .null, .null, .int 0, .null])), (q1, .inl (cA, 400, .inl (fun _ => 0))), (q2, .inl (cA, 8, .inl (fun _ => 0)))] H := hP
  have hD : va_D A [(h0, .inr (1, [.int 0, .int 1, .int 1, .ref q1, .int 0, .null, .null, .int 0, .null])), (q1, .inl (cA, 400, .inl (fun _ => 0))), (q2, .inl (cA, 8, .inl (fun _ => 0)))] := hD
  refine W.widen (k := 2) (n := 408) (by omega) (by omega) ?_
  refine va_putF (D := (dC, dI)) (ci := 1) (v := .ref q2) (ty := (.array .int)) (C := RX1) (T := TX1) (N := 9) hx hb hts (fun _ h => List.mem_cons_of_mem _ (List.mem_append_right _ h)) tyX1 tyX1_ok nX1 hown hK hP hD hS 0 rfl rfl 5 (by decide) (hts _ (List.mem_of_getElem? (i := 8) rfl)) (fun _ h9 => h9) rfl hin rfl (by decide +kernel) rfl rfl (Nat.le_of_ble_eq_true rfl) dX1_init_28 (fun H locs hP hD hS => ?_)
  have hP : va_P (dC, dI) vwCl [(h0, .inr (1, [.int 0, .int 1, .int 1, .ref q1, .int 0, .ref q2, .null, .int 0, .null])), (q1, .inl (cA, 400, .inl (fun _ => 0))), (q2, .inl (cA, 8, .inl (fun _ => 0)))] H := hP
  have hD : va_D A [(h0, .inr (1, [.int 0, .int 1, .int 1, .ref q1, .int 0, .ref q2, .null, .int 0, .null])), (q1, .inl (cA, 400, .inl (fun _ => 0))), (q2, .inl (cA, 8, .inl (fun _ => 0)))] := hD
  refine lv_aload_n hx hb dX1_init_31 rfl (lv_at hl 0 rfl) ?_
  refine lv_bipush (v := 8) hx hb dX1_init_32 (by decide) ?_
  refine va_newa (atype := .int) (ty := .int) (N' := 8) (a0 := (8, .inl (fun _ => 0))) hx hb (hts _ (List.mem_of_getElem? (i := 4) rfl)) rfl hK hP hD hS hA (rf_n0 8) (by decide) (by decide) (by decide) (by show (_ : Nat) ≤ 4; omega) (by show (_ : Nat) ≤ 4512; omega) dX1_init_34 (fun q3 cA3 H hK3 hP hD hS => ?_)
  have e3 := rf_same hK3
  subst e3
  have hP : va_P (dC, dI) vwCl [(h0, .inr (1, [.int 0, .int 1, .int 1, .ref q1, .int 0, .ref q2, .null, .int 0, .null])), (q1, .inl (cA, 400, .inl (fun _ => 0))), (q2, .inl (cA, 8, .inl (fun _ => 0))), (q3, .inl (cA, 8, .inl (fun _ => 0)))] H := hP
  have hD : va_D A [(h0, .inr (1, [.int 0, .int 1, .int 1, .ref q1, .int 0, .ref q2, .null, .int 0, .null])), (q1, .inl (cA, 400, .inl (fun _ => 0))), (q2, .inl (cA, 8, .inl (fun _ => 0))), (q3, .inl (cA, 8, .inl (fun _ => 0)))] := hD
  refine W.widen (k := 3) (n := 416) (by omega) (by omega) ?_
  refine va_putF (D := (dC, dI)) (ci := 1) (v := .ref q3) (ty := (.array .int)) (C := RX1) (T := TX1) (N := 9) hx hb hts (fun _ h => List.mem_cons_of_mem _ (List.mem_append_right _ h)) tyX1 tyX1_ok nX1 hown hK hP hD hS 0 rfl rfl 6 (by decide) (hts _ (List.mem_of_getElem? (i := 9) rfl)) (fun _ h9 => h9) rfl hin rfl (by decide +kernel) rfl rfl (Nat.le_of_ble_eq_true rfl) dX1_init_36 (fun H locs hP hD hS => ?_)
  have hP : va_P (dC, dI) vwCl [(h0, .inr (1, [.int 0, .int 1, .int 1, .ref q1, .int 0, .ref q2, .ref q3, .int 0, .null])), (q1, .inl (cA, 400, .inl (fun _ => 0))), (q2, .inl (cA, 8, .inl (fun _ => 0))), (q3, .inl (cA, 8, .inl (fun _ => 0)))] H := hP
  have hD : va_D A [(h0, .inr (1, [.int 0, .int 1, .int 1, .ref q1, .int 0, .ref q2, .ref q3, .int 0, .null])), (q1, .inl (cA, 400, .inl (fun _ => 0))), (q2, .inl (cA, 8, .inl (fun _ => 0))), (q3, .inl (cA, 8, .inl (fun _ => 0)))] := hD
  refine lv_aload_n hx hb dX1_init_39 rfl (lv_at hl 0 rfl) ?_
  refine lv_sipush (v := 4096) hx hb dX1_init_40 (by decide) ?_
  refine va_newa (atype := .int) (ty := .int) (N' := 4096) (a0 := (4096, .inl (fun _ => 0))) hx hb (hts _ (List.mem_of_getElem? (i := 4) rfl)) rfl hK hP hD hS hA (rf_n0 4096) (by decide) (by decide) (by decide) (by show (_ : Nat) ≤ 4; omega) (by show (_ : Nat) ≤ 4512; omega) dX1_init_43 (fun q4 cA4 H hK4 hP hD hS => ?_)
  have e4 := rf_same hK4
  subst e4
  have hP : va_P (dC, dI) vwCl [(h0, .inr (1, [.int 0, .int 1, .int 1, .ref q1, .int 0, .ref q2, .ref q3, .int 0, .null])), (q1, .inl (cA, 400, .inl (fun _ => 0))), (q2, .inl (cA, 8, .inl (fun _ => 0))), (q3, .inl (cA, 8, .inl (fun _ => 0))), (q4, .inl (cA, 4096, .inl (fun _ => 0)))] H := hP
  have hD : va_D A [(h0, .inr (1, [.int 0, .int 1, .int 1, .ref q1, .int 0, .ref q2, .ref q3, .int 0, .null])), (q1, .inl (cA, 400, .inl (fun _ => 0))), (q2, .inl (cA, 8, .inl (fun _ => 0))), (q3, .inl (cA, 8, .inl (fun _ => 0))), (q4, .inl (cA, 4096, .inl (fun _ => 0)))] := hD
  refine W.widen (k := 4) (n := 4512) (by omega) (by omega) ?_
  refine va_putF (D := (dC, dI)) (ci := 1) (v := .ref q4) (ty := (.array .int)) (C := RX1) (T := TX1) (N := 9) hx hb hts (fun _ h => List.mem_cons_of_mem _ (List.mem_append_right _ h)) tyX1 tyX1_ok nX1 hown hK hP hD hS 0 rfl rfl 8 (by decide) (hts _ (List.mem_of_getElem? (i := 10) rfl)) (fun _ h9 => h9) rfl hin rfl (by decide +kernel) rfl rfl (Nat.le_of_ble_eq_true rfl) dX1_init_45 (fun H locs hP hD hS => ?_)
  have hP : va_P (dC, dI) vwCl [(h0, .inr (1, [.int 0, .int 1, .int 1, .ref q1, .int 0, .ref q2, .ref q3, .int 0, .ref q4])), (q1, .inl (cA, 400, .inl (fun _ => 0))), (q2, .inl (cA, 8, .inl (fun _ => 0))), (q3, .inl (cA, 8, .inl (fun _ => 0))), (q4, .inl (cA, 4096, .inl (fun _ => 0)))] H := hP
  have hD : va_D A [(h0, .inr (1, [.int 0, .int 1, .int 1, .ref q1, .int 0, .ref q2, .ref q3, .int 0, .ref q4])), (q1, .inl (cA, 400, .inl (fun _ => 0))), (q2, .inl (cA, 8, .inl (fun _ => 0))), (q3, .inl (cA, 8, .inl (fun _ => 0))), (q4, .inl (cA, 4096, .inl (fun _ => 0)))] := hD
  refine lv_aload_n hx hb dX1_init_48 rfl (lv_at hl 0 rfl) ?_
  refine va_get (D := (dC, dI)) (ci := 1) (v := .ref q1) (C := RX1) (T := TX1) (N := 9) hx hb hts (fun _ h => List.mem_cons_of_mem _ (List.mem_append_right _ h)) hown hK hP 0 rfl rfl 3 (by decide) (hts _ (List.mem_of_getElem? (i := 7) rfl)) (fun _ h9 => h9) rfl dX1_init_49 ?_
  refine lv_iconst (v := 0) hx hb dX1_init_52 (by decide) ?_
  refine lv_iconst (v := 1) hx hb dX1_init_53 (by decide) ?_
  refine va_iast hx hb hK hP hD hS 1 0 rfl rfl (i := 0) (x := 1) (vp_in_iff.mpr ⟨by decide, by decide⟩) dX1_init_54 (fun H locs hP hD hS => ?_)
  have hP : va_P (dC, dI) vwCl [(h0, .inr (1, [.int 0, .int 1, .int 1, .ref q1, .int 0, .ref q2, .ref q3, .int 0, .ref q4])), (q1, .inl (cA, 400, .inl (upd (fun _ => 0) (0 : Int32).toNatClampNeg 1))), (q2, .inl (cA, 8, .inl (fun _ => 0))), (q3, .inl (cA, 8, .inl (fun _ => 0))), (q4, .inl (cA, 4096, .inl (fun _ => 0)))] H := hP
  have hD : va_D A [(h0, .inr (1, [.int 0, .int 1, .int 1, .ref q1, .int 0, .ref q2, .ref q3, .int 0, .ref q4])), (q1, .inl (cA, 400, .inl (upd (fun _ => 0) (0 : Int32).toNatClampNeg 1))), (q2, .inl (cA, 8, .inl (fun _ => 0))), (q3, .inl (cA, 8, .inl (fun _ => 0))), (q4, .inl (cA, 4096, .inl (fun _ => 0)))] := hD
  exact W.vret hx hb hr (fun t ht hW => ⟨⟨(q1, q2, q3, q4), rfl, trivial, by rw [ht]; exact hP, hD⟩, hS.F ht⟩) hS.2.2 dX1_init_55
