/-! the throwing side -/
abbrev rf_B (X : String) : List Cond := [.declares (Bundle.initS "java/lang/RuntimeException"), .declares (Bundle.initS "java/lang/Exception"), .declares (Bundle.initS Bundle.tN), .castable X X]
/-- words that the tables decide but that no list of a method may hold -/
def rf_N (X : String) (U : State) : Prop := ∀ w ∈ rf_B X, w.before #[] U = true
theorem rf_N.moved {X : String} {s U : State} (hvm : s.vm.Alike U.vm) (h : rf_N X s) : rf_N X U := by
  intro w hw
  have h1 := h w hw
  simp only [rf_B, List.mem_cons, List.not_mem_nil, or_false] at hw
  rcases hw with rfl | rfl | rfl | rfl
  · exact va_tabs rfl (rfl : (s.setVm U.vm).vm = U.vm) (by rw [Cond.declares_setVm hvm]; exact h1)
  · exact va_tabs rfl (rfl : (s.setVm U.vm).vm = U.vm) (by rw [Cond.declares_setVm hvm]; exact h1)
  · exact va_tabs rfl (rfl : (s.setVm U.vm).vm = U.vm) (by rw [Cond.declares_setVm hvm]; exact h1)
  · exact va_tabs rfl (rfl : (s.setVm U.vm).vm = U.vm) (by rw [Cond.castable_setVm hvm]; exact h1)
theorem rf_N.at {X : String} {s : State} (h : rf_N X s) (args : Array Value) : ∀ w ∈ rf_B X, w.before args s = true := by
  intro w hw
  have h1 := h w hw
  simp only [rf_B, List.mem_cons, List.not_mem_nil, or_false] at hw
  rcases hw with rfl | rfl | rfl | rfl
  · exact va_any rfl h1
  · exact va_any rfl h1
  · exact va_any rfl h1
  · exact va_any rfl h1
/-- a contract's start where the method throws: its text, Throwable's statics, the words -/
abbrev rf_Y (ws : va_W) (sz : Nat) (own : String) (is : Nat) (tx : String) (sa : Nat) (X : String) (U : State) : Prop := vk_R own is tx sa U ∧ vx_Zq Bundle.tN "UNASSIGNED_STACK" Bundle.steD (va_A ws sz) U U.heap ∧ vx_Zq Bundle.tN "SUPPRESSED_SENTINEL" Bundle.listD (va_A ws sz) U U.heap ∧ rf_N X U
abbrev rf_Py (D : va_G) (tys : List (ClassId × FieldType)) (ws : va_W) (sz : Nat) (av : List Value) (own : String) (is : Nat) (tx : String) (sa : Nat) (X : String) : Array Value → State → Prop := va_Pc av (fun U => (U.heap.size = sz ∧ va_P D vwCl ws U.heap ∧ va_K D vwCl tys U ∧ va_D (fun _ => True) ws) ∧ rf_Y ws sz own is tx sa X U)
theorem rf_wr {U : State} {g : JFrame} {mk : MethodId} {a : Array Value} : U.WarmedH (U.calling g mk a).vm := State.WarmedH.refl U
theorem rf_ymove {ws : va_W} {sz : Nat} {own : String} {is : Nat} {tx : String} {sa : Nat} {X : String} {U V : State} (hW : U.WarmedH V.vm) (hh : V.heap = U.heap) (h : rf_Y ws sz own is tx sa X U) : rf_Y ws sz own is tx sa X V := by
  obtain ⟨h1, h2, h3, h4⟩ := h
  exact ⟨vk_R.warm hW h1, by rw [hh]; exact vx_Zq.moved hW.alike h2, by rw [hh]; exact vx_Zq.moved hW.alike h3, rf_N.moved hW.alike h4⟩
theorem rf_blindy {D : va_G} {tys : List (ClassId × FieldType)} {ws : va_W} {sz : Nat} {av : List Value} {own : String} {is : Nat} {tx : String} {sa : Nat} {X : String} : FrameBlind (rf_Py D tys ws sz av own is tx sa X) := by
  intro a U g mk q
  obtain ⟨q0, ⟨q1, qP, qK, qD⟩, qY⟩ := q
  exact ⟨q0, ⟨q1, qP, va_K.moved (u := U) (U := U.calling g mk a) (Vm.Alike.refl U.vm) qK, qD⟩, rf_ymove (V := U.calling g mk a) rf_wr rfl qY⟩
def xsX0_take : List Cond := .code yX0_take cX0_take 2 (some .int) :: ((([Cond.constant RX0 38 4194304, Cond.fieldLink RX0 25 "RootFinder" "number" "I", Cond.fieldLink RX0 35 "RootFinder" "rootCount" "I", Cond.methodLink RX0 46 yX0_findPrimes, Cond.instanceMethod yX0_findPrimes, Cond.selects RX0 yX0_findPrimes yX0_findPrimes, Cond.initialized RX0, Cond.code yX0_findPrimes cX0_findPrimes 4 none, Cond.fieldLink RX0 29 "RootFinder" "primeCount" "I", Cond.methodLink RX0 109 yX0_addPrime, Cond.instanceMethod yX0_addPrime, Cond.selects RX0 yX0_addPrime yX0_addPrime, Cond.code yX0_addPrime cX0_addPrime 3 none, Cond.fieldLink RX0 9 "RootFinder" "primeRow" "[I", Cond.fieldLink RX0 13 "RootFinder" "exponentRow" "[I", Cond.methodLink RX0 49 yX0_findDivisors, Cond.instanceMethod yX0_findDivisors, Cond.selects RX0 yX0_findDivisors yX0_findDivisors, Cond.code yX0_findDivisors cX0_findDivisors 5 none, Cond.fieldLink RX0 16 "RootFinder" "divisorRow" "[I", Cond.fieldLink RX0 32 "RootFinder" "divisorCount" "I", Cond.methodLink RX0 113 yX0_addMultiples, Cond.instanceMethod yX0_addMultiples, Cond.selects RX0 yX0_addMultiples yX0_addMultiples, Cond.code yX0_addMultiples cX0_addMultiples 4 none, Cond.methodLink RX0 103 yX0_sortRising, Cond.instanceMethod yX0_sortRising, Cond.selects RX0 yX0_sortRising yX0_sortRising, Cond.code yX0_sortRising cX0_sortRising 7 none, Cond.fieldLink RX0 22 "RootFinder" "spareRow" "[I", Cond.methodLink RX0 148 yX0_isRising, Cond.static yX0_isRising, Cond.code yX0_isRising cX0_isRising 3 (some .boolean), Cond.methodLink RX0 152 Lib.Math.min.name, Cond.static Lib.Math.min.name, Cond.initialized "java/lang/Math", Cond.code Lib.Math.min.name Lib.Math.min.code 2 (some .int), Cond.methodLink RX0 157 yX0_mergeRuns, Cond.static yX0_mergeRuns, Cond.code yX0_mergeRuns cX0_mergeRuns 8 none, Cond.methodLink RX0 161 arraycopyName, Cond.native arraycopyName, Cond.static arraycopyName, Cond.initialized "java/lang/System", Cond.classLink RX0 39 "java/lang/IllegalArgumentException", Cond.initialized "java/lang/IllegalArgumentException"] : List Cond) ++ (vx_atS RX0 43 "java/lang/IllegalArgumentException" ["java/lang/RuntimeException", "java/lang/Exception"]).filter goodWord) ++ wsX00)
set_option maxHeartbeats 4000000 in
set_option maxRecDepth 100000 in
theorem x_r_take (l : Launch) (hlt : l.stackTraces = false) (dC : Nat → ClassId) (dI : Nat → Nat → Nat) (sz F sa : Nat) (h0 h1 h2 h3 h4 h5 : Nat) (cA : ClassId) (nu pk dc rc : Int32) (pr ex dv rt sp : Nat → Int32) (p0 : Int32) (h : f_r_take F nu pk dc rc pr ex dv sp p0 = some none) : vx_Met l yX0_take xsX0_take { frames := 6, cells := 1, slots := 6, locals := 110 } (rf_Py (dC, dI) [(cA, .int)] [(h0, .inr (0, [.int nu, .int pk, .ref h1, .ref h2, .int dc, .ref h3, .int rc, .ref h4, .ref h5])), (h1, .inl (cA, 7, .inl pr)), (h2, .inl (cA, 7, .inl ex)), (h3, .inl (cA, 360, .inl dv)), (h4, .inl (cA, 4096, .inl rt)), (h5, .inl (cA, 4096, .inl sp))] sz [.ref h0, .int p0] RX0 41 "the number must be 1 .. 4194304" sa "java/lang/IllegalArgumentException") (va_Qi (fun (_ : Int32) (_ : Unit) => False) (fun (_ : Unit) _ => True) (va_A [(h0, .inr (0, [.int nu, .int pk, .ref h1, .ref h2, .int dc, .ref h3, .int rc, .ref h4, .ref h5])), (h1, .inl (cA, 7, .inl pr)), (h2, .inl (cA, 7, .inl ex)), (h3, .inl (cA, 360, .inl dv)), (h4, .inl (cA, 4096, .inl rt)), (h5, .inl (cA, 4096, .inl sp))] sz)) (vx_X (fun _ : Unit => True) (fun E _ t => E = "java/lang/IllegalArgumentException" ∧ va_P (dC, dI) vwCl [(h0, .inr (0, [.int nu, .int pk, .ref h1, .ref h2, .int dc, .ref h3, .int rc, .ref h4, .ref h5])), (h1, .inl (cA, 7, .inl pr)), (h2, .inl (cA, 7, .inl ex)), (h3, .inl (cA, 360, .inl dv)), (h4, .inl (cA, 4096, .inl rt)), (h5, .inl (cA, 4096, .inl sp))] t.heap ∧ va_D (va_A [(h0, .inr (0, [.int nu, .int pk, .ref h1, .ref h2, .int dc, .ref h3, .int rc, .ref h4, .ref h5])), (h1, .inl (cA, 7, .inl pr)), (h2, .inl (cA, 7, .inl ex)), (h3, .inl (cA, 360, .inl dv)), (h4, .inl (cA, 4096, .inl rt)), (h5, .inl (cA, 4096, .inl sp))] sz) [(h0, .inr (0, [.int nu, .int pk, .ref h1, .ref h2, .int dc, .ref h3, .int rc, .ref h4, .ref h5])), (h1, .inl (cA, 7, .inl pr)), (h2, .inl (cA, 7, .inl ex)), (h3, .inl (cA, 360, .inl dv)), (h4, .inl (cA, 4096, .inl rt)), (h5, .inl (cA, 4096, .inl sp))]) (va_A [(h0, .inr (0, [.int nu, .int pk, .ref h1, .ref h2, .int dc, .ref h3, .int rc, .ref h4, .ref h5])), (h1, .inl (cA, 7, .inl pr)), (h2, .inl (cA, 7, .inl ex)), (h3, .inl (cA, 360, .inl dv)), (h4, .inl (cA, 4096, .inl rt)), (h5, .inl (cA, 4096, .inl sp))] sz)) 1 6 (va_A [(h0, .inr (0, [.int nu, .int pk, .ref h1, .ref h2, .int dc, .ref h3, .int rc, .ref h4, .ref h5])), (h1, .inl (cA, 7, .inl pr)), (h2, .inl (cA, 7, .inl ex)), (h3, .inl (cA, 360, .inl dv)), (h4, .inl (cA, 4096, .inl rt)), (h5, .inl (cA, 4096, .inl sp))] sz) := by
  refine vx_ofW (cc := cX0_take) (maxL := 2) (ret := (some .int)) (by decide) rfl ?_
  intro p e s m args below meth c s₁ B hml hnx hv
  obtain ⟨rfl, ⟨hsz, hP, hK, hD0⟩, hstr, hU, hN, hNn⟩ := hv
  have hx := B.exec
  have hb := B.bytes
  have hr := B.returns
  have hts := atoms_spec (ws := xsX0_take) B.pre
  have hown : s.vm.findClass RX0 = some m.cls := findClass_of_methodNamed B.named
  have hlocks := B.notSynchronized
  subst hsz
  have hD := hD0.self (sz := s.heap.size)
  generalize hAe : va_A [(h0, .inr (0, [.int nu, .int pk, .ref h1, .ref h2, .int dc, .ref h3, .int rc, .ref h4, .ref h5])), (h1, .inl (cA, 7, .inl pr)), (h2, .inl (cA, 7, .inl ex)), (h3, .inl (cA, 360, .inl dv)), (h4, .inl (cA, 4096, .inl rt)), (h5, .inl (cA, 4096, .inl sp))] s.heap.size = A at hD hU hN ⊢
  have hA : ∀ q : Nat, s.heap.size ≤ q → A q := fun q h => by rw [← hAe]; exact Or.inr h
  have hS : va_S A s.heap s.heap [] := va_S.rf
  have hl := lv_entry ([.ref h0, .int p0]) (n := 2) (Nat.le_of_ble_eq_true rfl)
  rw [lg_entry_eq]
  generalize (lg_sl ([.ref h0, .int p0]) ++ List.replicate (2 - (lg_sl ([.ref h0, .int p0])).length) Slot.unset).toArray = ls at hl ⊢
  have hl : lv_has ls 2 [(0, .ref h0), (1, .int p0)] := hl
  unfold f_r_take at h
  refine lv_iload_n hx hb dX0_take_0 rfl (lv_at hl 1 rfl) ?_
  refine lv_iconst (v := 1) hx hb dX0_take_1 (by decide) ?_
  refine lv_icmp_lt (tgt := 11) hx hb dX0_take_2 (by decide) (fun c1 => ?_) (fun c1 => ?_)
  · rw [if_pos c1] at h
    refine vx_throwS (text := "the number must be 1 .. 4194304") (names := ["java/lang/RuntimeException", "java/lang/Exception"]) hx hb hlt hown (by decide) (by decide) (hts _ (List.mem_of_getElem? (i := 45) rfl)) (hts _ (List.mem_of_getElem? (i := 46) rfl)) hstr (vx_hat (B := rf_B "java/lang/IllegalArgumentException") (fun w hw => hts w (List.mem_cons_of_mem _ (List.mem_append_left _ (List.mem_append_right _ hw)))) (by decide +kernel) (hNn.at _)) (by decide +kernel) hU hN hS (hl.1.trans hml.symm) dX0_take_11 dX0_take_14 dX0_take_15 dX0_take_17 dX0_take_20 (fun x hx => (hnx x hx).elim) (Nat.le_of_ble_eq_true rfl) (Nat.le_of_ble_eq_true rfl) (Nat.le_of_ble_eq_true rfl) (Nat.le_of_ble_eq_true rfl) hlocks (fun t hv h1 h2 => ?_) hS.2.2 (Nat.le_of_ble_eq_true rfl) (Nat.le_of_ble_eq_true rfl)
    obtain ⟨k1, k2⟩ := rf_xk hS hP h1 h2
    exact ⟨(), trivial, ⟨rfl, k1, hD⟩, k2⟩
  · rw [if_neg c1] at h
    refine lv_iload_n hx hb dX0_take_5 rfl (lv_at hl 1 rfl) ?_
    refine lv_ldc (v := 4194304) hx hb hown (hts _ (List.mem_of_getElem? (i := 1) rfl)) dX0_take_6 ?_
    refine lv_icmp_le (tgt := 21) hx hb dX0_take_8 (by decide) (fun c2 => ?_) (fun c2 => ?_)
    · rw [if_pos c2] at h
      exact absurd h rf_smn
    · rw [if_neg c2] at h
      refine vx_throwS (text := "the number must be 1 .. 4194304") (names := ["java/lang/RuntimeException", "java/lang/Exception"]) hx hb hlt hown (by decide) (by decide) (hts _ (List.mem_of_getElem? (i := 45) rfl)) (hts _ (List.mem_of_getElem? (i := 46) rfl)) hstr (vx_hat (B := rf_B "java/lang/IllegalArgumentException") (fun w hw => hts w (List.mem_cons_of_mem _ (List.mem_append_left _ (List.mem_append_right _ hw)))) (by decide +kernel) (hNn.at _)) (by decide +kernel) hU hN hS (hl.1.trans hml.symm) dX0_take_11 dX0_take_14 dX0_take_15 dX0_take_17 dX0_take_20 (fun x hx => (hnx x hx).elim) (Nat.le_of_ble_eq_true rfl) (Nat.le_of_ble_eq_true rfl) (Nat.le_of_ble_eq_true rfl) (Nat.le_of_ble_eq_true rfl) hlocks (fun t hv h1 h2 => ?_) hS.2.2 (Nat.le_of_ble_eq_true rfl) (Nat.le_of_ble_eq_true rfl)
      obtain ⟨k1, k2⟩ := rf_xk hS hP h1 h2
      exact ⟨(), trivial, ⟨rfl, k1, hD⟩, k2⟩
def xsX0_prime : List Cond := .code yX0_prime cX0_prime 2 (some .int) :: ((([Cond.fieldLink RX0 29 "RootFinder" "primeCount" "I", Cond.fieldLink RX0 9 "RootFinder" "primeRow" "[I", Cond.classLink RX0 52 "java/lang/IndexOutOfBoundsException", Cond.initialized "java/lang/IndexOutOfBoundsException"] : List Cond) ++ (vx_atS RX0 56 "java/lang/IndexOutOfBoundsException" ["java/lang/RuntimeException", "java/lang/Exception"]).filter goodWord) ++ wsX00)
set_option maxHeartbeats 4000000 in
set_option maxRecDepth 100000 in
theorem x_r_prime (l : Launch) (hlt : l.stackTraces = false) (dC : Nat → ClassId) (dI : Nat → Nat → Nat) (sz F sa : Nat) (h0 h1 h2 h3 h4 h5 : Nat) (cA : ClassId) (nu pk dc rc : Int32) (pr ex dv rt sp : Nat → Int32) (p0 : Int32) (h : f_r_prime F pk pr p0 = some none) : vx_Met l yX0_prime xsX0_prime { frames := 6, cells := 1, slots := 6, locals := 90 } (rf_Py (dC, dI) [(cA, .int)] [(h0, .inr (0, [.int nu, .int pk, .ref h1, .ref h2, .int dc, .ref h3, .int rc, .ref h4, .ref h5])), (h1, .inl (cA, 7, .inl pr)), (h2, .inl (cA, 7, .inl ex)), (h3, .inl (cA, 360, .inl dv)), (h4, .inl (cA, 4096, .inl rt)), (h5, .inl (cA, 4096, .inl sp))] sz [.ref h0, .int p0] RX0 54 "there is no such prime" sa "java/lang/IndexOutOfBoundsException") (va_Qi (fun (_ : Int32) (_ : Unit) => False) (fun (_ : Unit) _ => True) (va_A [(h0, .inr (0, [.int nu, .int pk, .ref h1, .ref h2, .int dc, .ref h3, .int rc, .ref h4, .ref h5])), (h1, .inl (cA, 7, .inl pr)), (h2, .inl (cA, 7, .inl ex)), (h3, .inl (cA, 360, .inl dv)), (h4, .inl (cA, 4096, .inl rt)), (h5, .inl (cA, 4096, .inl sp))] sz)) (vx_X (fun _ : Unit => True) (fun E _ t => E = "java/lang/IndexOutOfBoundsException" ∧ va_P (dC, dI) vwCl [(h0, .inr (0, [.int nu, .int pk, .ref h1, .ref h2, .int dc, .ref h3, .int rc, .ref h4, .ref h5])), (h1, .inl (cA, 7, .inl pr)), (h2, .inl (cA, 7, .inl ex)), (h3, .inl (cA, 360, .inl dv)), (h4, .inl (cA, 4096, .inl rt)), (h5, .inl (cA, 4096, .inl sp))] t.heap ∧ va_D (va_A [(h0, .inr (0, [.int nu, .int pk, .ref h1, .ref h2, .int dc, .ref h3, .int rc, .ref h4, .ref h5])), (h1, .inl (cA, 7, .inl pr)), (h2, .inl (cA, 7, .inl ex)), (h3, .inl (cA, 360, .inl dv)), (h4, .inl (cA, 4096, .inl rt)), (h5, .inl (cA, 4096, .inl sp))] sz) [(h0, .inr (0, [.int nu, .int pk, .ref h1, .ref h2, .int dc, .ref h3, .int rc, .ref h4, .ref h5])), (h1, .inl (cA, 7, .inl pr)), (h2, .inl (cA, 7, .inl ex)), (h3, .inl (cA, 360, .inl dv)), (h4, .inl (cA, 4096, .inl rt)), (h5, .inl (cA, 4096, .inl sp))]) (va_A [(h0, .inr (0, [.int nu, .int pk, .ref h1, .ref h2, .int dc, .ref h3, .int rc, .ref h4, .ref h5])), (h1, .inl (cA, 7, .inl pr)), (h2, .inl (cA, 7, .inl ex)), (h3, .inl (cA, 360, .inl dv)), (h4, .inl (cA, 4096, .inl rt)), (h5, .inl (cA, 4096, .inl sp))] sz)) 1 6 (va_A [(h0, .inr (0, [.int nu, .int pk, .ref h1, .ref h2, .int dc, .ref h3, .int rc, .ref h4, .ref h5])), (h1, .inl (cA, 7, .inl pr)), (h2, .inl (cA, 7, .inl ex)), (h3, .inl (cA, 360, .inl dv)), (h4, .inl (cA, 4096, .inl rt)), (h5, .inl (cA, 4096, .inl sp))] sz) := by
  refine vx_ofW (cc := cX0_prime) (maxL := 2) (ret := (some .int)) (by decide) rfl ?_
  intro p e s m args below meth c s₁ B hml hnx hv
  obtain ⟨rfl, ⟨hsz, hP, hK, hD0⟩, hstr, hU, hN, hNn⟩ := hv
  have hx := B.exec
  have hb := B.bytes
  have hr := B.returns
  have hts := atoms_spec (ws := xsX0_prime) B.pre
  have hown : s.vm.findClass RX0 = some m.cls := findClass_of_methodNamed B.named
  have hlocks := B.notSynchronized
  subst hsz
  have hD := hD0.self (sz := s.heap.size)
  generalize hAe : va_A [(h0, .inr (0, [.int nu, .int pk, .ref h1, .ref h2, .int dc, .ref h3, .int rc, .ref h4, .ref h5])), (h1, .inl (cA, 7, .inl pr)), (h2, .inl (cA, 7, .inl ex)), (h3, .inl (cA, 360, .inl dv)), (h4, .inl (cA, 4096, .inl rt)), (h5, .inl (cA, 4096, .inl sp))] s.heap.size = A at hD hU hN ⊢
  have hA : ∀ q : Nat, s.heap.size ≤ q → A q := fun q h => by rw [← hAe]; exact Or.inr h
  have hS : va_S A s.heap s.heap [] := va_S.rf
  have hl := lv_entry ([.ref h0, .int p0]) (n := 2) (Nat.le_of_ble_eq_true rfl)
  rw [lg_entry_eq]
  generalize (lg_sl ([.ref h0, .int p0]) ++ List.replicate (2 - (lg_sl ([.ref h0, .int p0])).length) Slot.unset).toArray = ls at hl ⊢
  have hl : lv_has ls 2 [(0, .ref h0), (1, .int p0)] := hl
  unfold f_r_prime at h
  refine lv_iload_n hx hb dX0_prime_0 rfl (lv_at hl 1 rfl) ?_
  refine lv_if_lt (tgt := 12) hx hb dX0_prime_1 (by decide) (fun c1 => ?_) (fun c1 => ?_)
  · rw [if_pos c1] at h
    refine vx_throwS (text := "there is no such prime") (names := ["java/lang/RuntimeException", "java/lang/Exception"]) hx hb hlt hown (by decide) (by decide) (hts _ (List.mem_of_getElem? (i := 3) rfl)) (hts _ (List.mem_of_getElem? (i := 4) rfl)) hstr (vx_hat (B := rf_B "java/lang/IndexOutOfBoundsException") (fun w hw => hts w (List.mem_cons_of_mem _ (List.mem_append_left _ (List.mem_append_right _ hw)))) (by decide +kernel) (hNn.at _)) (by decide +kernel) hU hN hS (hl.1.trans hml.symm) dX0_prime_12 dX0_prime_15 dX0_prime_16 dX0_prime_18 dX0_prime_21 (fun x hx => (hnx x hx).elim) (Nat.le_of_ble_eq_true rfl) (Nat.le_of_ble_eq_true rfl) (Nat.le_of_ble_eq_true rfl) (Nat.le_of_ble_eq_true rfl) hlocks (fun t hv h1 h2 => ?_) hS.2.2 (Nat.le_of_ble_eq_true rfl) (Nat.le_of_ble_eq_true rfl)
    obtain ⟨k1, k2⟩ := rf_xk hS hP h1 h2
    exact ⟨(), trivial, ⟨rfl, k1, hD⟩, k2⟩
  · rw [if_neg c1] at h
    refine lv_iload_n hx hb dX0_prime_4 rfl (lv_at hl 1 rfl) ?_
    refine lv_aload_n hx hb dX0_prime_5 rfl (lv_at hl 0 rfl) ?_
    refine va_get (D := (dC, dI)) (ci := 0) (v := .int pk) (C := RX0) (T := TX0) (N := 9) hx hb hts (fun _ h => List.mem_cons_of_mem _ (List.mem_append_right _ h)) hown hK hP 0 rfl rfl 1 (by decide) (hts _ (List.mem_of_getElem? (i := 1) rfl)) (fun _ h9 => h9) rfl dX0_prime_6 ?_
    refine lv_icmp_lt (tgt := 22) hx hb dX0_prime_9 (by decide) (fun c2 => ?_) (fun c2 => ?_)
    · rw [if_pos c2] at h
      exact absurd h rf_smn
    · rw [if_neg c2] at h
      refine vx_throwS (text := "there is no such prime") (names := ["java/lang/RuntimeException", "java/lang/Exception"]) hx hb hlt hown (by decide) (by decide) (hts _ (List.mem_of_getElem? (i := 3) rfl)) (hts _ (List.mem_of_getElem? (i := 4) rfl)) hstr (vx_hat (B := rf_B "java/lang/IndexOutOfBoundsException") (fun w hw => hts w (List.mem_cons_of_mem _ (List.mem_append_left _ (List.mem_append_right _ hw)))) (by decide +kernel) (hNn.at _)) (by decide +kernel) hU hN hS (hl.1.trans hml.symm) dX0_prime_12 dX0_prime_15 dX0_prime_16 dX0_prime_18 dX0_prime_21 (fun x hx => (hnx x hx).elim) (Nat.le_of_ble_eq_true rfl) (Nat.le_of_ble_eq_true rfl) (Nat.le_of_ble_eq_true rfl) (Nat.le_of_ble_eq_true rfl) hlocks (fun t hv h1 h2 => ?_) hS.2.2 (Nat.le_of_ble_eq_true rfl) (Nat.le_of_ble_eq_true rfl)
      obtain ⟨k1, k2⟩ := rf_xk hS hP h1 h2
      exact ⟨(), trivial, ⟨rfl, k1, hD⟩, k2⟩
def xsX0_exponent : List Cond := .code yX0_exponent cX0_exponent 2 (some .int) :: ((([Cond.fieldLink RX0 29 "RootFinder" "primeCount" "I", Cond.fieldLink RX0 13 "RootFinder" "exponentRow" "[I", Cond.classLink RX0 52 "java/lang/IndexOutOfBoundsException", Cond.initialized "java/lang/IndexOutOfBoundsException"] : List Cond) ++ (vx_atS RX0 56 "java/lang/IndexOutOfBoundsException" ["java/lang/RuntimeException", "java/lang/Exception"]).filter goodWord) ++ wsX00)
set_option maxHeartbeats 4000000 in
set_option maxRecDepth 100000 in
theorem x_r_exponent (l : Launch) (hlt : l.stackTraces = false) (dC : Nat → ClassId) (dI : Nat → Nat → Nat) (sz F sa : Nat) (h0 h1 h2 h3 h4 h5 : Nat) (cA : ClassId) (nu pk dc rc : Int32) (pr ex dv rt sp : Nat → Int32) (p0 : Int32) (h : f_r_exponent F pk ex p0 = some none) : vx_Met l yX0_exponent xsX0_exponent { frames := 6, cells := 1, slots := 6, locals := 90 } (rf_Py (dC, dI) [(cA, .int)] [(h0, .inr (0, [.int nu, .int pk, .ref h1, .ref h2, .int dc, .ref h3, .int rc, .ref h4, .ref h5])), (h1, .inl (cA, 7, .inl pr)), (h2, .inl (cA, 7, .inl ex)), (h3, .inl (cA, 360, .inl dv)), (h4, .inl (cA, 4096, .inl rt)), (h5, .inl (cA, 4096, .inl sp))] sz [.ref h0, .int p0] RX0 54 "there is no such prime" sa "java/lang/IndexOutOfBoundsException") (va_Qi (fun (_ : Int32) (_ : Unit) => False) (fun (_ : Unit) _ => True) (va_A [(h0, .inr (0, [.int nu, .int pk, .ref h1, .ref h2, .int dc, .ref h3, .int rc, .ref h4, .ref h5])), (h1, .inl (cA, 7, .inl pr)), (h2, .inl (cA, 7, .inl ex)), (h3, .inl (cA, 360, .inl dv)), (h4, .inl (cA, 4096, .inl rt)), (h5, .inl (cA, 4096, .inl sp))] sz)) (vx_X (fun _ : Unit => True) (fun E _ t => E = "java/lang/IndexOutOfBoundsException" ∧ va_P (dC, dI) vwCl [(h0, .inr (0, [.int nu, .int pk, .ref h1, .ref h2, .int dc, .ref h3, .int rc, .ref h4, .ref h5])), (h1, .inl (cA, 7, .inl pr)), (h2, .inl (cA, 7, .inl ex)), (h3, .inl (cA, 360, .inl dv)), (h4, .inl (cA, 4096, .inl rt)), (h5, .inl (cA, 4096, .inl sp))] t.heap ∧ va_D (va_A [(h0, .inr (0, [.int nu, .int pk, .ref h1, .ref h2, .int dc, .ref h3, .int rc, .ref h4, .ref h5])), (h1, .inl (cA, 7, .inl pr)), (h2, .inl (cA, 7, .inl ex)), (h3, .inl (cA, 360, .inl dv)), (h4, .inl (cA, 4096, .inl rt)), (h5, .inl (cA, 4096, .inl sp))] sz) [(h0, .inr (0, [.int nu, .int pk, .ref h1, .ref h2, .int dc, .ref h3, .int rc, .ref h4, .ref h5])), (h1, .inl (cA, 7, .inl pr)), (h2, .inl (cA, 7, .inl ex)), (h3, .inl (cA, 360, .inl dv)), (h4, .inl (cA, 4096, .inl rt)), (h5, .inl (cA, 4096, .inl sp))]) (va_A [(h0, .inr (0, [.int nu, .int pk, .ref h1, .ref h2, .int dc, .ref h3, .int rc, .ref h4, .ref h5])), (h1, .inl (cA, 7, .inl pr)), (h2, .inl (cA, 7, .inl ex)), (h3, .inl (cA, 360, .inl dv)), (h4, .inl (cA, 4096, .inl rt)), (h5, .inl (cA, 4096, .inl sp))] sz)) 1 6 (va_A [(h0, .inr (0, [.int nu, .int pk, .ref h1, .ref h2, .int dc, .ref h3, .int rc, .ref h4, .ref h5])), (h1, .inl (cA, 7, .inl pr)), (h2, .inl (cA, 7, .inl ex)), (h3, .inl (cA, 360, .inl dv)), (h4, .inl (cA, 4096, .inl rt)), (h5, .inl (cA, 4096, .inl sp))] sz) := by
  refine vx_ofW (cc := cX0_exponent) (maxL := 2) (ret := (some .int)) (by decide) rfl ?_
  intro p e s m args below meth c s₁ B hml hnx hv
  obtain ⟨rfl, ⟨hsz, hP, hK, hD0⟩, hstr, hU, hN, hNn⟩ := hv
  have hx := B.exec
  have hb := B.bytes
  have hr := B.returns
  have hts := atoms_spec (ws := xsX0_exponent) B.pre
  have hown : s.vm.findClass RX0 = some m.cls := findClass_of_methodNamed B.named
  have hlocks := B.notSynchronized
  subst hsz
  have hD := hD0.self (sz := s.heap.size)
  generalize hAe : va_A [(h0, .inr (0, [.int nu, .int pk, .ref h1, .ref h2, .int dc, .ref h3, .int rc, .ref h4, .ref h5])), (h1, .inl (cA, 7, .inl pr)), (h2, .inl (cA, 7, .inl ex)), (h3, .inl (cA, 360, .inl dv)), (h4, .inl (cA, 4096, .inl rt)), (h5, .inl (cA, 4096, .inl sp))] s.heap.size = A at hD hU hN ⊢
  have hA : ∀ q : Nat, s.heap.size ≤ q → A q := fun q h => by rw [← hAe]; exact Or.inr h
  have hS : va_S A s.heap s.heap [] := va_S.rf
  have hl := lv_entry ([.ref h0, .int p0]) (n := 2) (Nat.le_of_ble_eq_true rfl)
  rw [lg_entry_eq]
  generalize (lg_sl ([.ref h0, .int p0]) ++ List.replicate (2 - (lg_sl ([.ref h0, .int p0])).length) Slot.unset).toArray = ls at hl ⊢
  have hl : lv_has ls 2 [(0, .ref h0), (1, .int p0)] := hl
  unfold f_r_exponent at h
  refine lv_iload_n hx hb dX0_exponent_0 rfl (lv_at hl 1 rfl) ?_
  refine lv_if_lt (tgt := 12) hx hb dX0_exponent_1 (by decide) (fun c1 => ?_) (fun c1 => ?_)
  · rw [if_pos c1] at h
    refine vx_throwS (text := "there is no such prime") (names := ["java/lang/RuntimeException", "java/lang/Exception"]) hx hb hlt hown (by decide) (by decide) (hts _ (List.mem_of_getElem? (i := 3) rfl)) (hts _ (List.mem_of_getElem? (i := 4) rfl)) hstr (vx_hat (B := rf_B "java/lang/IndexOutOfBoundsException") (fun w hw => hts w (List.mem_cons_of_mem _ (List.mem_append_left _ (List.mem_append_right _ hw)))) (by decide +kernel) (hNn.at _)) (by decide +kernel) hU hN hS (hl.1.trans hml.symm) dX0_exponent_12 dX0_exponent_15 dX0_exponent_16 dX0_exponent_18 dX0_exponent_21 (fun x hx => (hnx x hx).elim) (Nat.le_of_ble_eq_true rfl) (Nat.le_of_ble_eq_true rfl) (Nat.le_of_ble_eq_true rfl) (Nat.le_of_ble_eq_true rfl) hlocks (fun t hv h1 h2 => ?_) hS.2.2 (Nat.le_of_ble_eq_true rfl) (Nat.le_of_ble_eq_true rfl)
    obtain ⟨k1, k2⟩ := rf_xk hS hP h1 h2
    exact ⟨(), trivial, ⟨rfl, k1, hD⟩, k2⟩
  · rw [if_neg c1] at h
    refine lv_iload_n hx hb dX0_exponent_4 rfl (lv_at hl 1 rfl) ?_
    refine lv_aload_n hx hb dX0_exponent_5 rfl (lv_at hl 0 rfl) ?_
    refine va_get (D := (dC, dI)) (ci := 0) (v := .int pk) (C := RX0) (T := TX0) (N := 9) hx hb hts (fun _ h => List.mem_cons_of_mem _ (List.mem_append_right _ h)) hown hK hP 0 rfl rfl 1 (by decide) (hts _ (List.mem_of_getElem? (i := 1) rfl)) (fun _ h9 => h9) rfl dX0_exponent_6 ?_
    refine lv_icmp_lt (tgt := 22) hx hb dX0_exponent_9 (by decide) (fun c2 => ?_) (fun c2 => ?_)
    · rw [if_pos c2] at h
      exact absurd h rf_smn
    · rw [if_neg c2] at h
      refine vx_throwS (text := "there is no such prime") (names := ["java/lang/RuntimeException", "java/lang/Exception"]) hx hb hlt hown (by decide) (by decide) (hts _ (List.mem_of_getElem? (i := 3) rfl)) (hts _ (List.mem_of_getElem? (i := 4) rfl)) hstr (vx_hat (B := rf_B "java/lang/IndexOutOfBoundsException") (fun w hw => hts w (List.mem_cons_of_mem _ (List.mem_append_left _ (List.mem_append_right _ hw)))) (by decide +kernel) (hNn.at _)) (by decide +kernel) hU hN hS (hl.1.trans hml.symm) dX0_exponent_12 dX0_exponent_15 dX0_exponent_16 dX0_exponent_18 dX0_exponent_21 (fun x hx => (hnx x hx).elim) (Nat.le_of_ble_eq_true rfl) (Nat.le_of_ble_eq_true rfl) (Nat.le_of_ble_eq_true rfl) (Nat.le_of_ble_eq_true rfl) hlocks (fun t hv h1 h2 => ?_) hS.2.2 (Nat.le_of_ble_eq_true rfl) (Nat.le_of_ble_eq_true rfl)
      obtain ⟨k1, k2⟩ := rf_xk hS hP h1 h2
      exact ⟨(), trivial, ⟨rfl, k1, hD⟩, k2⟩
def xsX0_divisor : List Cond := .code yX0_divisor cX0_divisor 2 (some .int) :: ((([Cond.fieldLink RX0 32 "RootFinder" "divisorCount" "I", Cond.fieldLink RX0 16 "RootFinder" "divisorRow" "[I", Cond.classLink RX0 52 "java/lang/IndexOutOfBoundsException", Cond.initialized "java/lang/IndexOutOfBoundsException"] : List Cond) ++ (vx_atS RX0 56 "java/lang/IndexOutOfBoundsException" ["java/lang/RuntimeException", "java/lang/Exception"]).filter goodWord) ++ wsX00)
set_option maxHeartbeats 4000000 in
set_option maxRecDepth 100000 in
theorem x_r_divisor (l : Launch) (hlt : l.stackTraces = false) (dC : Nat → ClassId) (dI : Nat → Nat → Nat) (sz F sa : Nat) (h0 h1 h2 h3 h4 h5 : Nat) (cA : ClassId) (nu pk dc rc : Int32) (pr ex dv rt sp : Nat → Int32) (p0 : Int32) (h : f_r_divisor F dc dv p0 = some none) : vx_Met l yX0_divisor xsX0_divisor { frames := 6, cells := 1, slots := 6, locals := 90 } (rf_Py (dC, dI) [(cA, .int)] [(h0, .inr (0, [.int nu, .int pk, .ref h1, .ref h2, .int dc, .ref h3, .int rc, .ref h4, .ref h5])), (h1, .inl (cA, 7, .inl pr)), (h2, .inl (cA, 7, .inl ex)), (h3, .inl (cA, 360, .inl dv)), (h4, .inl (cA, 4096, .inl rt)), (h5, .inl (cA, 4096, .inl sp))] sz [.ref h0, .int p0] RX0 57 "there is no such divisor" sa "java/lang/IndexOutOfBoundsException") (va_Qi (fun (_ : Int32) (_ : Unit) => False) (fun (_ : Unit) _ => True) (va_A [(h0, .inr (0, [.int nu, .int pk, .ref h1, .ref h2, .int dc, .ref h3, .int rc, .ref h4, .ref h5])), (h1, .inl (cA, 7, .inl pr)), (h2, .inl (cA, 7, .inl ex)), (h3, .inl (cA, 360, .inl dv)), (h4, .inl (cA, 4096, .inl rt)), (h5, .inl (cA, 4096, .inl sp))] sz)) (vx_X (fun _ : Unit => True) (fun E _ t => E = "java/lang/IndexOutOfBoundsException" ∧ va_P (dC, dI) vwCl [(h0, .inr (0, [.int nu, .int pk, .ref h1, .ref h2, .int dc, .ref h3, .int rc, .ref h4, .ref h5])), (h1, .inl (cA, 7, .inl pr)), (h2, .inl (cA, 7, .inl ex)), (h3, .inl (cA, 360, .inl dv)), (h4, .inl (cA, 4096, .inl rt)), (h5, .inl (cA, 4096, .inl sp))] t.heap ∧ va_D (va_A [(h0, .inr (0, [.int nu, .int pk, .ref h1, .ref h2, .int dc, .ref h3, .int rc, .ref h4, .ref h5])), (h1, .inl (cA, 7, .inl pr)), (h2, .inl (cA, 7, .inl ex)), (h3, .inl (cA, 360, .inl dv)), (h4, .inl (cA, 4096, .inl rt)), (h5, .inl (cA, 4096, .inl sp))] sz) [(h0, .inr (0, [.int nu, .int pk, .ref h1, .ref h2, .int dc, .ref h3, .int rc, .ref h4, .ref h5])), (h1, .inl (cA, 7, .inl pr)), (h2, .inl (cA, 7, .inl ex)), (h3, .inl (cA, 360, .inl dv)), (h4, .inl (cA, 4096, .inl rt)), (h5, .inl (cA, 4096, .inl sp))]) (va_A [(h0, .inr (0, [.int nu, .int pk, .ref h1, .ref h2, .int dc, .ref h3, .int rc, .ref h4, .ref h5])), (h1, .inl (cA, 7, .inl pr)), (h2, .inl (cA, 7, .inl ex)), (h3, .inl (cA, 360, .inl dv)), (h4, .inl (cA, 4096, .inl rt)), (h5, .inl (cA, 4096, .inl sp))] sz)) 1 6 (va_A [(h0, .inr (0, [.int nu, .int pk, .ref h1, .ref h2, .int dc, .ref h3, .int rc, .ref h4, .ref h5])), (h1, .inl (cA, 7, .inl pr)), (h2, .inl (cA, 7, .inl ex)), (h3, .inl (cA, 360, .inl dv)), (h4, .inl (cA, 4096, .inl rt)), (h5, .inl (cA, 4096, .inl sp))] sz) := by
  refine vx_ofW (cc := cX0_divisor) (maxL := 2) (ret := (some .int)) (by decide) rfl ?_
  intro p e s m args below meth c s₁ B hml hnx hv
  obtain ⟨rfl, ⟨hsz, hP, hK, hD0⟩, hstr, hU, hN, hNn⟩ := hv
  have hx := B.exec
  have hb := B.bytes
  have hr := B.returns
  have hts := atoms_spec (ws := xsX0_divisor) B.pre
  have hown : s.vm.findClass RX0 = some m.cls := findClass_of_methodNamed B.named
  have hlocks := B.notSynchronized
  subst hsz
  have hD := hD0.self (sz := s.heap.size)
  generalize hAe : va_A [(h0, .inr (0, [.int nu, .int pk, .ref h1, .ref h2, .int dc, .ref h3, .int rc, .ref h4, .ref h5])), (h1, .inl (cA, 7, .inl pr)), (h2, .inl (cA, 7, .inl ex)), (h3, .inl (cA, 360, .inl dv)), (h4, .inl (cA, 4096, .inl rt)), (h5, .inl (cA, 4096, .inl sp))] s.heap.size = A at hD hU hN ⊢
  have hA : ∀ q : Nat, s.heap.size ≤ q → A q := fun q h => by rw [← hAe]; exact Or.inr h
  have hS : va_S A s.heap s.heap [] := va_S.rf
  have hl := lv_entry ([.ref h0, .int p0]) (n := 2) (Nat.le_of_ble_eq_true rfl)
  rw [lg_entry_eq]
  generalize (lg_sl ([.ref h0, .int p0]) ++ List.replicate (2 - (lg_sl ([.ref h0, .int p0])).length) Slot.unset).toArray = ls at hl ⊢
  have hl : lv_has ls 2 [(0, .ref h0), (1, .int p0)] := hl
  unfold f_r_divisor at h
  refine lv_iload_n hx hb dX0_divisor_0 rfl (lv_at hl 1 rfl) ?_
  refine lv_if_lt (tgt := 12) hx hb dX0_divisor_1 (by decide) (fun c1 => ?_) (fun c1 => ?_)
  · rw [if_pos c1] at h
    refine vx_throwS (text := "there is no such divisor") (names := ["java/lang/RuntimeException", "java/lang/Exception"]) hx hb hlt hown (by decide) (by decide) (hts _ (List.mem_of_getElem? (i := 3) rfl)) (hts _ (List.mem_of_getElem? (i := 4) rfl)) hstr (vx_hat (B := rf_B "java/lang/IndexOutOfBoundsException") (fun w hw => hts w (List.mem_cons_of_mem _ (List.mem_append_left _ (List.mem_append_right _ hw)))) (by decide +kernel) (hNn.at _)) (by decide +kernel) hU hN hS (hl.1.trans hml.symm) dX0_divisor_12 dX0_divisor_15 dX0_divisor_16 dX0_divisor_18 dX0_divisor_21 (fun x hx => (hnx x hx).elim) (Nat.le_of_ble_eq_true rfl) (Nat.le_of_ble_eq_true rfl) (Nat.le_of_ble_eq_true rfl) (Nat.le_of_ble_eq_true rfl) hlocks (fun t hv h1 h2 => ?_) hS.2.2 (Nat.le_of_ble_eq_true rfl) (Nat.le_of_ble_eq_true rfl)
    obtain ⟨k1, k2⟩ := rf_xk hS hP h1 h2
    exact ⟨(), trivial, ⟨rfl, k1, hD⟩, k2⟩
  · rw [if_neg c1] at h
    refine lv_iload_n hx hb dX0_divisor_4 rfl (lv_at hl 1 rfl) ?_
    refine lv_aload_n hx hb dX0_divisor_5 rfl (lv_at hl 0 rfl) ?_
    refine va_get (D := (dC, dI)) (ci := 0) (v := .int dc) (C := RX0) (T := TX0) (N := 9) hx hb hts (fun _ h => List.mem_cons_of_mem _ (List.mem_append_right _ h)) hown hK hP 0 rfl rfl 4 (by decide) (hts _ (List.mem_of_getElem? (i := 1) rfl)) (fun _ h9 => h9) rfl dX0_divisor_6 ?_
    refine lv_icmp_lt (tgt := 22) hx hb dX0_divisor_9 (by decide) (fun c2 => ?_) (fun c2 => ?_)
    · rw [if_pos c2] at h
      exact absurd h rf_smn
    · rw [if_neg c2] at h
      refine vx_throwS (text := "there is no such divisor") (names := ["java/lang/RuntimeException", "java/lang/Exception"]) hx hb hlt hown (by decide) (by decide) (hts _ (List.mem_of_getElem? (i := 3) rfl)) (hts _ (List.mem_of_getElem? (i := 4) rfl)) hstr (vx_hat (B := rf_B "java/lang/IndexOutOfBoundsException") (fun w hw => hts w (List.mem_cons_of_mem _ (List.mem_append_left _ (List.mem_append_right _ hw)))) (by decide +kernel) (hNn.at _)) (by decide +kernel) hU hN hS (hl.1.trans hml.symm) dX0_divisor_12 dX0_divisor_15 dX0_divisor_16 dX0_divisor_18 dX0_divisor_21 (fun x hx => (hnx x hx).elim) (Nat.le_of_ble_eq_true rfl) (Nat.le_of_ble_eq_true rfl) (Nat.le_of_ble_eq_true rfl) (Nat.le_of_ble_eq_true rfl) hlocks (fun t hv h1 h2 => ?_) hS.2.2 (Nat.le_of_ble_eq_true rfl) (Nat.le_of_ble_eq_true rfl)
      obtain ⟨k1, k2⟩ := rf_xk hS hP h1 h2
      exact ⟨(), trivial, ⟨rfl, k1, hD⟩, k2⟩
def xsX0_kronecker : List Cond := .code yX0_kronecker cX0_kronecker 7 (some .int) :: ((([Cond.constant RX0 66 (-4194304), Cond.constant RX0 38 4194304, Cond.methodLink RX0 71 yX0_symbolWithTwo, Cond.static yX0_symbolWithTwo, Cond.initialized RX0, Cond.code yX0_symbolWithTwo cX0_symbolWithTwo 4 (some .int), Cond.constantLong RX0 146 7, Cond.constantLong RX0 137 2, Cond.methodLink RX0 75 yX0_jacobi, Cond.static yX0_jacobi, Cond.code yX0_jacobi cX0_jacobi 8 (some .int), Cond.methodLink RX0 93 yX0_residue, Cond.static yX0_residue, Cond.code yX0_residue cX0_residue 5 (some .int), Cond.constantLong RX0 69 (-1), Cond.classLink RX0 39 "java/lang/IllegalArgumentException", Cond.initialized "java/lang/IllegalArgumentException"] : List Cond) ++ (vx_atS RX0 43 "java/lang/IllegalArgumentException" ["java/lang/RuntimeException", "java/lang/Exception"]).filter goodWord) ++ wsX00)
set_option maxHeartbeats 4000000 in
set_option maxRecDepth 100000 in
theorem x_r_kronecker (l : Launch) (hlt : l.stackTraces = false) (dC : Nat → ClassId) (dI : Nat → Nat → Nat) (sz F sa : Nat) (h0 h1 h2 h3 h4 h5 : Nat) (cA : ClassId) (nu pk dc rc : Int32) (pr ex dv rt sp : Nat → Int32) (p0 : Int64) (p1 : Int32) (h : f_r_kronecker F p0 p1 = some none) : vx_Met l yX0_kronecker xsX0_kronecker { frames := 6, cells := 1, slots := 6, locals := 90 } (rf_Py (dC, dI) [(cA, .int)] [(h0, .inr (0, [.int nu, .int pk, .ref h1, .ref h2, .int dc, .ref h3, .int rc, .ref h4, .ref h5])), (h1, .inl (cA, 7, .inl pr)), (h2, .inl (cA, 7, .inl ex)), (h3, .inl (cA, 360, .inl dv)), (h4, .inl (cA, 4096, .inl rt)), (h5, .inl (cA, 4096, .inl sp))] sz [.ref h0, .long p0, .int p1] RX0 67 "n must be -4194304 .. 4194304" sa "java/lang/IllegalArgumentException") (va_Qi (fun (_ : Int32) (_ : Unit) => False) (fun (_ : Unit) _ => True) (va_A [(h0, .inr (0, [.int nu, .int pk, .ref h1, .ref h2, .int dc, .ref h3, .int rc, .ref h4, .ref h5])), (h1, .inl (cA, 7, .inl pr)), (h2, .inl (cA, 7, .inl ex)), (h3, .inl (cA, 360, .inl dv)), (h4, .inl (cA, 4096, .inl rt)), (h5, .inl (cA, 4096, .inl sp))] sz)) (vx_X (fun _ : Unit => True) (fun E _ t => E = "java/lang/IllegalArgumentException" ∧ va_P (dC, dI) vwCl [(h0, .inr (0, [.int nu, .int pk, .ref h1, .ref h2, .int dc, .ref h3, .int rc, .ref h4, .ref h5])), (h1, .inl (cA, 7, .inl pr)), (h2, .inl (cA, 7, .inl ex)), (h3, .inl (cA, 360, .inl dv)), (h4, .inl (cA, 4096, .inl rt)), (h5, .inl (cA, 4096, .inl sp))] t.heap ∧ va_D (va_A [(h0, .inr (0, [.int nu, .int pk, .ref h1, .ref h2, .int dc, .ref h3, .int rc, .ref h4, .ref h5])), (h1, .inl (cA, 7, .inl pr)), (h2, .inl (cA, 7, .inl ex)), (h3, .inl (cA, 360, .inl dv)), (h4, .inl (cA, 4096, .inl rt)), (h5, .inl (cA, 4096, .inl sp))] sz) [(h0, .inr (0, [.int nu, .int pk, .ref h1, .ref h2, .int dc, .ref h3, .int rc, .ref h4, .ref h5])), (h1, .inl (cA, 7, .inl pr)), (h2, .inl (cA, 7, .inl ex)), (h3, .inl (cA, 360, .inl dv)), (h4, .inl (cA, 4096, .inl rt)), (h5, .inl (cA, 4096, .inl sp))]) (va_A [(h0, .inr (0, [.int nu, .int pk, .ref h1, .ref h2, .int dc, .ref h3, .int rc, .ref h4, .ref h5])), (h1, .inl (cA, 7, .inl pr)), (h2, .inl (cA, 7, .inl ex)), (h3, .inl (cA, 360, .inl dv)), (h4, .inl (cA, 4096, .inl rt)), (h5, .inl (cA, 4096, .inl sp))] sz)) 1 6 (va_A [(h0, .inr (0, [.int nu, .int pk, .ref h1, .ref h2, .int dc, .ref h3, .int rc, .ref h4, .ref h5])), (h1, .inl (cA, 7, .inl pr)), (h2, .inl (cA, 7, .inl ex)), (h3, .inl (cA, 360, .inl dv)), (h4, .inl (cA, 4096, .inl rt)), (h5, .inl (cA, 4096, .inl sp))] sz) := by
  refine vx_ofW (cc := cX0_kronecker) (maxL := 7) (ret := (some .int)) (by decide) rfl ?_
  intro p e s m args below meth c s₁ B hml hnx hv
  obtain ⟨rfl, ⟨hsz, hP, hK, hD0⟩, hstr, hU, hN, hNn⟩ := hv
  have hx := B.exec
  have hb := B.bytes
  have hr := B.returns
  have hts := atoms_spec (ws := xsX0_kronecker) B.pre
  have hown : s.vm.findClass RX0 = some m.cls := findClass_of_methodNamed B.named
  have hlocks := B.notSynchronized
  subst hsz
  have hD := hD0.self (sz := s.heap.size)
  generalize hAe : va_A [(h0, .inr (0, [.int nu, .int pk, .ref h1, .ref h2, .int dc, .ref h3, .int rc, .ref h4, .ref h5])), (h1, .inl (cA, 7, .inl pr)), (h2, .inl (cA, 7, .inl ex)), (h3, .inl (cA, 360, .inl dv)), (h4, .inl (cA, 4096, .inl rt)), (h5, .inl (cA, 4096, .inl sp))] s.heap.size = A at hD hU hN ⊢
  have hA : ∀ q : Nat, s.heap.size ≤ q → A q := fun q h => by rw [← hAe]; exact Or.inr h
  have hS : va_S A s.heap s.heap [] := va_S.rf
  have hl := lv_entry ([.ref h0, .long p0, .int p1]) (n := 7) (Nat.le_of_ble_eq_true rfl)
  rw [lg_entry_eq]
  generalize (lg_sl ([.ref h0, .long p0, .int p1]) ++ List.replicate (7 - (lg_sl ([.ref h0, .long p0, .int p1])).length) Slot.unset).toArray = ls at hl ⊢
  have hl : lv_has ls 7 [(0, .ref h0), (1, .long p0), (3, .int p1)] := hl
  unfold f_r_kronecker at h
  refine lv_iload_n hx hb dX0_kronecker_0 rfl (lv_at hl 2 rfl) ?_
  refine lv_ldc (v := (-4194304)) hx hb hown (hts _ (List.mem_of_getElem? (i := 1) rfl)) dX0_kronecker_1 ?_
  refine lv_icmp_lt (tgt := 12) hx hb dX0_kronecker_3 (by decide) (fun c1 => ?_) (fun c1 => ?_)
  · rw [if_pos c1] at h
    refine vx_throwS (text := "n must be -4194304 .. 4194304") (names := ["java/lang/RuntimeException", "java/lang/Exception"]) hx hb hlt hown (by decide) (by decide) (hts _ (List.mem_of_getElem? (i := 16) rfl)) (hts _ (List.mem_of_getElem? (i := 17) rfl)) hstr (vx_hat (B := rf_B "java/lang/IllegalArgumentException") (fun w hw => hts w (List.mem_cons_of_mem _ (List.mem_append_left _ (List.mem_append_right _ hw)))) (by decide +kernel) (hNn.at _)) (by decide +kernel) hU hN hS (hl.1.trans hml.symm) dX0_kronecker_12 dX0_kronecker_15 dX0_kronecker_16 dX0_kronecker_18 dX0_kronecker_21 (fun x hx => (hnx x hx).elim) (Nat.le_of_ble_eq_true rfl) (Nat.le_of_ble_eq_true rfl) (Nat.le_of_ble_eq_true rfl) (Nat.le_of_ble_eq_true rfl) hlocks (fun t hv h1 h2 => ?_) hS.2.2 (Nat.le_of_ble_eq_true rfl) (Nat.le_of_ble_eq_true rfl)
    obtain ⟨k1, k2⟩ := rf_xk hS hP h1 h2
    exact ⟨(), trivial, ⟨rfl, k1, hD⟩, k2⟩
  · rw [if_neg c1] at h
    refine lv_iload_n hx hb dX0_kronecker_6 rfl (lv_at hl 2 rfl) ?_
    refine lv_ldc (v := 4194304) hx hb hown (hts _ (List.mem_of_getElem? (i := 2) rfl)) dX0_kronecker_7 ?_
    refine lv_icmp_le (tgt := 22) hx hb dX0_kronecker_9 (by decide) (fun c2 => ?_) (fun c2 => ?_)
    · rw [if_pos c2] at h
      exact absurd h rf_smn
    · rw [if_neg c2] at h
      refine vx_throwS (text := "n must be -4194304 .. 4194304") (names := ["java/lang/RuntimeException", "java/lang/Exception"]) hx hb hlt hown (by decide) (by decide) (hts _ (List.mem_of_getElem? (i := 16) rfl)) (hts _ (List.mem_of_getElem? (i := 17) rfl)) hstr (vx_hat (B := rf_B "java/lang/IllegalArgumentException") (fun w hw => hts w (List.mem_cons_of_mem _ (List.mem_append_left _ (List.mem_append_right _ hw)))) (by decide +kernel) (hNn.at _)) (by decide +kernel) hU hN hS (hl.1.trans hml.symm) dX0_kronecker_12 dX0_kronecker_15 dX0_kronecker_16 dX0_kronecker_18 dX0_kronecker_21 (fun x hx => (hnx x hx).elim) (Nat.le_of_ble_eq_true rfl) (Nat.le_of_ble_eq_true rfl) (Nat.le_of_ble_eq_true rfl) (Nat.le_of_ble_eq_true rfl) hlocks (fun t hv h1 h2 => ?_) hS.2.2 (Nat.le_of_ble_eq_true rfl) (Nat.le_of_ble_eq_true rfl)
      obtain ⟨k1, k2⟩ := rf_xk hS hP h1 h2
      exact ⟨(), trivial, ⟨rfl, k1, hD⟩, k2⟩
def xsX0_power : List Cond := .code yX0_power cX0_power 5 (some .int) :: ((([Cond.fieldLink RX0 25 "RootFinder" "number" "I", Cond.methodLink RX0 81 yX0_raise, Cond.static yX0_raise, Cond.initialized RX0, Cond.code yX0_raise cX0_raise 12 (some .int), Cond.methodLink RX0 93 yX0_residue, Cond.static yX0_residue, Cond.code yX0_residue cX0_residue 5 (some .int), Cond.constantLong RX0 137 2, Cond.classLink RX0 39 "java/lang/IllegalArgumentException", Cond.initialized "java/lang/IllegalArgumentException"] : List Cond) ++ (vx_atS RX0 43 "java/lang/IllegalArgumentException" ["java/lang/RuntimeException", "java/lang/Exception"]).filter goodWord) ++ wsX00)
set_option maxHeartbeats 4000000 in
set_option maxRecDepth 100000 in
theorem x_r_power (l : Launch) (hlt : l.stackTraces = false) (dC : Nat → ClassId) (dI : Nat → Nat → Nat) (sz F sa : Nat) (h0 h1 h2 h3 h4 h5 : Nat) (cA : ClassId) (nu pk dc rc : Int32) (pr ex dv rt sp : Nat → Int32) (p0 p1 : Int64) (h : f_r_power F nu p0 p1 = some none) : vx_Met l yX0_power xsX0_power { frames := 6, cells := 1, slots := 6, locals := 90 } (rf_Py (dC, dI) [(cA, .int)] [(h0, .inr (0, [.int nu, .int pk, .ref h1, .ref h2, .int dc, .ref h3, .int rc, .ref h4, .ref h5])), (h1, .inl (cA, 7, .inl pr)), (h2, .inl (cA, 7, .inl ex)), (h3, .inl (cA, 360, .inl dv)), (h4, .inl (cA, 4096, .inl rt)), (h5, .inl (cA, 4096, .inl sp))] sz [.ref h0, .long p0, .long p1] RX0 79 "the exponent must not be below 0" sa "java/lang/IllegalArgumentException") (va_Qi (fun (_ : Int32) (_ : Unit) => False) (fun (_ : Unit) _ => True) (va_A [(h0, .inr (0, [.int nu, .int pk, .ref h1, .ref h2, .int dc, .ref h3, .int rc, .ref h4, .ref h5])), (h1, .inl (cA, 7, .inl pr)), (h2, .inl (cA, 7, .inl ex)), (h3, .inl (cA, 360, .inl dv)), (h4, .inl (cA, 4096, .inl rt)), (h5, .inl (cA, 4096, .inl sp))] sz)) (vx_X (fun _ : Unit => True) (fun E _ t => E = "java/lang/IllegalArgumentException" ∧ va_P (dC, dI) vwCl [(h0, .inr (0, [.int nu, .int pk, .ref h1, .ref h2, .int dc, .ref h3, .int rc, .ref h4, .ref h5])), (h1, .inl (cA, 7, .inl pr)), (h2, .inl (cA, 7, .inl ex)), (h3, .inl (cA, 360, .inl dv)), (h4, .inl (cA, 4096, .inl rt)), (h5, .inl (cA, 4096, .inl sp))] t.heap ∧ va_D (va_A [(h0, .inr (0, [.int nu, .int pk, .ref h1, .ref h2, .int dc, .ref h3, .int rc, .ref h4, .ref h5])), (h1, .inl (cA, 7, .inl pr)), (h2, .inl (cA, 7, .inl ex)), (h3, .inl (cA, 360, .inl dv)), (h4, .inl (cA, 4096, .inl rt)), (h5, .inl (cA, 4096, .inl sp))] sz) [(h0, .inr (0, [.int nu, .int pk, .ref h1, .ref h2, .int dc, .ref h3, .int rc, .ref h4, .ref h5])), (h1, .inl (cA, 7, .inl pr)), (h2, .inl (cA, 7, .inl ex)), (h3, .inl (cA, 360, .inl dv)), (h4, .inl (cA, 4096, .inl rt)), (h5, .inl (cA, 4096, .inl sp))]) (va_A [(h0, .inr (0, [.int nu, .int pk, .ref h1, .ref h2, .int dc, .ref h3, .int rc, .ref h4, .ref h5])), (h1, .inl (cA, 7, .inl pr)), (h2, .inl (cA, 7, .inl ex)), (h3, .inl (cA, 360, .inl dv)), (h4, .inl (cA, 4096, .inl rt)), (h5, .inl (cA, 4096, .inl sp))] sz)) 1 6 (va_A [(h0, .inr (0, [.int nu, .int pk, .ref h1, .ref h2, .int dc, .ref h3, .int rc, .ref h4, .ref h5])), (h1, .inl (cA, 7, .inl pr)), (h2, .inl (cA, 7, .inl ex)), (h3, .inl (cA, 360, .inl dv)), (h4, .inl (cA, 4096, .inl rt)), (h5, .inl (cA, 4096, .inl sp))] sz) := by
  refine vx_ofW (cc := cX0_power) (maxL := 5) (ret := (some .int)) (by decide) rfl ?_
  intro p e s m args below meth c s₁ B hml hnx hv
  obtain ⟨rfl, ⟨hsz, hP, hK, hD0⟩, hstr, hU, hN, hNn⟩ := hv
  have hx := B.exec
  have hb := B.bytes
  have hr := B.returns
  have hts := atoms_spec (ws := xsX0_power) B.pre
  have hown : s.vm.findClass RX0 = some m.cls := findClass_of_methodNamed B.named
  have hlocks := B.notSynchronized
  subst hsz
  have hD := hD0.self (sz := s.heap.size)
  generalize hAe : va_A [(h0, .inr (0, [.int nu, .int pk, .ref h1, .ref h2, .int dc, .ref h3, .int rc, .ref h4, .ref h5])), (h1, .inl (cA, 7, .inl pr)), (h2, .inl (cA, 7, .inl ex)), (h3, .inl (cA, 360, .inl dv)), (h4, .inl (cA, 4096, .inl rt)), (h5, .inl (cA, 4096, .inl sp))] s.heap.size = A at hD hU hN ⊢
  have hA : ∀ q : Nat, s.heap.size ≤ q → A q := fun q h => by rw [← hAe]; exact Or.inr h
  have hS : va_S A s.heap s.heap [] := va_S.rf
  have hl := lv_entry ([.ref h0, .long p0, .long p1]) (n := 5) (Nat.le_of_ble_eq_true rfl)
  rw [lg_entry_eq]
  generalize (lg_sl ([.ref h0, .long p0, .long p1]) ++ List.replicate (5 - (lg_sl ([.ref h0, .long p0, .long p1])).length) Slot.unset).toArray = ls at hl ⊢
  have hl : lv_has ls 5 [(0, .ref h0), (1, .long p0), (3, .long p1)] := hl
  unfold f_r_power at h
  refine lv_lload_n hx hb dX0_power_0 rfl (lv_at hl 2 rfl) ?_
  refine lv_lconst (v := 0) hx hb dX0_power_1 (by decide) ?_
  refine W.lcmp hx hb dX0_power_2 ?_
  refine lv_if_ge (tgt := 16) hx hb dX0_power_3 (by decide) (fun c1 => ?_) (fun c1 => ?_)
  · rw [lg_cmp_ge] at c1
    rw [if_pos c1] at h
    exact absurd h rf_smn
  · rw [lg_cmp_ge] at c1
    rw [if_neg c1] at h
    refine vx_throwS (text := "the exponent must not be below 0") (names := ["java/lang/RuntimeException", "java/lang/Exception"]) hx hb hlt hown (by decide) (by decide) (hts _ (List.mem_of_getElem? (i := 10) rfl)) (hts _ (List.mem_of_getElem? (i := 11) rfl)) hstr (vx_hat (B := rf_B "java/lang/IllegalArgumentException") (fun w hw => hts w (List.mem_cons_of_mem _ (List.mem_append_left _ (List.mem_append_right _ hw)))) (by decide +kernel) (hNn.at _)) (by decide +kernel) hU hN hS (hl.1.trans hml.symm) dX0_power_6 dX0_power_9 dX0_power_10 dX0_power_12 dX0_power_15 (fun x hx => (hnx x hx).elim) (Nat.le_of_ble_eq_true rfl) (Nat.le_of_ble_eq_true rfl) (Nat.le_of_ble_eq_true rfl) (Nat.le_of_ble_eq_true rfl) hlocks (fun t hv h1 h2 => ?_) hS.2.2 (Nat.le_of_ble_eq_true rfl) (Nat.le_of_ble_eq_true rfl)
    obtain ⟨k1, k2⟩ := rf_xk hS hP h1 h2
    exact ⟨(), trivial, ⟨rfl, k1, hD⟩, k2⟩
def xsX0_inverse : List Cond := .code yX0_inverse cX0_inverse 4 (some .int) :: ((([Cond.fieldLink RX0 25 "RootFinder" "number" "I", Cond.methodLink RX0 85 yX0_invert, Cond.static yX0_invert, Cond.initialized RX0, Cond.code yX0_invert cX0_invert 11 (some .int), Cond.methodLink RX0 93 yX0_residue, Cond.static yX0_residue, Cond.code yX0_residue cX0_residue 5 (some .int), Cond.classLink RX0 88 "java/lang/IllegalStateException", Cond.initialized "java/lang/IllegalStateException"] : List Cond) ++ (vx_atS RX0 92 "java/lang/IllegalStateException" ["java/lang/RuntimeException", "java/lang/Exception"]).filter goodWord) ++ wsX00)
set_option maxRecDepth 20000 in
theorem hggX0_inverse_X0_invert : GoodIn xsX0_inverse wsX0_invert := goodIn_r _ [5, 6, 7, 4, 8] (by decide +kernel) (by decide +kernel)
set_option maxRecDepth 20000 in
theorem hgX0_inverse_X0_invert : GoodIn xsX0_inverse (va_wsS RX0 85 yX0_invert wsX0_invert) := goodIn_app (goodIn_of _ (by decide +kernel)) hggX0_inverse_X0_invert
set_option maxHeartbeats 4000000 in
set_option maxRecDepth 100000 in
theorem x_r_inverse (l : Launch) (hlt : l.stackTraces = false) (dC : Nat → ClassId) (dI : Nat → Nat → Nat) (sz F sa : Nat) (h0 h1 h2 h3 h4 h5 : Nat) (cA : ClassId) (nu pk dc rc : Int32) (pr ex dv rt sp : Nat → Int32) (p0 : Int64) (h : f_r_inverse F nu p0 = some none) : vx_Met l yX0_inverse xsX0_inverse { frames := 6, cells := 1, slots := 6, locals := 90 } (rf_Py (dC, dI) [(cA, .int)] [(h0, .inr (0, [.int nu, .int pk, .ref h1, .ref h2, .int dc, .ref h3, .int rc, .ref h4, .ref h5])), (h1, .inl (cA, 7, .inl pr)), (h2, .inl (cA, 7, .inl ex)), (h3, .inl (cA, 360, .inl dv)), (h4, .inl (cA, 4096, .inl rt)), (h5, .inl (cA, 4096, .inl sp))] sz [.ref h0, .long p0] RX0 90 "there is no inverse" sa "java/lang/IllegalStateException") (va_Qi (fun (_ : Int32) (_ : Unit) => False) (fun (_ : Unit) _ => True) (va_A [(h0, .inr (0, [.int nu, .int pk, .ref h1, .ref h2, .int dc, .ref h3, .int rc, .ref h4, .ref h5])), (h1, .inl (cA, 7, .inl pr)), (h2, .inl (cA, 7, .inl ex)), (h3, .inl (cA, 360, .inl dv)), (h4, .inl (cA, 4096, .inl rt)), (h5, .inl (cA, 4096, .inl sp))] sz)) (vx_X (fun _ : Unit => True) (fun E _ t => E = "java/lang/IllegalStateException" ∧ va_P (dC, dI) vwCl [(h0, .inr (0, [.int nu, .int pk, .ref h1, .ref h2, .int dc, .ref h3, .int rc, .ref h4, .ref h5])), (h1, .inl (cA, 7, .inl pr)), (h2, .inl (cA, 7, .inl ex)), (h3, .inl (cA, 360, .inl dv)), (h4, .inl (cA, 4096, .inl rt)), (h5, .inl (cA, 4096, .inl sp))] t.heap ∧ va_D (va_A [(h0, .inr (0, [.int nu, .int pk, .ref h1, .ref h2, .int dc, .ref h3, .int rc, .ref h4, .ref h5])), (h1, .inl (cA, 7, .inl pr)), (h2, .inl (cA, 7, .inl ex)), (h3, .inl (cA, 360, .inl dv)), (h4, .inl (cA, 4096, .inl rt)), (h5, .inl (cA, 4096, .inl sp))] sz) [(h0, .inr (0, [.int nu, .int pk, .ref h1, .ref h2, .int dc, .ref h3, .int rc, .ref h4, .ref h5])), (h1, .inl (cA, 7, .inl pr)), (h2, .inl (cA, 7, .inl ex)), (h3, .inl (cA, 360, .inl dv)), (h4, .inl (cA, 4096, .inl rt)), (h5, .inl (cA, 4096, .inl sp))]) (va_A [(h0, .inr (0, [.int nu, .int pk, .ref h1, .ref h2, .int dc, .ref h3, .int rc, .ref h4, .ref h5])), (h1, .inl (cA, 7, .inl pr)), (h2, .inl (cA, 7, .inl ex)), (h3, .inl (cA, 360, .inl dv)), (h4, .inl (cA, 4096, .inl rt)), (h5, .inl (cA, 4096, .inl sp))] sz)) 1 6 (va_A [(h0, .inr (0, [.int nu, .int pk, .ref h1, .ref h2, .int dc, .ref h3, .int rc, .ref h4, .ref h5])), (h1, .inl (cA, 7, .inl pr)), (h2, .inl (cA, 7, .inl ex)), (h3, .inl (cA, 360, .inl dv)), (h4, .inl (cA, 4096, .inl rt)), (h5, .inl (cA, 4096, .inl sp))] sz) := by
  refine vx_ofW (cc := cX0_inverse) (maxL := 4) (ret := (some .int)) (by decide) rfl ?_
  intro p e s m args below meth c s₁ B hml hnx hv
  obtain ⟨rfl, ⟨hsz, hP, hK, hD0⟩, hstr, hU, hN, hNn⟩ := hv
  have hx := B.exec
  have hb := B.bytes
  have hr := B.returns
  have hts := atoms_spec (ws := xsX0_inverse) B.pre
  have hown : s.vm.findClass RX0 = some m.cls := findClass_of_methodNamed B.named
  have hlocks := B.notSynchronized
  subst hsz
  have hD := hD0.self (sz := s.heap.size)
  generalize hAe : va_A [(h0, .inr (0, [.int nu, .int pk, .ref h1, .ref h2, .int dc, .ref h3, .int rc, .ref h4, .ref h5])), (h1, .inl (cA, 7, .inl pr)), (h2, .inl (cA, 7, .inl ex)), (h3, .inl (cA, 360, .inl dv)), (h4, .inl (cA, 4096, .inl rt)), (h5, .inl (cA, 4096, .inl sp))] s.heap.size = A at hD hU hN ⊢
  have hA : ∀ q : Nat, s.heap.size ≤ q → A q := fun q h => by rw [← hAe]; exact Or.inr h
  have hS : va_S A s.heap s.heap [] := va_S.rf
  have hl := lv_entry ([.ref h0, .long p0]) (n := 4) (Nat.le_of_ble_eq_true rfl)
  rw [lg_entry_eq]
  generalize (lg_sl ([.ref h0, .long p0]) ++ List.replicate (4 - (lg_sl ([.ref h0, .long p0])).length) Slot.unset).toArray = ls at hl ⊢
  have hl : lv_has ls 4 [(0, .ref h0), (1, .long p0)] := hl
  unfold f_r_inverse at h
  refine lv_lload_n hx hb dX0_inverse_0 rfl (lv_at hl 1 rfl) ?_
  refine lv_aload_n hx hb dX0_inverse_1 rfl (lv_at hl 0 rfl) ?_
  refine va_get (D := (dC, dI)) (ci := 0) (v := .int nu) (C := RX0) (T := TX0) (N := 9) hx hb hts (fun _ h => List.mem_cons_of_mem _ (List.mem_append_right _ h)) hown hK hP 0 rfl rfl 0 (by decide) (hts _ (List.mem_of_getElem? (i := 1) rfl)) (fun _ h9 => h9) rfl dX0_inverse_2 ?_
  obtain ⟨r1, hr1, h⟩ := rf_b1 h
  refine rf_ci (wn := (fun _ : Unit => [])) (wc := []) (wr := [(h0, .inr (0, [.int nu, .int pk, .ref h1, .ref h2, .int dc, .ref h3, .int rc, .ref h4, .ref h5])), (h1, .inl (cA, 7, .inl pr)), (h2, .inl (cA, 7, .inl ex)), (h3, .inl (cA, 360, .inl dv)), (h4, .inl (cA, 4096, .inl rt)), (h5, .inl (cA, 4096, .inl sp))]) hP hD hS hA [] [0, 1, 2, 3, 4, 5] rfl rfl (by decide) (by decide) (va_runS (As := [.long p0, .int nu]) (rest := []) ⟨hx, hb, hml, hown, hts⟩ (c_r_invert l dC dI _ F p0 nu r1 hr1) (va_cwS 2 hts hgX0_inverse_X0_invert rfl rfl rfl (by decide +kernel) ⟨Nat.le_of_ble_eq_true rfl, Nat.le_of_ble_eq_true rfl⟩) ⟨rf_blind, fun U hU hW => ⟨rfl, rf_pre (hP.sub (ws' := []) [] rfl) (hK.sub (tys' := []) [] rfl) (hD.sub (ws' := []) [] (by decide) rfl) U hU hW⟩⟩ rfl rfl hl.1 rfl (lv_room (Nat.le_of_ble_eq_true rfl)) dX0_inverse_5 ⟨Nat.zero_le _, Nat.zero_le _⟩) (fun r1' u H locs hw hP hD hS => ?_)
  subst hw
  have hP : va_P (dC, dI) vwCl [(h0, .inr (0, [.int nu, .int pk, .ref h1, .ref h2, .int dc, .ref h3, .int rc, .ref h4, .ref h5])), (h1, .inl (cA, 7, .inl pr)), (h2, .inl (cA, 7, .inl ex)), (h3, .inl (cA, 360, .inl dv)), (h4, .inl (cA, 4096, .inl rt)), (h5, .inl (cA, 4096, .inl sp))] H := hP
  have hD : va_D A [(h0, .inr (0, [.int nu, .int pk, .ref h1, .ref h2, .int dc, .ref h3, .int rc, .ref h4, .ref h5])), (h1, .inl (cA, 7, .inl pr)), (h2, .inl (cA, 7, .inl ex)), (h3, .inl (cA, 360, .inl dv)), (h4, .inl (cA, 4096, .inl rt)), (h5, .inl (cA, 4096, .inl sp))] := hD
  refine lv_istore_n (lv' := [(3, .int r1), (0, .ref h0), (1, .long p0)]) hx hb dX0_inverse_8 rfl hl (by decide) rfl (fun ls hl => ?_)
  refine lv_iload_n hx hb dX0_inverse_9 rfl (lv_at hl 0 rfl) ?_
  refine lv_iconst (v := (-1)) hx hb dX0_inverse_10 (by decide) ?_
  refine lv_icmp_ne (tgt := 24) hx hb dX0_inverse_11 (by decide) (fun c2 => ?_) (fun c2 => ?_)
  · rw [if_neg c2] at h
    exact absurd h rf_smn
  · rw [if_pos c2] at h
    refine vx_throwS (text := "there is no inverse") (names := ["java/lang/RuntimeException", "java/lang/Exception"]) hx hb hlt hown (by decide) (by decide) (hts _ (List.mem_of_getElem? (i := 9) rfl)) (hts _ (List.mem_of_getElem? (i := 10) rfl)) hstr (vx_hat (B := rf_B "java/lang/IllegalStateException") (fun w hw => hts w (List.mem_cons_of_mem _ (List.mem_append_left _ (List.mem_append_right _ hw)))) (by decide +kernel) (hNn.at _)) (by decide +kernel) hU hN hS (hl.1.trans hml.symm) dX0_inverse_14 dX0_inverse_17 dX0_inverse_18 dX0_inverse_20 dX0_inverse_23 (fun x hx => (hnx x hx).elim) (Nat.le_of_ble_eq_true rfl) (Nat.le_of_ble_eq_true rfl) (Nat.le_of_ble_eq_true rfl) (Nat.le_of_ble_eq_true rfl) hlocks (fun t hv h1 h2 => ?_) hS.2.2 (Nat.le_of_ble_eq_true rfl) (Nat.le_of_ble_eq_true rfl)
    obtain ⟨k1, k2⟩ := rf_xk hS hP h1 h2
    exact ⟨(), trivial, ⟨rfl, k1, hD⟩, k2⟩
def xsX0_root : List Cond := .code yX0_root cX0_root 2 (some .int) :: ((([Cond.fieldLink RX0 35 "RootFinder" "rootCount" "I", Cond.fieldLink RX0 19 "RootFinder" "rootRow" "[I", Cond.classLink RX0 52 "java/lang/IndexOutOfBoundsException", Cond.initialized "java/lang/IndexOutOfBoundsException"] : List Cond) ++ (vx_atS RX0 56 "java/lang/IndexOutOfBoundsException" ["java/lang/RuntimeException", "java/lang/Exception"]).filter goodWord) ++ wsX00)
set_option maxHeartbeats 4000000 in
set_option maxRecDepth 100000 in
theorem x_r_root (l : Launch) (hlt : l.stackTraces = false) (dC : Nat → ClassId) (dI : Nat → Nat → Nat) (sz F sa : Nat) (h0 h1 h2 h3 h4 h5 : Nat) (cA : ClassId) (nu pk dc rc : Int32) (pr ex dv rt sp : Nat → Int32) (p0 : Int32) (h : f_r_root F rc rt p0 = some none) : vx_Met l yX0_root xsX0_root { frames := 6, cells := 1, slots := 6, locals := 90 } (rf_Py (dC, dI) [(cA, .int)] [(h0, .inr (0, [.int nu, .int pk, .ref h1, .ref h2, .int dc, .ref h3, .int rc, .ref h4, .ref h5])), (h1, .inl (cA, 7, .inl pr)), (h2, .inl (cA, 7, .inl ex)), (h3, .inl (cA, 360, .inl dv)), (h4, .inl (cA, 4096, .inl rt)), (h5, .inl (cA, 4096, .inl sp))] sz [.ref h0, .int p0] RX0 107 "there is no such root" sa "java/lang/IndexOutOfBoundsException") (va_Qi (fun (_ : Int32) (_ : Unit) => False) (fun (_ : Unit) _ => True) (va_A [(h0, .inr (0, [.int nu, .int pk, .ref h1, .ref h2, .int dc, .ref h3, .int rc, .ref h4, .ref h5])), (h1, .inl (cA, 7, .inl pr)), (h2, .inl (cA, 7, .inl ex)), (h3, .inl (cA, 360, .inl dv)), (h4, .inl (cA, 4096, .inl rt)), (h5, .inl (cA, 4096, .inl sp))] sz)) (vx_X (fun _ : Unit => True) (fun E _ t => E = "java/lang/IndexOutOfBoundsException" ∧ va_P (dC, dI) vwCl [(h0, .inr (0, [.int nu, .int pk, .ref h1, .ref h2, .int dc, .ref h3, .int rc, .ref h4, .ref h5])), (h1, .inl (cA, 7, .inl pr)), (h2, .inl (cA, 7, .inl ex)), (h3, .inl (cA, 360, .inl dv)), (h4, .inl (cA, 4096, .inl rt)), (h5, .inl (cA, 4096, .inl sp))] t.heap ∧ va_D (va_A [(h0, .inr (0, [.int nu, .int pk, .ref h1, .ref h2, .int dc, .ref h3, .int rc, .ref h4, .ref h5])), (h1, .inl (cA, 7, .inl pr)), (h2, .inl (cA, 7, .inl ex)), (h3, .inl (cA, 360, .inl dv)), (h4, .inl (cA, 4096, .inl rt)), (h5, .inl (cA, 4096, .inl sp))] sz) [(h0, .inr (0, [.int nu, .int pk, .ref h1, .ref h2, .int dc, .ref h3, .int rc, .ref h4, .ref h5])), (h1, .inl (cA, 7, .inl pr)), (h2, .inl (cA, 7, .inl ex)), (h3, .inl (cA, 360, .inl dv)), (h4, .inl (cA, 4096, .inl rt)), (h5, .inl (cA, 4096, .inl sp))]) (va_A [(h0, .inr (0, [.int nu, .int pk, .ref h1, .ref h2, .int dc, .ref h3, .int rc, .ref h4, .ref h5])), (h1, .inl (cA, 7, .inl pr)), (h2, .inl (cA, 7, .inl ex)), (h3, .inl (cA, 360, .inl dv)), (h4, .inl (cA, 4096, .inl rt)), (h5, .inl (cA, 4096, .inl sp))] sz)) 1 6 (va_A [(h0, .inr (0, [.int nu, .int pk, .ref h1, .ref h2, .int dc, .ref h3, .int rc, .ref h4, .ref h5])), (h1, .inl (cA, 7, .inl pr)), (h2, .inl (cA, 7, .inl ex)), (h3, .inl (cA, 360, .inl dv)), (h4, .inl (cA, 4096, .inl rt)), (h5, .inl (cA, 4096, .inl sp))] sz) := by
  refine vx_ofW (cc := cX0_root) (maxL := 2) (ret := (some .int)) (by decide) rfl ?_
  intro p e s m args below meth c s₁ B hml hnx hv
  obtain ⟨rfl, ⟨hsz, hP, hK, hD0⟩, hstr, hU, hN, hNn⟩ := hv
  have hx := B.exec
  have hb := B.bytes
  have hr := B.returns
  have hts := atoms_spec (ws := xsX0_root) B.pre
  have hown : s.vm.findClass RX0 = some m.cls := findClass_of_methodNamed B.named
  have hlocks := B.notSynchronized
  subst hsz
  have hD := hD0.self (sz := s.heap.size)
  generalize hAe : va_A [(h0, .inr (0, [.int nu, .int pk, .ref h1, .ref h2, .int dc, .ref h3, .int rc, .ref h4, .ref h5])), (h1, .inl (cA, 7, .inl pr)), (h2, .inl (cA, 7, .inl ex)), (h3, .inl (cA, 360, .inl dv)), (h4, .inl (cA, 4096, .inl rt)), (h5, .inl (cA, 4096, .inl sp))] s.heap.size = A at hD hU hN ⊢
  have hA : ∀ q : Nat, s.heap.size ≤ q → A q := fun q h => by rw [← hAe]; exact Or.inr h
  have hS : va_S A s.heap s.heap [] := va_S.rf
  have hl := lv_entry ([.ref h0, .int p0]) (n := 2) (Nat.le_of_ble_eq_true rfl)
  rw [lg_entry_eq]
  generalize (lg_sl ([.ref h0, .int p0]) ++ List.replicate (2 - (lg_sl ([.ref h0, .int p0])).length) Slot.unset).toArray = ls at hl ⊢
  have hl : lv_has ls 2 [(0, .ref h0), (1, .int p0)] := hl
  unfold f_r_root at h
  refine lv_iload_n hx hb dX0_root_0 rfl (lv_at hl 1 rfl) ?_
  refine lv_if_lt (tgt := 12) hx hb dX0_root_1 (by decide) (fun c1 => ?_) (fun c1 => ?_)
  · rw [if_pos c1] at h
    refine vx_throwS (text := "there is no such root") (names := ["java/lang/RuntimeException", "java/lang/Exception"]) hx hb hlt hown (by decide) (by decide) (hts _ (List.mem_of_getElem? (i := 3) rfl)) (hts _ (List.mem_of_getElem? (i := 4) rfl)) hstr (vx_hat (B := rf_B "java/lang/IndexOutOfBoundsException") (fun w hw => hts w (List.mem_cons_of_mem _ (List.mem_append_left _ (List.mem_append_right _ hw)))) (by decide +kernel) (hNn.at _)) (by decide +kernel) hU hN hS (hl.1.trans hml.symm) dX0_root_12 dX0_root_15 dX0_root_16 dX0_root_18 dX0_root_21 (fun x hx => (hnx x hx).elim) (Nat.le_of_ble_eq_true rfl) (Nat.le_of_ble_eq_true rfl) (Nat.le_of_ble_eq_true rfl) (Nat.le_of_ble_eq_true rfl) hlocks (fun t hv h1 h2 => ?_) hS.2.2 (Nat.le_of_ble_eq_true rfl) (Nat.le_of_ble_eq_true rfl)
    obtain ⟨k1, k2⟩ := rf_xk hS hP h1 h2
    exact ⟨(), trivial, ⟨rfl, k1, hD⟩, k2⟩
  · rw [if_neg c1] at h
    refine lv_iload_n hx hb dX0_root_4 rfl (lv_at hl 1 rfl) ?_
    refine lv_aload_n hx hb dX0_root_5 rfl (lv_at hl 0 rfl) ?_
    refine va_get (D := (dC, dI)) (ci := 0) (v := .int rc) (C := RX0) (T := TX0) (N := 9) hx hb hts (fun _ h => List.mem_cons_of_mem _ (List.mem_append_right _ h)) hown hK hP 0 rfl rfl 6 (by decide) (hts _ (List.mem_of_getElem? (i := 1) rfl)) (fun _ h9 => h9) rfl dX0_root_6 ?_
    refine lv_icmp_lt (tgt := 22) hx hb dX0_root_9 (by decide) (fun c2 => ?_) (fun c2 => ?_)
    · rw [if_pos c2] at h
      exact absurd h rf_smn
    · rw [if_neg c2] at h
      refine vx_throwS (text := "there is no such root") (names := ["java/lang/RuntimeException", "java/lang/Exception"]) hx hb hlt hown (by decide) (by decide) (hts _ (List.mem_of_getElem? (i := 3) rfl)) (hts _ (List.mem_of_getElem? (i := 4) rfl)) hstr (vx_hat (B := rf_B "java/lang/IndexOutOfBoundsException") (fun w hw => hts w (List.mem_cons_of_mem _ (List.mem_append_left _ (List.mem_append_right _ hw)))) (by decide +kernel) (hNn.at _)) (by decide +kernel) hU hN hS (hl.1.trans hml.symm) dX0_root_12 dX0_root_15 dX0_root_16 dX0_root_18 dX0_root_21 (fun x hx => (hnx x hx).elim) (Nat.le_of_ble_eq_true rfl) (Nat.le_of_ble_eq_true rfl) (Nat.le_of_ble_eq_true rfl) (Nat.le_of_ble_eq_true rfl) hlocks (fun t hv h1 h2 => ?_) hS.2.2 (Nat.le_of_ble_eq_true rfl) (Nat.le_of_ble_eq_true rfl)
      obtain ⟨k1, k2⟩ := rf_xk hS hP h1 h2
      exact ⟨(), trivial, ⟨rfl, k1, hD⟩, k2⟩
