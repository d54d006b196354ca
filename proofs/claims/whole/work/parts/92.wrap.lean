/-! the law's own methods, each a call of the class in a try -/
def R_law : String := "RootFinderLaw"
theorem rf_yat {A : Nat → Prop} {s : State} {H : Heap} {locs : List Loc} {wc : va_W} {own : String} {is : Nat} {tx : String} {sa : Nat} {X : String} (hstr : vk_R own is tx sa s) (hU : vx_Zq Bundle.tN "UNASSIGNED_STACK" Bundle.steD A s s.heap) (hN : vx_Zq Bundle.tN "SUPPRESSED_SENTINEL" Bundle.listD A s s.heap) (hNn : rf_N X s) (hS : va_S A s.heap H locs) (hF : ∀ q, va_A wc H.size q → A q) : ∀ U : State, U.heap = H → s.WarmedH U.vm → rf_Y wc H.size own is tx sa X U :=
  fun U hH hW => ⟨vk_R.warm hW hstr, by rw [hH]; exact vx_Zq.moved hW.alike ((hU.kept hS.2.1).narrow hF), by rw [hH]; exact vx_Zq.moved hW.alike ((hN.kept hS.2.1).narrow hF), rf_N.moved hW.alike hNn⟩
theorem rf_in0 : vp_in 0 1 := vp_in_iff.mpr ⟨by decide, by decide⟩
abbrev cL_take : ByteArray := method_3_code
def yL_take : MethodName := ⟨R_law, "take", "(LRootFinder;I[J)I"⟩
theorem dL_take_0 : decode cL_take 0 = .ok (.aload_n 2, 1) := by decide +kernel
theorem dL_take_1 : decode cL_take 1 = .ok (.iconst 0, 1) := by decide +kernel
theorem dL_take_2 : decode cL_take 2 = .ok (.aload_n 0, 1) := by decide +kernel
theorem dL_take_3 : decode cL_take 3 = .ok (.iload_n 1, 1) := by decide +kernel
theorem dL_take_4 : decode cL_take 4 = .ok (.invokevirtual 7, 3) := by decide +kernel
theorem dL_take_7 : decode cL_take 7 = .ok (.i2l, 1) := by decide +kernel
theorem dL_take_8 : decode cL_take 8 = .ok (.lastore, 1) := by decide +kernel
theorem dL_take_9 : decode cL_take 9 = .ok (.goto 6, 3) := by decide +kernel
theorem dL_take_12 : decode cL_take 12 = .ok (.astore_n 3, 1) := by decide +kernel
theorem dL_take_13 : decode cL_take 13 = .ok (.iconst 1, 1) := by decide +kernel
theorem dL_take_14 : decode cL_take 14 = .ok (.ireturn, 1) := by decide +kernel
theorem dL_take_15 : decode cL_take 15 = .ok (.iconst 0, 1) := by decide +kernel
theorem dL_take_16 : decode cL_take 16 = .ok (.ireturn, 1) := by decide +kernel
def wsL_take : List Cond := .codeWith yL_take cL_take 4 (some .int) [(0, 9, 12, 13)] :: ((([Cond.classLink R_law 13 "java/lang/IllegalArgumentException", Cond.methodLink R_law 7 yX0_take, Cond.instanceMethod yX0_take, Cond.selects RX0 yX0_take yX0_take, Cond.initialized RX0, Cond.code yX0_take cX0_take 2 (some .int), Cond.constant RX0 38 4194304, Cond.fieldLink RX0 25 "RootFinder" "number" "I", Cond.fieldLink RX0 35 "RootFinder" "rootCount" "I", Cond.methodLink RX0 46 yX0_findPrimes, Cond.instanceMethod yX0_findPrimes, Cond.selects RX0 yX0_findPrimes yX0_findPrimes, Cond.code yX0_findPrimes cX0_findPrimes 4 none, Cond.fieldLink RX0 29 "RootFinder" "primeCount" "I", Cond.methodLink RX0 109 yX0_addPrime, Cond.instanceMethod yX0_addPrime, Cond.selects RX0 yX0_addPrime yX0_addPrime, Cond.code yX0_addPrime cX0_addPrime 3 none, Cond.fieldLink RX0 9 "RootFinder" "primeRow" "[I", Cond.fieldLink RX0 13 "RootFinder" "exponentRow" "[I", Cond.methodLink RX0 49 yX0_findDivisors, Cond.instanceMethod yX0_findDivisors, Cond.selects RX0 yX0_findDivisors yX0_findDivisors, Cond.code yX0_findDivisors cX0_findDivisors 5 none, Cond.fieldLink RX0 16 "RootFinder" "divisorRow" "[I", Cond.fieldLink RX0 32 "RootFinder" "divisorCount" "I", Cond.methodLink RX0 113 yX0_addMultiples, Cond.instanceMethod yX0_addMultiples, Cond.selects RX0 yX0_addMultiples yX0_addMultiples, Cond.code yX0_addMultiples cX0_addMultiples 4 none, Cond.methodLink RX0 103 yX0_sortRising, Cond.instanceMethod yX0_sortRising, Cond.selects RX0 yX0_sortRising yX0_sortRising, Cond.code yX0_sortRising cX0_sortRising 7 none, Cond.fieldLink RX0 22 "RootFinder" "spareRow" "[I", Cond.methodLink RX0 148 yX0_isRising, Cond.static yX0_isRising, Cond.code yX0_isRising cX0_isRising 3 (some .boolean), Cond.methodLink RX0 152 Lib.Math.min.name, Cond.static Lib.Math.min.name, Cond.initialized "java/lang/Math", Cond.code Lib.Math.min.name Lib.Math.min.code 2 (some .int), Cond.methodLink RX0 157 yX0_mergeRuns, Cond.static yX0_mergeRuns, Cond.code yX0_mergeRuns cX0_mergeRuns 8 none, Cond.methodLink RX0 161 arraycopyName, Cond.native arraycopyName, Cond.static arraycopyName, Cond.initialized "java/lang/System", Cond.classLink RX0 39 "java/lang/IllegalArgumentException", Cond.initialized "java/lang/IllegalArgumentException"] : List Cond) ++ (vx_atS RX0 43 "java/lang/IllegalArgumentException" ["java/lang/RuntimeException", "java/lang/Exception"]).filter goodWord) ++ wsX00)
set_option maxRecDepth 20000 in
theorem ggL_take_ok : GoodIn wsL_take wsX0_take := goodIn_r _ [6, 7, 8, 9, 10, 11, 12, 5, 13, 14, 15, 16, 17, 18, 19, 20, 21, 22, 23, 24, 25, 26, 27, 28, 29, 30, 31, 32, 33, 34, 35, 36, 37, 38, 39, 40, 41, 42, 43, 44, 45, 46, 47, 48, 49, 50, 51, 101, 102, 103, 104, 105, 106, 107, 108, 109] (by decide +kernel) (by decide +kernel)
set_option maxRecDepth 20000 in
theorem gL_take_ok : GoodIn wsL_take (wsV R_law 7 RX0 yX0_take wsX0_take) := goodIn_app (goodIn_of _ (by decide +kernel)) ggL_take_ok
set_option maxRecDepth 20000 in
theorem ggL_take_ex : GoodIn wsL_take xsX0_take := goodIn_r _ [6, 7, 8, 9, 10, 11, 12, 5, 13, 14, 15, 16, 17, 18, 19, 20, 21, 22, 23, 24, 25, 26, 27, 28, 29, 30, 31, 32, 33, 34, 35, 36, 37, 38, 39, 40, 41, 42, 43, 44, 45, 46, 47, 48, 49, 50, 51, 52, 53, 54, 55, 56, 57, 58, 59, 60, 61, 62, 63, 64, 65, 66, 67, 68, 69, 70, 71, 72, 73, 74, 75, 76, 77, 78, 79, 80, 81, 82, 83, 84, 85, 86, 87, 88, 89, 90, 91, 92, 93, 94, 95, 96, 97, 98, 99, 100, 101, 102, 103, 104, 105, 106, 107, 108, 109] (by decide +kernel) (by decide +kernel)
set_option maxRecDepth 20000 in
theorem gL_take_ex : GoodIn wsL_take (wsV R_law 7 RX0 yX0_take xsX0_take) := goodIn_app (goodIn_of _ (by decide +kernel)) ggL_take_ex
set_option maxHeartbeats 4000000 in
set_option maxRecDepth 100000 in
theorem k_take (l : Launch) (hlt : l.stackTraces = false) (dC : Nat → ClassId) (dI : Nat → Nat → Nat) (sz F sa : Nat) (h0 h1 h2 h3 h4 h5 qo : Nat) (cA cL : ClassId) (nu pk dc rc : Int32) (pr ex dv rt sp : Nat → Int32) (o : Nat → Int64) (p0 nu' pk' dc' rc' : Int32) (pr' ex' dv' sp' : Nat → Int32) (o' : Nat → Int64) (k : Int32) (h : (f_r_take F nu pk dc rc pr ex dv sp p0 = some none ∧ k = 1 ∧ nu = nu' ∧ pk = pk' ∧ dc = dc' ∧ rc = rc' ∧ pr = pr' ∧ ex = ex' ∧ dv = dv' ∧ sp = sp' ∧ o = o') ∨ (∃ rv : Int32, f_r_take F nu pk dc rc pr ex dv sp p0 = some (some (rv, nu', pk', dc', rc', pr', ex', dv', sp')) ∧ k = 0 ∧ o' = vp_updL o (0 : Int32).toNatClampNeg (Int32.toInt64 rv))) : Met l yL_take wsL_take { frames := 7, cells := 1, slots := 6, locals := 131 } (rf_Py (dC, dI) [(cA, .int), (cL, .long)] [(h0, .inr (0, [.int nu, .int pk, .ref h1, .ref h2, .int dc, .ref h3, .int rc, .ref h4, .ref h5])), (h1, .inl (cA, 7, .inl pr)), (h2, .inl (cA, 7, .inl ex)), (h3, .inl (cA, 360, .inl dv)), (h4, .inl (cA, 4096, .inl rt)), (h5, .inl (cA, 4096, .inl sp)), (qo, .inl (cL, 1, .inr (.inl o)))] sz [.ref h0, .int p0, .ref qo] RX0 41 "the number must be 1 .. 4194304" sa "java/lang/IllegalArgumentException") (va_Qi (fun (r : Int32) (_ : Unit) => k = r) (fun (_ : Unit) t => va_P (dC, dI) vwCl [(h0, .inr (0, [.int nu', .int pk', .ref h1, .ref h2, .int dc', .ref h3, .int rc', .ref h4, .ref h5])), (h1, .inl (cA, 7, .inl pr')), (h2, .inl (cA, 7, .inl ex')), (h3, .inl (cA, 360, .inl dv')), (h4, .inl (cA, 4096, .inl rt)), (h5, .inl (cA, 4096, .inl sp')), (qo, .inl (cL, 1, .inr (.inl o')))] t.heap ∧ va_D (va_A [(h0, .inr (0, [.int nu, .int pk, .ref h1, .ref h2, .int dc, .ref h3, .int rc, .ref h4, .ref h5])), (h1, .inl (cA, 7, .inl pr)), (h2, .inl (cA, 7, .inl ex)), (h3, .inl (cA, 360, .inl dv)), (h4, .inl (cA, 4096, .inl rt)), (h5, .inl (cA, 4096, .inl sp)), (qo, .inl (cL, 1, .inr (.inl o)))] sz) [(h0, .inr (0, [.int nu', .int pk', .ref h1, .ref h2, .int dc', .ref h3, .int rc', .ref h4, .ref h5])), (h1, .inl (cA, 7, .inl pr')), (h2, .inl (cA, 7, .inl ex')), (h3, .inl (cA, 360, .inl dv')), (h4, .inl (cA, 4096, .inl rt)), (h5, .inl (cA, 4096, .inl sp')), (qo, .inl (cL, 1, .inr (.inl o')))]) (va_A [(h0, .inr (0, [.int nu, .int pk, .ref h1, .ref h2, .int dc, .ref h3, .int rc, .ref h4, .ref h5])), (h1, .inl (cA, 7, .inl pr)), (h2, .inl (cA, 7, .inl ex)), (h3, .inl (cA, 360, .inl dv)), (h4, .inl (cA, 4096, .inl rt)), (h5, .inl (cA, 4096, .inl sp)), (qo, .inl (cL, 1, .inr (.inl o)))] sz)) 1 6 (va_A [(h0, .inr (0, [.int nu, .int pk, .ref h1, .ref h2, .int dc, .ref h3, .int rc, .ref h4, .ref h5])), (h1, .inl (cA, 7, .inl pr)), (h2, .inl (cA, 7, .inl ex)), (h3, .inl (cA, 360, .inl dv)), (h4, .inl (cA, 4096, .inl rt)), (h5, .inl (cA, 4096, .inl sp)), (qo, .inl (cL, 1, .inr (.inl o)))] sz) := by
  refine va_MetW (cc := cL_take) (maxL := 4) (ret := (some .int)) (hh := [(0, 9, 12, 13)]) (by decide) rfl ?_
  intro p e s m args below meth c s₁ B hml hv
  obtain ⟨rfl, ⟨hsz, hP, hK, hD0⟩, hstr, hU, hN, hNn⟩ := hv
  have hx := B.exec
  have hb := B.bytes
  have hr := B.returns
  have hts := atoms_spec (ws := wsL_take) B.pre
  have hown : s.vm.findClass R_law = some m.cls := findClass_of_methodNamed B.named
  have hlocks := B.notSynchronized
  have htab := vx_table (x := yL_take) B (hts (.codeWith yL_take cL_take 4 (some .int) [(0, 9, 12, 13)]) List.mem_cons_self)
  subst hsz
  have hD := hD0.self (sz := s.heap.size)
  generalize hAe : va_A [(h0, .inr (0, [.int nu, .int pk, .ref h1, .ref h2, .int dc, .ref h3, .int rc, .ref h4, .ref h5])), (h1, .inl (cA, 7, .inl pr)), (h2, .inl (cA, 7, .inl ex)), (h3, .inl (cA, 360, .inl dv)), (h4, .inl (cA, 4096, .inl rt)), (h5, .inl (cA, 4096, .inl sp)), (qo, .inl (cL, 1, .inr (.inl o)))] s.heap.size = A at hD hU hN ⊢
  have hA : ∀ q : Nat, s.heap.size ≤ q → A q := fun q h => by rw [← hAe]; exact Or.inr h
  have hS : va_S A s.heap s.heap [] := va_S.rf
  have hl := lv_entry ([.ref h0, .int p0, .ref qo]) (n := 4) (Nat.le_of_ble_eq_true rfl)
  rw [lg_entry_eq]
  generalize (lg_sl ([.ref h0, .int p0, .ref qo]) ++ List.replicate (4 - (lg_sl ([.ref h0, .int p0, .ref qo])).length) Slot.unset).toArray = ls at hl ⊢
  have hl : lv_has ls 4 [(0, .ref h0), (1, .int p0), (2, .ref qo)] := hl
  have hF := va_free (wc := [(h0, .inr (0, [.int nu, .int pk, .ref h1, .ref h2, .int dc, .ref h3, .int rc, .ref h4, .ref h5])), (h1, .inl (cA, 7, .inl pr)), (h2, .inl (cA, 7, .inl ex)), (h3, .inl (cA, 360, .inl dv)), (h4, .inl (cA, 4096, .inl rt)), (h5, .inl (cA, 4096, .inl sp))]) hD hS hA [0, 1, 2, 3, 4, 5] rfl
  refine lv_aload_n hx hb dL_take_0 rfl (lv_at hl 2 rfl) ?_
  refine lv_iconst (v := 0) hx hb dL_take_1 (by decide) ?_
  refine lv_aload_n hx hb dL_take_2 rfl (lv_at hl 0 rfl) ?_
  refine lv_iload_n hx hb dL_take_3 rfl (lv_at hl 1 rfl) ?_
  rcases h with ⟨h, rfl, rfl, rfl, rfl, rfl, rfl, rfl, rfl, rfl, rfl⟩ | ⟨rv, h, rfl, rfl⟩
  · refine vx_calli (vx_runV (As := [.int p0]) (rest := [.int 0, .ref qo]) ⟨hx, hb, hml, hown, hts⟩ (x_r_take l hlt dC dI _ F sa h0 h1 h2 h3 h4 h5 cA nu pk dc rc pr ex dv rt sp p0 h) (cwV 1 hts gL_take_ex rfl rfl rfl (by decide +kernel) ⟨(Nat.le_of_ble_eq_true rfl), (Nat.le_of_ble_eq_true rfl)⟩) ⟨rf_blindy, va_recv hK hP (ci := 0) (q0 := 0) rfl rfl, fun U hU9 hW => ⟨rfl, rf_pre (hP.sub (ws' := [(h0, .inr (0, [.int nu, .int pk, .ref h1, .ref h2, .int dc, .ref h3, .int rc, .ref h4, .ref h5])), (h1, .inl (cA, 7, .inl pr)), (h2, .inl (cA, 7, .inl ex)), (h3, .inl (cA, 360, .inl dv)), (h4, .inl (cA, 4096, .inl rt)), (h5, .inl (cA, 4096, .inl sp))]) [0, 1, 2, 3, 4, 5] rfl) (hK.sub (tys' := [(cA, .int)]) [0] rfl) (hD.sub (ws' := [(h0, .inr (0, [.int nu, .int pk, .ref h1, .ref h2, .int dc, .ref h3, .int rc, .ref h4, .ref h5])), (h1, .inl (cA, 7, .inl pr)), (h2, .inl (cA, 7, .inl ex)), (h3, .inl (cA, 360, .inl dv)), (h4, .inl (cA, 4096, .inl rt)), (h5, .inl (cA, 4096, .inl sp))]) [0, 1, 2, 3, 4, 5] (by decide) rfl) U hU9 hW, rf_yat hstr hU hN hNn hS hF U hU9 hW⟩⟩ rfl rfl hl.1 rfl (lv_room (Nat.le_of_ble_eq_true rfl)) dL_take_4 ⟨(Nat.le_of_ble_eq_true rfl), (Nat.le_of_ble_eq_true rfl)⟩) hS (fun q _ h => hF q h) hF (fun q _ h => hF q h) (fun E9 ce q9 u t H1 locs1 ht hvm hpx hB hz hk hS hce hcv hcl => ?_) (fun r u t H1 locs1 ht hvm hp hB hz hk hS => hp.elim)
    obtain ⟨rfl, hP1, hD1⟩ := hB
    rw [ht] at hP1
    obtain ⟨hP, hD⟩ := va_join (wr := [(qo, .inl (cL, 1, .inr (.inl o)))]) (w1 := [(h0, .inr (0, [.int nu, .int pk, .ref h1, .ref h2, .int dc, .ref h3, .int rc, .ref h4, .ref h5])), (h1, .inl (cA, 7, .inl pr)), (h2, .inl (cA, 7, .inl ex)), (h3, .inl (cA, 360, .inl dv)), (h4, .inl (cA, 4096, .inl rt)), (h5, .inl (cA, 4096, .inl sp))]) hP hD [0, 1, 2, 3, 4, 5] [6] rfl rfl (by decide) (by decide) hk hF hP1 hD1
    have hP := hP.sub (ws' := [(h0, .inr (0, [.int nu, .int pk, .ref h1, .ref h2, .int dc, .ref h3, .int rc, .ref h4, .ref h5])), (h1, .inl (cA, 7, .inl pr)), (h2, .inl (cA, 7, .inl ex)), (h3, .inl (cA, 360, .inl dv)), (h4, .inl (cA, 4096, .inl rt)), (h5, .inl (cA, 4096, .inl sp)), (qo, .inl (cL, 1, .inr (.inl o)))]) [1, 2, 3, 4, 5, 6, 0] rfl
    have hD := hD.sub (ws' := [(h0, .inr (0, [.int nu, .int pk, .ref h1, .ref h2, .int dc, .ref h3, .int rc, .ref h4, .ref h5])), (h1, .inl (cA, 7, .inl pr)), (h2, .inl (cA, 7, .inl ex)), (h3, .inl (cA, 360, .inl dv)), (h4, .inl (cA, 4096, .inl rt)), (h5, .inl (cA, 4096, .inl sp)), (qo, .inl (cL, 1, .inr (.inl o)))]) [1, 2, 3, 4, 5, 6, 0] (by decide) rfl
    refine vx_catch hown [] ⟨0, 9, 12, 13⟩ [] (htab.trans rfl) (fun z hz => nomatch hz) (by decide) (by decide) (hts _ (List.mem_of_getElem? (i := 1) rfl)) (hNn.at _ _ (List.mem_of_getElem? (i := 3) rfl)) hce hcv hcl ?_
    refine lv_astore_n (x := q9) (lv' := [(3, .ref q9), (0, .ref h0), (1, .int p0), (2, .ref qo)]) hx hb dL_take_12 rfl hl (by decide) rfl (fun ls hl => ?_)
    refine lv_iconst (v := 1) hx hb dL_take_13 (by decide) ?_
    refine W.widen (k := 1) (n := 6) (Nat.le_of_ble_eq_true rfl) (Nat.le_of_ble_eq_true rfl) ?_
    exact W.iret hx hb hr (fun t ht hW => ⟨⟨_, (), rfl, rfl, by rw [ht]; exact hP, hD⟩, hS.F ht⟩) hS.2.2 dL_take_14
  · refine rf_ci (wn := (fun _ : Unit => [(h0, .inr (0, [.int nu', .int pk', .ref h1, .ref h2, .int dc', .ref h3, .int rc', .ref h4, .ref h5])), (h1, .inl (cA, 7, .inl pr')), (h2, .inl (cA, 7, .inl ex')), (h3, .inl (cA, 360, .inl dv')), (h4, .inl (cA, 4096, .inl rt)), (h5, .inl (cA, 4096, .inl sp'))])) (wc := [(h0, .inr (0, [.int nu, .int pk, .ref h1, .ref h2, .int dc, .ref h3, .int rc, .ref h4, .ref h5])), (h1, .inl (cA, 7, .inl pr)), (h2, .inl (cA, 7, .inl ex)), (h3, .inl (cA, 360, .inl dv)), (h4, .inl (cA, 4096, .inl rt)), (h5, .inl (cA, 4096, .inl sp))]) (wr := [(qo, .inl (cL, 1, .inr (.inl o)))]) hP hD hS hA [0, 1, 2, 3, 4, 5] [6] rfl rfl (by decide) (by decide) (va_runV (As := [.int p0]) (rest := [.int 0, .ref qo]) ⟨hx, hb, hml, hown, hts⟩ (c_r_take l dC dI _ F h0 h1 h2 h3 h4 h5 cA nu pk dc rc pr ex dv rt sp p0 rv nu' pk' dc' rc' pr' ex' dv' sp' h) (cwV 1 hts gL_take_ok rfl rfl rfl (by decide +kernel) ⟨(Nat.le_of_ble_eq_true rfl), (Nat.le_of_ble_eq_true rfl)⟩) ⟨rf_blind, va_recv hK hP (ci := 0) (q0 := 0) rfl rfl, fun U hU9 hW => ⟨rfl, rf_pre (hP.sub (ws' := [(h0, .inr (0, [.int nu, .int pk, .ref h1, .ref h2, .int dc, .ref h3, .int rc, .ref h4, .ref h5])), (h1, .inl (cA, 7, .inl pr)), (h2, .inl (cA, 7, .inl ex)), (h3, .inl (cA, 360, .inl dv)), (h4, .inl (cA, 4096, .inl rt)), (h5, .inl (cA, 4096, .inl sp))]) [0, 1, 2, 3, 4, 5] rfl) (hK.sub (tys' := [(cA, .int)]) [0] rfl) (hD.sub (ws' := [(h0, .inr (0, [.int nu, .int pk, .ref h1, .ref h2, .int dc, .ref h3, .int rc, .ref h4, .ref h5])), (h1, .inl (cA, 7, .inl pr)), (h2, .inl (cA, 7, .inl ex)), (h3, .inl (cA, 360, .inl dv)), (h4, .inl (cA, 4096, .inl rt)), (h5, .inl (cA, 4096, .inl sp))]) [0, 1, 2, 3, 4, 5] (by decide) rfl) U hU9 hW⟩⟩ rfl rfl hl.1 rfl (lv_room (Nat.le_of_ble_eq_true rfl)) dL_take_4 ⟨Nat.zero_le _, Nat.zero_le _⟩) (fun r' u H locs hw hP hD hS => ?_)
    subst hw
    have hP := hP.sub (ws' := [(h0, .inr (0, [.int nu', .int pk', .ref h1, .ref h2, .int dc', .ref h3, .int rc', .ref h4, .ref h5])), (h1, .inl (cA, 7, .inl pr')), (h2, .inl (cA, 7, .inl ex')), (h3, .inl (cA, 360, .inl dv')), (h4, .inl (cA, 4096, .inl rt)), (h5, .inl (cA, 4096, .inl sp')), (qo, .inl (cL, 1, .inr (.inl o)))]) [1, 2, 3, 4, 5, 6, 0] rfl
    have hD := hD.sub (ws' := [(h0, .inr (0, [.int nu', .int pk', .ref h1, .ref h2, .int dc', .ref h3, .int rc', .ref h4, .ref h5])), (h1, .inl (cA, 7, .inl pr')), (h2, .inl (cA, 7, .inl ex')), (h3, .inl (cA, 360, .inl dv')), (h4, .inl (cA, 4096, .inl rt)), (h5, .inl (cA, 4096, .inl sp')), (qo, .inl (cL, 1, .inr (.inl o)))]) [1, 2, 3, 4, 5, 6, 0] (by decide) rfl
    refine lv_i2l (v := (Int32.toInt64 rv)) hx hb dL_take_7 rfl ?_
    refine va_last hx hb hK hP hD hS 6 1 rfl rfl rf_in0 dL_take_8 (fun H locs hP hD hS => ?_)
    refine lv_goto (tgt := 15) hx hb dL_take_9 (by decide) ?_
    refine lv_iconst (v := 0) hx hb dL_take_15 (by decide) ?_
    refine W.widen (k := 1) (n := 6) (Nat.le_of_ble_eq_true rfl) (Nat.le_of_ble_eq_true rfl) ?_
    exact W.iret hx hb hr (fun t ht hW => ⟨⟨_, (), rfl, rfl, by rw [ht]; exact hP, hD⟩, hS.F ht⟩) hS.2.2 dL_take_16
abbrev cL_prime : ByteArray := method_4_code
def yL_prime : MethodName := ⟨R_law, "prime", "(LRootFinder;I[J)I"⟩
theorem dL_prime_0 : decode cL_prime 0 = .ok (.aload_n 2, 1) := by decide +kernel
theorem dL_prime_1 : decode cL_prime 1 = .ok (.iconst 0, 1) := by decide +kernel
theorem dL_prime_2 : decode cL_prime 2 = .ok (.aload_n 0, 1) := by decide +kernel
theorem dL_prime_3 : decode cL_prime 3 = .ok (.iload_n 1, 1) := by decide +kernel
theorem dL_prime_4 : decode cL_prime 4 = .ok (.invokevirtual 15, 3) := by decide +kernel
theorem dL_prime_7 : decode cL_prime 7 = .ok (.i2l, 1) := by decide +kernel
theorem dL_prime_8 : decode cL_prime 8 = .ok (.lastore, 1) := by decide +kernel
theorem dL_prime_9 : decode cL_prime 9 = .ok (.goto 6, 3) := by decide +kernel
theorem dL_prime_12 : decode cL_prime 12 = .ok (.astore_n 3, 1) := by decide +kernel
theorem dL_prime_13 : decode cL_prime 13 = .ok (.iconst 1, 1) := by decide +kernel
theorem dL_prime_14 : decode cL_prime 14 = .ok (.ireturn, 1) := by decide +kernel
theorem dL_prime_15 : decode cL_prime 15 = .ok (.iconst 0, 1) := by decide +kernel
theorem dL_prime_16 : decode cL_prime 16 = .ok (.ireturn, 1) := by decide +kernel
def wsL_prime : List Cond := .codeWith yL_prime cL_prime 4 (some .int) [(0, 9, 12, 18)] :: ((([Cond.classLink R_law 18 "java/lang/IndexOutOfBoundsException", Cond.methodLink R_law 15 yX0_prime, Cond.instanceMethod yX0_prime, Cond.selects RX0 yX0_prime yX0_prime, Cond.initialized RX0, Cond.code yX0_prime cX0_prime 2 (some .int), Cond.fieldLink RX0 29 "RootFinder" "primeCount" "I", Cond.fieldLink RX0 9 "RootFinder" "primeRow" "[I", Cond.classLink RX0 52 "java/lang/IndexOutOfBoundsException", Cond.initialized "java/lang/IndexOutOfBoundsException"] : List Cond) ++ (vx_atS RX0 56 "java/lang/IndexOutOfBoundsException" ["java/lang/RuntimeException", "java/lang/Exception"]).filter goodWord) ++ wsX00)
set_option maxRecDepth 20000 in
theorem ggL_prime_ok : GoodIn wsL_prime wsX0_prime := goodIn_r _ [6, 7, 8, 9, 10, 60, 61, 62, 63, 64, 65, 66, 67, 68] (by decide +kernel) (by decide +kernel)
set_option maxRecDepth 20000 in
theorem gL_prime_ok : GoodIn wsL_prime (wsV R_law 15 RX0 yX0_prime wsX0_prime) := goodIn_app (goodIn_of _ (by decide +kernel)) ggL_prime_ok
set_option maxRecDepth 20000 in
theorem ggL_prime_ex : GoodIn wsL_prime xsX0_prime := goodIn_r _ [6, 7, 8, 9, 10, 11, 12, 13, 14, 15, 16, 17, 18, 19, 20, 21, 22, 23, 24, 25, 26, 27, 28, 29, 30, 31, 32, 33, 34, 35, 36, 37, 38, 39, 40, 41, 42, 43, 44, 45, 46, 47, 48, 49, 50, 51, 52, 53, 54, 55, 56, 57, 58, 59, 60, 61, 62, 63, 64, 65, 66, 67, 68] (by decide +kernel) (by decide +kernel)
set_option maxRecDepth 20000 in
theorem gL_prime_ex : GoodIn wsL_prime (wsV R_law 15 RX0 yX0_prime xsX0_prime) := goodIn_app (goodIn_of _ (by decide +kernel)) ggL_prime_ex
set_option maxHeartbeats 4000000 in
set_option maxRecDepth 100000 in
theorem k_prime (l : Launch) (hlt : l.stackTraces = false) (dC : Nat → ClassId) (dI : Nat → Nat → Nat) (sz F sa : Nat) (h0 h1 h2 h3 h4 h5 qo : Nat) (cA cL : ClassId) (nu pk dc rc : Int32) (pr ex dv rt sp : Nat → Int32) (o : Nat → Int64) (p0 : Int32) (o' : Nat → Int64) (k : Int32) (h : (f_r_prime F pk pr p0 = some none ∧ k = 1 ∧ o = o') ∨ (∃ rv : Int32, f_r_prime F pk pr p0 = some (some rv) ∧ k = 0 ∧ o' = vp_updL o (0 : Int32).toNatClampNeg (Int32.toInt64 rv))) : Met l yL_prime wsL_prime { frames := 7, cells := 1, slots := 6, locals := 111 } (rf_Py (dC, dI) [(cA, .int), (cL, .long)] [(h0, .inr (0, [.int nu, .int pk, .ref h1, .ref h2, .int dc, .ref h3, .int rc, .ref h4, .ref h5])), (h1, .inl (cA, 7, .inl pr)), (h2, .inl (cA, 7, .inl ex)), (h3, .inl (cA, 360, .inl dv)), (h4, .inl (cA, 4096, .inl rt)), (h5, .inl (cA, 4096, .inl sp)), (qo, .inl (cL, 1, .inr (.inl o)))] sz [.ref h0, .int p0, .ref qo] RX0 54 "there is no such prime" sa "java/lang/IndexOutOfBoundsException") (va_Qi (fun (r : Int32) (_ : Unit) => k = r) (fun (_ : Unit) t => va_P (dC, dI) vwCl [(h0, .inr (0, [.int nu, .int pk, .ref h1, .ref h2, .int dc, .ref h3, .int rc, .ref h4, .ref h5])), (h1, .inl (cA, 7, .inl pr)), (h2, .inl (cA, 7, .inl ex)), (h3, .inl (cA, 360, .inl dv)), (h4, .inl (cA, 4096, .inl rt)), (h5, .inl (cA, 4096, .inl sp)), (qo, .inl (cL, 1, .inr (.inl o')))] t.heap ∧ va_D (va_A [(h0, .inr (0, [.int nu, .int pk, .ref h1, .ref h2, .int dc, .ref h3, .int rc, .ref h4, .ref h5])), (h1, .inl (cA, 7, .inl pr)), (h2, .inl (cA, 7, .inl ex)), (h3, .inl (cA, 360, .inl dv)), (h4, .inl (cA, 4096, .inl rt)), (h5, .inl (cA, 4096, .inl sp)), (qo, .inl (cL, 1, .inr (.inl o)))] sz) [(h0, .inr (0, [.int nu, .int pk, .ref h1, .ref h2, .int dc, .ref h3, .int rc, .ref h4, .ref h5])), (h1, .inl (cA, 7, .inl pr)), (h2, .inl (cA, 7, .inl ex)), (h3, .inl (cA, 360, .inl dv)), (h4, .inl (cA, 4096, .inl rt)), (h5, .inl (cA, 4096, .inl sp)), (qo, .inl (cL, 1, .inr (.inl o')))]) (va_A [(h0, .inr (0, [.int nu, .int pk, .ref h1, .ref h2, .int dc, .ref h3, .int rc, .ref h4, .ref h5])), (h1, .inl (cA, 7, .inl pr)), (h2, .inl (cA, 7, .inl ex)), (h3, .inl (cA, 360, .inl dv)), (h4, .inl (cA, 4096, .inl rt)), (h5, .inl (cA, 4096, .inl sp)), (qo, .inl (cL, 1, .inr (.inl o)))] sz)) 1 6 (va_A [(h0, .inr (0, [.int nu, .int pk, .ref h1, .ref h2, .int dc, .ref h3, .int rc, .ref h4, .ref h5])), (h1, .inl (cA, 7, .inl pr)), (h2, .inl (cA, 7, .inl ex)), (h3, .inl (cA, 360, .inl dv)), (h4, .inl (cA, 4096, .inl rt)), (h5, .inl (cA, 4096, .inl sp)), (qo, .inl (cL, 1, .inr (.inl o)))] sz) := by
  refine va_MetW (cc := cL_prime) (maxL := 4) (ret := (some .int)) (hh := [(0, 9, 12, 18)]) (by decide) rfl ?_
  intro p e s m args below meth c s₁ B hml hv
  obtain ⟨rfl, ⟨hsz, hP, hK, hD0⟩, hstr, hU, hN, hNn⟩ := hv
  have hx := B.exec
  have hb := B.bytes
  have hr := B.returns
  have hts := atoms_spec (ws := wsL_prime) B.pre
  have hown : s.vm.findClass R_law = some m.cls := findClass_of_methodNamed B.named
  have hlocks := B.notSynchronized
  have htab := vx_table (x := yL_prime) B (hts (.codeWith yL_prime cL_prime 4 (some .int) [(0, 9, 12, 18)]) List.mem_cons_self)
  subst hsz
  have hD := hD0.self (sz := s.heap.size)
  generalize hAe : va_A [(h0, .inr (0, [.int nu, .int pk, .ref h1, .ref h2, .int dc, .ref h3, .int rc, .ref h4, .ref h5])), (h1, .inl (cA, 7, .inl pr)), (h2, .inl (cA, 7, .inl ex)), (h3, .inl (cA, 360, .inl dv)), (h4, .inl (cA, 4096, .inl rt)), (h5, .inl (cA, 4096, .inl sp)), (qo, .inl (cL, 1, .inr (.inl o)))] s.heap.size = A at hD hU hN ⊢
  have hA : ∀ q : Nat, s.heap.size ≤ q → A q := fun q h => by rw [← hAe]; exact Or.inr h
  have hS : va_S A s.heap s.heap [] := va_S.rf
  have hl := lv_entry ([.ref h0, .int p0, .ref qo]) (n := 4) (Nat.le_of_ble_eq_true rfl)
  rw [lg_entry_eq]
  generalize (lg_sl ([.ref h0, .int p0, .ref qo]) ++ List.replicate (4 - (lg_sl ([.ref h0, .int p0, .ref qo])).length) Slot.unset).toArray = ls at hl ⊢
  have hl : lv_has ls 4 [(0, .ref h0), (1, .int p0), (2, .ref qo)] := hl
  have hF := va_free (wc := [(h0, .inr (0, [.int nu, .int pk, .ref h1, .ref h2, .int dc, .ref h3, .int rc, .ref h4, .ref h5])), (h1, .inl (cA, 7, .inl pr)), (h2, .inl (cA, 7, .inl ex)), (h3, .inl (cA, 360, .inl dv)), (h4, .inl (cA, 4096, .inl rt)), (h5, .inl (cA, 4096, .inl sp))]) hD hS hA [0, 1, 2, 3, 4, 5] rfl
  refine lv_aload_n hx hb dL_prime_0 rfl (lv_at hl 2 rfl) ?_
  refine lv_iconst (v := 0) hx hb dL_prime_1 (by decide) ?_
  refine lv_aload_n hx hb dL_prime_2 rfl (lv_at hl 0 rfl) ?_
  refine lv_iload_n hx hb dL_prime_3 rfl (lv_at hl 1 rfl) ?_
  rcases h with ⟨h, rfl, rfl⟩ | ⟨rv, h, rfl, rfl⟩
  · refine vx_calli (vx_runV (As := [.int p0]) (rest := [.int 0, .ref qo]) ⟨hx, hb, hml, hown, hts⟩ (x_r_prime l hlt dC dI _ F sa h0 h1 h2 h3 h4 h5 cA nu pk dc rc pr ex dv rt sp p0 h) (cwV 1 hts gL_prime_ex rfl rfl rfl (by decide +kernel) ⟨(Nat.le_of_ble_eq_true rfl), (Nat.le_of_ble_eq_true rfl)⟩) ⟨rf_blindy, va_recv hK hP (ci := 0) (q0 := 0) rfl rfl, fun U hU9 hW => ⟨rfl, rf_pre (hP.sub (ws' := [(h0, .inr (0, [.int nu, .int pk, .ref h1, .ref h2, .int dc, .ref h3, .int rc, .ref h4, .ref h5])), (h1, .inl (cA, 7, .inl pr)), (h2, .inl (cA, 7, .inl ex)), (h3, .inl (cA, 360, .inl dv)), (h4, .inl (cA, 4096, .inl rt)), (h5, .inl (cA, 4096, .inl sp))]) [0, 1, 2, 3, 4, 5] rfl) (hK.sub (tys' := [(cA, .int)]) [0] rfl) (hD.sub (ws' := [(h0, .inr (0, [.int nu, .int pk, .ref h1, .ref h2, .int dc, .ref h3, .int rc, .ref h4, .ref h5])), (h1, .inl (cA, 7, .inl pr)), (h2, .inl (cA, 7, .inl ex)), (h3, .inl (cA, 360, .inl dv)), (h4, .inl (cA, 4096, .inl rt)), (h5, .inl (cA, 4096, .inl sp))]) [0, 1, 2, 3, 4, 5] (by decide) rfl) U hU9 hW, rf_yat hstr hU hN hNn hS hF U hU9 hW⟩⟩ rfl rfl hl.1 rfl (lv_room (Nat.le_of_ble_eq_true rfl)) dL_prime_4 ⟨(Nat.le_of_ble_eq_true rfl), (Nat.le_of_ble_eq_true rfl)⟩) hS (fun q _ h => hF q h) hF (fun q _ h => hF q h) (fun E9 ce q9 u t H1 locs1 ht hvm hpx hB hz hk hS hce hcv hcl => ?_) (fun r u t H1 locs1 ht hvm hp hB hz hk hS => hp.elim)
    obtain ⟨rfl, hP1, hD1⟩ := hB
    rw [ht] at hP1
    obtain ⟨hP, hD⟩ := va_join (wr := [(qo, .inl (cL, 1, .inr (.inl o)))]) (w1 := [(h0, .inr (0, [.int nu, .int pk, .ref h1, .ref h2, .int dc, .ref h3, .int rc, .ref h4, .ref h5])), (h1, .inl (cA, 7, .inl pr)), (h2, .inl (cA, 7, .inl ex)), (h3, .inl (cA, 360, .inl dv)), (h4, .inl (cA, 4096, .inl rt)), (h5, .inl (cA, 4096, .inl sp))]) hP hD [0, 1, 2, 3, 4, 5] [6] rfl rfl (by decide) (by decide) hk hF hP1 hD1
    have hP := hP.sub (ws' := [(h0, .inr (0, [.int nu, .int pk, .ref h1, .ref h2, .int dc, .ref h3, .int rc, .ref h4, .ref h5])), (h1, .inl (cA, 7, .inl pr)), (h2, .inl (cA, 7, .inl ex)), (h3, .inl (cA, 360, .inl dv)), (h4, .inl (cA, 4096, .inl rt)), (h5, .inl (cA, 4096, .inl sp)), (qo, .inl (cL, 1, .inr (.inl o)))]) [1, 2, 3, 4, 5, 6, 0] rfl
    have hD := hD.sub (ws' := [(h0, .inr (0, [.int nu, .int pk, .ref h1, .ref h2, .int dc, .ref h3, .int rc, .ref h4, .ref h5])), (h1, .inl (cA, 7, .inl pr)), (h2, .inl (cA, 7, .inl ex)), (h3, .inl (cA, 360, .inl dv)), (h4, .inl (cA, 4096, .inl rt)), (h5, .inl (cA, 4096, .inl sp)), (qo, .inl (cL, 1, .inr (.inl o)))]) [1, 2, 3, 4, 5, 6, 0] (by decide) rfl
    refine vx_catch hown [] ⟨0, 9, 12, 18⟩ [] (htab.trans rfl) (fun z hz => nomatch hz) (by decide) (by decide) (hts _ (List.mem_of_getElem? (i := 1) rfl)) (hNn.at _ _ (List.mem_of_getElem? (i := 3) rfl)) hce hcv hcl ?_
    refine lv_astore_n (x := q9) (lv' := [(3, .ref q9), (0, .ref h0), (1, .int p0), (2, .ref qo)]) hx hb dL_prime_12 rfl hl (by decide) rfl (fun ls hl => ?_)
    refine lv_iconst (v := 1) hx hb dL_prime_13 (by decide) ?_
    refine W.widen (k := 1) (n := 6) (Nat.le_of_ble_eq_true rfl) (Nat.le_of_ble_eq_true rfl) ?_
    exact W.iret hx hb hr (fun t ht hW => ⟨⟨_, (), rfl, rfl, by rw [ht]; exact hP, hD⟩, hS.F ht⟩) hS.2.2 dL_prime_14
  · refine rf_ci (wn := (fun _ : Unit => [(h0, .inr (0, [.int nu, .int pk, .ref h1, .ref h2, .int dc, .ref h3, .int rc, .ref h4, .ref h5])), (h1, .inl (cA, 7, .inl pr)), (h2, .inl (cA, 7, .inl ex)), (h3, .inl (cA, 360, .inl dv)), (h4, .inl (cA, 4096, .inl rt)), (h5, .inl (cA, 4096, .inl sp))])) (wc := [(h0, .inr (0, [.int nu, .int pk, .ref h1, .ref h2, .int dc, .ref h3, .int rc, .ref h4, .ref h5])), (h1, .inl (cA, 7, .inl pr)), (h2, .inl (cA, 7, .inl ex)), (h3, .inl (cA, 360, .inl dv)), (h4, .inl (cA, 4096, .inl rt)), (h5, .inl (cA, 4096, .inl sp))]) (wr := [(qo, .inl (cL, 1, .inr (.inl o)))]) hP hD hS hA [0, 1, 2, 3, 4, 5] [6] rfl rfl (by decide) (by decide) (va_runV (As := [.int p0]) (rest := [.int 0, .ref qo]) ⟨hx, hb, hml, hown, hts⟩ (c_r_prime l dC dI _ F h0 h1 h2 h3 h4 h5 cA nu pk dc rc pr ex dv rt sp p0 rv h) (cwV 1 hts gL_prime_ok rfl rfl rfl (by decide +kernel) ⟨(Nat.le_of_ble_eq_true rfl), (Nat.le_of_ble_eq_true rfl)⟩) ⟨rf_blind, va_recv hK hP (ci := 0) (q0 := 0) rfl rfl, fun U hU9 hW => ⟨rfl, rf_pre (hP.sub (ws' := [(h0, .inr (0, [.int nu, .int pk, .ref h1, .ref h2, .int dc, .ref h3, .int rc, .ref h4, .ref h5])), (h1, .inl (cA, 7, .inl pr)), (h2, .inl (cA, 7, .inl ex)), (h3, .inl (cA, 360, .inl dv)), (h4, .inl (cA, 4096, .inl rt)), (h5, .inl (cA, 4096, .inl sp))]) [0, 1, 2, 3, 4, 5] rfl) (hK.sub (tys' := [(cA, .int)]) [0] rfl) (hD.sub (ws' := [(h0, .inr (0, [.int nu, .int pk, .ref h1, .ref h2, .int dc, .ref h3, .int rc, .ref h4, .ref h5])), (h1, .inl (cA, 7, .inl pr)), (h2, .inl (cA, 7, .inl ex)), (h3, .inl (cA, 360, .inl dv)), (h4, .inl (cA, 4096, .inl rt)), (h5, .inl (cA, 4096, .inl sp))]) [0, 1, 2, 3, 4, 5] (by decide) rfl) U hU9 hW⟩⟩ rfl rfl hl.1 rfl (lv_room (Nat.le_of_ble_eq_true rfl)) dL_prime_4 ⟨Nat.zero_le _, Nat.zero_le _⟩) (fun r' u H locs hw hP hD hS => ?_)
    subst hw
    have hP := hP.sub (ws' := [(h0, .inr (0, [.int nu, .int pk, .ref h1, .ref h2, .int dc, .ref h3, .int rc, .ref h4, .ref h5])), (h1, .inl (cA, 7, .inl pr)), (h2, .inl (cA, 7, .inl ex)), (h3, .inl (cA, 360, .inl dv)), (h4, .inl (cA, 4096, .inl rt)), (h5, .inl (cA, 4096, .inl sp)), (qo, .inl (cL, 1, .inr (.inl o)))]) [1, 2, 3, 4, 5, 6, 0] rfl
    have hD := hD.sub (ws' := [(h0, .inr (0, [.int nu, .int pk, .ref h1, .ref h2, .int dc, .ref h3, .int rc, .ref h4, .ref h5])), (h1, .inl (cA, 7, .inl pr)), (h2, .inl (cA, 7, .inl ex)), (h3, .inl (cA, 360, .inl dv)), (h4, .inl (cA, 4096, .inl rt)), (h5, .inl (cA, 4096, .inl sp)), (qo, .inl (cL, 1, .inr (.inl o)))]) [1, 2, 3, 4, 5, 6, 0] (by decide) rfl
    refine lv_i2l (v := (Int32.toInt64 rv)) hx hb dL_prime_7 rfl ?_
    refine va_last hx hb hK hP hD hS 6 1 rfl rfl rf_in0 dL_prime_8 (fun H locs hP hD hS => ?_)
    refine lv_goto (tgt := 15) hx hb dL_prime_9 (by decide) ?_
    refine lv_iconst (v := 0) hx hb dL_prime_15 (by decide) ?_
    refine W.widen (k := 1) (n := 6) (Nat.le_of_ble_eq_true rfl) (Nat.le_of_ble_eq_true rfl) ?_
    exact W.iret hx hb hr (fun t ht hW => ⟨⟨_, (), rfl, rfl, by rw [ht]; exact hP, hD⟩, hS.F ht⟩) hS.2.2 dL_prime_16
abbrev cL_exponent : ByteArray := method_5_code
def yL_exponent : MethodName := ⟨R_law, "exponent", "(LRootFinder;I[J)I"⟩
theorem dL_exponent_0 : decode cL_exponent 0 = .ok (.aload_n 2, 1) := by decide +kernel
theorem dL_exponent_1 : decode cL_exponent 1 = .ok (.iconst 0, 1) := by decide +kernel
theorem dL_exponent_2 : decode cL_exponent 2 = .ok (.aload_n 0, 1) := by decide +kernel
theorem dL_exponent_3 : decode cL_exponent 3 = .ok (.iload_n 1, 1) := by decide +kernel
theorem dL_exponent_4 : decode cL_exponent 4 = .ok (.invokevirtual 20, 3) := by decide +kernel
theorem dL_exponent_7 : decode cL_exponent 7 = .ok (.i2l, 1) := by decide +kernel
theorem dL_exponent_8 : decode cL_exponent 8 = .ok (.lastore, 1) := by decide +kernel
theorem dL_exponent_9 : decode cL_exponent 9 = .ok (.goto 6, 3) := by decide +kernel
theorem dL_exponent_12 : decode cL_exponent 12 = .ok (.astore_n 3, 1) := by decide +kernel
theorem dL_exponent_13 : decode cL_exponent 13 = .ok (.iconst 1, 1) := by decide +kernel
theorem dL_exponent_14 : decode cL_exponent 14 = .ok (.ireturn, 1) := by decide +kernel
theorem dL_exponent_15 : decode cL_exponent 15 = .ok (.iconst 0, 1) := by decide +kernel
theorem dL_exponent_16 : decode cL_exponent 16 = .ok (.ireturn, 1) := by decide +kernel
def wsL_exponent : List Cond := .codeWith yL_exponent cL_exponent 4 (some .int) [(0, 9, 12, 18)] :: ((([Cond.classLink R_law 18 "java/lang/IndexOutOfBoundsException", Cond.methodLink R_law 20 yX0_exponent, Cond.instanceMethod yX0_exponent, Cond.selects RX0 yX0_exponent yX0_exponent, Cond.initialized RX0, Cond.code yX0_exponent cX0_exponent 2 (some .int), Cond.fieldLink RX0 29 "RootFinder" "primeCount" "I", Cond.fieldLink RX0 13 "RootFinder" "exponentRow" "[I", Cond.classLink RX0 52 "java/lang/IndexOutOfBoundsException", Cond.initialized "java/lang/IndexOutOfBoundsException"] : List Cond) ++ (vx_atS RX0 56 "java/lang/IndexOutOfBoundsException" ["java/lang/RuntimeException", "java/lang/Exception"]).filter goodWord) ++ wsX00)
set_option maxRecDepth 20000 in
theorem ggL_exponent_ok : GoodIn wsL_exponent wsX0_exponent := goodIn_r _ [6, 7, 8, 9, 10, 60, 61, 62, 63, 64, 65, 66, 67, 68] (by decide +kernel) (by decide +kernel)
set_option maxRecDepth 20000 in
theorem gL_exponent_ok : GoodIn wsL_exponent (wsV R_law 20 RX0 yX0_exponent wsX0_exponent) := goodIn_app (goodIn_of _ (by decide +kernel)) ggL_exponent_ok
set_option maxRecDepth 20000 in
theorem ggL_exponent_ex : GoodIn wsL_exponent xsX0_exponent := goodIn_r _ [6, 7, 8, 9, 10, 11, 12, 13, 14, 15, 16, 17, 18, 19, 20, 21, 22, 23, 24, 25, 26, 27, 28, 29, 30, 31, 32, 33, 34, 35, 36, 37, 38, 39, 40, 41, 42, 43, 44, 45, 46, 47, 48, 49, 50, 51, 52, 53, 54, 55, 56, 57, 58, 59, 60, 61, 62, 63, 64, 65, 66, 67, 68] (by decide +kernel) (by decide +kernel)
set_option maxRecDepth 20000 in
theorem gL_exponent_ex : GoodIn wsL_exponent (wsV R_law 20 RX0 yX0_exponent xsX0_exponent) := goodIn_app (goodIn_of _ (by decide +kernel)) ggL_exponent_ex
set_option maxHeartbeats 4000000 in
set_option maxRecDepth 100000 in
theorem k_exponent (l : Launch) (hlt : l.stackTraces = false) (dC : Nat → ClassId) (dI : Nat → Nat → Nat) (sz F sa : Nat) (h0 h1 h2 h3 h4 h5 qo : Nat) (cA cL : ClassId) (nu pk dc rc : Int32) (pr ex dv rt sp : Nat → Int32) (o : Nat → Int64) (p0 : Int32) (o' : Nat → Int64) (k : Int32) (h : (f_r_exponent F pk ex p0 = some none ∧ k = 1 ∧ o = o') ∨ (∃ rv : Int32, f_r_exponent F pk ex p0 = some (some rv) ∧ k = 0 ∧ o' = vp_updL o (0 : Int32).toNatClampNeg (Int32.toInt64 rv))) : Met l yL_exponent wsL_exponent { frames := 7, cells := 1, slots := 6, locals := 111 } (rf_Py (dC, dI) [(cA, .int), (cL, .long)] [(h0, .inr (0, [.int nu, .int pk, .ref h1, .ref h2, .int dc, .ref h3, .int rc, .ref h4, .ref h5])), (h1, .inl (cA, 7, .inl pr)), (h2, .inl (cA, 7, .inl ex)), (h3, .inl (cA, 360, .inl dv)), (h4, .inl (cA, 4096, .inl rt)), (h5, .inl (cA, 4096, .inl sp)), (qo, .inl (cL, 1, .inr (.inl o)))] sz [.ref h0, .int p0, .ref qo] RX0 54 "there is no such prime" sa "java/lang/IndexOutOfBoundsException") (va_Qi (fun (r : Int32) (_ : Unit) => k = r) (fun (_ : Unit) t => va_P (dC, dI) vwCl [(h0, .inr (0, [.int nu, .int pk, .ref h1, .ref h2, .int dc, .ref h3, .int rc, .ref h4, .ref h5])), (h1, .inl (cA, 7, .inl pr)), (h2, .inl (cA, 7, .inl ex)), (h3, .inl (cA, 360, .inl dv)), (h4, .inl (cA, 4096, .inl rt)), (h5, .inl (cA, 4096, .inl sp)), (qo, .inl (cL, 1, .inr (.inl o')))] t.heap ∧ va_D (va_A [(h0, .inr (0, [.int nu, .int pk, .ref h1, .ref h2, .int dc, .ref h3, .int rc, .ref h4, .ref h5])), (h1, .inl (cA, 7, .inl pr)), (h2, .inl (cA, 7, .inl ex)), (h3, .inl (cA, 360, .inl dv)), (h4, .inl (cA, 4096, .inl rt)), (h5, .inl (cA, 4096, .inl sp)), (qo, .inl (cL, 1, .inr (.inl o)))] sz) [(h0, .inr (0, [.int nu, .int pk, .ref h1, .ref h2, .int dc, .ref h3, .int rc, .ref h4, .ref h5])), (h1, .inl (cA, 7, .inl pr)), (h2, .inl (cA, 7, .inl ex)), (h3, .inl (cA, 360, .inl dv)), (h4, .inl (cA, 4096, .inl rt)), (h5, .inl (cA, 4096, .inl sp)), (qo, .inl (cL, 1, .inr (.inl o')))]) (va_A [(h0, .inr (0, [.int nu, .int pk, .ref h1, .ref h2, .int dc, .ref h3, .int rc, .ref h4, .ref h5])), (h1, .inl (cA, 7, .inl pr)), (h2, .inl (cA, 7, .inl ex)), (h3, .inl (cA, 360, .inl dv)), (h4, .inl (cA, 4096, .inl rt)), (h5, .inl (cA, 4096, .inl sp)), (qo, .inl (cL, 1, .inr (.inl o)))] sz)) 1 6 (va_A [(h0, .inr (0, [.int nu, .int pk, .ref h1, .ref h2, .int dc, .ref h3, .int rc, .ref h4, .ref h5])), (h1, .inl (cA, 7, .inl pr)), (h2, .inl (cA, 7, .inl ex)), (h3, .inl (cA, 360, .inl dv)), (h4, .inl (cA, 4096, .inl rt)), (h5, .inl (cA, 4096, .inl sp)), (qo, .inl (cL, 1, .inr (.inl o)))] sz) := by
  refine va_MetW (cc := cL_exponent) (maxL := 4) (ret := (some .int)) (hh := [(0, 9, 12, 18)]) (by decide) rfl ?_
  intro p e s m args below meth c s₁ B hml hv
  obtain ⟨rfl, ⟨hsz, hP, hK, hD0⟩, hstr, hU, hN, hNn⟩ := hv
  have hx := B.exec
  have hb := B.bytes
  have hr := B.returns
  have hts := atoms_spec (ws := wsL_exponent) B.pre
  have hown : s.vm.findClass R_law = some m.cls := findClass_of_methodNamed B.named
  have hlocks := B.notSynchronized
  have htab := vx_table (x := yL_exponent) B (hts (.codeWith yL_exponent cL_exponent 4 (some .int) [(0, 9, 12, 18)]) List.mem_cons_self)
  subst hsz
  have hD := hD0.self (sz := s.heap.size)
  generalize hAe : va_A [(h0, .inr (0, [.int nu, .int pk, .ref h1, .ref h2, .int dc, .ref h3, .int rc, .ref h4, .ref h5])), (h1, .inl (cA, 7, .inl pr)), (h2, .inl (cA, 7, .inl ex)), (h3, .inl (cA, 360, .inl dv)), (h4, .inl (cA, 4096, .inl rt)), (h5, .inl (cA, 4096, .inl sp)), (qo, .inl (cL, 1, .inr (.inl o)))] s.heap.size = A at hD hU hN ⊢
  have hA : ∀ q : Nat, s.heap.size ≤ q → A q := fun q h => by rw [← hAe]; exact Or.inr h
  have hS : va_S A s.heap s.heap [] := va_S.rf
  have hl := lv_entry ([.ref h0, .int p0, .ref qo]) (n := 4) (Nat.le_of_ble_eq_true rfl)
  rw [lg_entry_eq]
  generalize (lg_sl ([.ref h0, .int p0, .ref qo]) ++ List.replicate (4 - (lg_sl ([.ref h0, .int p0, .ref qo])).length) Slot.unset).toArray = ls at hl ⊢
  have hl : lv_has ls 4 [(0, .ref h0), (1, .int p0), (2, .ref qo)] := hl
  have hF := va_free (wc := [(h0, .inr (0, [.int nu, .int pk, .ref h1, .ref h2, .int dc, .ref h3, .int rc, .ref h4, .ref h5])), (h1, .inl (cA, 7, .inl pr)), (h2, .inl (cA, 7, .inl ex)), (h3, .inl (cA, 360, .inl dv)), (h4, .inl (cA, 4096, .inl rt)), (h5, .inl (cA, 4096, .inl sp))]) hD hS hA [0, 1, 2, 3, 4, 5] rfl
  refine lv_aload_n hx hb dL_exponent_0 rfl (lv_at hl 2 rfl) ?_
  refine lv_iconst (v := 0) hx hb dL_exponent_1 (by decide) ?_
  refine lv_aload_n hx hb dL_exponent_2 rfl (lv_at hl 0 rfl) ?_
  refine lv_iload_n hx hb dL_exponent_3 rfl (lv_at hl 1 rfl) ?_
  rcases h with ⟨h, rfl, rfl⟩ | ⟨rv, h, rfl, rfl⟩
  · refine vx_calli (vx_runV (As := [.int p0]) (rest := [.int 0, .ref qo]) ⟨hx, hb, hml, hown, hts⟩ (x_r_exponent l hlt dC dI _ F sa h0 h1 h2 h3 h4 h5 cA nu pk dc rc pr ex dv rt sp p0 h) (cwV 1 hts gL_exponent_ex rfl rfl rfl (by decide +kernel) ⟨(Nat.le_of_ble_eq_true rfl), (Nat.le_of_ble_eq_true rfl)⟩) ⟨rf_blindy, va_recv hK hP (ci := 0) (q0 := 0) rfl rfl, fun U hU9 hW => ⟨rfl, rf_pre (hP.sub (ws' := [(h0, .inr (0, [.int nu, .int pk, .ref h1, .ref h2, .int dc, .ref h3, .int rc, .ref h4, .ref h5])), (h1, .inl (cA, 7, .inl pr)), (h2, .inl (cA, 7, .inl ex)), (h3, .inl (cA, 360, .inl dv)), (h4, .inl (cA, 4096, .inl rt)), (h5, .inl (cA, 4096, .inl sp))]) [0, 1, 2, 3, 4, 5] rfl) (hK.sub (tys' := [(cA, .int)]) [0] rfl) (hD.sub (ws' := [(h0, .inr (0, [.int nu, .int pk, .ref h1, .ref h2, .int dc, .ref h3, .int rc, .ref h4, .ref h5])), (h1, .inl (cA, 7, .inl pr)), (h2, .inl (cA, 7, .inl ex)), (h3, .inl (cA, 360, .inl dv)), (h4, .inl (cA, 4096, .inl rt)), (h5, .inl (cA, 4096, .inl sp))]) [0, 1, 2, 3, 4, 5] (by decide) rfl) U hU9 hW, rf_yat hstr hU hN hNn hS hF U hU9 hW⟩⟩ rfl rfl hl.1 rfl (lv_room (Nat.le_of_ble_eq_true rfl)) dL_exponent_4 ⟨(Nat.le_of_ble_eq_true rfl), (Nat.le_of_ble_eq_true rfl)⟩) hS (fun q _ h => hF q h) hF (fun q _ h => hF q h) (fun E9 ce q9 u t H1 locs1 ht hvm hpx hB hz hk hS hce hcv hcl => ?_) (fun r u t H1 locs1 ht hvm hp hB hz hk hS => hp.elim)
    obtain ⟨rfl, hP1, hD1⟩ := hB
    rw [ht] at hP1
    obtain ⟨hP, hD⟩ := va_join (wr := [(qo, .inl (cL, 1, .inr (.inl o)))]) (w1 := [(h0, .inr (0, [.int nu, .int pk, .ref h1, .ref h2, .int dc, .ref h3, .int rc, .ref h4, .ref h5])), (h1, .inl (cA, 7, .inl pr)), (h2, .inl (cA, 7, .inl ex)), (h3, .inl (cA, 360, .inl dv)), (h4, .inl (cA, 4096, .inl rt)), (h5, .inl (cA, 4096, .inl sp))]) hP hD [0, 1, 2, 3, 4, 5] [6] rfl rfl (by decide) (by decide) hk hF hP1 hD1
    have hP := hP.sub (ws' := [(h0, .inr (0, [.int nu, .int pk, .ref h1, .ref h2, .int dc, .ref h3, .int rc, .ref h4, .ref h5])), (h1, .inl (cA, 7, .inl pr)), (h2, .inl (cA, 7, .inl ex)), (h3, .inl (cA, 360, .inl dv)), (h4, .inl (cA, 4096, .inl rt)), (h5, .inl (cA, 4096, .inl sp)), (qo, .inl (cL, 1, .inr (.inl o)))]) [1, 2, 3, 4, 5, 6, 0] rfl
    have hD := hD.sub (ws' := [(h0, .inr (0, [.int nu, .int pk, .ref h1, .ref h2, .int dc, .ref h3, .int rc, .ref h4, .ref h5])), (h1, .inl (cA, 7, .inl pr)), (h2, .inl (cA, 7, .inl ex)), (h3, .inl (cA, 360, .inl dv)), (h4, .inl (cA, 4096, .inl rt)), (h5, .inl (cA, 4096, .inl sp)), (qo, .inl (cL, 1, .inr (.inl o)))]) [1, 2, 3, 4, 5, 6, 0] (by decide) rfl
    refine vx_catch hown [] ⟨0, 9, 12, 18⟩ [] (htab.trans rfl) (fun z hz => nomatch hz) (by decide) (by decide) (hts _ (List.mem_of_getElem? (i := 1) rfl)) (hNn.at _ _ (List.mem_of_getElem? (i := 3) rfl)) hce hcv hcl ?_
    refine lv_astore_n (x := q9) (lv' := [(3, .ref q9), (0, .ref h0), (1, .int p0), (2, .ref qo)]) hx hb dL_exponent_12 rfl hl (by decide) rfl (fun ls hl => ?_)
    refine lv_iconst (v := 1) hx hb dL_exponent_13 (by decide) ?_
    refine W.widen (k := 1) (n := 6) (Nat.le_of_ble_eq_true rfl) (Nat.le_of_ble_eq_true rfl) ?_
    exact W.iret hx hb hr (fun t ht hW => ⟨⟨_, (), rfl, rfl, by rw [ht]; exact hP, hD⟩, hS.F ht⟩) hS.2.2 dL_exponent_14
  · refine rf_ci (wn := (fun _ : Unit => [(h0, .inr (0, [.int nu, .int pk, .ref h1, .ref h2, .int dc, .ref h3, .int rc, .ref h4, .ref h5])), (h1, .inl (cA, 7, .inl pr)), (h2, .inl (cA, 7, .inl ex)), (h3, .inl (cA, 360, .inl dv)), (h4, .inl (cA, 4096, .inl rt)), (h5, .inl (cA, 4096, .inl sp))])) (wc := [(h0, .inr (0, [.int nu, .int pk, .ref h1, .ref h2, .int dc, .ref h3, .int rc, .ref h4, .ref h5])), (h1, .inl (cA, 7, .inl pr)), (h2, .inl (cA, 7, .inl ex)), (h3, .inl (cA, 360, .inl dv)), (h4, .inl (cA, 4096, .inl rt)), (h5, .inl (cA, 4096, .inl sp))]) (wr := [(qo, .inl (cL, 1, .inr (.inl o)))]) hP hD hS hA [0, 1, 2, 3, 4, 5] [6] rfl rfl (by decide) (by decide) (va_runV (As := [.int p0]) (rest := [.int 0, .ref qo]) ⟨hx, hb, hml, hown, hts⟩ (c_r_exponent l dC dI _ F h0 h1 h2 h3 h4 h5 cA nu pk dc rc pr ex dv rt sp p0 rv h) (cwV 1 hts gL_exponent_ok rfl rfl rfl (by decide +kernel) ⟨(Nat.le_of_ble_eq_true rfl), (Nat.le_of_ble_eq_true rfl)⟩) ⟨rf_blind, va_recv hK hP (ci := 0) (q0 := 0) rfl rfl, fun U hU9 hW => ⟨rfl, rf_pre (hP.sub (ws' := [(h0, .inr (0, [.int nu, .int pk, .ref h1, .ref h2, .int dc, .ref h3, .int rc, .ref h4, .ref h5])), (h1, .inl (cA, 7, .inl pr)), (h2, .inl (cA, 7, .inl ex)), (h3, .inl (cA, 360, .inl dv)), (h4, .inl (cA, 4096, .inl rt)), (h5, .inl (cA, 4096, .inl sp))]) [0, 1, 2, 3, 4, 5] rfl) (hK.sub (tys' := [(cA, .int)]) [0] rfl) (hD.sub (ws' := [(h0, .inr (0, [.int nu, .int pk, .ref h1, .ref h2, .int dc, .ref h3, .int rc, .ref h4, .ref h5])), (h1, .inl (cA, 7, .inl pr)), (h2, .inl (cA, 7, .inl ex)), (h3, .inl (cA, 360, .inl dv)), (h4, .inl (cA, 4096, .inl rt)), (h5, .inl (cA, 4096, .inl sp))]) [0, 1, 2, 3, 4, 5] (by decide) rfl) U hU9 hW⟩⟩ rfl rfl hl.1 rfl (lv_room (Nat.le_of_ble_eq_true rfl)) dL_exponent_4 ⟨Nat.zero_le _, Nat.zero_le _⟩) (fun r' u H locs hw hP hD hS => ?_)
    subst hw
    have hP := hP.sub (ws' := [(h0, .inr (0, [.int nu, .int pk, .ref h1, .ref h2, .int dc, .ref h3, .int rc, .ref h4, .ref h5])), (h1, .inl (cA, 7, .inl pr)), (h2, .inl (cA, 7, .inl ex)), (h3, .inl (cA, 360, .inl dv)), (h4, .inl (cA, 4096, .inl rt)), (h5, .inl (cA, 4096, .inl sp)), (qo, .inl (cL, 1, .inr (.inl o)))]) [1, 2, 3, 4, 5, 6, 0] rfl
    have hD := hD.sub (ws' := [(h0, .inr (0, [.int nu, .int pk, .ref h1, .ref h2, .int dc, .ref h3, .int rc, .ref h4, .ref h5])), (h1, .inl (cA, 7, .inl pr)), (h2, .inl (cA, 7, .inl ex)), (h3, .inl (cA, 360, .inl dv)), (h4, .inl (cA, 4096, .inl rt)), (h5, .inl (cA, 4096, .inl sp)), (qo, .inl (cL, 1, .inr (.inl o)))]) [1, 2, 3, 4, 5, 6, 0] (by decide) rfl
    refine lv_i2l (v := (Int32.toInt64 rv)) hx hb dL_exponent_7 rfl ?_
    refine va_last hx hb hK hP hD hS 6 1 rfl rfl rf_in0 dL_exponent_8 (fun H locs hP hD hS => ?_)
    refine lv_goto (tgt := 15) hx hb dL_exponent_9 (by decide) ?_
    refine lv_iconst (v := 0) hx hb dL_exponent_15 (by decide) ?_
    refine W.widen (k := 1) (n := 6) (Nat.le_of_ble_eq_true rfl) (Nat.le_of_ble_eq_true rfl) ?_
    exact W.iret hx hb hr (fun t ht hW => ⟨⟨_, (), rfl, rfl, by rw [ht]; exact hP, hD⟩, hS.F ht⟩) hS.2.2 dL_exponent_16
abbrev cL_divisor : ByteArray := method_6_code
def yL_divisor : MethodName := ⟨R_law, "divisor", "(LRootFinder;I[J)I"⟩
theorem dL_divisor_0 : decode cL_divisor 0 = .ok (.aload_n 2, 1) := by decide +kernel
theorem dL_divisor_1 : decode cL_divisor 1 = .ok (.iconst 0, 1) := by decide +kernel
theorem dL_divisor_2 : decode cL_divisor 2 = .ok (.aload_n 0, 1) := by decide +kernel
theorem dL_divisor_3 : decode cL_divisor 3 = .ok (.iload_n 1, 1) := by decide +kernel
theorem dL_divisor_4 : decode cL_divisor 4 = .ok (.invokevirtual 23, 3) := by decide +kernel
theorem dL_divisor_7 : decode cL_divisor 7 = .ok (.i2l, 1) := by decide +kernel
theorem dL_divisor_8 : decode cL_divisor 8 = .ok (.lastore, 1) := by decide +kernel
theorem dL_divisor_9 : decode cL_divisor 9 = .ok (.goto 6, 3) := by decide +kernel
theorem dL_divisor_12 : decode cL_divisor 12 = .ok (.astore_n 3, 1) := by decide +kernel
theorem dL_divisor_13 : decode cL_divisor 13 = .ok (.iconst 1, 1) := by decide +kernel
theorem dL_divisor_14 : decode cL_divisor 14 = .ok (.ireturn, 1) := by decide +kernel
theorem dL_divisor_15 : decode cL_divisor 15 = .ok (.iconst 0, 1) := by decide +kernel
theorem dL_divisor_16 : decode cL_divisor 16 = .ok (.ireturn, 1) := by decide +kernel
def wsL_divisor : List Cond := .codeWith yL_divisor cL_divisor 4 (some .int) [(0, 9, 12, 18)] :: ((([Cond.classLink R_law 18 "java/lang/IndexOutOfBoundsException", Cond.methodLink R_law 23 yX0_divisor, Cond.instanceMethod yX0_divisor, Cond.selects RX0 yX0_divisor yX0_divisor, Cond.initialized RX0, Cond.code yX0_divisor cX0_divisor 2 (some .int), Cond.fieldLink RX0 32 "RootFinder" "divisorCount" "I", Cond.fieldLink RX0 16 "RootFinder" "divisorRow" "[I", Cond.classLink RX0 52 "java/lang/IndexOutOfBoundsException", Cond.initialized "java/lang/IndexOutOfBoundsException"] : List Cond) ++ (vx_atS RX0 56 "java/lang/IndexOutOfBoundsException" ["java/lang/RuntimeException", "java/lang/Exception"]).filter goodWord) ++ wsX00)
set_option maxRecDepth 20000 in
theorem ggL_divisor_ok : GoodIn wsL_divisor wsX0_divisor := goodIn_r _ [6, 7, 8, 9, 10, 60, 61, 62, 63, 64, 65, 66, 67, 68] (by decide +kernel) (by decide +kernel)
set_option maxRecDepth 20000 in
theorem gL_divisor_ok : GoodIn wsL_divisor (wsV R_law 23 RX0 yX0_divisor wsX0_divisor) := goodIn_app (goodIn_of _ (by decide +kernel)) ggL_divisor_ok
set_option maxRecDepth 20000 in
theorem ggL_divisor_ex : GoodIn wsL_divisor xsX0_divisor := goodIn_r _ [6, 7, 8, 9, 10, 11, 12, 13, 14, 15, 16, 17, 18, 19, 20, 21, 22, 23, 24, 25, 26, 27, 28, 29, 30, 31, 32, 33, 34, 35, 36, 37, 38, 39, 40, 41, 42, 43, 44, 45, 46, 47, 48, 49, 50, 51, 52, 53, 54, 55, 56, 57, 58, 59, 60, 61, 62, 63, 64, 65, 66, 67, 68] (by decide +kernel) (by decide +kernel)
set_option maxRecDepth 20000 in
theorem gL_divisor_ex : GoodIn wsL_divisor (wsV R_law 23 RX0 yX0_divisor xsX0_divisor) := goodIn_app (goodIn_of _ (by decide +kernel)) ggL_divisor_ex
set_option maxHeartbeats 4000000 in
set_option maxRecDepth 100000 in
theorem k_divisor (l : Launch) (hlt : l.stackTraces = false) (dC : Nat → ClassId) (dI : Nat → Nat → Nat) (sz F sa : Nat) (h0 h1 h2 h3 h4 h5 qo : Nat) (cA cL : ClassId) (nu pk dc rc : Int32) (pr ex dv rt sp : Nat → Int32) (o : Nat → Int64) (p0 : Int32) (o' : Nat → Int64) (k : Int32) (h : (f_r_divisor F dc dv p0 = some none ∧ k = 1 ∧ o = o') ∨ (∃ rv : Int32, f_r_divisor F dc dv p0 = some (some rv) ∧ k = 0 ∧ o' = vp_updL o (0 : Int32).toNatClampNeg (Int32.toInt64 rv))) : Met l yL_divisor wsL_divisor { frames := 7, cells := 1, slots := 6, locals := 111 } (rf_Py (dC, dI) [(cA, .int), (cL, .long)] [(h0, .inr (0, [.int nu, .int pk, .ref h1, .ref h2, .int dc, .ref h3, .int rc, .ref h4, .ref h5])), (h1, .inl (cA, 7, .inl pr)), (h2, .inl (cA, 7, .inl ex)), (h3, .inl (cA, 360, .inl dv)), (h4, .inl (cA, 4096, .inl rt)), (h5, .inl (cA, 4096, .inl sp)), (qo, .inl (cL, 1, .inr (.inl o)))] sz [.ref h0, .int p0, .ref qo] RX0 57 "there is no such divisor" sa "java/lang/IndexOutOfBoundsException") (va_Qi (fun (r : Int32) (_ : Unit) => k = r) (fun (_ : Unit) t => va_P (dC, dI) vwCl [(h0, .inr (0, [.int nu, .int pk, .ref h1, .ref h2, .int dc, .ref h3, .int rc, .ref h4, .ref h5])), (h1, .inl (cA, 7, .inl pr)), (h2, .inl (cA, 7, .inl ex)), (h3, .inl (cA, 360, .inl dv)), (h4, .inl (cA, 4096, .inl rt)), (h5, .inl (cA, 4096, .inl sp)), (qo, .inl (cL, 1, .inr (.inl o')))] t.heap ∧ va_D (va_A [(h0, .inr (0, [.int nu, .int pk, .ref h1, .ref h2, .int dc, .ref h3, .int rc, .ref h4, .ref h5])), (h1, .inl (cA, 7, .inl pr)), (h2, .inl (cA, 7, .inl ex)), (h3, .inl (cA, 360, .inl dv)), (h4, .inl (cA, 4096, .inl rt)), (h5, .inl (cA, 4096, .inl sp)), (qo, .inl (cL, 1, .inr (.inl o)))] sz) [(h0, .inr (0, [.int nu, .int pk, .ref h1, .ref h2, .int dc, .ref h3, .int rc, .ref h4, .ref h5])), (h1, .inl (cA, 7, .inl pr)), (h2, .inl (cA, 7, .inl ex)), (h3, .inl (cA, 360, .inl dv)), (h4, .inl (cA, 4096, .inl rt)), (h5, .inl (cA, 4096, .inl sp)), (qo, .inl (cL, 1, .inr (.inl o')))]) (va_A [(h0, .inr (0, [.int nu, .int pk, .ref h1, .ref h2, .int dc, .ref h3, .int rc, .ref h4, .ref h5])), (h1, .inl (cA, 7, .inl pr)), (h2, .inl (cA, 7, .inl ex)), (h3, .inl (cA, 360, .inl dv)), (h4, .inl (cA, 4096, .inl rt)), (h5, .inl (cA, 4096, .inl sp)), (qo, .inl (cL, 1, .inr (.inl o)))] sz)) 1 6 (va_A [(h0, .inr (0, [.int nu, .int pk, .ref h1, .ref h2, .int dc, .ref h3, .int rc, .ref h4, .ref h5])), (h1, .inl (cA, 7, .inl pr)), (h2, .inl (cA, 7, .inl ex)), (h3, .inl (cA, 360, .inl dv)), (h4, .inl (cA, 4096, .inl rt)), (h5, .inl (cA, 4096, .inl sp)), (qo, .inl (cL, 1, .inr (.inl o)))] sz) := by
  refine va_MetW (cc := cL_divisor) (maxL := 4) (ret := (some .int)) (hh := [(0, 9, 12, 18)]) (by decide) rfl ?_
  intro p e s m args below meth c s₁ B hml hv
  obtain ⟨rfl, ⟨hsz, hP, hK, hD0⟩, hstr, hU, hN, hNn⟩ := hv
  have hx := B.exec
  have hb := B.bytes
  have hr := B.returns
  have hts := atoms_spec (ws := wsL_divisor) B.pre
  have hown : s.vm.findClass R_law = some m.cls := findClass_of_methodNamed B.named
  have hlocks := B.notSynchronized
  have htab := vx_table (x := yL_divisor) B (hts (.codeWith yL_divisor cL_divisor 4 (some .int) [(0, 9, 12, 18)]) List.mem_cons_self)
  subst hsz
  have hD := hD0.self (sz := s.heap.size)
  generalize hAe : va_A [(h0, .inr (0, [.int nu, .int pk, .ref h1, .ref h2, .int dc, .ref h3, .int rc, .ref h4, .ref h5])), (h1, .inl (cA, 7, .inl pr)), (h2, .inl (cA, 7, .inl ex)), (h3, .inl (cA, 360, .inl dv)), (h4, .inl (cA, 4096, .inl rt)), (h5, .inl (cA, 4096, .inl sp)), (qo, .inl (cL, 1, .inr (.inl o)))] s.heap.size = A at hD hU hN ⊢
  have hA : ∀ q : Nat, s.heap.size ≤ q → A q := fun q h => by rw [← hAe]; exact Or.inr h
  have hS : va_S A s.heap s.heap [] := va_S.rf
  have hl := lv_entry ([.ref h0, .int p0, .ref qo]) (n := 4) (Nat.le_of_ble_eq_true rfl)
  rw [lg_entry_eq]
  generalize (lg_sl ([.ref h0, .int p0, .ref qo]) ++ List.replicate (4 - (lg_sl ([.ref h0, .int p0, .ref qo])).length) Slot.unset).toArray = ls at hl ⊢
  have hl : lv_has ls 4 [(0, .ref h0), (1, .int p0), (2, .ref qo)] := hl
  have hF := va_free (wc := [(h0, .inr (0, [.int nu, .int pk, .ref h1, .ref h2, .int dc, .ref h3, .int rc, .ref h4, .ref h5])), (h1, .inl (cA, 7, .inl pr)), (h2, .inl (cA, 7, .inl ex)), (h3, .inl (cA, 360, .inl dv)), (h4, .inl (cA, 4096, .inl rt)), (h5, .inl (cA, 4096, .inl sp))]) hD hS hA [0, 1, 2, 3, 4, 5] rfl
  refine lv_aload_n hx hb dL_divisor_0 rfl (lv_at hl 2 rfl) ?_
  refine lv_iconst (v := 0) hx hb dL_divisor_1 (by decide) ?_
  refine lv_aload_n hx hb dL_divisor_2 rfl (lv_at hl 0 rfl) ?_
  refine lv_iload_n hx hb dL_divisor_3 rfl (lv_at hl 1 rfl) ?_
  rcases h with ⟨h, rfl, rfl⟩ | ⟨rv, h, rfl, rfl⟩
  · refine vx_calli (vx_runV (As := [.int p0]) (rest := [.int 0, .ref qo]) ⟨hx, hb, hml, hown, hts⟩ (x_r_divisor l hlt dC dI _ F sa h0 h1 h2 h3 h4 h5 cA nu pk dc rc pr ex dv rt sp p0 h) (cwV 1 hts gL_divisor_ex rfl rfl rfl (by decide +kernel) ⟨(Nat.le_of_ble_eq_true rfl), (Nat.le_of_ble_eq_true rfl)⟩) ⟨rf_blindy, va_recv hK hP (ci := 0) (q0 := 0) rfl rfl, fun U hU9 hW => ⟨rfl, rf_pre (hP.sub (ws' := [(h0, .inr (0, [.int nu, .int pk, .ref h1, .ref h2, .int dc, .ref h3, .int rc, .ref h4, .ref h5])), (h1, .inl (cA, 7, .inl pr)), (h2, .inl (cA, 7, .inl ex)), (h3, .inl (cA, 360, .inl dv)), (h4, .inl (cA, 4096, .inl rt)), (h5, .inl (cA, 4096, .inl sp))]) [0, 1, 2, 3, 4, 5] rfl) (hK.sub (tys' := [(cA, .int)]) [0] rfl) (hD.sub (ws' := [(h0, .inr (0, [.int nu, .int pk, .ref h1, .ref h2, .int dc, .ref h3, .int rc, .ref h4, .ref h5])), (h1, .inl (cA, 7, .inl pr)), (h2, .inl (cA, 7, .inl ex)), (h3, .inl (cA, 360, .inl dv)), (h4, .inl (cA, 4096, .inl rt)), (h5, .inl (cA, 4096, .inl sp))]) [0, 1, 2, 3, 4, 5] (by decide) rfl) U hU9 hW, rf_yat hstr hU hN hNn hS hF U hU9 hW⟩⟩ rfl rfl hl.1 rfl (lv_room (Nat.le_of_ble_eq_true rfl)) dL_divisor_4 ⟨(Nat.le_of_ble_eq_true rfl), (Nat.le_of_ble_eq_true rfl)⟩) hS (fun q _ h => hF q h) hF (fun q _ h => hF q h) (fun E9 ce q9 u t H1 locs1 ht hvm hpx hB hz hk hS hce hcv hcl => ?_) (fun r u t H1 locs1 ht hvm hp hB hz hk hS => hp.elim)
    obtain ⟨rfl, hP1, hD1⟩ := hB
    rw [ht] at hP1
    obtain ⟨hP, hD⟩ := va_join (wr := [(qo, .inl (cL, 1, .inr (.inl o)))]) (w1 := [(h0, .inr (0, [.int nu, .int pk, .ref h1, .ref h2, .int dc, .ref h3, .int rc, .ref h4, .ref h5])), (h1, .inl (cA, 7, .inl pr)), (h2, .inl (cA, 7, .inl ex)), (h3, .inl (cA, 360, .inl dv)), (h4, .inl (cA, 4096, .inl rt)), (h5, .inl (cA, 4096, .inl sp))]) hP hD [0, 1, 2, 3, 4, 5] [6] rfl rfl (by decide) (by decide) hk hF hP1 hD1
    have hP := hP.sub (ws' := [(h0, .inr (0, [.int nu, .int pk, .ref h1, .ref h2, .int dc, .ref h3, .int rc, .ref h4, .ref h5])), (h1, .inl (cA, 7, .inl pr)), (h2, .inl (cA, 7, .inl ex)), (h3, .inl (cA, 360, .inl dv)), (h4, .inl (cA, 4096, .inl rt)), (h5, .inl (cA, 4096, .inl sp)), (qo, .inl (cL, 1, .inr (.inl o)))]) [1, 2, 3, 4, 5, 6, 0] rfl
    have hD := hD.sub (ws' := [(h0, .inr (0, [.int nu, .int pk, .ref h1, .ref h2, .int dc, .ref h3, .int rc, .ref h4, .ref h5])), (h1, .inl (cA, 7, .inl pr)), (h2, .inl (cA, 7, .inl ex)), (h3, .inl (cA, 360, .inl dv)), (h4, .inl (cA, 4096, .inl rt)), (h5, .inl (cA, 4096, .inl sp)), (qo, .inl (cL, 1, .inr (.inl o)))]) [1, 2, 3, 4, 5, 6, 0] (by decide) rfl
    refine vx_catch hown [] ⟨0, 9, 12, 18⟩ [] (htab.trans rfl) (fun z hz => nomatch hz) (by decide) (by decide) (hts _ (List.mem_of_getElem? (i := 1) rfl)) (hNn.at _ _ (List.mem_of_getElem? (i := 3) rfl)) hce hcv hcl ?_
    refine lv_astore_n (x := q9) (lv' := [(3, .ref q9), (0, .ref h0), (1, .int p0), (2, .ref qo)]) hx hb dL_divisor_12 rfl hl (by decide) rfl (fun ls hl => ?_)
    refine lv_iconst (v := 1) hx hb dL_divisor_13 (by decide) ?_
    refine W.widen (k := 1) (n := 6) (Nat.le_of_ble_eq_true rfl) (Nat.le_of_ble_eq_true rfl) ?_
    exact W.iret hx hb hr (fun t ht hW => ⟨⟨_, (), rfl, rfl, by rw [ht]; exact hP, hD⟩, hS.F ht⟩) hS.2.2 dL_divisor_14
  · refine rf_ci (wn := (fun _ : Unit => [(h0, .inr (0, [.int nu, .int pk, .ref h1, .ref h2, .int dc, .ref h3, .int rc, .ref h4, .ref h5])), (h1, .inl (cA, 7, .inl pr)), (h2, .inl (cA, 7, .inl ex)), (h3, .inl (cA, 360, .inl dv)), (h4, .inl (cA, 4096, .inl rt)), (h5, .inl (cA, 4096, .inl sp))])) (wc := [(h0, .inr (0, [.int nu, .int pk, .ref h1, .ref h2, .int dc, .ref h3, .int rc, .ref h4, .ref h5])), (h1, .inl (cA, 7, .inl pr)), (h2, .inl (cA, 7, .inl ex)), (h3, .inl (cA, 360, .inl dv)), (h4, .inl (cA, 4096, .inl rt)), (h5, .inl (cA, 4096, .inl sp))]) (wr := [(qo, .inl (cL, 1, .inr (.inl o)))]) hP hD hS hA [0, 1, 2, 3, 4, 5] [6] rfl rfl (by decide) (by decide) (va_runV (As := [.int p0]) (rest := [.int 0, .ref qo]) ⟨hx, hb, hml, hown, hts⟩ (c_r_divisor l dC dI _ F h0 h1 h2 h3 h4 h5 cA nu pk dc rc pr ex dv rt sp p0 rv h) (cwV 1 hts gL_divisor_ok rfl rfl rfl (by decide +kernel) ⟨(Nat.le_of_ble_eq_true rfl), (Nat.le_of_ble_eq_true rfl)⟩) ⟨rf_blind, va_recv hK hP (ci := 0) (q0 := 0) rfl rfl, fun U hU9 hW => ⟨rfl, rf_pre (hP.sub (ws' := [(h0, .inr (0, [.int nu, .int pk, .ref h1, .ref h2, .int dc, .ref h3, .int rc, .ref h4, .ref h5])), (h1, .inl (cA, 7, .inl pr)), (h2, .inl (cA, 7, .inl ex)), (h3, .inl (cA, 360, .inl dv)), (h4, .inl (cA, 4096, .inl rt)), (h5, .inl (cA, 4096, .inl sp))]) [0, 1, 2, 3, 4, 5] rfl) (hK.sub (tys' := [(cA, .int)]) [0] rfl) (hD.sub (ws' := [(h0, .inr (0, [.int nu, .int pk, .ref h1, .ref h2, .int dc, .ref h3, .int rc, .ref h4, .ref h5])), (h1, .inl (cA, 7, .inl pr)), (h2, .inl (cA, 7, .inl ex)), (h3, .inl (cA, 360, .inl dv)), (h4, .inl (cA, 4096, .inl rt)), (h5, .inl (cA, 4096, .inl sp))]) [0, 1, 2, 3, 4, 5] (by decide) rfl) U hU9 hW⟩⟩ rfl rfl hl.1 rfl (lv_room (Nat.le_of_ble_eq_true rfl)) dL_divisor_4 ⟨Nat.zero_le _, Nat.zero_le _⟩) (fun r' u H locs hw hP hD hS => ?_)
    subst hw
    have hP := hP.sub (ws' := [(h0, .inr (0, [.int nu, .int pk, .ref h1, .ref h2, .int dc, .ref h3, .int rc, .ref h4, .ref h5])), (h1, .inl (cA, 7, .inl pr)), (h2, .inl (cA, 7, .inl ex)), (h3, .inl (cA, 360, .inl dv)), (h4, .inl (cA, 4096, .inl rt)), (h5, .inl (cA, 4096, .inl sp)), (qo, .inl (cL, 1, .inr (.inl o)))]) [1, 2, 3, 4, 5, 6, 0] rfl
    have hD := hD.sub (ws' := [(h0, .inr (0, [.int nu, .int pk, .ref h1, .ref h2, .int dc, .ref h3, .int rc, .ref h4, .ref h5])), (h1, .inl (cA, 7, .inl pr)), (h2, .inl (cA, 7, .inl ex)), (h3, .inl (cA, 360, .inl dv)), (h4, .inl (cA, 4096, .inl rt)), (h5, .inl (cA, 4096, .inl sp)), (qo, .inl (cL, 1, .inr (.inl o)))]) [1, 2, 3, 4, 5, 6, 0] (by decide) rfl
    refine lv_i2l (v := (Int32.toInt64 rv)) hx hb dL_divisor_7 rfl ?_
    refine va_last hx hb hK hP hD hS 6 1 rfl rfl rf_in0 dL_divisor_8 (fun H locs hP hD hS => ?_)
    refine lv_goto (tgt := 15) hx hb dL_divisor_9 (by decide) ?_
    refine lv_iconst (v := 0) hx hb dL_divisor_15 (by decide) ?_
    refine W.widen (k := 1) (n := 6) (Nat.le_of_ble_eq_true rfl) (Nat.le_of_ble_eq_true rfl) ?_
    exact W.iret hx hb hr (fun t ht hW => ⟨⟨_, (), rfl, rfl, by rw [ht]; exact hP, hD⟩, hS.F ht⟩) hS.2.2 dL_divisor_16
abbrev cL_kronecker : ByteArray := method_7_code
def yL_kronecker : MethodName := ⟨R_law, "kronecker", "(LRootFinder;JI[J)I"⟩
theorem dL_kronecker_0 : decode cL_kronecker 0 = .ok (.aload 4, 2) := by decide +kernel
theorem dL_kronecker_2 : decode cL_kronecker 2 = .ok (.iconst 0, 1) := by decide +kernel
theorem dL_kronecker_3 : decode cL_kronecker 3 = .ok (.aload_n 0, 1) := by decide +kernel
theorem dL_kronecker_4 : decode cL_kronecker 4 = .ok (.lload_n 1, 1) := by decide +kernel
theorem dL_kronecker_5 : decode cL_kronecker 5 = .ok (.iload_n 3, 1) := by decide +kernel
theorem dL_kronecker_6 : decode cL_kronecker 6 = .ok (.invokevirtual 26, 3) := by decide +kernel
theorem dL_kronecker_9 : decode cL_kronecker 9 = .ok (.i2l, 1) := by decide +kernel
theorem dL_kronecker_10 : decode cL_kronecker 10 = .ok (.lastore, 1) := by decide +kernel
theorem dL_kronecker_11 : decode cL_kronecker 11 = .ok (.goto 7, 3) := by decide +kernel
theorem dL_kronecker_14 : decode cL_kronecker 14 = .ok (.astore 5, 2) := by decide +kernel
theorem dL_kronecker_16 : decode cL_kronecker 16 = .ok (.iconst 1, 1) := by decide +kernel
theorem dL_kronecker_17 : decode cL_kronecker 17 = .ok (.ireturn, 1) := by decide +kernel
theorem dL_kronecker_18 : decode cL_kronecker 18 = .ok (.iconst 0, 1) := by decide +kernel
theorem dL_kronecker_19 : decode cL_kronecker 19 = .ok (.ireturn, 1) := by decide +kernel
def wsL_kronecker : List Cond := .codeWith yL_kronecker cL_kronecker 6 (some .int) [(0, 11, 14, 13)] :: ((([Cond.classLink R_law 13 "java/lang/IllegalArgumentException", Cond.methodLink R_law 26 yX0_kronecker, Cond.instanceMethod yX0_kronecker, Cond.selects RX0 yX0_kronecker yX0_kronecker, Cond.initialized RX0, Cond.code yX0_kronecker cX0_kronecker 7 (some .int), Cond.constant RX0 66 (-4194304), Cond.constant RX0 38 4194304, Cond.methodLink RX0 71 yX0_symbolWithTwo, Cond.static yX0_symbolWithTwo, Cond.code yX0_symbolWithTwo cX0_symbolWithTwo 4 (some .int), Cond.constantLong RX0 146 7, Cond.constantLong RX0 137 2, Cond.methodLink RX0 75 yX0_jacobi, Cond.static yX0_jacobi, Cond.code yX0_jacobi cX0_jacobi 8 (some .int), Cond.methodLink RX0 93 yX0_residue, Cond.static yX0_residue, Cond.code yX0_residue cX0_residue 5 (some .int), Cond.constantLong RX0 69 (-1), Cond.classLink RX0 39 "java/lang/IllegalArgumentException", Cond.initialized "java/lang/IllegalArgumentException"] : List Cond) ++ (vx_atS RX0 43 "java/lang/IllegalArgumentException" ["java/lang/RuntimeException", "java/lang/Exception"]).filter goodWord) ++ wsX00)
set_option maxRecDepth 20000 in
theorem ggL_kronecker_ok : GoodIn wsL_kronecker wsX0_kronecker := goodIn_r _ [6, 7, 8, 9, 10, 5, 11, 12, 13, 14, 15, 16, 17, 18, 19, 20, 21, 22, 72, 73, 74, 75, 76, 77, 78, 79, 80] (by decide +kernel) (by decide +kernel)
set_option maxRecDepth 20000 in
theorem gL_kronecker_ok : GoodIn wsL_kronecker (wsV R_law 26 RX0 yX0_kronecker wsX0_kronecker) := goodIn_app (goodIn_of _ (by decide +kernel)) ggL_kronecker_ok
set_option maxRecDepth 20000 in
theorem ggL_kronecker_ex : GoodIn wsL_kronecker xsX0_kronecker := goodIn_r _ [6, 7, 8, 9, 10, 5, 11, 12, 13, 14, 15, 16, 17, 18, 19, 20, 21, 22, 23, 24, 25, 26, 27, 28, 29, 30, 31, 32, 33, 34, 35, 36, 37, 38, 39, 40, 41, 42, 43, 44, 45, 46, 47, 48, 49, 50, 51, 52, 53, 54, 55, 56, 57, 58, 59, 60, 61, 62, 63, 64, 65, 66, 67, 68, 69, 70, 71, 72, 73, 74, 75, 76, 77, 78, 79, 80] (by decide +kernel) (by decide +kernel)
set_option maxRecDepth 20000 in
theorem gL_kronecker_ex : GoodIn wsL_kronecker (wsV R_law 26 RX0 yX0_kronecker xsX0_kronecker) := goodIn_app (goodIn_of _ (by decide +kernel)) ggL_kronecker_ex
set_option maxHeartbeats 4000000 in
set_option maxRecDepth 100000 in
theorem k_kronecker (l : Launch) (hlt : l.stackTraces = false) (dC : Nat → ClassId) (dI : Nat → Nat → Nat) (sz F sa : Nat) (h0 h1 h2 h3 h4 h5 qo : Nat) (cA cL : ClassId) (nu pk dc rc : Int32) (pr ex dv rt sp : Nat → Int32) (o : Nat → Int64) (p0 : Int64) (p1 : Int32) (o' : Nat → Int64) (k : Int32) (h : (f_r_kronecker F p0 p1 = some none ∧ k = 1 ∧ o = o') ∨ (∃ rv : Int32, f_r_kronecker F p0 p1 = some (some rv) ∧ k = 0 ∧ o' = vp_updL o (0 : Int32).toNatClampNeg (Int32.toInt64 rv))) : Met l yL_kronecker wsL_kronecker { frames := 7, cells := 1, slots := 6, locals := 116 } (rf_Py (dC, dI) [(cA, .int), (cL, .long)] [(h0, .inr (0, [.int nu, .int pk, .ref h1, .ref h2, .int dc, .ref h3, .int rc, .ref h4, .ref h5])), (h1, .inl (cA, 7, .inl pr)), (h2, .inl (cA, 7, .inl ex)), (h3, .inl (cA, 360, .inl dv)), (h4, .inl (cA, 4096, .inl rt)), (h5, .inl (cA, 4096, .inl sp)), (qo, .inl (cL, 1, .inr (.inl o)))] sz [.ref h0, .long p0, .int p1, .ref qo] RX0 67 "n must be -4194304 .. 4194304" sa "java/lang/IllegalArgumentException") (va_Qi (fun (r : Int32) (_ : Unit) => k = r) (fun (_ : Unit) t => va_P (dC, dI) vwCl [(h0, .inr (0, [.int nu, .int pk, .ref h1, .ref h2, .int dc, .ref h3, .int rc, .ref h4, .ref h5])), (h1, .inl (cA, 7, .inl pr)), (h2, .inl (cA, 7, .inl ex)), (h3, .inl (cA, 360, .inl dv)), (h4, .inl (cA, 4096, .inl rt)), (h5, .inl (cA, 4096, .inl sp)), (qo, .inl (cL, 1, .inr (.inl o')))] t.heap ∧ va_D (va_A [(h0, .inr (0, [.int nu, .int pk, .ref h1, .ref h2, .int dc, .ref h3, .int rc, .ref h4, .ref h5])), (h1, .inl (cA, 7, .inl pr)), (h2, .inl (cA, 7, .inl ex)), (h3, .inl (cA, 360, .inl dv)), (h4, .inl (cA, 4096, .inl rt)), (h5, .inl (cA, 4096, .inl sp)), (qo, .inl (cL, 1, .inr (.inl o)))] sz) [(h0, .inr (0, [.int nu, .int pk, .ref h1, .ref h2, .int dc, .ref h3, .int rc, .ref h4, .ref h5])), (h1, .inl (cA, 7, .inl pr)), (h2, .inl (cA, 7, .inl ex)), (h3, .inl (cA, 360, .inl dv)), (h4, .inl (cA, 4096, .inl rt)), (h5, .inl (cA, 4096, .inl sp)), (qo, .inl (cL, 1, .inr (.inl o')))]) (va_A [(h0, .inr (0, [.int nu, .int pk, .ref h1, .ref h2, .int dc, .ref h3, .int rc, .ref h4, .ref h5])), (h1, .inl (cA, 7, .inl pr)), (h2, .inl (cA, 7, .inl ex)), (h3, .inl (cA, 360, .inl dv)), (h4, .inl (cA, 4096, .inl rt)), (h5, .inl (cA, 4096, .inl sp)), (qo, .inl (cL, 1, .inr (.inl o)))] sz)) 1 6 (va_A [(h0, .inr (0, [.int nu, .int pk, .ref h1, .ref h2, .int dc, .ref h3, .int rc, .ref h4, .ref h5])), (h1, .inl (cA, 7, .inl pr)), (h2, .inl (cA, 7, .inl ex)), (h3, .inl (cA, 360, .inl dv)), (h4, .inl (cA, 4096, .inl rt)), (h5, .inl (cA, 4096, .inl sp)), (qo, .inl (cL, 1, .inr (.inl o)))] sz) := by
  refine va_MetW (cc := cL_kronecker) (maxL := 6) (ret := (some .int)) (hh := [(0, 11, 14, 13)]) (by decide) rfl ?_
  intro p e s m args below meth c s₁ B hml hv
  obtain ⟨rfl, ⟨hsz, hP, hK, hD0⟩, hstr, hU, hN, hNn⟩ := hv
  have hx := B.exec
  have hb := B.bytes
  have hr := B.returns
  have hts := atoms_spec (ws := wsL_kronecker) B.pre
  have hown : s.vm.findClass R_law = some m.cls := findClass_of_methodNamed B.named
  have hlocks := B.notSynchronized
  have htab := vx_table (x := yL_kronecker) B (hts (.codeWith yL_kronecker cL_kronecker 6 (some .int) [(0, 11, 14, 13)]) List.mem_cons_self)
  subst hsz
  have hD := hD0.self (sz := s.heap.size)
  generalize hAe : va_A [(h0, .inr (0, [.int nu, .int pk, .ref h1, .ref h2, .int dc, .ref h3, .int rc, .ref h4, .ref h5])), (h1, .inl (cA, 7, .inl pr)), (h2, .inl (cA, 7, .inl ex)), (h3, .inl (cA, 360, .inl dv)), (h4, .inl (cA, 4096, .inl rt)), (h5, .inl (cA, 4096, .inl sp)), (qo, .inl (cL, 1, .inr (.inl o)))] s.heap.size = A at hD hU hN ⊢
  have hA : ∀ q : Nat, s.heap.size ≤ q → A q := fun q h => by rw [← hAe]; exact Or.inr h
  have hS : va_S A s.heap s.heap [] := va_S.rf
  have hl := lv_entry ([.ref h0, .long p0, .int p1, .ref qo]) (n := 6) (Nat.le_of_ble_eq_true rfl)
  rw [lg_entry_eq]
  generalize (lg_sl ([.ref h0, .long p0, .int p1, .ref qo]) ++ List.replicate (6 - (lg_sl ([.ref h0, .long p0, .int p1, .ref qo])).length) Slot.unset).toArray = ls at hl ⊢
  have hl : lv_has ls 6 [(0, .ref h0), (1, .long p0), (3, .int p1), (4, .ref qo)] := hl
  have hF := va_free (wc := [(h0, .inr (0, [.int nu, .int pk, .ref h1, .ref h2, .int dc, .ref h3, .int rc, .ref h4, .ref h5])), (h1, .inl (cA, 7, .inl pr)), (h2, .inl (cA, 7, .inl ex)), (h3, .inl (cA, 360, .inl dv)), (h4, .inl (cA, 4096, .inl rt)), (h5, .inl (cA, 4096, .inl sp))]) hD hS hA [0, 1, 2, 3, 4, 5] rfl
  refine lv_aload hx hb dL_kronecker_0 (lv_at hl 3 rfl) ?_
  refine lv_iconst (v := 0) hx hb dL_kronecker_2 (by decide) ?_
  refine lv_aload_n hx hb dL_kronecker_3 rfl (lv_at hl 0 rfl) ?_
  refine lv_lload_n hx hb dL_kronecker_4 rfl (lv_at hl 1 rfl) ?_
  refine lv_iload_n hx hb dL_kronecker_5 rfl (lv_at hl 2 rfl) ?_
  rcases h with ⟨h, rfl, rfl⟩ | ⟨rv, h, rfl, rfl⟩
  · refine vx_calli (vx_runV (As := [.long p0, .int p1]) (rest := [.int 0, .ref qo]) ⟨hx, hb, hml, hown, hts⟩ (x_r_kronecker l hlt dC dI _ F sa h0 h1 h2 h3 h4 h5 cA nu pk dc rc pr ex dv rt sp p0 p1 h) (cwV 2 hts gL_kronecker_ex rfl rfl rfl (by decide +kernel) ⟨(Nat.le_of_ble_eq_true rfl), (Nat.le_of_ble_eq_true rfl)⟩) ⟨rf_blindy, va_recv hK hP (ci := 0) (q0 := 0) rfl rfl, fun U hU9 hW => ⟨rfl, rf_pre (hP.sub (ws' := [(h0, .inr (0, [.int nu, .int pk, .ref h1, .ref h2, .int dc, .ref h3, .int rc, .ref h4, .ref h5])), (h1, .inl (cA, 7, .inl pr)), (h2, .inl (cA, 7, .inl ex)), (h3, .inl (cA, 360, .inl dv)), (h4, .inl (cA, 4096, .inl rt)), (h5, .inl (cA, 4096, .inl sp))]) [0, 1, 2, 3, 4, 5] rfl) (hK.sub (tys' := [(cA, .int)]) [0] rfl) (hD.sub (ws' := [(h0, .inr (0, [.int nu, .int pk, .ref h1, .ref h2, .int dc, .ref h3, .int rc, .ref h4, .ref h5])), (h1, .inl (cA, 7, .inl pr)), (h2, .inl (cA, 7, .inl ex)), (h3, .inl (cA, 360, .inl dv)), (h4, .inl (cA, 4096, .inl rt)), (h5, .inl (cA, 4096, .inl sp))]) [0, 1, 2, 3, 4, 5] (by decide) rfl) U hU9 hW, rf_yat hstr hU hN hNn hS hF U hU9 hW⟩⟩ rfl rfl hl.1 rfl (lv_room (Nat.le_of_ble_eq_true rfl)) dL_kronecker_6 ⟨(Nat.le_of_ble_eq_true rfl), (Nat.le_of_ble_eq_true rfl)⟩) hS (fun q _ h => hF q h) hF (fun q _ h => hF q h) (fun E9 ce q9 u t H1 locs1 ht hvm hpx hB hz hk hS hce hcv hcl => ?_) (fun r u t H1 locs1 ht hvm hp hB hz hk hS => hp.elim)
    obtain ⟨rfl, hP1, hD1⟩ := hB
    rw [ht] at hP1
    obtain ⟨hP, hD⟩ := va_join (wr := [(qo, .inl (cL, 1, .inr (.inl o)))]) (w1 := [(h0, .inr (0, [.int nu, .int pk, .ref h1, .ref h2, .int dc, .ref h3, .int rc, .ref h4, .ref h5])), (h1, .inl (cA, 7, .inl pr)), (h2, .inl (cA, 7, .inl ex)), (h3, .inl (cA, 360, .inl dv)), (h4, .inl (cA, 4096, .inl rt)), (h5, .inl (cA, 4096, .inl sp))]) hP hD [0, 1, 2, 3, 4, 5] [6] rfl rfl (by decide) (by decide) hk hF hP1 hD1
    have hP := hP.sub (ws' := [(h0, .inr (0, [.int nu, .int pk, .ref h1, .ref h2, .int dc, .ref h3, .int rc, .ref h4, .ref h5])), (h1, .inl (cA, 7, .inl pr)), (h2, .inl (cA, 7, .inl ex)), (h3, .inl (cA, 360, .inl dv)), (h4, .inl (cA, 4096, .inl rt)), (h5, .inl (cA, 4096, .inl sp)), (qo, .inl (cL, 1, .inr (.inl o)))]) [1, 2, 3, 4, 5, 6, 0] rfl
    have hD := hD.sub (ws' := [(h0, .inr (0, [.int nu, .int pk, .ref h1, .ref h2, .int dc, .ref h3, .int rc, .ref h4, .ref h5])), (h1, .inl (cA, 7, .inl pr)), (h2, .inl (cA, 7, .inl ex)), (h3, .inl (cA, 360, .inl dv)), (h4, .inl (cA, 4096, .inl rt)), (h5, .inl (cA, 4096, .inl sp)), (qo, .inl (cL, 1, .inr (.inl o)))]) [1, 2, 3, 4, 5, 6, 0] (by decide) rfl
    refine vx_catch hown [] ⟨0, 11, 14, 13⟩ [] (htab.trans rfl) (fun z hz => nomatch hz) (by decide) (by decide) (hts _ (List.mem_of_getElem? (i := 1) rfl)) (hNn.at _ _ (List.mem_of_getElem? (i := 3) rfl)) hce hcv hcl ?_
    refine lv_astore (x := q9) (lv' := [(5, .ref q9), (0, .ref h0), (1, .long p0), (3, .int p1), (4, .ref qo)]) hx hb dL_kronecker_14 hl (by decide) rfl (fun ls hl => ?_)
    refine lv_iconst (v := 1) hx hb dL_kronecker_16 (by decide) ?_
    refine W.widen (k := 1) (n := 6) (Nat.le_of_ble_eq_true rfl) (Nat.le_of_ble_eq_true rfl) ?_
    exact W.iret hx hb hr (fun t ht hW => ⟨⟨_, (), rfl, rfl, by rw [ht]; exact hP, hD⟩, hS.F ht⟩) hS.2.2 dL_kronecker_17
  · refine rf_ci (wn := (fun _ : Unit => [(h0, .inr (0, [.int nu, .int pk, .ref h1, .ref h2, .int dc, .ref h3, .int rc, .ref h4, .ref h5])), (h1, .inl (cA, 7, .inl pr)), (h2, .inl (cA, 7, .inl ex)), (h3, .inl (cA, 360, .inl dv)), (h4, .inl (cA, 4096, .inl rt)), (h5, .inl (cA, 4096, .inl sp))])) (wc := [(h0, .inr (0, [.int nu, .int pk, .ref h1, .ref h2, .int dc, .ref h3, .int rc, .ref h4, .ref h5])), (h1, .inl (cA, 7, .inl pr)), (h2, .inl (cA, 7, .inl ex)), (h3, .inl (cA, 360, .inl dv)), (h4, .inl (cA, 4096, .inl rt)), (h5, .inl (cA, 4096, .inl sp))]) (wr := [(qo, .inl (cL, 1, .inr (.inl o)))]) hP hD hS hA [0, 1, 2, 3, 4, 5] [6] rfl rfl (by decide) (by decide) (va_runV (As := [.long p0, .int p1]) (rest := [.int 0, .ref qo]) ⟨hx, hb, hml, hown, hts⟩ (c_r_kronecker l dC dI _ F h0 h1 h2 h3 h4 h5 cA nu pk dc rc pr ex dv rt sp p0 p1 rv h) (cwV 2 hts gL_kronecker_ok rfl rfl rfl (by decide +kernel) ⟨(Nat.le_of_ble_eq_true rfl), (Nat.le_of_ble_eq_true rfl)⟩) ⟨rf_blind, va_recv hK hP (ci := 0) (q0 := 0) rfl rfl, fun U hU9 hW => ⟨rfl, rf_pre (hP.sub (ws' := [(h0, .inr (0, [.int nu, .int pk, .ref h1, .ref h2, .int dc, .ref h3, .int rc, .ref h4, .ref h5])), (h1, .inl (cA, 7, .inl pr)), (h2, .inl (cA, 7, .inl ex)), (h3, .inl (cA, 360, .inl dv)), (h4, .inl (cA, 4096, .inl rt)), (h5, .inl (cA, 4096, .inl sp))]) [0, 1, 2, 3, 4, 5] rfl) (hK.sub (tys' := [(cA, .int)]) [0] rfl) (hD.sub (ws' := [(h0, .inr (0, [.int nu, .int pk, .ref h1, .ref h2, .int dc, .ref h3, .int rc, .ref h4, .ref h5])), (h1, .inl (cA, 7, .inl pr)), (h2, .inl (cA, 7, .inl ex)), (h3, .inl (cA, 360, .inl dv)), (h4, .inl (cA, 4096, .inl rt)), (h5, .inl (cA, 4096, .inl sp))]) [0, 1, 2, 3, 4, 5] (by decide) rfl) U hU9 hW⟩⟩ rfl rfl hl.1 rfl (lv_room (Nat.le_of_ble_eq_true rfl)) dL_kronecker_6 ⟨Nat.zero_le _, Nat.zero_le _⟩) (fun r' u H locs hw hP hD hS => ?_)
    subst hw
    have hP := hP.sub (ws' := [(h0, .inr (0, [.int nu, .int pk, .ref h1, .ref h2, .int dc, .ref h3, .int rc, .ref h4, .ref h5])), (h1, .inl (cA, 7, .inl pr)), (h2, .inl (cA, 7, .inl ex)), (h3, .inl (cA, 360, .inl dv)), (h4, .inl (cA, 4096, .inl rt)), (h5, .inl (cA, 4096, .inl sp)), (qo, .inl (cL, 1, .inr (.inl o)))]) [1, 2, 3, 4, 5, 6, 0] rfl
    have hD := hD.sub (ws' := [(h0, .inr (0, [.int nu, .int pk, .ref h1, .ref h2, .int dc, .ref h3, .int rc, .ref h4, .ref h5])), (h1, .inl (cA, 7, .inl pr)), (h2, .inl (cA, 7, .inl ex)), (h3, .inl (cA, 360, .inl dv)), (h4, .inl (cA, 4096, .inl rt)), (h5, .inl (cA, 4096, .inl sp)), (qo, .inl (cL, 1, .inr (.inl o)))]) [1, 2, 3, 4, 5, 6, 0] (by decide) rfl
    refine lv_i2l (v := (Int32.toInt64 rv)) hx hb dL_kronecker_9 rfl ?_
    refine va_last hx hb hK hP hD hS 6 1 rfl rfl rf_in0 dL_kronecker_10 (fun H locs hP hD hS => ?_)
    refine lv_goto (tgt := 18) hx hb dL_kronecker_11 (by decide) ?_
    refine lv_iconst (v := 0) hx hb dL_kronecker_18 (by decide) ?_
    refine W.widen (k := 1) (n := 6) (Nat.le_of_ble_eq_true rfl) (Nat.le_of_ble_eq_true rfl) ?_
    exact W.iret hx hb hr (fun t ht hW => ⟨⟨_, (), rfl, rfl, by rw [ht]; exact hP, hD⟩, hS.F ht⟩) hS.2.2 dL_kronecker_19
abbrev cL_power : ByteArray := method_8_code
def yL_power : MethodName := ⟨R_law, "power", "(LRootFinder;JJ[J)I"⟩
theorem dL_power_0 : decode cL_power 0 = .ok (.aload 5, 2) := by decide +kernel
theorem dL_power_2 : decode cL_power 2 = .ok (.iconst 0, 1) := by decide +kernel
theorem dL_power_3 : decode cL_power 3 = .ok (.aload_n 0, 1) := by decide +kernel
theorem dL_power_4 : decode cL_power 4 = .ok (.lload_n 1, 1) := by decide +kernel
theorem dL_power_5 : decode cL_power 5 = .ok (.lload_n 3, 1) := by decide +kernel
theorem dL_power_6 : decode cL_power 6 = .ok (.invokevirtual 30, 3) := by decide +kernel
theorem dL_power_9 : decode cL_power 9 = .ok (.i2l, 1) := by decide +kernel
theorem dL_power_10 : decode cL_power 10 = .ok (.lastore, 1) := by decide +kernel
theorem dL_power_11 : decode cL_power 11 = .ok (.goto 7, 3) := by decide +kernel
theorem dL_power_14 : decode cL_power 14 = .ok (.astore 6, 2) := by decide +kernel
theorem dL_power_16 : decode cL_power 16 = .ok (.iconst 1, 1) := by decide +kernel
theorem dL_power_17 : decode cL_power 17 = .ok (.ireturn, 1) := by decide +kernel
theorem dL_power_18 : decode cL_power 18 = .ok (.iconst 0, 1) := by decide +kernel
theorem dL_power_19 : decode cL_power 19 = .ok (.ireturn, 1) := by decide +kernel
def wsL_power : List Cond := .codeWith yL_power cL_power 7 (some .int) [(0, 11, 14, 13)] :: ((([Cond.classLink R_law 13 "java/lang/IllegalArgumentException", Cond.methodLink R_law 30 yX0_power, Cond.instanceMethod yX0_power, Cond.selects RX0 yX0_power yX0_power, Cond.initialized RX0, Cond.code yX0_power cX0_power 5 (some .int), Cond.fieldLink RX0 25 "RootFinder" "number" "I", Cond.methodLink RX0 81 yX0_raise, Cond.static yX0_raise, Cond.code yX0_raise cX0_raise 12 (some .int), Cond.methodLink RX0 93 yX0_residue, Cond.static yX0_residue, Cond.code yX0_residue cX0_residue 5 (some .int), Cond.constantLong RX0 137 2, Cond.classLink RX0 39 "java/lang/IllegalArgumentException", Cond.initialized "java/lang/IllegalArgumentException"] : List Cond) ++ (vx_atS RX0 43 "java/lang/IllegalArgumentException" ["java/lang/RuntimeException", "java/lang/Exception"]).filter goodWord) ++ wsX00)
set_option maxRecDepth 20000 in
theorem ggL_power_ok : GoodIn wsL_power wsX0_power := goodIn_r _ [6, 7, 8, 9, 5, 10, 11, 12, 13, 14, 15, 16, 66, 67, 68, 69, 70, 71, 72, 73, 74] (by decide +kernel) (by decide +kernel)
set_option maxRecDepth 20000 in
theorem gL_power_ok : GoodIn wsL_power (wsV R_law 30 RX0 yX0_power wsX0_power) := goodIn_app (goodIn_of _ (by decide +kernel)) ggL_power_ok
set_option maxRecDepth 20000 in
theorem ggL_power_ex : GoodIn wsL_power xsX0_power := goodIn_r _ [6, 7, 8, 9, 5, 10, 11, 12, 13, 14, 15, 16, 17, 18, 19, 20, 21, 22, 23, 24, 25, 26, 27, 28, 29, 30, 31, 32, 33, 34, 35, 36, 37, 38, 39, 40, 41, 42, 43, 44, 45, 46, 47, 48, 49, 50, 51, 52, 53, 54, 55, 56, 57, 58, 59, 60, 61, 62, 63, 64, 65, 66, 67, 68, 69, 70, 71, 72, 73, 74] (by decide +kernel) (by decide +kernel)
set_option maxRecDepth 20000 in
theorem gL_power_ex : GoodIn wsL_power (wsV R_law 30 RX0 yX0_power xsX0_power) := goodIn_app (goodIn_of _ (by decide +kernel)) ggL_power_ex
set_option maxHeartbeats 4000000 in
set_option maxRecDepth 100000 in
theorem k_power (l : Launch) (hlt : l.stackTraces = false) (dC : Nat → ClassId) (dI : Nat → Nat → Nat) (sz F sa : Nat) (h0 h1 h2 h3 h4 h5 qo : Nat) (cA cL : ClassId) (nu pk dc rc : Int32) (pr ex dv rt sp : Nat → Int32) (o : Nat → Int64) (p0 p1 : Int64) (o' : Nat → Int64) (k : Int32) (h : (f_r_power F nu p0 p1 = some none ∧ k = 1 ∧ o = o') ∨ (∃ rv : Int32, f_r_power F nu p0 p1 = some (some rv) ∧ k = 0 ∧ o' = vp_updL o (0 : Int32).toNatClampNeg (Int32.toInt64 rv))) : Met l yL_power wsL_power { frames := 7, cells := 1, slots := 6, locals := 114 } (rf_Py (dC, dI) [(cA, .int), (cL, .long)] [(h0, .inr (0, [.int nu, .int pk, .ref h1, .ref h2, .int dc, .ref h3, .int rc, .ref h4, .ref h5])), (h1, .inl (cA, 7, .inl pr)), (h2, .inl (cA, 7, .inl ex)), (h3, .inl (cA, 360, .inl dv)), (h4, .inl (cA, 4096, .inl rt)), (h5, .inl (cA, 4096, .inl sp)), (qo, .inl (cL, 1, .inr (.inl o)))] sz [.ref h0, .long p0, .long p1, .ref qo] RX0 79 "the exponent must not be below 0" sa "java/lang/IllegalArgumentException") (va_Qi (fun (r : Int32) (_ : Unit) => k = r) (fun (_ : Unit) t => va_P (dC, dI) vwCl [(h0, .inr (0, [.int nu, .int pk, .ref h1, .ref h2, .int dc, .ref h3, .int rc, .ref h4, .ref h5])), (h1, .inl (cA, 7, .inl pr)), (h2, .inl (cA, 7, .inl ex)), (h3, .inl (cA, 360, .inl dv)), (h4, .inl (cA, 4096, .inl rt)), (h5, .inl (cA, 4096, .inl sp)), (qo, .inl (cL, 1, .inr (.inl o')))] t.heap ∧ va_D (va_A [(h0, .inr (0, [.int nu, .int pk, .ref h1, .ref h2, .int dc, .ref h3, .int rc, .ref h4, .ref h5])), (h1, .inl (cA, 7, .inl pr)), (h2, .inl (cA, 7, .inl ex)), (h3, .inl (cA, 360, .inl dv)), (h4, .inl (cA, 4096, .inl rt)), (h5, .inl (cA, 4096, .inl sp)), (qo, .inl (cL, 1, .inr (.inl o)))] sz) [(h0, .inr (0, [.int nu, .int pk, .ref h1, .ref h2, .int dc, .ref h3, .int rc, .ref h4, .ref h5])), (h1, .inl (cA, 7, .inl pr)), (h2, .inl (cA, 7, .inl ex)), (h3, .inl (cA, 360, .inl dv)), (h4, .inl (cA, 4096, .inl rt)), (h5, .inl (cA, 4096, .inl sp)), (qo, .inl (cL, 1, .inr (.inl o')))]) (va_A [(h0, .inr (0, [.int nu, .int pk, .ref h1, .ref h2, .int dc, .ref h3, .int rc, .ref h4, .ref h5])), (h1, .inl (cA, 7, .inl pr)), (h2, .inl (cA, 7, .inl ex)), (h3, .inl (cA, 360, .inl dv)), (h4, .inl (cA, 4096, .inl rt)), (h5, .inl (cA, 4096, .inl sp)), (qo, .inl (cL, 1, .inr (.inl o)))] sz)) 1 6 (va_A [(h0, .inr (0, [.int nu, .int pk, .ref h1, .ref h2, .int dc, .ref h3, .int rc, .ref h4, .ref h5])), (h1, .inl (cA, 7, .inl pr)), (h2, .inl (cA, 7, .inl ex)), (h3, .inl (cA, 360, .inl dv)), (h4, .inl (cA, 4096, .inl rt)), (h5, .inl (cA, 4096, .inl sp)), (qo, .inl (cL, 1, .inr (.inl o)))] sz) := by
  refine va_MetW (cc := cL_power) (maxL := 7) (ret := (some .int)) (hh := [(0, 11, 14, 13)]) (by decide) rfl ?_
  intro p e s m args below meth c s₁ B hml hv
  obtain ⟨rfl, ⟨hsz, hP, hK, hD0⟩, hstr, hU, hN, hNn⟩ := hv
  have hx := B.exec
  have hb := B.bytes
  have hr := B.returns
  have hts := atoms_spec (ws := wsL_power) B.pre
  have hown : s.vm.findClass R_law = some m.cls := findClass_of_methodNamed B.named
  have hlocks := B.notSynchronized
  have htab := vx_table (x := yL_power) B (hts (.codeWith yL_power cL_power 7 (some .int) [(0, 11, 14, 13)]) List.mem_cons_self)
  subst hsz
  have hD := hD0.self (sz := s.heap.size)
  generalize hAe : va_A [(h0, .inr (0, [.int nu, .int pk, .ref h1, .ref h2, .int dc, .ref h3, .int rc, .ref h4, .ref h5])), (h1, .inl (cA, 7, .inl pr)), (h2, .inl (cA, 7, .inl ex)), (h3, .inl (cA, 360, .inl dv)), (h4, .inl (cA, 4096, .inl rt)), (h5, .inl (cA, 4096, .inl sp)), (qo, .inl (cL, 1, .inr (.inl o)))] s.heap.size = A at hD hU hN ⊢
  have hA : ∀ q : Nat, s.heap.size ≤ q → A q := fun q h => by rw [← hAe]; exact Or.inr h
  have hS : va_S A s.heap s.heap [] := va_S.rf
  have hl := lv_entry ([.ref h0, .long p0, .long p1, .ref qo]) (n := 7) (Nat.le_of_ble_eq_true rfl)
  rw [lg_entry_eq]
  generalize (lg_sl ([.ref h0, .long p0, .long p1, .ref qo]) ++ List.replicate (7 - (lg_sl ([.ref h0, .long p0, .long p1, .ref qo])).length) Slot.unset).toArray = ls at hl ⊢
  have hl : lv_has ls 7 [(0, .ref h0), (1, .long p0), (3, .long p1), (5, .ref qo)] := hl
  have hF := va_free (wc := [(h0, .inr (0, [.int nu, .int pk, .ref h1, .ref h2, .int dc, .ref h3, .int rc, .ref h4, .ref h5])), (h1, .inl (cA, 7, .inl pr)), (h2, .inl (cA, 7, .inl ex)), (h3, .inl (cA, 360, .inl dv)), (h4, .inl (cA, 4096, .inl rt)), (h5, .inl (cA, 4096, .inl sp))]) hD hS hA [0, 1, 2, 3, 4, 5] rfl
  refine lv_aload hx hb dL_power_0 (lv_at hl 3 rfl) ?_
  refine lv_iconst (v := 0) hx hb dL_power_2 (by decide) ?_
  refine lv_aload_n hx hb dL_power_3 rfl (lv_at hl 0 rfl) ?_
  refine lv_lload_n hx hb dL_power_4 rfl (lv_at hl 1 rfl) ?_
  refine lv_lload_n hx hb dL_power_5 rfl (lv_at hl 2 rfl) ?_
  rcases h with ⟨h, rfl, rfl⟩ | ⟨rv, h, rfl, rfl⟩
  · refine vx_calli (vx_runV (As := [.long p0, .long p1]) (rest := [.int 0, .ref qo]) ⟨hx, hb, hml, hown, hts⟩ (x_r_power l hlt dC dI _ F sa h0 h1 h2 h3 h4 h5 cA nu pk dc rc pr ex dv rt sp p0 p1 h) (cwV 2 hts gL_power_ex rfl rfl rfl (by decide +kernel) ⟨(Nat.le_of_ble_eq_true rfl), (Nat.le_of_ble_eq_true rfl)⟩) ⟨rf_blindy, va_recv hK hP (ci := 0) (q0 := 0) rfl rfl, fun U hU9 hW => ⟨rfl, rf_pre (hP.sub (ws' := [(h0, .inr (0, [.int nu, .int pk, .ref h1, .ref h2, .int dc, .ref h3, .int rc, .ref h4, .ref h5])), (h1, .inl (cA, 7, .inl pr)), (h2, .inl (cA, 7, .inl ex)), (h3, .inl (cA, 360, .inl dv)), (h4, .inl (cA, 4096, .inl rt)), (h5, .inl (cA, 4096, .inl sp))]) [0, 1, 2, 3, 4, 5] rfl) (hK.sub (tys' := [(cA, .int)]) [0] rfl) (hD.sub (ws' := [(h0, .inr (0, [.int nu, .int pk, .ref h1, .ref h2, .int dc, .ref h3, .int rc, .ref h4, .ref h5])), (h1, .inl (cA, 7, .inl pr)), (h2, .inl (cA, 7, .inl ex)), (h3, .inl (cA, 360, .inl dv)), (h4, .inl (cA, 4096, .inl rt)), (h5, .inl (cA, 4096, .inl sp))]) [0, 1, 2, 3, 4, 5] (by decide) rfl) U hU9 hW, rf_yat hstr hU hN hNn hS hF U hU9 hW⟩⟩ rfl rfl hl.1 rfl (lv_room (Nat.le_of_ble_eq_true rfl)) dL_power_6 ⟨(Nat.le_of_ble_eq_true rfl), (Nat.le_of_ble_eq_true rfl)⟩) hS (fun q _ h => hF q h) hF (fun q _ h => hF q h) (fun E9 ce q9 u t H1 locs1 ht hvm hpx hB hz hk hS hce hcv hcl => ?_) (fun r u t H1 locs1 ht hvm hp hB hz hk hS => hp.elim)
    obtain ⟨rfl, hP1, hD1⟩ := hB
    rw [ht] at hP1
    obtain ⟨hP, hD⟩ := va_join (wr := [(qo, .inl (cL, 1, .inr (.inl o)))]) (w1 := [(h0, .inr (0, [.int nu, .int pk, .ref h1, .ref h2, .int dc, .ref h3, .int rc, .ref h4, .ref h5])), (h1, .inl (cA, 7, .inl pr)), (h2, .inl (cA, 7, .inl ex)), (h3, .inl (cA, 360, .inl dv)), (h4, .inl (cA, 4096, .inl rt)), (h5, .inl (cA, 4096, .inl sp))]) hP hD [0, 1, 2, 3, 4, 5] [6] rfl rfl (by decide) (by decide) hk hF hP1 hD1
    have hP := hP.sub (ws' := [(h0, .inr (0, [.int nu, .int pk, .ref h1, .ref h2, .int dc, .ref h3, .int rc, .ref h4, .ref h5])), (h1, .inl (cA, 7, .inl pr)), (h2, .inl (cA, 7, .inl ex)), (h3, .inl (cA, 360, .inl dv)), (h4, .inl (cA, 4096, .inl rt)), (h5, .inl (cA, 4096, .inl sp)), (qo, .inl (cL, 1, .inr (.inl o)))]) [1, 2, 3, 4, 5, 6, 0] rfl
    have hD := hD.sub (ws' := [(h0, .inr (0, [.int nu, .int pk, .ref h1, .ref h2, .int dc, .ref h3, .int rc, .ref h4, .ref h5])), (h1, .inl (cA, 7, .inl pr)), (h2, .inl (cA, 7, .inl ex)), (h3, .inl (cA, 360, .inl dv)), (h4, .inl (cA, 4096, .inl rt)), (h5, .inl (cA, 4096, .inl sp)), (qo, .inl (cL, 1, .inr (.inl o)))]) [1, 2, 3, 4, 5, 6, 0] (by decide) rfl
    refine vx_catch hown [] ⟨0, 11, 14, 13⟩ [] (htab.trans rfl) (fun z hz => nomatch hz) (by decide) (by decide) (hts _ (List.mem_of_getElem? (i := 1) rfl)) (hNn.at _ _ (List.mem_of_getElem? (i := 3) rfl)) hce hcv hcl ?_
    refine lv_astore (x := q9) (lv' := [(6, .ref q9), (0, .ref h0), (1, .long p0), (3, .long p1), (5, .ref qo)]) hx hb dL_power_14 hl (by decide) rfl (fun ls hl => ?_)
    refine lv_iconst (v := 1) hx hb dL_power_16 (by decide) ?_
    refine W.widen (k := 1) (n := 6) (Nat.le_of_ble_eq_true rfl) (Nat.le_of_ble_eq_true rfl) ?_
    exact W.iret hx hb hr (fun t ht hW => ⟨⟨_, (), rfl, rfl, by rw [ht]; exact hP, hD⟩, hS.F ht⟩) hS.2.2 dL_power_17
  · refine rf_ci (wn := (fun _ : Unit => [(h0, .inr (0, [.int nu, .int pk, .ref h1, .ref h2, .int dc, .ref h3, .int rc, .ref h4, .ref h5])), (h1, .inl (cA, 7, .inl pr)), (h2, .inl (cA, 7, .inl ex)), (h3, .inl (cA, 360, .inl dv)), (h4, .inl (cA, 4096, .inl rt)), (h5, .inl (cA, 4096, .inl sp))])) (wc := [(h0, .inr (0, [.int nu, .int pk, .ref h1, .ref h2, .int dc, .ref h3, .int rc, .ref h4, .ref h5])), (h1, .inl (cA, 7, .inl pr)), (h2, .inl (cA, 7, .inl ex)), (h3, .inl (cA, 360, .inl dv)), (h4, .inl (cA, 4096, .inl rt)), (h5, .inl (cA, 4096, .inl sp))]) (wr := [(qo, .inl (cL, 1, .inr (.inl o)))]) hP hD hS hA [0, 1, 2, 3, 4, 5] [6] rfl rfl (by decide) (by decide) (va_runV (As := [.long p0, .long p1]) (rest := [.int 0, .ref qo]) ⟨hx, hb, hml, hown, hts⟩ (c_r_power l dC dI _ F h0 h1 h2 h3 h4 h5 cA nu pk dc rc pr ex dv rt sp p0 p1 rv h) (cwV 2 hts gL_power_ok rfl rfl rfl (by decide +kernel) ⟨(Nat.le_of_ble_eq_true rfl), (Nat.le_of_ble_eq_true rfl)⟩) ⟨rf_blind, va_recv hK hP (ci := 0) (q0 := 0) rfl rfl, fun U hU9 hW => ⟨rfl, rf_pre (hP.sub (ws' := [(h0, .inr (0, [.int nu, .int pk, .ref h1, .ref h2, .int dc, .ref h3, .int rc, .ref h4, .ref h5])), (h1, .inl (cA, 7, .inl pr)), (h2, .inl (cA, 7, .inl ex)), (h3, .inl (cA, 360, .inl dv)), (h4, .inl (cA, 4096, .inl rt)), (h5, .inl (cA, 4096, .inl sp))]) [0, 1, 2, 3, 4, 5] rfl) (hK.sub (tys' := [(cA, .int)]) [0] rfl) (hD.sub (ws' := [(h0, .inr (0, [.int nu, .int pk, .ref h1, .ref h2, .int dc, .ref h3, .int rc, .ref h4, .ref h5])), (h1, .inl (cA, 7, .inl pr)), (h2, .inl (cA, 7, .inl ex)), (h3, .inl (cA, 360, .inl dv)), (h4, .inl (cA, 4096, .inl rt)), (h5, .inl (cA, 4096, .inl sp))]) [0, 1, 2, 3, 4, 5] (by decide) rfl) U hU9 hW⟩⟩ rfl rfl hl.1 rfl (lv_room (Nat.le_of_ble_eq_true rfl)) dL_power_6 ⟨Nat.zero_le _, Nat.zero_le _⟩) (fun r' u H locs hw hP hD hS => ?_)
    subst hw
    have hP := hP.sub (ws' := [(h0, .inr (0, [.int nu, .int pk, .ref h1, .ref h2, .int dc, .ref h3, .int rc, .ref h4, .ref h5])), (h1, .inl (cA, 7, .inl pr)), (h2, .inl (cA, 7, .inl ex)), (h3, .inl (cA, 360, .inl dv)), (h4, .inl (cA, 4096, .inl rt)), (h5, .inl (cA, 4096, .inl sp)), (qo, .inl (cL, 1, .inr (.inl o)))]) [1, 2, 3, 4, 5, 6, 0] rfl
    have hD := hD.sub (ws' := [(h0, .inr (0, [.int nu, .int pk, .ref h1, .ref h2, .int dc, .ref h3, .int rc, .ref h4, .ref h5])), (h1, .inl (cA, 7, .inl pr)), (h2, .inl (cA, 7, .inl ex)), (h3, .inl (cA, 360, .inl dv)), (h4, .inl (cA, 4096, .inl rt)), (h5, .inl (cA, 4096, .inl sp)), (qo, .inl (cL, 1, .inr (.inl o)))]) [1, 2, 3, 4, 5, 6, 0] (by decide) rfl
    refine lv_i2l (v := (Int32.toInt64 rv)) hx hb dL_power_9 rfl ?_
    refine va_last hx hb hK hP hD hS 6 1 rfl rfl rf_in0 dL_power_10 (fun H locs hP hD hS => ?_)
    refine lv_goto (tgt := 18) hx hb dL_power_11 (by decide) ?_
    refine lv_iconst (v := 0) hx hb dL_power_18 (by decide) ?_
    refine W.widen (k := 1) (n := 6) (Nat.le_of_ble_eq_true rfl) (Nat.le_of_ble_eq_true rfl) ?_
    exact W.iret hx hb hr (fun t ht hW => ⟨⟨_, (), rfl, rfl, by rw [ht]; exact hP, hD⟩, hS.F ht⟩) hS.2.2 dL_power_19
abbrev cL_inverse : ByteArray := method_9_code
def yL_inverse : MethodName := ⟨R_law, "inverse", "(LRootFinder;J[J)I"⟩
theorem dL_inverse_0 : decode cL_inverse 0 = .ok (.aload_n 3, 1) := by decide +kernel
theorem dL_inverse_1 : decode cL_inverse 1 = .ok (.iconst 0, 1) := by decide +kernel
theorem dL_inverse_2 : decode cL_inverse 2 = .ok (.aload_n 0, 1) := by decide +kernel
theorem dL_inverse_3 : decode cL_inverse 3 = .ok (.lload_n 1, 1) := by decide +kernel
theorem dL_inverse_4 : decode cL_inverse 4 = .ok (.invokevirtual 34, 3) := by decide +kernel
theorem dL_inverse_7 : decode cL_inverse 7 = .ok (.i2l, 1) := by decide +kernel
theorem dL_inverse_8 : decode cL_inverse 8 = .ok (.lastore, 1) := by decide +kernel
theorem dL_inverse_9 : decode cL_inverse 9 = .ok (.goto 7, 3) := by decide +kernel
theorem dL_inverse_12 : decode cL_inverse 12 = .ok (.astore 4, 2) := by decide +kernel
theorem dL_inverse_14 : decode cL_inverse 14 = .ok (.iconst 1, 1) := by decide +kernel
theorem dL_inverse_15 : decode cL_inverse 15 = .ok (.ireturn, 1) := by decide +kernel
theorem dL_inverse_16 : decode cL_inverse 16 = .ok (.iconst 0, 1) := by decide +kernel
theorem dL_inverse_17 : decode cL_inverse 17 = .ok (.ireturn, 1) := by decide +kernel
def wsL_inverse : List Cond := .codeWith yL_inverse cL_inverse 5 (some .int) [(0, 9, 12, 38)] :: ((([Cond.classLink R_law 38 "java/lang/IllegalStateException", Cond.methodLink R_law 34 yX0_inverse, Cond.instanceMethod yX0_inverse, Cond.selects RX0 yX0_inverse yX0_inverse, Cond.initialized RX0, Cond.code yX0_inverse cX0_inverse 4 (some .int), Cond.fieldLink RX0 25 "RootFinder" "number" "I", Cond.methodLink RX0 85 yX0_invert, Cond.static yX0_invert, Cond.code yX0_invert cX0_invert 11 (some .int), Cond.methodLink RX0 93 yX0_residue, Cond.static yX0_residue, Cond.code yX0_residue cX0_residue 5 (some .int), Cond.classLink RX0 88 "java/lang/IllegalStateException", Cond.initialized "java/lang/IllegalStateException"] : List Cond) ++ (vx_atS RX0 92 "java/lang/IllegalStateException" ["java/lang/RuntimeException", "java/lang/Exception"]).filter goodWord) ++ wsX00)
set_option maxRecDepth 20000 in
theorem ggL_inverse_ok : GoodIn wsL_inverse wsX0_inverse := goodIn_r _ [6, 7, 8, 9, 5, 10, 11, 12, 13, 14, 15, 65, 66, 67, 68, 69, 70, 71, 72, 73] (by decide +kernel) (by decide +kernel)
set_option maxRecDepth 20000 in
theorem gL_inverse_ok : GoodIn wsL_inverse (wsV R_law 34 RX0 yX0_inverse wsX0_inverse) := goodIn_app (goodIn_of _ (by decide +kernel)) ggL_inverse_ok
set_option maxRecDepth 20000 in
theorem ggL_inverse_ex : GoodIn wsL_inverse xsX0_inverse := goodIn_r _ [6, 7, 8, 9, 5, 10, 11, 12, 13, 14, 15, 16, 17, 18, 19, 20, 21, 22, 23, 24, 25, 26, 27, 28, 29, 30, 31, 32, 33, 34, 35, 36, 37, 38, 39, 40, 41, 42, 43, 44, 45, 46, 47, 48, 49, 50, 51, 52, 53, 54, 55, 56, 57, 58, 59, 60, 61, 62, 63, 64, 65, 66, 67, 68, 69, 70, 71, 72, 73] (by decide +kernel) (by decide +kernel)
set_option maxRecDepth 20000 in
theorem gL_inverse_ex : GoodIn wsL_inverse (wsV R_law 34 RX0 yX0_inverse xsX0_inverse) := goodIn_app (goodIn_of _ (by decide +kernel)) ggL_inverse_ex
set_option maxHeartbeats 4000000 in
set_option maxRecDepth 100000 in
theorem k_inverse (l : Launch) (hlt : l.stackTraces = false) (dC : Nat → ClassId) (dI : Nat → Nat → Nat) (sz F sa : Nat) (h0 h1 h2 h3 h4 h5 qo : Nat) (cA cL : ClassId) (nu pk dc rc : Int32) (pr ex dv rt sp : Nat → Int32) (o : Nat → Int64) (p0 : Int64) (o' : Nat → Int64) (k : Int32) (h : (f_r_inverse F nu p0 = some none ∧ k = 1 ∧ o = o') ∨ (∃ rv : Int32, f_r_inverse F nu p0 = some (some rv) ∧ k = 0 ∧ o' = vp_updL o (0 : Int32).toNatClampNeg (Int32.toInt64 rv))) : Met l yL_inverse wsL_inverse { frames := 7, cells := 1, slots := 6, locals := 113 } (rf_Py (dC, dI) [(cA, .int), (cL, .long)] [(h0, .inr (0, [.int nu, .int pk, .ref h1, .ref h2, .int dc, .ref h3, .int rc, .ref h4, .ref h5])), (h1, .inl (cA, 7, .inl pr)), (h2, .inl (cA, 7, .inl ex)), (h3, .inl (cA, 360, .inl dv)), (h4, .inl (cA, 4096, .inl rt)), (h5, .inl (cA, 4096, .inl sp)), (qo, .inl (cL, 1, .inr (.inl o)))] sz [.ref h0, .long p0, .ref qo] RX0 90 "there is no inverse" sa "java/lang/IllegalStateException") (va_Qi (fun (r : Int32) (_ : Unit) => k = r) (fun (_ : Unit) t => va_P (dC, dI) vwCl [(h0, .inr (0, [.int nu, .int pk, .ref h1, .ref h2, .int dc, .ref h3, .int rc, .ref h4, .ref h5])), (h1, .inl (cA, 7, .inl pr)), (h2, .inl (cA, 7, .inl ex)), (h3, .inl (cA, 360, .inl dv)), (h4, .inl (cA, 4096, .inl rt)), (h5, .inl (cA, 4096, .inl sp)), (qo, .inl (cL, 1, .inr (.inl o')))] t.heap ∧ va_D (va_A [(h0, .inr (0, [.int nu, .int pk, .ref h1, .ref h2, .int dc, .ref h3, .int rc, .ref h4, .ref h5])), (h1, .inl (cA, 7, .inl pr)), (h2, .inl (cA, 7, .inl ex)), (h3, .inl (cA, 360, .inl dv)), (h4, .inl (cA, 4096, .inl rt)), (h5, .inl (cA, 4096, .inl sp)), (qo, .inl (cL, 1, .inr (.inl o)))] sz) [(h0, .inr (0, [.int nu, .int pk, .ref h1, .ref h2, .int dc, .ref h3, .int rc, .ref h4, .ref h5])), (h1, .inl (cA, 7, .inl pr)), (h2, .inl (cA, 7, .inl ex)), (h3, .inl (cA, 360, .inl dv)), (h4, .inl (cA, 4096, .inl rt)), (h5, .inl (cA, 4096, .inl sp)), (qo, .inl (cL, 1, .inr (.inl o')))]) (va_A [(h0, .inr (0, [.int nu, .int pk, .ref h1, .ref h2, .int dc, .ref h3, .int rc, .ref h4, .ref h5])), (h1, .inl (cA, 7, .inl pr)), (h2, .inl (cA, 7, .inl ex)), (h3, .inl (cA, 360, .inl dv)), (h4, .inl (cA, 4096, .inl rt)), (h5, .inl (cA, 4096, .inl sp)), (qo, .inl (cL, 1, .inr (.inl o)))] sz)) 1 6 (va_A [(h0, .inr (0, [.int nu, .int pk, .ref h1, .ref h2, .int dc, .ref h3, .int rc, .ref h4, .ref h5])), (h1, .inl (cA, 7, .inl pr)), (h2, .inl (cA, 7, .inl ex)), (h3, .inl (cA, 360, .inl dv)), (h4, .inl (cA, 4096, .inl rt)), (h5, .inl (cA, 4096, .inl sp)), (qo, .inl (cL, 1, .inr (.inl o)))] sz) := by
  refine va_MetW (cc := cL_inverse) (maxL := 5) (ret := (some .int)) (hh := [(0, 9, 12, 38)]) (by decide) rfl ?_
  intro p e s m args below meth c s₁ B hml hv
  obtain ⟨rfl, ⟨hsz, hP, hK, hD0⟩, hstr, hU, hN, hNn⟩ := hv
  have hx := B.exec
  have hb := B.bytes
  have hr := B.returns
  have hts := atoms_spec (ws := wsL_inverse) B.pre
  have hown : s.vm.findClass R_law = some m.cls := findClass_of_methodNamed B.named
  have hlocks := B.notSynchronized
  have htab := vx_table (x := yL_inverse) B (hts (.codeWith yL_inverse cL_inverse 5 (some .int) [(0, 9, 12, 38)]) List.mem_cons_self)
  subst hsz
  have hD := hD0.self (sz := s.heap.size)
  generalize hAe : va_A [(h0, .inr (0, [.int nu, .int pk, .ref h1, .ref h2, .int dc, .ref h3, .int rc, .ref h4, .ref h5])), (h1, .inl (cA, 7, .inl pr)), (h2, .inl (cA, 7, .inl ex)), (h3, .inl (cA, 360, .inl dv)), (h4, .inl (cA, 4096, .inl rt)), (h5, .inl (cA, 4096, .inl sp)), (qo, .inl (cL, 1, .inr (.inl o)))] s.heap.size = A at hD hU hN ⊢
  have hA : ∀ q : Nat, s.heap.size ≤ q → A q := fun q h => by rw [← hAe]; exact Or.inr h
  have hS : va_S A s.heap s.heap [] := va_S.rf
  have hl := lv_entry ([.ref h0, .long p0, .ref qo]) (n := 5) (Nat.le_of_ble_eq_true rfl)
  rw [lg_entry_eq]
  generalize (lg_sl ([.ref h0, .long p0, .ref qo]) ++ List.replicate (5 - (lg_sl ([.ref h0, .long p0, .ref qo])).length) Slot.unset).toArray = ls at hl ⊢
  have hl : lv_has ls 5 [(0, .ref h0), (1, .long p0), (3, .ref qo)] := hl
  have hF := va_free (wc := [(h0, .inr (0, [.int nu, .int pk, .ref h1, .ref h2, .int dc, .ref h3, .int rc, .ref h4, .ref h5])), (h1, .inl (cA, 7, .inl pr)), (h2, .inl (cA, 7, .inl ex)), (h3, .inl (cA, 360, .inl dv)), (h4, .inl (cA, 4096, .inl rt)), (h5, .inl (cA, 4096, .inl sp))]) hD hS hA [0, 1, 2, 3, 4, 5] rfl
  refine lv_aload_n hx hb dL_inverse_0 rfl (lv_at hl 2 rfl) ?_
  refine lv_iconst (v := 0) hx hb dL_inverse_1 (by decide) ?_
  refine lv_aload_n hx hb dL_inverse_2 rfl (lv_at hl 0 rfl) ?_
  refine lv_lload_n hx hb dL_inverse_3 rfl (lv_at hl 1 rfl) ?_
  rcases h with ⟨h, rfl, rfl⟩ | ⟨rv, h, rfl, rfl⟩
  · refine vx_calli (vx_runV (As := [.long p0]) (rest := [.int 0, .ref qo]) ⟨hx, hb, hml, hown, hts⟩ (x_r_inverse l hlt dC dI _ F sa h0 h1 h2 h3 h4 h5 cA nu pk dc rc pr ex dv rt sp p0 h) (cwV 1 hts gL_inverse_ex rfl rfl rfl (by decide +kernel) ⟨(Nat.le_of_ble_eq_true rfl), (Nat.le_of_ble_eq_true rfl)⟩) ⟨rf_blindy, va_recv hK hP (ci := 0) (q0 := 0) rfl rfl, fun U hU9 hW => ⟨rfl, rf_pre (hP.sub (ws' := [(h0, .inr (0, [.int nu, .int pk, .ref h1, .ref h2, .int dc, .ref h3, .int rc, .ref h4, .ref h5])), (h1, .inl (cA, 7, .inl pr)), (h2, .inl (cA, 7, .inl ex)), (h3, .inl (cA, 360, .inl dv)), (h4, .inl (cA, 4096, .inl rt)), (h5, .inl (cA, 4096, .inl sp))]) [0, 1, 2, 3, 4, 5] rfl) (hK.sub (tys' := [(cA, .int)]) [0] rfl) (hD.sub (ws' := [(h0, .inr (0, [.int nu, .int pk, .ref h1, .ref h2, .int dc, .ref h3, .int rc, .ref h4, .ref h5])), (h1, .inl (cA, 7, .inl pr)), (h2, .inl (cA, 7, .inl ex)), (h3, .inl (cA, 360, .inl dv)), (h4, .inl (cA, 4096, .inl rt)), (h5, .inl (cA, 4096, .inl sp))]) [0, 1, 2, 3, 4, 5] (by decide) rfl) U hU9 hW, rf_yat hstr hU hN hNn hS hF U hU9 hW⟩⟩ rfl rfl hl.1 rfl (lv_room (Nat.le_of_ble_eq_true rfl)) dL_inverse_4 ⟨(Nat.le_of_ble_eq_true rfl), (Nat.le_of_ble_eq_true rfl)⟩) hS (fun q _ h => hF q h) hF (fun q _ h => hF q h) (fun E9 ce q9 u t H1 locs1 ht hvm hpx hB hz hk hS hce hcv hcl => ?_) (fun r u t H1 locs1 ht hvm hp hB hz hk hS => hp.elim)
    obtain ⟨rfl, hP1, hD1⟩ := hB
    rw [ht] at hP1
    obtain ⟨hP, hD⟩ := va_join (wr := [(qo, .inl (cL, 1, .inr (.inl o)))]) (w1 := [(h0, .inr (0, [.int nu, .int pk, .ref h1, .ref h2, .int dc, .ref h3, .int rc, .ref h4, .ref h5])), (h1, .inl (cA, 7, .inl pr)), (h2, .inl (cA, 7, .inl ex)), (h3, .inl (cA, 360, .inl dv)), (h4, .inl (cA, 4096, .inl rt)), (h5, .inl (cA, 4096, .inl sp))]) hP hD [0, 1, 2, 3, 4, 5] [6] rfl rfl (by decide) (by decide) hk hF hP1 hD1
    have hP := hP.sub (ws' := [(h0, .inr (0, [.int nu, .int pk, .ref h1, .ref h2, .int dc, .ref h3, .int rc, .ref h4, .ref h5])), (h1, .inl (cA, 7, .inl pr)), (h2, .inl (cA, 7, .inl ex)), (h3, .inl (cA, 360, .inl dv)), (h4, .inl (cA, 4096, .inl rt)), (h5, .inl (cA, 4096, .inl sp)), (qo, .inl (cL, 1, .inr (.inl o)))]) [1, 2, 3, 4, 5, 6, 0] rfl
    have hD := hD.sub (ws' := [(h0, .inr (0, [.int nu, .int pk, .ref h1, .ref h2, .int dc, .ref h3, .int rc, .ref h4, .ref h5])), (h1, .inl (cA, 7, .inl pr)), (h2, .inl (cA, 7, .inl ex)), (h3, .inl (cA, 360, .inl dv)), (h4, .inl (cA, 4096, .inl rt)), (h5, .inl (cA, 4096, .inl sp)), (qo, .inl (cL, 1, .inr (.inl o)))]) [1, 2, 3, 4, 5, 6, 0] (by decide) rfl
    refine vx_catch hown [] ⟨0, 9, 12, 38⟩ [] (htab.trans rfl) (fun z hz => nomatch hz) (by decide) (by decide) (hts _ (List.mem_of_getElem? (i := 1) rfl)) (hNn.at _ _ (List.mem_of_getElem? (i := 3) rfl)) hce hcv hcl ?_
    refine lv_astore (x := q9) (lv' := [(4, .ref q9), (0, .ref h0), (1, .long p0), (3, .ref qo)]) hx hb dL_inverse_12 hl (by decide) rfl (fun ls hl => ?_)
    refine lv_iconst (v := 1) hx hb dL_inverse_14 (by decide) ?_
    refine W.widen (k := 1) (n := 6) (Nat.le_of_ble_eq_true rfl) (Nat.le_of_ble_eq_true rfl) ?_
    exact W.iret hx hb hr (fun t ht hW => ⟨⟨_, (), rfl, rfl, by rw [ht]; exact hP, hD⟩, hS.F ht⟩) hS.2.2 dL_inverse_15
  · refine rf_ci (wn := (fun _ : Unit => [(h0, .inr (0, [.int nu, .int pk, .ref h1, .ref h2, .int dc, .ref h3, .int rc, .ref h4, .ref h5])), (h1, .inl (cA, 7, .inl pr)), (h2, .inl (cA, 7, .inl ex)), (h3, .inl (cA, 360, .inl dv)), (h4, .inl (cA, 4096, .inl rt)), (h5, .inl (cA, 4096, .inl sp))])) (wc := [(h0, .inr (0, [.int nu, .int pk, .ref h1, .ref h2, .int dc, .ref h3, .int rc, .ref h4, .ref h5])), (h1, .inl (cA, 7, .inl pr)), (h2, .inl (cA, 7, .inl ex)), (h3, .inl (cA, 360, .inl dv)), (h4, .inl (cA, 4096, .inl rt)), (h5, .inl (cA, 4096, .inl sp))]) (wr := [(qo, .inl (cL, 1, .inr (.inl o)))]) hP hD hS hA [0, 1, 2, 3, 4, 5] [6] rfl rfl (by decide) (by decide) (va_runV (As := [.long p0]) (rest := [.int 0, .ref qo]) ⟨hx, hb, hml, hown, hts⟩ (c_r_inverse l dC dI _ F h0 h1 h2 h3 h4 h5 cA nu pk dc rc pr ex dv rt sp p0 rv h) (cwV 1 hts gL_inverse_ok rfl rfl rfl (by decide +kernel) ⟨(Nat.le_of_ble_eq_true rfl), (Nat.le_of_ble_eq_true rfl)⟩) ⟨rf_blind, va_recv hK hP (ci := 0) (q0 := 0) rfl rfl, fun U hU9 hW => ⟨rfl, rf_pre (hP.sub (ws' := [(h0, .inr (0, [.int nu, .int pk, .ref h1, .ref h2, .int dc, .ref h3, .int rc, .ref h4, .ref h5])), (h1, .inl (cA, 7, .inl pr)), (h2, .inl (cA, 7, .inl ex)), (h3, .inl (cA, 360, .inl dv)), (h4, .inl (cA, 4096, .inl rt)), (h5, .inl (cA, 4096, .inl sp))]) [0, 1, 2, 3, 4, 5] rfl) (hK.sub (tys' := [(cA, .int)]) [0] rfl) (hD.sub (ws' := [(h0, .inr (0, [.int nu, .int pk, .ref h1, .ref h2, .int dc, .ref h3, .int rc, .ref h4, .ref h5])), (h1, .inl (cA, 7, .inl pr)), (h2, .inl (cA, 7, .inl ex)), (h3, .inl (cA, 360, .inl dv)), (h4, .inl (cA, 4096, .inl rt)), (h5, .inl (cA, 4096, .inl sp))]) [0, 1, 2, 3, 4, 5] (by decide) rfl) U hU9 hW⟩⟩ rfl rfl hl.1 rfl (lv_room (Nat.le_of_ble_eq_true rfl)) dL_inverse_4 ⟨Nat.zero_le _, Nat.zero_le _⟩) (fun r' u H locs hw hP hD hS => ?_)
    subst hw
    have hP := hP.sub (ws' := [(h0, .inr (0, [.int nu, .int pk, .ref h1, .ref h2, .int dc, .ref h3, .int rc, .ref h4, .ref h5])), (h1, .inl (cA, 7, .inl pr)), (h2, .inl (cA, 7, .inl ex)), (h3, .inl (cA, 360, .inl dv)), (h4, .inl (cA, 4096, .inl rt)), (h5, .inl (cA, 4096, .inl sp)), (qo, .inl (cL, 1, .inr (.inl o)))]) [1, 2, 3, 4, 5, 6, 0] rfl
    have hD := hD.sub (ws' := [(h0, .inr (0, [.int nu, .int pk, .ref h1, .ref h2, .int dc, .ref h3, .int rc, .ref h4, .ref h5])), (h1, .inl (cA, 7, .inl pr)), (h2, .inl (cA, 7, .inl ex)), (h3, .inl (cA, 360, .inl dv)), (h4, .inl (cA, 4096, .inl rt)), (h5, .inl (cA, 4096, .inl sp)), (qo, .inl (cL, 1, .inr (.inl o)))]) [1, 2, 3, 4, 5, 6, 0] (by decide) rfl
    refine lv_i2l (v := (Int32.toInt64 rv)) hx hb dL_inverse_7 rfl ?_
    refine va_last hx hb hK hP hD hS 6 1 rfl rfl rf_in0 dL_inverse_8 (fun H locs hP hD hS => ?_)
    refine lv_goto (tgt := 16) hx hb dL_inverse_9 (by decide) ?_
    refine lv_iconst (v := 0) hx hb dL_inverse_16 (by decide) ?_
    refine W.widen (k := 1) (n := 6) (Nat.le_of_ble_eq_true rfl) (Nat.le_of_ble_eq_true rfl) ?_
    exact W.iret hx hb hr (fun t ht hW => ⟨⟨_, (), rfl, rfl, by rw [ht]; exact hP, hD⟩, hS.F ht⟩) hS.2.2 dL_inverse_17
abbrev cL_root : ByteArray := method_10_code
def yL_root : MethodName := ⟨R_law, "root", "(LRootFinder;I[J)I"⟩
theorem dL_root_0 : decode cL_root 0 = .ok (.aload_n 2, 1) := by decide +kernel
theorem dL_root_1 : decode cL_root 1 = .ok (.iconst 0, 1) := by decide +kernel
theorem dL_root_2 : decode cL_root 2 = .ok (.aload_n 0, 1) := by decide +kernel
theorem dL_root_3 : decode cL_root 3 = .ok (.iload_n 1, 1) := by decide +kernel
theorem dL_root_4 : decode cL_root 4 = .ok (.invokevirtual 40, 3) := by decide +kernel
theorem dL_root_7 : decode cL_root 7 = .ok (.i2l, 1) := by decide +kernel
theorem dL_root_8 : decode cL_root 8 = .ok (.lastore, 1) := by decide +kernel
theorem dL_root_9 : decode cL_root 9 = .ok (.goto 6, 3) := by decide +kernel
theorem dL_root_12 : decode cL_root 12 = .ok (.astore_n 3, 1) := by decide +kernel
theorem dL_root_13 : decode cL_root 13 = .ok (.iconst 1, 1) := by decide +kernel
theorem dL_root_14 : decode cL_root 14 = .ok (.ireturn, 1) := by decide +kernel
theorem dL_root_15 : decode cL_root 15 = .ok (.iconst 0, 1) := by decide +kernel
theorem dL_root_16 : decode cL_root 16 = .ok (.ireturn, 1) := by decide +kernel
def wsL_root : List Cond := .codeWith yL_root cL_root 4 (some .int) [(0, 9, 12, 18)] :: ((([Cond.classLink R_law 18 "java/lang/IndexOutOfBoundsException", Cond.methodLink R_law 40 yX0_root, Cond.instanceMethod yX0_root, Cond.selects RX0 yX0_root yX0_root, Cond.initialized RX0, Cond.code yX0_root cX0_root 2 (some .int), Cond.fieldLink RX0 35 "RootFinder" "rootCount" "I", Cond.fieldLink RX0 19 "RootFinder" "rootRow" "[I", Cond.classLink RX0 52 "java/lang/IndexOutOfBoundsException", Cond.initialized "java/lang/IndexOutOfBoundsException"] : List Cond) ++ (vx_atS RX0 56 "java/lang/IndexOutOfBoundsException" ["java/lang/RuntimeException", "java/lang/Exception"]).filter goodWord) ++ wsX00)
set_option maxRecDepth 20000 in
theorem ggL_root_ok : GoodIn wsL_root wsX0_root := goodIn_r _ [6, 7, 8, 9, 10, 60, 61, 62, 63, 64, 65, 66, 67, 68] (by decide +kernel) (by decide +kernel)
set_option maxRecDepth 20000 in
theorem gL_root_ok : GoodIn wsL_root (wsV R_law 40 RX0 yX0_root wsX0_root) := goodIn_app (goodIn_of _ (by decide +kernel)) ggL_root_ok
set_option maxRecDepth 20000 in
theorem ggL_root_ex : GoodIn wsL_root xsX0_root := goodIn_r _ [6, 7, 8, 9, 10, 11, 12, 13, 14, 15, 16, 17, 18, 19, 20, 21, 22, 23, 24, 25, 26, 27, 28, 29, 30, 31, 32, 33, 34, 35, 36, 37, 38, 39, 40, 41, 42, 43, 44, 45, 46, 47, 48, 49, 50, 51, 52, 53, 54, 55, 56, 57, 58, 59, 60, 61, 62, 63, 64, 65, 66, 67, 68] (by decide +kernel) (by decide +kernel)
set_option maxRecDepth 20000 in
theorem gL_root_ex : GoodIn wsL_root (wsV R_law 40 RX0 yX0_root xsX0_root) := goodIn_app (goodIn_of _ (by decide +kernel)) ggL_root_ex
set_option maxHeartbeats 4000000 in
set_option maxRecDepth 100000 in
theorem k_root (l : Launch) (hlt : l.stackTraces = false) (dC : Nat → ClassId) (dI : Nat → Nat → Nat) (sz F sa : Nat) (h0 h1 h2 h3 h4 h5 qo : Nat) (cA cL : ClassId) (nu pk dc rc : Int32) (pr ex dv rt sp : Nat → Int32) (o : Nat → Int64) (p0 : Int32) (o' : Nat → Int64) (k : Int32) (h : (f_r_root F rc rt p0 = some none ∧ k = 1 ∧ o = o') ∨ (∃ rv : Int32, f_r_root F rc rt p0 = some (some rv) ∧ k = 0 ∧ o' = vp_updL o (0 : Int32).toNatClampNeg (Int32.toInt64 rv))) : Met l yL_root wsL_root { frames := 7, cells := 1, slots := 6, locals := 111 } (rf_Py (dC, dI) [(cA, .int), (cL, .long)] [(h0, .inr (0, [.int nu, .int pk, .ref h1, .ref h2, .int dc, .ref h3, .int rc, .ref h4, .ref h5])), (h1, .inl (cA, 7, .inl pr)), (h2, .inl (cA, 7, .inl ex)), (h3, .inl (cA, 360, .inl dv)), (h4, .inl (cA, 4096, .inl rt)), (h5, .inl (cA, 4096, .inl sp)), (qo, .inl (cL, 1, .inr (.inl o)))] sz [.ref h0, .int p0, .ref qo] RX0 107 "there is no such root" sa "java/lang/IndexOutOfBoundsException") (va_Qi (fun (r : Int32) (_ : Unit) => k = r) (fun (_ : Unit) t => va_P (dC, dI) vwCl [(h0, .inr (0, [.int nu, .int pk, .ref h1, .ref h2, .int dc, .ref h3, .int rc, .ref h4, .ref h5])), (h1, .inl (cA, 7, .inl pr)), (h2, .inl (cA, 7, .inl ex)), (h3, .inl (cA, 360, .inl dv)), (h4, .inl (cA, 4096, .inl rt)), (h5, .inl (cA, 4096, .inl sp)), (qo, .inl (cL, 1, .inr (.inl o')))] t.heap ∧ va_D (va_A [(h0, .inr (0, [.int nu, .int pk, .ref h1, .ref h2, .int dc, .ref h3, .int rc, .ref h4, .ref h5])), (h1, .inl (cA, 7, .inl pr)), (h2, .inl (cA, 7, .inl ex)), (h3, .inl (cA, 360, .inl dv)), (h4, .inl (cA, 4096, .inl rt)), (h5, .inl (cA, 4096, .inl sp)), (qo, .inl (cL, 1, .inr (.inl o)))] sz) [(h0, .inr (0, [.int nu, .int pk, .ref h1, .ref h2, .int dc, .ref h3, .int rc, .ref h4, .ref h5])), (h1, .inl (cA, 7, .inl pr)), (h2, .inl (cA, 7, .inl ex)), (h3, .inl (cA, 360, .inl dv)), (h4, .inl (cA, 4096, .inl rt)), (h5, .inl (cA, 4096, .inl sp)), (qo, .inl (cL, 1, .inr (.inl o')))]) (va_A [(h0, .inr (0, [.int nu, .int pk, .ref h1, .ref h2, .int dc, .ref h3, .int rc, .ref h4, .ref h5])), (h1, .inl (cA, 7, .inl pr)), (h2, .inl (cA, 7, .inl ex)), (h3, .inl (cA, 360, .inl dv)), (h4, .inl (cA, 4096, .inl rt)), (h5, .inl (cA, 4096, .inl sp)), (qo, .inl (cL, 1, .inr (.inl o)))] sz)) 1 6 (va_A [(h0, .inr (0, [.int nu, .int pk, .ref h1, .ref h2, .int dc, .ref h3, .int rc, .ref h4, .ref h5])), (h1, .inl (cA, 7, .inl pr)), (h2, .inl (cA, 7, .inl ex)), (h3, .inl (cA, 360, .inl dv)), (h4, .inl (cA, 4096, .inl rt)), (h5, .inl (cA, 4096, .inl sp)), (qo, .inl (cL, 1, .inr (.inl o)))] sz) := by
  refine va_MetW (cc := cL_root) (maxL := 4) (ret := (some .int)) (hh := [(0, 9, 12, 18)]) (by decide) rfl ?_
  intro p e s m args below meth c s₁ B hml hv
  obtain ⟨rfl, ⟨hsz, hP, hK, hD0⟩, hstr, hU, hN, hNn⟩ := hv
  have hx := B.exec
  have hb := B.bytes
  have hr := B.returns
  have hts := atoms_spec (ws := wsL_root) B.pre
  have hown : s.vm.findClass R_law = some m.cls := findClass_of_methodNamed B.named
  have hlocks := B.notSynchronized
  have htab := vx_table (x := yL_root) B (hts (.codeWith yL_root cL_root 4 (some .int) [(0, 9, 12, 18)]) List.mem_cons_self)
  subst hsz
  have hD := hD0.self (sz := s.heap.size)
  generalize hAe : va_A [(h0, .inr (0, [.int nu, .int pk, .ref h1, .ref h2, .int dc, .ref h3, .int rc, .ref h4, .ref h5])), (h1, .inl (cA, 7, .inl pr)), (h2, .inl (cA, 7, .inl ex)), (h3, .inl (cA, 360, .inl dv)), (h4, .inl (cA, 4096, .inl rt)), (h5, .inl (cA, 4096, .inl sp)), (qo, .inl (cL, 1, .inr (.inl o)))] s.heap.size = A at hD hU hN ⊢
  have hA : ∀ q : Nat, s.heap.size ≤ q → A q := fun q h => by rw [← hAe]; exact Or.inr h
  have hS : va_S A s.heap s.heap [] := va_S.rf
  have hl := lv_entry ([.ref h0, .int p0, .ref qo]) (n := 4) (Nat.le_of_ble_eq_true rfl)
  rw [lg_entry_eq]
  generalize (lg_sl ([.ref h0, .int p0, .ref qo]) ++ List.replicate (4 - (lg_sl ([.ref h0, .int p0, .ref qo])).length) Slot.unset).toArray = ls at hl ⊢
  have hl : lv_has ls 4 [(0, .ref h0), (1, .int p0), (2, .ref qo)] := hl
  have hF := va_free (wc := [(h0, .inr (0, [.int nu, .int pk, .ref h1, .ref h2, .int dc, .ref h3, .int rc, .ref h4, .ref h5])), (h1, .inl (cA, 7, .inl pr)), (h2, .inl (cA, 7, .inl ex)), (h3, .inl (cA, 360, .inl dv)), (h4, .inl (cA, 4096, .inl rt)), (h5, .inl (cA, 4096, .inl sp))]) hD hS hA [0, 1, 2, 3, 4, 5] rfl
  refine lv_aload_n hx hb dL_root_0 rfl (lv_at hl 2 rfl) ?_
  refine lv_iconst (v := 0) hx hb dL_root_1 (by decide) ?_
  refine lv_aload_n hx hb dL_root_2 rfl (lv_at hl 0 rfl) ?_
  refine lv_iload_n hx hb dL_root_3 rfl (lv_at hl 1 rfl) ?_
  rcases h with ⟨h, rfl, rfl⟩ | ⟨rv, h, rfl, rfl⟩
  · refine vx_calli (vx_runV (As := [.int p0]) (rest := [.int 0, .ref qo]) ⟨hx, hb, hml, hown, hts⟩ (x_r_root l hlt dC dI _ F sa h0 h1 h2 h3 h4 h5 cA nu pk dc rc pr ex dv rt sp p0 h) (cwV 1 hts gL_root_ex rfl rfl rfl (by decide +kernel) ⟨(Nat.le_of_ble_eq_true rfl), (Nat.le_of_ble_eq_true rfl)⟩) ⟨rf_blindy, va_recv hK hP (ci := 0) (q0 := 0) rfl rfl, fun U hU9 hW => ⟨rfl, rf_pre (hP.sub (ws' := [(h0, .inr (0, [.int nu, .int pk, .ref h1, .ref h2, .int dc, .ref h3, .int rc, .ref h4, .ref h5])), (h1, .inl (cA, 7, .inl pr)), (h2, .inl (cA, 7, .inl ex)), (h3, .inl (cA, 360, .inl dv)), (h4, .inl (cA, 4096, .inl rt)), (h5, .inl (cA, 4096, .inl sp))]) [0, 1, 2, 3, 4, 5] rfl) (hK.sub (tys' := [(cA, .int)]) [0] rfl) (hD.sub (ws' := [(h0, .inr (0, [.int nu, .int pk, .ref h1, .ref h2, .int dc, .ref h3, .int rc, .ref h4, .ref h5])), (h1, .inl (cA, 7, .inl pr)), (h2, .inl (cA, 7, .inl ex)), (h3, .inl (cA, 360, .inl dv)), (h4, .inl (cA, 4096, .inl rt)), (h5, .inl (cA, 4096, .inl sp))]) [0, 1, 2, 3, 4, 5] (by decide) rfl) U hU9 hW, rf_yat hstr hU hN hNn hS hF U hU9 hW⟩⟩ rfl rfl hl.1 rfl (lv_room (Nat.le_of_ble_eq_true rfl)) dL_root_4 ⟨(Nat.le_of_ble_eq_true rfl), (Nat.le_of_ble_eq_true rfl)⟩) hS (fun q _ h => hF q h) hF (fun q _ h => hF q h) (fun E9 ce q9 u t H1 locs1 ht hvm hpx hB hz hk hS hce hcv hcl => ?_) (fun r u t H1 locs1 ht hvm hp hB hz hk hS => hp.elim)
    obtain ⟨rfl, hP1, hD1⟩ := hB
    rw [ht] at hP1
    obtain ⟨hP, hD⟩ := va_join (wr := [(qo, .inl (cL, 1, .inr (.inl o)))]) (w1 := [(h0, .inr (0, [.int nu, .int pk, .ref h1, .ref h2, .int dc, .ref h3, .int rc, .ref h4, .ref h5])), (h1, .inl (cA, 7, .inl pr)), (h2, .inl (cA, 7, .inl ex)), (h3, .inl (cA, 360, .inl dv)), (h4, .inl (cA, 4096, .inl rt)), (h5, .inl (cA, 4096, .inl sp))]) hP hD [0, 1, 2, 3, 4, 5] [6] rfl rfl (by decide) (by decide) hk hF hP1 hD1
    have hP := hP.sub (ws' := [(h0, .inr (0, [.int nu, .int pk, .ref h1, .ref h2, .int dc, .ref h3, .int rc, .ref h4, .ref h5])), (h1, .inl (cA, 7, .inl pr)), (h2, .inl (cA, 7, .inl ex)), (h3, .inl (cA, 360, .inl dv)), (h4, .inl (cA, 4096, .inl rt)), (h5, .inl (cA, 4096, .inl sp)), (qo, .inl (cL, 1, .inr (.inl o)))]) [1, 2, 3, 4, 5, 6, 0] rfl
    have hD := hD.sub (ws' := [(h0, .inr (0, [.int nu, .int pk, .ref h1, .ref h2, .int dc, .ref h3, .int rc, .ref h4, .ref h5])), (h1, .inl (cA, 7, .inl pr)), (h2, .inl (cA, 7, .inl ex)), (h3, .inl (cA, 360, .inl dv)), (h4, .inl (cA, 4096, .inl rt)), (h5, .inl (cA, 4096, .inl sp)), (qo, .inl (cL, 1, .inr (.inl o)))]) [1, 2, 3, 4, 5, 6, 0] (by decide) rfl
    refine vx_catch hown [] ⟨0, 9, 12, 18⟩ [] (htab.trans rfl) (fun z hz => nomatch hz) (by decide) (by decide) (hts _ (List.mem_of_getElem? (i := 1) rfl)) (hNn.at _ _ (List.mem_of_getElem? (i := 3) rfl)) hce hcv hcl ?_
    refine lv_astore_n (x := q9) (lv' := [(3, .ref q9), (0, .ref h0), (1, .int p0), (2, .ref qo)]) hx hb dL_root_12 rfl hl (by decide) rfl (fun ls hl => ?_)
    refine lv_iconst (v := 1) hx hb dL_root_13 (by decide) ?_
    refine W.widen (k := 1) (n := 6) (Nat.le_of_ble_eq_true rfl) (Nat.le_of_ble_eq_true rfl) ?_
    exact W.iret hx hb hr (fun t ht hW => ⟨⟨_, (), rfl, rfl, by rw [ht]; exact hP, hD⟩, hS.F ht⟩) hS.2.2 dL_root_14
  · refine rf_ci (wn := (fun _ : Unit => [(h0, .inr (0, [.int nu, .int pk, .ref h1, .ref h2, .int dc, .ref h3, .int rc, .ref h4, .ref h5])), (h1, .inl (cA, 7, .inl pr)), (h2, .inl (cA, 7, .inl ex)), (h3, .inl (cA, 360, .inl dv)), (h4, .inl (cA, 4096, .inl rt)), (h5, .inl (cA, 4096, .inl sp))])) (wc := [(h0, .inr (0, [.int nu, .int pk, .ref h1, .ref h2, .int dc, .ref h3, .int rc, .ref h4, .ref h5])), (h1, .inl (cA, 7, .inl pr)), (h2, .inl (cA, 7, .inl ex)), (h3, .inl (cA, 360, .inl dv)), (h4, .inl (cA, 4096, .inl rt)), (h5, .inl (cA, 4096, .inl sp))]) (wr := [(qo, .inl (cL, 1, .inr (.inl o)))]) hP hD hS hA [0, 1, 2, 3, 4, 5] [6] rfl rfl (by decide) (by decide) (va_runV (As := [.int p0]) (rest := [.int 0, .ref qo]) ⟨hx, hb, hml, hown, hts⟩ (c_r_root l dC dI _ F h0 h1 h2 h3 h4 h5 cA nu pk dc rc pr ex dv rt sp p0 rv h) (cwV 1 hts gL_root_ok rfl rfl rfl (by decide +kernel) ⟨(Nat.le_of_ble_eq_true rfl), (Nat.le_of_ble_eq_true rfl)⟩) ⟨rf_blind, va_recv hK hP (ci := 0) (q0 := 0) rfl rfl, fun U hU9 hW => ⟨rfl, rf_pre (hP.sub (ws' := [(h0, .inr (0, [.int nu, .int pk, .ref h1, .ref h2, .int dc, .ref h3, .int rc, .ref h4, .ref h5])), (h1, .inl (cA, 7, .inl pr)), (h2, .inl (cA, 7, .inl ex)), (h3, .inl (cA, 360, .inl dv)), (h4, .inl (cA, 4096, .inl rt)), (h5, .inl (cA, 4096, .inl sp))]) [0, 1, 2, 3, 4, 5] rfl) (hK.sub (tys' := [(cA, .int)]) [0] rfl) (hD.sub (ws' := [(h0, .inr (0, [.int nu, .int pk, .ref h1, .ref h2, .int dc, .ref h3, .int rc, .ref h4, .ref h5])), (h1, .inl (cA, 7, .inl pr)), (h2, .inl (cA, 7, .inl ex)), (h3, .inl (cA, 360, .inl dv)), (h4, .inl (cA, 4096, .inl rt)), (h5, .inl (cA, 4096, .inl sp))]) [0, 1, 2, 3, 4, 5] (by decide) rfl) U hU9 hW⟩⟩ rfl rfl hl.1 rfl (lv_room (Nat.le_of_ble_eq_true rfl)) dL_root_4 ⟨Nat.zero_le _, Nat.zero_le _⟩) (fun r' u H locs hw hP hD hS => ?_)
    subst hw
    have hP := hP.sub (ws' := [(h0, .inr (0, [.int nu, .int pk, .ref h1, .ref h2, .int dc, .ref h3, .int rc, .ref h4, .ref h5])), (h1, .inl (cA, 7, .inl pr)), (h2, .inl (cA, 7, .inl ex)), (h3, .inl (cA, 360, .inl dv)), (h4, .inl (cA, 4096, .inl rt)), (h5, .inl (cA, 4096, .inl sp)), (qo, .inl (cL, 1, .inr (.inl o)))]) [1, 2, 3, 4, 5, 6, 0] rfl
    have hD := hD.sub (ws' := [(h0, .inr (0, [.int nu, .int pk, .ref h1, .ref h2, .int dc, .ref h3, .int rc, .ref h4, .ref h5])), (h1, .inl (cA, 7, .inl pr)), (h2, .inl (cA, 7, .inl ex)), (h3, .inl (cA, 360, .inl dv)), (h4, .inl (cA, 4096, .inl rt)), (h5, .inl (cA, 4096, .inl sp)), (qo, .inl (cL, 1, .inr (.inl o)))]) [1, 2, 3, 4, 5, 6, 0] (by decide) rfl
    refine lv_i2l (v := (Int32.toInt64 rv)) hx hb dL_root_7 rfl ?_
    refine va_last hx hb hK hP hD hS 6 1 rfl rfl rf_in0 dL_root_8 (fun H locs hP hD hS => ?_)
    refine lv_goto (tgt := 15) hx hb dL_root_9 (by decide) ?_
    refine lv_iconst (v := 0) hx hb dL_root_15 (by decide) ?_
    refine W.widen (k := 1) (n := 6) (Nat.le_of_ble_eq_true rfl) (Nat.le_of_ble_eq_true rfl) ?_
    exact W.iret hx hb hr (fun t ht hW => ⟨⟨_, (), rfl, rfl, by rw [ht]; exact hP, hD⟩, hS.F ht⟩) hS.2.2 dL_root_16
