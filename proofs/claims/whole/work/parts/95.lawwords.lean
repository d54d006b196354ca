/-! the law: its entry, its words -/
def lw_P (b : Addr) (xs : List Int32) (args : Array Value) (s : State) : Prop := args = #[.ref b] ∧ s.IntsAt b xs ∧ xs.length ≤ 2560 ∧ (Jvm.Cond.and given_1 narrow_1).before args s = true
def lw_Q (_ : Array Value) (s : State) (o : Outcome) (t : State) : Prop := o = .returned (some (.int 1)) ∧ Framed s o t [] 1044 21337
def lw_Z (below : List Frame) (a : Array Value) (s : State) : State → Prop := fun t => ∃ o, t.status = .running ∧ Ended t below o ∧ lw_Q a s o t
/-- the law's own end, with 1 on the stack, nothing written that was there before, its room as the claim has it -/
theorem lw_ret {p : Program} {l : Launch} {e : Env} {s : State} {m : MethodId} {below : List Frame} {meth : Method} {c : Code} {b : Nat} (hx : p.tables.exec = Jvm.exec) (hb : c.code = code) (hr : meth.sig.returnType = ret) (hlocks : meth.locks = false) {pc : Nat} {H : Heap} {ls : Array Slot} (hdg : decode code pc = .ok (.ireturn, 1)) : W p l e room_1 s m #[Value.ref b] below meth c H [] 1044 21337 (lw_Z below #[Value.ref b] s) (F0 m pc ls [.int 1]) := by
  intro T hT X
  obtain ⟨fs, hret, hrun, hended, hW, hframe⟩ := X.leave (v := some (.int 1)) (hlocks := hlocks) (fun h => by rw [hr] at h; cases h)
  have hmeth' : T.vm.method? m = some meth := X.method'
  refine ⟨T.setFrames fs, ?_, .returned (some (.int 1)), hrun, hended, rfl, ⟨_, rfl⟩, hW, hframe⟩
  jvm_step X.here [X.here.top, hx, hb, hdg, hmeth', hr, ret, narrow_b1]
  (try refine ⟨rfl, ?_⟩); (try refine ⟨rfl, ?_⟩)
  first | (intro acts; rw [hret _ acts rfl rfl rfl]) | rw [hret _ _ rfl rfl rfl]
  exact Steps.refl _
/-- what holds at the law's entry: the machine, the code, the tables' words (any of lw_tbl by 'hts w (by decide +kernel)'), the script of L ints xs at the cell b, what the Statement gives of the start (any of its parts by flat_of_before) -/
def lw_At (p : Program) (s : State) (m : MethodId) (meth : Method) (c : Code) (b L : Nat) (xs : Nat → Int32) : Prop :=
  p.tables.exec = Jvm.exec ∧ c.code = code ∧ meth.sig.returnType = ret ∧ c.maxLocals = 7 ∧ s.vm.findClass R_law = some m.cls ∧ (∀ w ∈ lw_tbl, w.before #[Value.ref b] s = true) ∧ va_X b L xs s s.heap ∧ b < s.heap.size ∧ meth.locks = false ∧ (Jvm.Cond.and given_1 narrow_1).before #[Value.ref b] s = true
set_option maxRecDepth 20000 in
theorem gLaw_i0 : GoodIn lw_tbl wsX0_init := goodIn_sub (by decide +kernel) (by decide +kernel)
set_option maxRecDepth 20000 in
theorem gLaw_i1 : GoodIn lw_tbl wsX1_init := goodIn_sub (by decide +kernel) (by decide +kernel)
set_option maxRecDepth 20000 in
theorem gLaw_w_take : GoodIn lw_tbl wsL_take := goodIn_sub (by decide +kernel) (by decide +kernel)
set_option maxRecDepth 20000 in
theorem gLawC_w_take : GoodIn lw_tbl (va_wsS R_law 47 yL_take wsL_take) := goodIn_app (goodIn_sub (by decide +kernel) (by decide +kernel)) gLaw_w_take
set_option maxRecDepth 20000 in
theorem gLaw_m_take : GoodIn lw_tbl wsX1_take := goodIn_sub (by decide +kernel) (by decide +kernel)
set_option maxRecDepth 20000 in
theorem gLawC_m_take : GoodIn lw_tbl (wsV R_law 52 RX1 yX1_take wsX1_take) := goodIn_app (goodIn_sub (by decide +kernel) (by decide +kernel)) gLaw_m_take
set_option maxRecDepth 20000 in
theorem gLaw_m_thrown : GoodIn lw_tbl wsX1_thrown := goodIn_sub (by decide +kernel) (by decide +kernel)
set_option maxRecDepth 20000 in
theorem gLawC_m_thrown : GoodIn lw_tbl (wsV R_law 53 RX1 yX1_thrown wsX1_thrown) := goodIn_app (goodIn_sub (by decide +kernel) (by decide +kernel)) gLaw_m_thrown
set_option maxRecDepth 20000 in
theorem gLaw_w_prime : GoodIn lw_tbl wsL_prime := goodIn_sub (by decide +kernel) (by decide +kernel)
set_option maxRecDepth 20000 in
theorem gLawC_w_prime : GoodIn lw_tbl (va_wsS R_law 57 yL_prime wsL_prime) := goodIn_app (goodIn_sub (by decide +kernel) (by decide +kernel)) gLaw_w_prime
set_option maxRecDepth 20000 in
theorem gLaw_m_prime : GoodIn lw_tbl wsX1_prime := goodIn_sub (by decide +kernel) (by decide +kernel)
set_option maxRecDepth 20000 in
theorem gLawC_m_prime : GoodIn lw_tbl (wsV R_law 59 RX1 yX1_prime wsX1_prime) := goodIn_app (goodIn_sub (by decide +kernel) (by decide +kernel)) gLaw_m_prime
set_option maxRecDepth 20000 in
theorem gLaw_w_exponent : GoodIn lw_tbl wsL_exponent := goodIn_sub (by decide +kernel) (by decide +kernel)
set_option maxRecDepth 20000 in
theorem gLawC_w_exponent : GoodIn lw_tbl (va_wsS R_law 60 yL_exponent wsL_exponent) := goodIn_app (goodIn_sub (by decide +kernel) (by decide +kernel)) gLaw_w_exponent
set_option maxRecDepth 20000 in
theorem gLaw_m_exponent : GoodIn lw_tbl wsX1_exponent := goodIn_sub (by decide +kernel) (by decide +kernel)
set_option maxRecDepth 20000 in
theorem gLawC_m_exponent : GoodIn lw_tbl (wsV R_law 62 RX1 yX1_exponent wsX1_exponent) := goodIn_app (goodIn_sub (by decide +kernel) (by decide +kernel)) gLaw_m_exponent
set_option maxRecDepth 20000 in
theorem gLaw_w_divisor : GoodIn lw_tbl wsL_divisor := goodIn_sub (by decide +kernel) (by decide +kernel)
set_option maxRecDepth 20000 in
theorem gLawC_w_divisor : GoodIn lw_tbl (va_wsS R_law 63 yL_divisor wsL_divisor) := goodIn_app (goodIn_sub (by decide +kernel) (by decide +kernel)) gLaw_w_divisor
set_option maxRecDepth 20000 in
theorem gLaw_m_divisor : GoodIn lw_tbl wsX1_divisor := goodIn_sub (by decide +kernel) (by decide +kernel)
set_option maxRecDepth 20000 in
theorem gLawC_m_divisor : GoodIn lw_tbl (wsV R_law 65 RX1 yX1_divisor wsX1_divisor) := goodIn_app (goodIn_sub (by decide +kernel) (by decide +kernel)) gLaw_m_divisor
set_option maxRecDepth 20000 in
theorem gLaw_r_count : GoodIn lw_tbl wsX0_count := goodIn_sub (by decide +kernel) (by decide +kernel)
set_option maxRecDepth 20000 in
theorem gLawC_r_count : GoodIn lw_tbl (wsV R_law 66 RX0 yX0_count wsX0_count) := goodIn_app (goodIn_sub (by decide +kernel) (by decide +kernel)) gLaw_r_count
set_option maxRecDepth 20000 in
theorem gLaw_m_count : GoodIn lw_tbl wsX1_count := goodIn_sub (by decide +kernel) (by decide +kernel)
set_option maxRecDepth 20000 in
theorem gLawC_m_count : GoodIn lw_tbl (wsV R_law 69 RX1 yX1_count wsX1_count) := goodIn_app (goodIn_sub (by decide +kernel) (by decide +kernel)) gLaw_m_count
set_option maxRecDepth 20000 in
theorem gLaw_w_kronecker : GoodIn lw_tbl wsL_kronecker := goodIn_sub (by decide +kernel) (by decide +kernel)
set_option maxRecDepth 20000 in
theorem gLawC_w_kronecker : GoodIn lw_tbl (va_wsS R_law 72 yL_kronecker wsL_kronecker) := goodIn_app (goodIn_sub (by decide +kernel) (by decide +kernel)) gLaw_w_kronecker
set_option maxRecDepth 20000 in
theorem gLaw_m_kronecker : GoodIn lw_tbl wsX1_kronecker := goodIn_sub (by decide +kernel) (by decide +kernel)
set_option maxRecDepth 20000 in
theorem gLawC_m_kronecker : GoodIn lw_tbl (wsV R_law 75 RX1 yX1_kronecker wsX1_kronecker) := goodIn_app (goodIn_sub (by decide +kernel) (by decide +kernel)) gLaw_m_kronecker
set_option maxRecDepth 20000 in
theorem gLaw_w_power : GoodIn lw_tbl wsL_power := goodIn_sub (by decide +kernel) (by decide +kernel)
set_option maxRecDepth 20000 in
theorem gLawC_w_power : GoodIn lw_tbl (va_wsS R_law 76 yL_power wsL_power) := goodIn_app (goodIn_sub (by decide +kernel) (by decide +kernel)) gLaw_w_power
set_option maxRecDepth 20000 in
theorem gLaw_m_power : GoodIn lw_tbl wsX1_power := goodIn_sub (by decide +kernel) (by decide +kernel)
set_option maxRecDepth 20000 in
theorem gLawC_m_power : GoodIn lw_tbl (wsV R_law 79 RX1 yX1_power wsX1_power) := goodIn_app (goodIn_sub (by decide +kernel) (by decide +kernel)) gLaw_m_power
set_option maxRecDepth 20000 in
theorem gLaw_w_inverse : GoodIn lw_tbl wsL_inverse := goodIn_sub (by decide +kernel) (by decide +kernel)
set_option maxRecDepth 20000 in
theorem gLawC_w_inverse : GoodIn lw_tbl (va_wsS R_law 80 yL_inverse wsL_inverse) := goodIn_app (goodIn_sub (by decide +kernel) (by decide +kernel)) gLaw_w_inverse
set_option maxRecDepth 20000 in
theorem gLaw_m_inverse : GoodIn lw_tbl wsX1_inverse := goodIn_sub (by decide +kernel) (by decide +kernel)
set_option maxRecDepth 20000 in
theorem gLawC_m_inverse : GoodIn lw_tbl (wsV R_law 83 RX1 yX1_inverse wsX1_inverse) := goodIn_app (goodIn_sub (by decide +kernel) (by decide +kernel)) gLaw_m_inverse
set_option maxRecDepth 20000 in
theorem gLaw_r_roots : GoodIn lw_tbl wsX0_roots := goodIn_sub (by decide +kernel) (by decide +kernel)
set_option maxRecDepth 20000 in
theorem gLawC_r_roots : GoodIn lw_tbl (wsV R_law 84 RX0 yX0_roots wsX0_roots) := goodIn_app (goodIn_sub (by decide +kernel) (by decide +kernel)) gLaw_r_roots
set_option maxRecDepth 20000 in
theorem gLaw_m_roots : GoodIn lw_tbl wsX1_roots := goodIn_sub (by decide +kernel) (by decide +kernel)
set_option maxRecDepth 20000 in
theorem gLawC_m_roots : GoodIn lw_tbl (wsV R_law 87 RX1 yX1_roots wsX1_roots) := goodIn_app (goodIn_sub (by decide +kernel) (by decide +kernel)) gLaw_m_roots
set_option maxRecDepth 20000 in
theorem gLaw_w_root : GoodIn lw_tbl wsL_root := goodIn_sub (by decide +kernel) (by decide +kernel)
set_option maxRecDepth 20000 in
theorem gLawC_w_root : GoodIn lw_tbl (va_wsS R_law 88 yL_root wsL_root) := goodIn_app (goodIn_sub (by decide +kernel) (by decide +kernel)) gLaw_w_root
set_option maxRecDepth 20000 in
theorem gLaw_m_root : GoodIn lw_tbl wsX1_root := goodIn_sub (by decide +kernel) (by decide +kernel)
set_option maxRecDepth 20000 in
theorem gLawC_m_root : GoodIn lw_tbl (wsV R_law 90 RX1 yX1_root wsX1_root) := goodIn_app (goodIn_sub (by decide +kernel) (by decide +kernel)) gLaw_m_root
theorem inX0 : ∀ w ∈ wsX00, w ∈ lw_tbl := by decide +kernel
theorem inX1 : ∀ w ∈ wsX10, w ∈ lw_tbl := by decide +kernel
theorem lwm_0 : (Cond.classLink R_law 8 RX0) ∈ lw_tbl := by decide +kernel
theorem lwm_1 : (Cond.instantiable RX0 9) ∈ lw_tbl := by decide +kernel
theorem lwm_2 : (Cond.initialized RX0) ∈ lw_tbl := by decide +kernel
theorem lwm_3 : (Cond.methodLink R_law 43 yX0_init) ∈ lw_tbl := by decide +kernel
theorem lwm_4 : (Cond.instanceMethod yX0_init) ∈ lw_tbl := by decide +kernel
theorem lwm_5 : (Cond.classLink R_law 44 RX1) ∈ lw_tbl := by decide +kernel
theorem lwm_6 : (Cond.instantiable RX1 9) ∈ lw_tbl := by decide +kernel
theorem lwm_7 : (Cond.initialized RX1) ∈ lw_tbl := by decide +kernel
theorem lwm_8 : (Cond.methodLink R_law 46 yX1_init) ∈ lw_tbl := by decide +kernel
theorem lwm_9 : (Cond.instanceMethod yX1_init) ∈ lw_tbl := by decide +kernel
theorem lwm_10 : (Cond.arrayClass .int) ∈ lw_tbl := by decide +kernel
theorem lwm_11 : (Cond.arrayClass .long) ∈ lw_tbl := by decide +kernel
theorem lwm_12 : (Cond.constantLong R_law 70 4294967295) ∈ lw_tbl := by decide +kernel
theorem lwm_13 : (Cond.laysStatic Bundle.tN "UNASSIGNED_STACK" Bundle.steD) ∈ lw_tbl := by decide +kernel
theorem lwm_14 : (Cond.laysStatic Bundle.tN "SUPPRESSED_SENTINEL" Bundle.listD) ∈ lw_tbl := by decide +kernel
theorem lwm_15 : (Cond.initialized Bundle.tN) ∈ lw_tbl := by decide +kernel
theorem lw_zU {p : Program} {s : State} {m : MethodId} {meth : Method} {c : Code} {b L : Nat} {xs : Nat → Int32} (C0 : lw_At p s m meth c b L xs) : vx_Zq Bundle.tN "UNASSIGNED_STACK" Bundle.steD (fun q : Nat => s.heap.size ≤ q) s s.heap := by
  obtain ⟨hx, hb, hr, hml, hown, hts, hX, hbl, hlocks, hgv⟩ := C0
  have hs := flat_of_before _ hgv
  exact vx_Zqof (hts _ lwm_13) (hts _ lwm_15) (hs _ (by decide +kernel)) (fun a ha hq => absurd ha (Nat.not_lt.mpr hq))
theorem lw_zN {p : Program} {s : State} {m : MethodId} {meth : Method} {c : Code} {b L : Nat} {xs : Nat → Int32} (C0 : lw_At p s m meth c b L xs) : vx_Zq Bundle.tN "SUPPRESSED_SENTINEL" Bundle.listD (fun q : Nat => s.heap.size ≤ q) s s.heap := by
  obtain ⟨hx, hb, hr, hml, hown, hts, hX, hbl, hlocks, hgv⟩ := C0
  have hs := flat_of_before _ hgv
  exact vx_Zqof (hts _ lwm_14) (hts _ lwm_15) (hs _ (by decide +kernel)) (fun a ha hq => absurd ha (Nat.not_lt.mpr hq))
theorem lw_n0 {p : Program} {s : State} {m : MethodId} {meth : Method} {c : Code} {b L : Nat} {xs : Nat → Int32} (C0 : lw_At p s m meth c b L xs) : rf_N "java/lang/IllegalArgumentException" s := by
  obtain ⟨hx, hb, hr, hml, hown, hts, hX, hbl, hlocks, hgv⟩ := C0
  have hm : ∀ w ∈ rf_B "java/lang/IllegalArgumentException", w ∈ lw_tbl := by decide +kernel
  intro w hw
  have h1 := hts w (hm w hw)
  simp only [rf_B, List.mem_cons, List.not_mem_nil, or_false] at hw
  rcases hw with rfl | rfl | rfl | rfl
  · exact va_any rfl h1
  · exact va_any rfl h1
  · exact va_any rfl h1
  · exact va_any rfl h1
theorem lw_n1 {p : Program} {s : State} {m : MethodId} {meth : Method} {c : Code} {b L : Nat} {xs : Nat → Int32} (C0 : lw_At p s m meth c b L xs) : rf_N "java/lang/IndexOutOfBoundsException" s := by
  obtain ⟨hx, hb, hr, hml, hown, hts, hX, hbl, hlocks, hgv⟩ := C0
  have hm : ∀ w ∈ rf_B "java/lang/IndexOutOfBoundsException", w ∈ lw_tbl := by decide +kernel
  intro w hw
  have h1 := hts w (hm w hw)
  simp only [rf_B, List.mem_cons, List.not_mem_nil, or_false] at hw
  rcases hw with rfl | rfl | rfl | rfl
  · exact va_any rfl h1
  · exact va_any rfl h1
  · exact va_any rfl h1
  · exact va_any rfl h1
theorem lw_n2 {p : Program} {s : State} {m : MethodId} {meth : Method} {c : Code} {b L : Nat} {xs : Nat → Int32} (C0 : lw_At p s m meth c b L xs) : rf_N "java/lang/IllegalStateException" s := by
  obtain ⟨hx, hb, hr, hml, hown, hts, hX, hbl, hlocks, hgv⟩ := C0
  have hm : ∀ w ∈ rf_B "java/lang/IllegalStateException", w ∈ lw_tbl := by decide +kernel
  intro w hw
  have h1 := hts w (hm w hw)
  simp only [rf_B, List.mem_cons, List.not_mem_nil, or_false] at hw
  rcases hw with rfl | rfl | rfl | rfl
  · exact va_any rfl h1
  · exact va_any rfl h1
  · exact va_any rfl h1
  · exact va_any rfl h1
theorem lw_t41 {p : Program} {s : State} {m : MethodId} {meth : Method} {c : Code} {b L : Nat} {xs : Nat → Int32} (C0 : lw_At p s m meth c b L xs) : ∃ sa, vk_R RX0 41 "the number must be 1 .. 4194304" sa s := by
  obtain ⟨hx, hb, hr, hml, hown, hts, hX, hbl, hlocks, hgv⟩ := C0
  have hs := flat_of_before _ hgv
  have hex : (Cond.exactly (.string RX0 41) "java/lang/String").before #[Value.ref b] s = true := hs _ (by decide +kernel)
  obtain ⟨a2, c2, cA2, kA2, q1, -⟩ := Cond.exactly_spec (args := #[Value.ref b]) (first := s) (o := none) (s := s) (idx := []) (t := .string RX0 41) (cls := "java/lang/String") hex
  exact ⟨a2, vk_R.of (hts (.stringRef RX0 41 "the number must be 1 .. 4194304") (by decide +kernel)) q1⟩
theorem lw_t54 {p : Program} {s : State} {m : MethodId} {meth : Method} {c : Code} {b L : Nat} {xs : Nat → Int32} (C0 : lw_At p s m meth c b L xs) : ∃ sa, vk_R RX0 54 "there is no such prime" sa s := by
  obtain ⟨hx, hb, hr, hml, hown, hts, hX, hbl, hlocks, hgv⟩ := C0
  have hs := flat_of_before _ hgv
  have hex : (Cond.exactly (.string RX0 54) "java/lang/String").before #[Value.ref b] s = true := hs _ (by decide +kernel)
  obtain ⟨a2, c2, cA2, kA2, q1, -⟩ := Cond.exactly_spec (args := #[Value.ref b]) (first := s) (o := none) (s := s) (idx := []) (t := .string RX0 54) (cls := "java/lang/String") hex
  exact ⟨a2, vk_R.of (hts (.stringRef RX0 54 "there is no such prime") (by decide +kernel)) q1⟩
theorem lw_t57 {p : Program} {s : State} {m : MethodId} {meth : Method} {c : Code} {b L : Nat} {xs : Nat → Int32} (C0 : lw_At p s m meth c b L xs) : ∃ sa, vk_R RX0 57 "there is no such divisor" sa s := by
  obtain ⟨hx, hb, hr, hml, hown, hts, hX, hbl, hlocks, hgv⟩ := C0
  have hs := flat_of_before _ hgv
  have hex : (Cond.exactly (.string RX0 57) "java/lang/String").before #[Value.ref b] s = true := hs _ (by decide +kernel)
  obtain ⟨a2, c2, cA2, kA2, q1, -⟩ := Cond.exactly_spec (args := #[Value.ref b]) (first := s) (o := none) (s := s) (idx := []) (t := .string RX0 57) (cls := "java/lang/String") hex
  exact ⟨a2, vk_R.of (hts (.stringRef RX0 57 "there is no such divisor") (by decide +kernel)) q1⟩
theorem lw_t67 {p : Program} {s : State} {m : MethodId} {meth : Method} {c : Code} {b L : Nat} {xs : Nat → Int32} (C0 : lw_At p s m meth c b L xs) : ∃ sa, vk_R RX0 67 "n must be -4194304 .. 4194304" sa s := by
  obtain ⟨hx, hb, hr, hml, hown, hts, hX, hbl, hlocks, hgv⟩ := C0
  have hs := flat_of_before _ hgv
  have hex : (Cond.exactly (.string RX0 67) "java/lang/String").before #[Value.ref b] s = true := hs _ (by decide +kernel)
  obtain ⟨a2, c2, cA2, kA2, q1, -⟩ := Cond.exactly_spec (args := #[Value.ref b]) (first := s) (o := none) (s := s) (idx := []) (t := .string RX0 67) (cls := "java/lang/String") hex
  exact ⟨a2, vk_R.of (hts (.stringRef RX0 67 "n must be -4194304 .. 4194304") (by decide +kernel)) q1⟩
theorem lw_t79 {p : Program} {s : State} {m : MethodId} {meth : Method} {c : Code} {b L : Nat} {xs : Nat → Int32} (C0 : lw_At p s m meth c b L xs) : ∃ sa, vk_R RX0 79 "the exponent must not be below 0" sa s := by
  obtain ⟨hx, hb, hr, hml, hown, hts, hX, hbl, hlocks, hgv⟩ := C0
  have hs := flat_of_before _ hgv
  have hex : (Cond.exactly (.string RX0 79) "java/lang/String").before #[Value.ref b] s = true := hs _ (by decide +kernel)
  obtain ⟨a2, c2, cA2, kA2, q1, -⟩ := Cond.exactly_spec (args := #[Value.ref b]) (first := s) (o := none) (s := s) (idx := []) (t := .string RX0 79) (cls := "java/lang/String") hex
  exact ⟨a2, vk_R.of (hts (.stringRef RX0 79 "the exponent must not be below 0") (by decide +kernel)) q1⟩
theorem lw_t90 {p : Program} {s : State} {m : MethodId} {meth : Method} {c : Code} {b L : Nat} {xs : Nat → Int32} (C0 : lw_At p s m meth c b L xs) : ∃ sa, vk_R RX0 90 "there is no inverse" sa s := by
  obtain ⟨hx, hb, hr, hml, hown, hts, hX, hbl, hlocks, hgv⟩ := C0
  have hs := flat_of_before _ hgv
  have hex : (Cond.exactly (.string RX0 90) "java/lang/String").before #[Value.ref b] s = true := hs _ (by decide +kernel)
  obtain ⟨a2, c2, cA2, kA2, q1, -⟩ := Cond.exactly_spec (args := #[Value.ref b]) (first := s) (o := none) (s := s) (idx := []) (t := .string RX0 90) (cls := "java/lang/String") hex
  exact ⟨a2, vk_R.of (hts (.stringRef RX0 90 "there is no inverse") (by decide +kernel)) q1⟩
theorem lw_t107 {p : Program} {s : State} {m : MethodId} {meth : Method} {c : Code} {b L : Nat} {xs : Nat → Int32} (C0 : lw_At p s m meth c b L xs) : ∃ sa, vk_R RX0 107 "there is no such root" sa s := by
  obtain ⟨hx, hb, hr, hml, hown, hts, hX, hbl, hlocks, hgv⟩ := C0
  have hs := flat_of_before _ hgv
  have hex : (Cond.exactly (.string RX0 107) "java/lang/String").before #[Value.ref b] s = true := hs _ (by decide +kernel)
  obtain ⟨a2, c2, cA2, kA2, q1, -⟩ := Cond.exactly_spec (args := #[Value.ref b]) (first := s) (o := none) (s := s) (idx := []) (t := .string RX0 107) (cls := "java/lang/String") hex
  exact ⟨a2, vk_R.of (hts (.stringRef RX0 107 "there is no such root") (by decide +kernel)) q1⟩
theorem rf_swout9 {x : Int32} (h0 : ¬ x = 0) (h1 : ¬ x = 1) (h2 : ¬ x = 2) (h3 : ¬ x = 3) (h4 : ¬ x = 4) (h5 : ¬ x = 5) (h6 : ¬ x = 6) (h7 : ¬ x = 7) (h8 : ¬ x = 8) (h9 : ¬ x = 9) : x.toInt < 0 ∨ 9 < x.toInt := by
  refine Classical.byContradiction fun hn => ?_
  have e : x = Int32.ofInt x.toInt := (Int32.ofInt_toInt x).symm
  rcases (show x.toInt = 0 ∨ x.toInt = 1 ∨ x.toInt = 2 ∨ x.toInt = 3 ∨ x.toInt = 4 ∨ x.toInt = 5 ∨ x.toInt = 6 ∨ x.toInt = 7 ∨ x.toInt = 8 ∨ x.toInt = 9 by omega) with h | h | h | h | h | h | h | h | h | h <;> rw [h] at e
  · exact h0 e
  · exact h1 e
  · exact h2 e
  · exact h3 e
  · exact h4 e
  · exact h5 e
  · exact h6 e
  · exact h7 e
  · exact h8 e
  · exact h9 e
