def l_r_joinRootsModuloPrime_61 (F : Nat) (x2 x3 x4 x5 x6 x7 : Int32) (sp : Nat → Int32) : Nat → Int32 → Int32 → (Nat → Int32) → Option (Int32 × (Nat → Int32))
  | 0, _, _, _ => none
  | n + 1, x8, rc, rt => if x7 ≤ x8 then some (rc, rt) else if x8.toInt < 0 ∨ (4096 : Int) ≤ x8.toInt then none else b1 (f_r_residue F ((Int32.toInt64 (x4 - (sp x8.toNatClampNeg))) * (Int32.toInt64 x6)) x3) fun r3 => b2 (f_r_addRoot F rc rt ((sp x8.toNatClampNeg) + (x2 * r3))) fun rc_4 rt_4 => if x5 = x4 then l_r_joinRootsModuloPrime_61 F x2 x3 x4 x5 x6 x7 sp n (x8 + 1) rc_4 rt_4 else b1 (f_r_residue F ((Int32.toInt64 (x5 - (sp x8.toNatClampNeg))) * (Int32.toInt64 x6)) x3) fun r6 => b2 (f_r_addRoot F rc_4 rt_4 ((sp x8.toNatClampNeg) + (x2 * r6))) fun rc_7 rt_7 => l_r_joinRootsModuloPrime_61 F x2 x3 x4 x5 x6 x7 sp n (x8 + 1) rc_7 rt_7
set_option maxHeartbeats 4000000 in
set_option maxRecDepth 100000 in
theorem w_r_joinRootsModuloPrime_61 {p : Program} {l : Launch} {e : Env} {s : State} {m : MethodId} {args : Array Value} {below : List Frame} {meth : Method} {c : Code} {A : Nat → Prop} {Q : State → Prop} {dC : Nat → ClassId} {dI : Nat → Nat → Nat} (F : Nat) (hx : p.tables.exec = Jvm.exec) (hb : c.code = cX0_joinRootsModuloPrime) (hml : c.maxLocals = 10) (hown : s.vm.findClass RX0 = some m.cls) (hts : ∀ w ∈ wsX0_joinRootsModuloPrime, w.before args s = true) (hA : ∀ q, s.heap.size ≤ q → A q) (h0 h1 h2 h3 h4 h5 : Nat) (cA : ClassId) (hK : va_K (dC, dI) vwCl [(cA, .int)] s) (x2 x3 x4 x5 x6 x7 nu pk dc : Int32) (pr ex dv sp : Nat → Int32) :
    ∀ (n : Nat) (x8 rc : Int32) (rt : Nat → Int32) (rc' : Int32) (rt' : Nat → Int32), l_r_joinRootsModuloPrime_61 F x2 x3 x4 x5 x6 x7 sp n x8 rc rt = some (rc', rt') → ∀ (H : Heap) (locs : List Loc), va_P (dC, dI) vwCl [(h0, .inr (0, [.int nu, .int pk, .ref h1, .ref h2, .int dc, .ref h3, .int rc, .ref h4, .ref h5])), (h1, .inl (cA, 7, .inl pr)), (h2, .inl (cA, 7, .inl ex)), (h3, .inl (cA, 360, .inl dv)), (h4, .inl (cA, 4096, .inl rt)), (h5, .inl (cA, 4096, .inl sp))] H → va_D A [(h0, .inr (0, [.int nu, .int pk, .ref h1, .ref h2, .int dc, .ref h3, .int rc, .ref h4, .ref h5])), (h1, .inl (cA, 7, .inl pr)), (h2, .inl (cA, 7, .inl ex)), (h3, .inl (cA, 360, .inl dv)), (h4, .inl (cA, 4096, .inl rt)), (h5, .inl (cA, 4096, .inl sp))] → va_S A s.heap H locs → ∀ ls : Array Slot, lv_has ls 10 [(0, .ref h0), (2, .int x2), (3, .int x3), (4, .int x4), (5, .int x5), (6, .int x6), (7, .int x7), (8, .int x8)] → (∀ (H : Heap) (locs : List Loc) (ls : Array Slot), va_P (dC, dI) vwCl [(h0, .inr (0, [.int nu, .int pk, .ref h1, .ref h2, .int dc, .ref h3, .int rc', .ref h4, .ref h5])), (h1, .inl (cA, 7, .inl pr)), (h2, .inl (cA, 7, .inl ex)), (h3, .inl (cA, 360, .inl dv)), (h4, .inl (cA, 4096, .inl rt')), (h5, .inl (cA, 4096, .inl sp))] H → va_D A [(h0, .inr (0, [.int nu, .int pk, .ref h1, .ref h2, .int dc, .ref h3, .int rc', .ref h4, .ref h5])), (h1, .inl (cA, 7, .inl pr)), (h2, .inl (cA, 7, .inl ex)), (h3, .inl (cA, 360, .inl dv)), (h4, .inl (cA, 4096, .inl rt')), (h5, .inl (cA, 4096, .inl sp))] → va_S A s.heap H locs → lv_has ls 10 [] → W p l e { frames := 5, cells := 0, slots := 0, locals := 127 } s m args below meth c H locs 0 0 Q (F0 m 136 ls [])) → W p l e { frames := 5, cells := 0, slots := 0, locals := 127 } s m args below meth c H locs 0 0 Q (F0 m 61 ls []) := by
  intro n
  induction n with
  | zero => intro x8 rc rt rc' rt' h; exact nomatch (show (none : Option _) = some _ from h)
  | succ n ih =>
    intro x8 rc rt rc' rt' h H locs hP hD hS ls hl K
    rw [l_r_joinRootsModuloPrime_61] at h
    refine lv_iload hx hb dX0_joinRootsModuloPrime_61 (lv_at hl 7 rfl) ?_
    refine lv_iload hx hb dX0_joinRootsModuloPrime_63 (lv_at hl 6 rfl) ?_
    refine lv_icmp_ge (tgt := 136) hx hb dX0_joinRootsModuloPrime_65 (by decide) (fun c1 => ?_) (fun c1 => ?_)
    · rw [if_pos c1] at h
      cases h
      exact K _ _ _ hP hD hS (lv_sub hl [] rfl)
    · rw [if_neg c1] at h
      refine lv_aload_n hx hb dX0_joinRootsModuloPrime_68 rfl (lv_at hl 0 rfl) ?_
      refine va_get (D := (dC, dI)) (ci := 0) (v := .ref h5) (C := RX0) (T := TX0) (N := 9) hx hb hts (fun _ h => List.mem_cons_of_mem _ (List.mem_append_right _ h)) hown hK hP 0 rfl rfl 8 (by decide) (hts _ (List.mem_of_getElem? (i := 34) rfl)) (fun _ h9 => h9) rfl dX0_joinRootsModuloPrime_69 ?_
      refine lv_iload hx hb dX0_joinRootsModuloPrime_72 (lv_at hl 7 rfl) ?_
      obtain ⟨g2, h⟩ := rf_gd h
      refine va_iald hx hb hK hP 5 0 rfl rfl (rf_in g2) dX0_joinRootsModuloPrime_74 ?_
      refine lv_istore (lv' := [(9, .int (sp x8.toNatClampNeg)), (0, .ref h0), (2, .int x2), (3, .int x3), (4, .int x4), (5, .int x5), (6, .int x6), (7, .int x7), (8, .int x8)]) hx hb dX0_joinRootsModuloPrime_75 hl (by decide) rfl (fun ls hl => ?_)
      refine lv_aload_n hx hb dX0_joinRootsModuloPrime_77 rfl (lv_at hl 1 rfl) ?_
      refine lv_iload hx hb dX0_joinRootsModuloPrime_78 (lv_at hl 0 rfl) ?_
      refine lv_iload_n hx hb dX0_joinRootsModuloPrime_80 rfl (lv_at hl 2 rfl) ?_
      refine lv_iload hx hb dX0_joinRootsModuloPrime_81 (lv_at hl 4 rfl) ?_
      refine lv_iload hx hb dX0_joinRootsModuloPrime_83 (lv_at hl 0 rfl) ?_
      refine lv_isub hx hb dX0_joinRootsModuloPrime_85 ?_
      refine lv_i2l (v := (Int32.toInt64 (x4 - (sp x8.toNatClampNeg)))) hx hb dX0_joinRootsModuloPrime_86 rfl ?_
      refine lv_iload hx hb dX0_joinRootsModuloPrime_87 (lv_at hl 6 rfl) ?_
      refine lv_i2l (v := (Int32.toInt64 x6)) hx hb dX0_joinRootsModuloPrime_89 rfl ?_
      refine lv_lmul hx hb dX0_joinRootsModuloPrime_90 ?_
      refine lv_iload_n hx hb dX0_joinRootsModuloPrime_91 rfl (lv_at hl 3 rfl) ?_
      obtain ⟨r3, hr3, h⟩ := rf_b1 h
      refine rf_ci (wn := (fun _ : Unit => [])) (wc := []) (wr := [(h0, .inr (0, [.int nu, .int pk, .ref h1, .ref h2, .int dc, .ref h3, .int rc, .ref h4, .ref h5])), (h1, .inl (cA, 7, .inl pr)), (h2, .inl (cA, 7, .inl ex)), (h3, .inl (cA, 360, .inl dv)), (h4, .inl (cA, 4096, .inl rt)), (h5, .inl (cA, 4096, .inl sp))]) hP hD hS hA [] [0, 1, 2, 3, 4, 5] rfl rfl (by decide) (by decide) (va_runS (As := [.long ((Int32.toInt64 (x4 - (sp x8.toNatClampNeg))) * (Int32.toInt64 x6)), .int x3]) (rest := [.int x2, .int (sp x8.toNatClampNeg), .ref h0]) ⟨hx, hb, hml, hown, hts⟩ (c_r_residue l dC dI _ F ((Int32.toInt64 (x4 - (sp x8.toNatClampNeg))) * (Int32.toInt64 x6)) x3 r3 hr3) (va_cwS 2 hts gX0_joinRootsModuloPrime_X0_residue rfl rfl rfl (by decide +kernel) ⟨Nat.le_of_ble_eq_true rfl, Nat.le_of_ble_eq_true rfl⟩) ⟨rf_blind, fun U hU hW => ⟨rfl, rf_pre (hP.sub (ws' := []) [] rfl) (hK.sub (tys' := []) [] rfl) (hD.sub (ws' := []) [] (by decide) rfl) U hU hW⟩⟩ rfl rfl hl.1 rfl (lv_room (Nat.le_of_ble_eq_true rfl)) dX0_joinRootsModuloPrime_92 ⟨Nat.zero_le _, Nat.zero_le _⟩) (fun r3' u H locs hw hP hD hS => ?_)
      subst hw
      have hP : va_P (dC, dI) vwCl [(h0, .inr (0, [.int nu, .int pk, .ref h1, .ref h2, .int dc, .ref h3, .int rc, .ref h4, .ref h5])), (h1, .inl (cA, 7, .inl pr)), (h2, .inl (cA, 7, .inl ex)), (h3, .inl (cA, 360, .inl dv)), (h4, .inl (cA, 4096, .inl rt)), (h5, .inl (cA, 4096, .inl sp))] H := hP
      have hD : va_D A [(h0, .inr (0, [.int nu, .int pk, .ref h1, .ref h2, .int dc, .ref h3, .int rc, .ref h4, .ref h5])), (h1, .inl (cA, 7, .inl pr)), (h2, .inl (cA, 7, .inl ex)), (h3, .inl (cA, 360, .inl dv)), (h4, .inl (cA, 4096, .inl rt)), (h5, .inl (cA, 4096, .inl sp))] := hD
      refine lv_imul hx hb dX0_joinRootsModuloPrime_95 ?_
      refine lv_iadd hx hb dX0_joinRootsModuloPrime_96 ?_
      obtain ⟨rc_4, rt_4, hr4, h⟩ := rf_b2 h
      refine rf_cv (wn := (fun _ : Unit => [(h0, .inr (0, [.int nu, .int pk, .ref h1, .ref h2, .int dc, .ref h3, .int rc_4, .ref h4, .ref h5])), (h1, .inl (cA, 7, .inl pr)), (h2, .inl (cA, 7, .inl ex)), (h3, .inl (cA, 360, .inl dv)), (h4, .inl (cA, 4096, .inl rt_4)), (h5, .inl (cA, 4096, .inl sp))])) (wc := [(h0, .inr (0, [.int nu, .int pk, .ref h1, .ref h2, .int dc, .ref h3, .int rc, .ref h4, .ref h5])), (h1, .inl (cA, 7, .inl pr)), (h2, .inl (cA, 7, .inl ex)), (h3, .inl (cA, 360, .inl dv)), (h4, .inl (cA, 4096, .inl rt)), (h5, .inl (cA, 4096, .inl sp))]) (wr := []) hP hD hS hA [0, 1, 2, 3, 4, 5] [] rfl rfl (by decide) (by decide) (va_runV (As := [.int ((sp x8.toNatClampNeg) + (x2 * r3))]) (rest := []) ⟨hx, hb, hml, hown, hts⟩ (c_r_addRoot l dC dI _ F h0 h1 h2 h3 h4 h5 cA nu pk dc rc pr ex dv rt sp ((sp x8.toNatClampNeg) + (x2 * r3)) rc_4 rt_4 hr4) (cwV 1 hts gX0_joinRootsModuloPrime_X0_addRoot rfl rfl rfl (by decide +kernel) ⟨Nat.le_of_ble_eq_true rfl, Nat.le_of_ble_eq_true rfl⟩) ⟨rf_blind, va_recv hK hP (ci := 0) (q0 := 0) rfl rfl, fun U hU hW => ⟨rfl, rf_pre (hP.sub (ws' := [(h0, .inr (0, [.int nu, .int pk, .ref h1, .ref h2, .int dc, .ref h3, .int rc, .ref h4, .ref h5])), (h1, .inl (cA, 7, .inl pr)), (h2, .inl (cA, 7, .inl ex)), (h3, .inl (cA, 360, .inl dv)), (h4, .inl (cA, 4096, .inl rt)), (h5, .inl (cA, 4096, .inl sp))]) [0, 1, 2, 3, 4, 5] rfl) (hK.sub (tys' := [(cA, .int)]) [0] rfl) (hD.sub (ws' := [(h0, .inr (0, [.int nu, .int pk, .ref h1, .ref h2, .int dc, .ref h3, .int rc, .ref h4, .ref h5])), (h1, .inl (cA, 7, .inl pr)), (h2, .inl (cA, 7, .inl ex)), (h3, .inl (cA, 360, .inl dv)), (h4, .inl (cA, 4096, .inl rt)), (h5, .inl (cA, 4096, .inl sp))]) [0, 1, 2, 3, 4, 5] (by decide) rfl) U hU hW⟩⟩ rfl rfl hl.1 rfl (lv_room (Nat.le_of_ble_eq_true rfl)) dX0_joinRootsModuloPrime_97 ⟨Nat.zero_le _, Nat.zero_le _⟩) (fun u H locs hw hP hD hS => ?_)
      have hP : va_P (dC, dI) vwCl [(h0, .inr (0, [.int nu, .int pk, .ref h1, .ref h2, .int dc, .ref h3, .int rc_4, .ref h4, .ref h5])), (h1, .inl (cA, 7, .inl pr)), (h2, .inl (cA, 7, .inl ex)), (h3, .inl (cA, 360, .inl dv)), (h4, .inl (cA, 4096, .inl rt_4)), (h5, .inl (cA, 4096, .inl sp))] H := hP
      have hD : va_D A [(h0, .inr (0, [.int nu, .int pk, .ref h1, .ref h2, .int dc, .ref h3, .int rc_4, .ref h4, .ref h5])), (h1, .inl (cA, 7, .inl pr)), (h2, .inl (cA, 7, .inl ex)), (h3, .inl (cA, 360, .inl dv)), (h4, .inl (cA, 4096, .inl rt_4)), (h5, .inl (cA, 4096, .inl sp))] := hD
      refine lv_iload hx hb dX0_joinRootsModuloPrime_100 (lv_at hl 5 rfl) ?_
      refine lv_iload hx hb dX0_joinRootsModuloPrime_102 (lv_at hl 4 rfl) ?_
      refine lv_icmp_eq (tgt := 130) hx hb dX0_joinRootsModuloPrime_104 (by decide) (fun c5 => ?_) (fun c5 => ?_)
      · rw [if_pos c5] at h
        refine lv_iinc (v := (x8 + 1)) (lv' := [(8, .int (x8 + 1)), (9, .int (sp x8.toNatClampNeg)), (0, .ref h0), (2, .int x2), (3, .int x3), (4, .int x4), (5, .int x5), (6, .int x6), (7, .int x7)]) hx hb dX0_joinRootsModuloPrime_130 hl (k := 8) rfl rfl (by decide) rfl (fun ls hl => ?_)
        refine lv_goto (tgt := 61) hx hb dX0_joinRootsModuloPrime_133 (by decide) ?_
        exact ih (x8 + 1) rc_4 rt_4 rc' rt' h _ _ hP hD hS _ (lv_sub hl [2, 3, 4, 5, 6, 7, 8, 0] rfl) K
      · rw [if_neg c5] at h
        refine lv_aload_n hx hb dX0_joinRootsModuloPrime_107 rfl (lv_at hl 1 rfl) ?_
        refine lv_iload hx hb dX0_joinRootsModuloPrime_108 (lv_at hl 0 rfl) ?_
        refine lv_iload_n hx hb dX0_joinRootsModuloPrime_110 rfl (lv_at hl 2 rfl) ?_
        refine lv_iload hx hb dX0_joinRootsModuloPrime_111 (lv_at hl 5 rfl) ?_
        refine lv_iload hx hb dX0_joinRootsModuloPrime_113 (lv_at hl 0 rfl) ?_
        refine lv_isub hx hb dX0_joinRootsModuloPrime_115 ?_
        refine lv_i2l (v := (Int32.toInt64 (x5 - (sp x8.toNatClampNeg)))) hx hb dX0_joinRootsModuloPrime_116 rfl ?_
        refine lv_iload hx hb dX0_joinRootsModuloPrime_117 (lv_at hl 6 rfl) ?_
        refine lv_i2l (v := (Int32.toInt64 x6)) hx hb dX0_joinRootsModuloPrime_119 rfl ?_
        refine lv_lmul hx hb dX0_joinRootsModuloPrime_120 ?_
        refine lv_iload_n hx hb dX0_joinRootsModuloPrime_121 rfl (lv_at hl 3 rfl) ?_
        obtain ⟨r6, hr6, h⟩ := rf_b1 h
        refine rf_ci (wn := (fun _ : Unit => [])) (wc := []) (wr := [(h0, .inr (0, [.int nu, .int pk, .ref h1, .ref h2, .int dc, .ref h3, .int rc_4, .ref h4, .ref h5])), (h1, .inl (cA, 7, .inl pr)), (h2, .inl (cA, 7, .inl ex)), (h3, .inl (cA, 360, .inl dv)), (h4, .inl (cA, 4096, .inl rt_4)), (h5, .inl (cA, 4096, .inl sp))]) hP hD hS hA [] [0, 1, 2, 3, 4, 5] rfl rfl (by decide) (by decide) (va_runS (As := [.long ((Int32.toInt64 (x5 - (sp x8.toNatClampNeg))) * (Int32.toInt64 x6)), .int x3]) (rest := [.int x2, .int (sp x8.toNatClampNeg), .ref h0]) ⟨hx, hb, hml, hown, hts⟩ (c_r_residue l dC dI _ F ((Int32.toInt64 (x5 - (sp x8.toNatClampNeg))) * (Int32.toInt64 x6)) x3 r6 hr6) (va_cwS 2 hts gX0_joinRootsModuloPrime_X0_residue rfl rfl rfl (by decide +kernel) ⟨Nat.le_of_ble_eq_true rfl, Nat.le_of_ble_eq_true rfl⟩) ⟨rf_blind, fun U hU hW => ⟨rfl, rf_pre (hP.sub (ws' := []) [] rfl) (hK.sub (tys' := []) [] rfl) (hD.sub (ws' := []) [] (by decide) rfl) U hU hW⟩⟩ rfl rfl hl.1 rfl (lv_room (Nat.le_of_ble_eq_true rfl)) dX0_joinRootsModuloPrime_122 ⟨Nat.zero_le _, Nat.zero_le _⟩) (fun r6' u H locs hw hP hD hS => ?_)
        subst hw
        have hP : va_P (dC, dI) vwCl [(h0, .inr (0, [.int nu, .int pk, .ref h1, .ref h2, .int dc, .ref h3, .int rc_4, .ref h4, .ref h5])), (h1, .inl (cA, 7, .inl pr)), (h2, .inl (cA, 7, .inl ex)), (h3, .inl (cA, 360, .inl dv)), (h4, .inl (cA, 4096, .inl rt_4)), (h5, .inl (cA, 4096, .inl sp))] H := hP
        have hD : va_D A [(h0, .inr (0, [.int nu, .int pk, .ref h1, .ref h2, .int dc, .ref h3, .int rc_4, .ref h4, .ref h5])), (h1, .inl (cA, 7, .inl pr)), (h2, .inl (cA, 7, .inl ex)), (h3, .inl (cA, 360, .inl dv)), (h4, .inl (cA, 4096, .inl rt_4)), (h5, .inl (cA, 4096, .inl sp))] := hD
        refine lv_imul hx hb dX0_joinRootsModuloPrime_125 ?_
        refine lv_iadd hx hb dX0_joinRootsModuloPrime_126 ?_
        obtain ⟨rc_7, rt_7, hr7, h⟩ := rf_b2 h
        refine rf_cv (wn := (fun _ : Unit => [(h0, .inr (0, [.int nu, .int pk, .ref h1, .ref h2, .int dc, .ref h3, .int rc_7, .ref h4, .ref h5])), (h1, .inl (cA, 7, .inl pr)), (h2, .inl (cA, 7, .inl ex)), (h3, .inl (cA, 360, .inl dv)), (h4, .inl (cA, 4096, .inl rt_7)), (h5, .inl (cA, 4096, .inl sp))])) (wc := [(h0, .inr (0, [.int nu, .int pk, .ref h1, .ref h2, .int dc, .ref h3, .int rc_4, .ref h4, .ref h5])), (h1, .inl (cA, 7, .inl pr)), (h2, .inl (cA, 7, .inl ex)), (h3, .inl (cA, 360, .inl dv)), (h4, .inl (cA, 4096, .inl rt_4)), (h5, .inl (cA, 4096, .inl sp))]) (wr := []) hP hD hS hA [0, 1, 2, 3, 4, 5] [] rfl rfl (by decide) (by decide) (va_runV (As := [.int ((sp x8.toNatClampNeg) + (x2 * r6))]) (rest := []) ⟨hx, hb, hml, hown, hts⟩ (c_r_addRoot l dC dI _ F h0 h1 h2 h3 h4 h5 cA nu pk dc rc_4 pr ex dv rt_4 sp ((sp x8.toNatClampNeg) + (x2 * r6)) rc_7 rt_7 hr7) (cwV 1 hts gX0_joinRootsModuloPrime_X0_addRoot rfl rfl rfl (by decide +kernel) ⟨Nat.le_of_ble_eq_true rfl, Nat.le_of_ble_eq_true rfl⟩) ⟨rf_blind, va_recv hK hP (ci := 0) (q0 := 0) rfl rfl, fun U hU hW => ⟨rfl, rf_pre (hP.sub (ws' := [(h0, .inr (0, [.int nu, .int pk, .ref h1, .ref h2, .int dc, .ref h3, .int rc_4, .ref h4, .ref h5])), (h1, .inl (cA, 7, .inl pr)), (h2, .inl (cA, 7, .inl ex)), (h3, .inl (cA, 360, .inl dv)), (h4, .inl (cA, 4096, .inl rt_4)), (h5, .inl (cA, 4096, .inl sp))]) [0, 1, 2, 3, 4, 5] rfl) (hK.sub (tys' := [(cA, .int)]) [0] rfl) (hD.sub (ws' := [(h0, .inr (0, [.int nu, .int pk, .ref h1, .ref h2, .int dc, .ref h3, .int rc_4, .ref h4, .ref h5])), (h1, .inl (cA, 7, .inl pr)), (h2, .inl (cA, 7, .inl ex)), (h3, .inl (cA, 360, .inl dv)), (h4, .inl (cA, 4096, .inl rt_4)), (h5, .inl (cA, 4096, .inl sp))]) [0, 1, 2, 3, 4, 5] (by decide) rfl) U hU hW⟩⟩ rfl rfl hl.1 rfl (lv_room (Nat.le_of_ble_eq_true rfl)) dX0_joinRootsModuloPrime_127 ⟨Nat.zero_le _, Nat.zero_le _⟩) (fun u H locs hw hP hD hS => ?_)
        have hP : va_P (dC, dI) vwCl [(h0, .inr (0, [.int nu, .int pk, .ref h1, .ref h2, .int dc, .ref h3, .int rc_7, .ref h4, .ref h5])), (h1, .inl (cA, 7, .inl pr)), (h2, .inl (cA, 7, .inl ex)), (h3, .inl (cA, 360, .inl dv)), (h4, .inl (cA, 4096, .inl rt_7)), (h5, .inl (cA, 4096, .inl sp))] H := hP
        have hD : va_D A [(h0, .inr (0, [.int nu, .int pk, .ref h1, .ref h2, .int dc, .ref h3, .int rc_7, .ref h4, .ref h5])), (h1, .inl (cA, 7, .inl pr)), (h2, .inl (cA, 7, .inl ex)), (h3, .inl (cA, 360, .inl dv)), (h4, .inl (cA, 4096, .inl rt_7)), (h5, .inl (cA, 4096, .inl sp))] := hD
        refine lv_iinc (v := (x8 + 1)) (lv' := [(8, .int (x8 + 1)), (9, .int (sp x8.toNatClampNeg)), (0, .ref h0), (2, .int x2), (3, .int x3), (4, .int x4), (5, .int x5), (6, .int x6), (7, .int x7)]) hx hb dX0_joinRootsModuloPrime_130 hl (k := 8) rfl rfl (by decide) rfl (fun ls hl => ?_)
        refine lv_goto (tgt := 61) hx hb dX0_joinRootsModuloPrime_133 (by decide) ?_
        exact ih (x8 + 1) rc_7 rt_7 rc' rt' h _ _ hP hD hS _ (lv_sub hl [2, 3, 4, 5, 6, 7, 8, 0] rfl) K
def f_r_joinRootsModuloPrime (F : Nat) (rc : Int32) (rt sp : Nat → Int32) (p0 p1 p2 : Int32) : Option (Int32 × (Nat → Int32) × (Nat → Int32)) := b1 (f_r_residue F (Int32.toInt64 p0) p2) fun r1 => b1 (f_r_rootModuloPrime F r1 p2) fun r2 => b1 (f_r_residue F (Int32.toInt64 (-r2)) p2) fun r3 => b1 (f_r_invert F (Int32.toInt64 p1) p2) fun r4 => b2 (f_r_swapRows F rt sp) fun rt_5 sp_5 => if r2 = (-1) then some (0, rt_5, sp_5) else if r4 = (-1) then some (0, rt_5, sp_5) else b2 (l_r_joinRootsModuloPrime_61 F p1 p2 r2 r3 r4 rc sp_5 F 0 0 rt_5) fun rc_8 rt_8 => some (rc_8, rt_8, sp_5)
set_option maxHeartbeats 4000000 in
set_option maxRecDepth 100000 in
theorem c_r_joinRootsModuloPrime (l : Launch) (dC : Nat → ClassId) (dI : Nat → Nat → Nat) (sz F : Nat) (h0 h1 h2 h3 h4 h5 : Nat) (cA : ClassId) (nu pk dc rc : Int32) (pr ex dv rt sp : Nat → Int32) (p0 p1 p2 rc' : Int32) (rt' sp' : Nat → Int32) (h : f_r_joinRootsModuloPrime F rc rt sp p0 p1 p2 = some (rc', rt', sp')) : Met l yX0_joinRootsModuloPrime wsX0_joinRootsModuloPrime { frames := 5, cells := 0, slots := 0, locals := 127 } (rf_Pc (dC, dI) [(cA, .int)] [(h0, .inr (0, [.int nu, .int pk, .ref h1, .ref h2, .int dc, .ref h3, .int rc, .ref h4, .ref h5])), (h1, .inl (cA, 7, .inl pr)), (h2, .inl (cA, 7, .inl ex)), (h3, .inl (cA, 360, .inl dv)), (h4, .inl (cA, 4096, .inl rt)), (h5, .inl (cA, 4096, .inl sp))] sz [.ref h0, .int p0, .int p1, .int p2]) (va_Qv (fun u : Nat × Nat => True) (fun (u : Nat × Nat) t => va_P (dC, dI) vwCl [(h0, .inr (0, [.int nu, .int pk, .ref h1, .ref h2, .int dc, .ref h3, .int rc', .ref u.1, .ref u.2])), (h1, .inl (cA, 7, .inl pr)), (h2, .inl (cA, 7, .inl ex)), (h3, .inl (cA, 360, .inl dv)), (u.1, .inl (cA, 4096, .inl rt')), (u.2, .inl (cA, 4096, .inl sp'))] t.heap ∧ va_D (va_A [(h0, .inr (0, [.int nu, .int pk, .ref h1, .ref h2, .int dc, .ref h3, .int rc, .ref h4, .ref h5])), (h1, .inl (cA, 7, .inl pr)), (h2, .inl (cA, 7, .inl ex)), (h3, .inl (cA, 360, .inl dv)), (h4, .inl (cA, 4096, .inl rt)), (h5, .inl (cA, 4096, .inl sp))] sz) [(h0, .inr (0, [.int nu, .int pk, .ref h1, .ref h2, .int dc, .ref h3, .int rc', .ref u.1, .ref u.2])), (h1, .inl (cA, 7, .inl pr)), (h2, .inl (cA, 7, .inl ex)), (h3, .inl (cA, 360, .inl dv)), (u.1, .inl (cA, 4096, .inl rt')), (u.2, .inl (cA, 4096, .inl sp'))]) (va_A [(h0, .inr (0, [.int nu, .int pk, .ref h1, .ref h2, .int dc, .ref h3, .int rc, .ref h4, .ref h5])), (h1, .inl (cA, 7, .inl pr)), (h2, .inl (cA, 7, .inl ex)), (h3, .inl (cA, 360, .inl dv)), (h4, .inl (cA, 4096, .inl rt)), (h5, .inl (cA, 4096, .inl sp))] sz)) 0 0 (va_A [(h0, .inr (0, [.int nu, .int pk, .ref h1, .ref h2, .int dc, .ref h3, .int rc, .ref h4, .ref h5])), (h1, .inl (cA, 7, .inl pr)), (h2, .inl (cA, 7, .inl ex)), (h3, .inl (cA, 360, .inl dv)), (h4, .inl (cA, 4096, .inl rt)), (h5, .inl (cA, 4096, .inl sp))] sz) := by
  refine Met.ofW (cc := cX0_joinRootsModuloPrime) (maxL := 10) (ret := none) (by decide) rfl ?_
  intro p e s m args below meth c s₁ B hml hv
  obtain ⟨rfl, hsz, hP, hK, hD0⟩ := hv
  have hx := B.exec
  have hb := B.bytes
  have hr := B.returns
  have hts := atoms_spec (ws := wsX0_joinRootsModuloPrime) B.pre
  have hown : s.vm.findClass RX0 = some m.cls := findClass_of_methodNamed B.named
  have hlocks := B.notSynchronized
  subst hsz
  have hD := hD0.self (sz := s.heap.size)
  generalize hAe : va_A [(h0, .inr (0, [.int nu, .int pk, .ref h1, .ref h2, .int dc, .ref h3, .int rc, .ref h4, .ref h5])), (h1, .inl (cA, 7, .inl pr)), (h2, .inl (cA, 7, .inl ex)), (h3, .inl (cA, 360, .inl dv)), (h4, .inl (cA, 4096, .inl rt)), (h5, .inl (cA, 4096, .inl sp))] s.heap.size = A at hD ⊢
  have hA : ∀ q : Nat, s.heap.size ≤ q → A q := fun q h => by rw [← hAe]; exact Or.inr h
  have hS : va_S A s.heap s.heap [] := va_S.rf
  have hl := lv_entry ([.ref h0, .int p0, .int p1, .int p2]) (n := 10) (Nat.le_of_ble_eq_true rfl)
  rw [lg_entry_eq]
  generalize (lg_sl ([.ref h0, .int p0, .int p1, .int p2]) ++ List.replicate (10 - (lg_sl ([.ref h0, .int p0, .int p1, .int p2])).length) Slot.unset).toArray = ls at hl ⊢
  have hl : lv_has ls 10 [(0, .ref h0), (1, .int p0), (2, .int p1), (3, .int p2)] := hl
  unfold f_r_joinRootsModuloPrime at h
  refine lv_iload_n hx hb dX0_joinRootsModuloPrime_0 rfl (lv_at hl 1 rfl) ?_
  refine lv_i2l (v := (Int32.toInt64 p0)) hx hb dX0_joinRootsModuloPrime_1 rfl ?_
  refine lv_iload_n hx hb dX0_joinRootsModuloPrime_2 rfl (lv_at hl 3 rfl) ?_
  obtain ⟨r1, hr1, h⟩ := rf_b1 h
  refine rf_ci (wn := (fun _ : Unit => [])) (wc := []) (wr := [(h0, .inr (0, [.int nu, .int pk, .ref h1, .ref h2, .int dc, .ref h3, .int rc, .ref h4, .ref h5])), (h1, .inl (cA, 7, .inl pr)), (h2, .inl (cA, 7, .inl ex)), (h3, .inl (cA, 360, .inl dv)), (h4, .inl (cA, 4096, .inl rt)), (h5, .inl (cA, 4096, .inl sp))]) hP hD hS hA [] [0, 1, 2, 3, 4, 5] rfl rfl (by decide) (by decide) (va_runS (As := [.long (Int32.toInt64 p0), .int p2]) (rest := []) ⟨hx, hb, hml, hown, hts⟩ (c_r_residue l dC dI _ F (Int32.toInt64 p0) p2 r1 hr1) (va_cwS 2 hts gX0_joinRootsModuloPrime_X0_residue rfl rfl rfl (by decide +kernel) ⟨Nat.le_of_ble_eq_true rfl, Nat.le_of_ble_eq_true rfl⟩) ⟨rf_blind, fun U hU hW => ⟨rfl, rf_pre (hP.sub (ws' := []) [] rfl) (hK.sub (tys' := []) [] rfl) (hD.sub (ws' := []) [] (by decide) rfl) U hU hW⟩⟩ rfl rfl hl.1 rfl (lv_room (Nat.le_of_ble_eq_true rfl)) dX0_joinRootsModuloPrime_3 ⟨Nat.zero_le _, Nat.zero_le _⟩) (fun r1' u H locs hw hP hD hS => ?_)
  subst hw
  have hP : va_P (dC, dI) vwCl [(h0, .inr (0, [.int nu, .int pk, .ref h1, .ref h2, .int dc, .ref h3, .int rc, .ref h4, .ref h5])), (h1, .inl (cA, 7, .inl pr)), (h2, .inl (cA, 7, .inl ex)), (h3, .inl (cA, 360, .inl dv)), (h4, .inl (cA, 4096, .inl rt)), (h5, .inl (cA, 4096, .inl sp))] H := hP
  have hD : va_D A [(h0, .inr (0, [.int nu, .int pk, .ref h1, .ref h2, .int dc, .ref h3, .int rc, .ref h4, .ref h5])), (h1, .inl (cA, 7, .inl pr)), (h2, .inl (cA, 7, .inl ex)), (h3, .inl (cA, 360, .inl dv)), (h4, .inl (cA, 4096, .inl rt)), (h5, .inl (cA, 4096, .inl sp))] := hD
  refine lv_iload_n hx hb dX0_joinRootsModuloPrime_6 rfl (lv_at hl 3 rfl) ?_
  obtain ⟨r2, hr2, h⟩ := rf_b1 h
  refine rf_ci (wn := (fun _ : Unit => [])) (wc := []) (wr := [(h0, .inr (0, [.int nu, .int pk, .ref h1, .ref h2, .int dc, .ref h3, .int rc, .ref h4, .ref h5])), (h1, .inl (cA, 7, .inl pr)), (h2, .inl (cA, 7, .inl ex)), (h3, .inl (cA, 360, .inl dv)), (h4, .inl (cA, 4096, .inl rt)), (h5, .inl (cA, 4096, .inl sp))]) hP hD hS hA [] [0, 1, 2, 3, 4, 5] rfl rfl (by decide) (by decide) (va_runS (As := [.int r1, .int p2]) (rest := []) ⟨hx, hb, hml, hown, hts⟩ (c_r_rootModuloPrime l dC dI _ F r1 p2 r2 hr2) (va_cwS 2 hts gX0_joinRootsModuloPrime_X0_rootModuloPrime rfl rfl rfl (by decide +kernel) ⟨Nat.le_of_ble_eq_true rfl, Nat.le_of_ble_eq_true rfl⟩) ⟨rf_blind, fun U hU hW => ⟨rfl, rf_pre (hP.sub (ws' := []) [] rfl) (hK.sub (tys' := []) [] rfl) (hD.sub (ws' := []) [] (by decide) rfl) U hU hW⟩⟩ rfl rfl hl.1 rfl (lv_room (Nat.le_of_ble_eq_true rfl)) dX0_joinRootsModuloPrime_7 ⟨Nat.zero_le _, Nat.zero_le _⟩) (fun r2' u H locs hw hP hD hS => ?_)
  subst hw
  have hP : va_P (dC, dI) vwCl [(h0, .inr (0, [.int nu, .int pk, .ref h1, .ref h2, .int dc, .ref h3, .int rc, .ref h4, .ref h5])), (h1, .inl (cA, 7, .inl pr)), (h2, .inl (cA, 7, .inl ex)), (h3, .inl (cA, 360, .inl dv)), (h4, .inl (cA, 4096, .inl rt)), (h5, .inl (cA, 4096, .inl sp))] H := hP
  have hD : va_D A [(h0, .inr (0, [.int nu, .int pk, .ref h1, .ref h2, .int dc, .ref h3, .int rc, .ref h4, .ref h5])), (h1, .inl (cA, 7, .inl pr)), (h2, .inl (cA, 7, .inl ex)), (h3, .inl (cA, 360, .inl dv)), (h4, .inl (cA, 4096, .inl rt)), (h5, .inl (cA, 4096, .inl sp))] := hD
  refine lv_istore (lv' := [(4, .int r2), (0, .ref h0), (1, .int p0), (2, .int p1), (3, .int p2)]) hx hb dX0_joinRootsModuloPrime_10 hl (by decide) rfl (fun ls hl => ?_)
  refine lv_iload hx hb dX0_joinRootsModuloPrime_12 (lv_at hl 0 rfl) ?_
  refine lv_ineg hx hb dX0_joinRootsModuloPrime_14 ?_
  refine lv_i2l (v := (Int32.toInt64 (-r2))) hx hb dX0_joinRootsModuloPrime_15 rfl ?_
  refine lv_iload_n hx hb dX0_joinRootsModuloPrime_16 rfl (lv_at hl 4 rfl) ?_
  obtain ⟨r3, hr3, h⟩ := rf_b1 h
  refine rf_ci (wn := (fun _ : Unit => [])) (wc := []) (wr := [(h0, .inr (0, [.int nu, .int pk, .ref h1, .ref h2, .int dc, .ref h3, .int rc, .ref h4, .ref h5])), (h1, .inl (cA, 7, .inl pr)), (h2, .inl (cA, 7, .inl ex)), (h3, .inl (cA, 360, .inl dv)), (h4, .inl (cA, 4096, .inl rt)), (h5, .inl (cA, 4096, .inl sp))]) hP hD hS hA [] [0, 1, 2, 3, 4, 5] rfl rfl (by decide) (by decide) (va_runS (As := [.long (Int32.toInt64 (-r2)), .int p2]) (rest := []) ⟨hx, hb, hml, hown, hts⟩ (c_r_residue l dC dI _ F (Int32.toInt64 (-r2)) p2 r3 hr3) (va_cwS 2 hts gX0_joinRootsModuloPrime_X0_residue rfl rfl rfl (by decide +kernel) ⟨Nat.le_of_ble_eq_true rfl, Nat.le_of_ble_eq_true rfl⟩) ⟨rf_blind, fun U hU hW => ⟨rfl, rf_pre (hP.sub (ws' := []) [] rfl) (hK.sub (tys' := []) [] rfl) (hD.sub (ws' := []) [] (by decide) rfl) U hU hW⟩⟩ rfl rfl hl.1 rfl (lv_room (Nat.le_of_ble_eq_true rfl)) dX0_joinRootsModuloPrime_17 ⟨Nat.zero_le _, Nat.zero_le _⟩) (fun r3' u H locs hw hP hD hS => ?_)
  subst hw
  have hP : va_P (dC, dI) vwCl [(h0, .inr (0, [.int nu, .int pk, .ref h1, .ref h2, .int dc, .ref h3, .int rc, .ref h4, .ref h5])), (h1, .inl (cA, 7, .inl pr)), (h2, .inl (cA, 7, .inl ex)), (h3, .inl (cA, 360, .inl dv)), (h4, .inl (cA, 4096, .inl rt)), (h5, .inl (cA, 4096, .inl sp))] H := hP
  have hD : va_D A [(h0, .inr (0, [.int nu, .int pk, .ref h1, .ref h2, .int dc, .ref h3, .int rc, .ref h4, .ref h5])), (h1, .inl (cA, 7, .inl pr)), (h2, .inl (cA, 7, .inl ex)), (h3, .inl (cA, 360, .inl dv)), (h4, .inl (cA, 4096, .inl rt)), (h5, .inl (cA, 4096, .inl sp))] := hD
  refine lv_istore (lv' := [(5, .int r3), (4, .int r2), (0, .ref h0), (1, .int p0), (2, .int p1), (3, .int p2)]) hx hb dX0_joinRootsModuloPrime_20 hl (by decide) rfl (fun ls hl => ?_)
  refine lv_iload_n hx hb dX0_joinRootsModuloPrime_22 rfl (lv_at hl 4 rfl) ?_
  refine lv_i2l (v := (Int32.toInt64 p1)) hx hb dX0_joinRootsModuloPrime_23 rfl ?_
  refine lv_iload_n hx hb dX0_joinRootsModuloPrime_24 rfl (lv_at hl 5 rfl) ?_
  obtain ⟨r4, hr4, h⟩ := rf_b1 h
  refine rf_ci (wn := (fun _ : Unit => [])) (wc := []) (wr := [(h0, .inr (0, [.int nu, .int pk, .ref h1, .ref h2, .int dc, .ref h3, .int rc, .ref h4, .ref h5])), (h1, .inl (cA, 7, .inl pr)), (h2, .inl (cA, 7, .inl ex)), (h3, .inl (cA, 360, .inl dv)), (h4, .inl (cA, 4096, .inl rt)), (h5, .inl (cA, 4096, .inl sp))]) hP hD hS hA [] [0, 1, 2, 3, 4, 5] rfl rfl (by decide) (by decide) (va_runS (As := [.long (Int32.toInt64 p1), .int p2]) (rest := []) ⟨hx, hb, hml, hown, hts⟩ (c_r_invert l dC dI _ F (Int32.toInt64 p1) p2 r4 hr4) (va_cwS 2 hts gX0_joinRootsModuloPrime_X0_invert rfl rfl rfl (by decide +kernel) ⟨Nat.le_of_ble_eq_true rfl, Nat.le_of_ble_eq_true rfl⟩) ⟨rf_blind, fun U hU hW => ⟨rfl, rf_pre (hP.sub (ws' := []) [] rfl) (hK.sub (tys' := []) [] rfl) (hD.sub (ws' := []) [] (by decide) rfl) U hU hW⟩⟩ rfl rfl hl.1 rfl (lv_room (Nat.le_of_ble_eq_true rfl)) dX0_joinRootsModuloPrime_25 ⟨Nat.zero_le _, Nat.zero_le _⟩) (fun r4' u H locs hw hP hD hS => ?_)
  subst hw
  have hP : va_P (dC, dI) vwCl [(h0, .inr (0, [.int nu, .int pk, .ref h1, .ref h2, .int dc, .ref h3, .int rc, .ref h4, .ref h5])), (h1, .inl (cA, 7, .inl pr)), (h2, .inl (cA, 7, .inl ex)), (h3, .inl (cA, 360, .inl dv)), (h4, .inl (cA, 4096, .inl rt)), (h5, .inl (cA, 4096, .inl sp))] H := hP
  have hD : va_D A [(h0, .inr (0, [.int nu, .int pk, .ref h1, .ref h2, .int dc, .ref h3, .int rc, .ref h4, .ref h5])), (h1, .inl (cA, 7, .inl pr)), (h2, .inl (cA, 7, .inl ex)), (h3, .inl (cA, 360, .inl dv)), (h4, .inl (cA, 4096, .inl rt)), (h5, .inl (cA, 4096, .inl sp))] := hD
  refine lv_istore (lv' := [(6, .int r4), (5, .int r3), (4, .int r2), (0, .ref h0), (1, .int p0), (2, .int p1), (3, .int p2)]) hx hb dX0_joinRootsModuloPrime_28 hl (by decide) rfl (fun ls hl => ?_)
  refine lv_aload_n hx hb dX0_joinRootsModuloPrime_30 rfl (lv_at hl 3 rfl) ?_
  refine va_get (D := (dC, dI)) (ci := 0) (v := .int rc) (C := RX0) (T := TX0) (N := 9) hx hb hts (fun _ h => List.mem_cons_of_mem _ (List.mem_append_right _ h)) hown hK hP 0 rfl rfl 6 (by decide) (hts _ (List.mem_of_getElem? (i := 28) rfl)) (fun _ h9 => h9) rfl dX0_joinRootsModuloPrime_31 ?_
  refine lv_istore (lv' := [(7, .int rc), (6, .int r4), (5, .int r3), (4, .int r2), (0, .ref h0), (1, .int p0), (2, .int p1), (3, .int p2)]) hx hb dX0_joinRootsModuloPrime_34 hl (by decide) rfl (fun ls hl => ?_)
  refine lv_aload_n hx hb dX0_joinRootsModuloPrime_36 rfl (lv_at hl 4 rfl) ?_
  obtain ⟨rt_5, sp_5, hr5, h⟩ := rf_b2 h
  refine rf_cv (wn := (fun u : Nat × Nat => [(h0, .inr (0, [.int nu, .int pk, .ref h1, .ref h2, .int dc, .ref h3, .int rc, .ref u.1, .ref u.2])), (h1, .inl (cA, 7, .inl pr)), (h2, .inl (cA, 7, .inl ex)), (h3, .inl (cA, 360, .inl dv)), (u.1, .inl (cA, 4096, .inl rt_5)), (u.2, .inl (cA, 4096, .inl sp_5))])) (wc := [(h0, .inr (0, [.int nu, .int pk, .ref h1, .ref h2, .int dc, .ref h3, .int rc, .ref h4, .ref h5])), (h1, .inl (cA, 7, .inl pr)), (h2, .inl (cA, 7, .inl ex)), (h3, .inl (cA, 360, .inl dv)), (h4, .inl (cA, 4096, .inl rt)), (h5, .inl (cA, 4096, .inl sp))]) (wr := []) hP hD hS hA [0, 1, 2, 3, 4, 5] [] rfl rfl (by decide) (by decide) (va_runV (As := []) (rest := []) ⟨hx, hb, hml, hown, hts⟩ (c_r_swapRows l dC dI _ F h0 h1 h2 h3 h4 h5 cA nu pk dc rc pr ex dv rt sp rt_5 sp_5 hr5) (cwV 0 hts gX0_joinRootsModuloPrime_X0_swapRows rfl rfl rfl (by decide +kernel) ⟨Nat.le_of_ble_eq_true rfl, Nat.le_of_ble_eq_true rfl⟩) ⟨rf_blind, va_recv hK hP (ci := 0) (q0 := 0) rfl rfl, fun U hU hW => ⟨rfl, rf_pre (hP.sub (ws' := [(h0, .inr (0, [.int nu, .int pk, .ref h1, .ref h2, .int dc, .ref h3, .int rc, .ref h4, .ref h5])), (h1, .inl (cA, 7, .inl pr)), (h2, .inl (cA, 7, .inl ex)), (h3, .inl (cA, 360, .inl dv)), (h4, .inl (cA, 4096, .inl rt)), (h5, .inl (cA, 4096, .inl sp))]) [0, 1, 2, 3, 4, 5] rfl) (hK.sub (tys' := [(cA, .int)]) [0] rfl) (hD.sub (ws' := [(h0, .inr (0, [.int nu, .int pk, .ref h1, .ref h2, .int dc, .ref h3, .int rc, .ref h4, .ref h5])), (h1, .inl (cA, 7, .inl pr)), (h2, .inl (cA, 7, .inl ex)), (h3, .inl (cA, 360, .inl dv)), (h4, .inl (cA, 4096, .inl rt)), (h5, .inl (cA, 4096, .inl sp))]) [0, 1, 2, 3, 4, 5] (by decide) rfl) U hU hW⟩⟩ rfl rfl hl.1 rfl (lv_room (Nat.le_of_ble_eq_true rfl)) dX0_joinRootsModuloPrime_37 ⟨Nat.zero_le _, Nat.zero_le _⟩) (fun u H locs hw hP hD hS => ?_)
  obtain ⟨a4_5, a5_5⟩ := u
  have hP : va_P (dC, dI) vwCl [(h0, .inr (0, [.int nu, .int pk, .ref h1, .ref h2, .int dc, .ref h3, .int rc, .ref a4_5, .ref a5_5])), (h1, .inl (cA, 7, .inl pr)), (h2, .inl (cA, 7, .inl ex)), (h3, .inl (cA, 360, .inl dv)), (a4_5, .inl (cA, 4096, .inl rt_5)), (a5_5, .inl (cA, 4096, .inl sp_5))] H := hP
  have hD : va_D A [(h0, .inr (0, [.int nu, .int pk, .ref h1, .ref h2, .int dc, .ref h3, .int rc, .ref a4_5, .ref a5_5])), (h1, .inl (cA, 7, .inl pr)), (h2, .inl (cA, 7, .inl ex)), (h3, .inl (cA, 360, .inl dv)), (a4_5, .inl (cA, 4096, .inl rt_5)), (a5_5, .inl (cA, 4096, .inl sp_5))] := hD
  refine lv_aload_n hx hb dX0_joinRootsModuloPrime_40 rfl (lv_at hl 4 rfl) ?_
  refine lv_iconst (v := 0) hx hb dX0_joinRootsModuloPrime_41 (by decide) ?_
  refine va_put (D := (dC, dI)) (ci := 0) (v := .int 0) (ty := .int) (C := RX0) (T := TX0) (N := 9) hx hb hts (fun _ h => List.mem_cons_of_mem _ (List.mem_append_right _ h)) tyX0 tyX0_ok nX0 hown hK hP hD hS 0 rfl rfl 6 (by decide) (hts _ (List.mem_of_getElem? (i := 28) rfl)) (fun _ h9 => h9) rfl (by decide +kernel) rfl rfl (Nat.le_of_ble_eq_true rfl) dX0_joinRootsModuloPrime_42 (fun H locs hP hD hS => ?_)
  have hP : va_P (dC, dI) vwCl [(h0, .inr (0, [.int nu, .int pk, .ref h1, .ref h2, .int dc, .ref h3, .int 0, .ref a4_5, .ref a5_5])), (h1, .inl (cA, 7, .inl pr)), (h2, .inl (cA, 7, .inl ex)), (h3, .inl (cA, 360, .inl dv)), (a4_5, .inl (cA, 4096, .inl rt_5)), (a5_5, .inl (cA, 4096, .inl sp_5))] H := hP
  have hD : va_D A [(h0, .inr (0, [.int nu, .int pk, .ref h1, .ref h2, .int dc, .ref h3, .int 0, .ref a4_5, .ref a5_5])), (h1, .inl (cA, 7, .inl pr)), (h2, .inl (cA, 7, .inl ex)), (h3, .inl (cA, 360, .inl dv)), (a4_5, .inl (cA, 4096, .inl rt_5)), (a5_5, .inl (cA, 4096, .inl sp_5))] := hD
  refine lv_iload hx hb dX0_joinRootsModuloPrime_45 (lv_at hl 3 rfl) ?_
  refine lv_iconst (v := (-1)) hx hb dX0_joinRootsModuloPrime_47 (by decide) ?_
  refine lv_icmp_eq (tgt := 57) hx hb dX0_joinRootsModuloPrime_48 (by decide) (fun c6 => ?_) (fun c6 => ?_)
  · rw [if_pos c6] at h
    cases h
    exact W.vret hx hb hr (fun t ht hW => ⟨⟨(a4_5, a5_5), rfl, trivial, by rw [ht]; exact hP, hD⟩, hS.F ht⟩) hS.2.2 dX0_joinRootsModuloPrime_57
  · rw [if_neg c6] at h
    refine lv_iload hx hb dX0_joinRootsModuloPrime_51 (lv_at hl 1 rfl) ?_
    refine lv_iconst (v := (-1)) hx hb dX0_joinRootsModuloPrime_53 (by decide) ?_
    refine lv_icmp_ne (tgt := 58) hx hb dX0_joinRootsModuloPrime_54 (by decide) (fun c7 => ?_) (fun c7 => ?_)
    · rw [if_neg c7] at h
      refine lv_iconst (v := 0) hx hb dX0_joinRootsModuloPrime_58 (by decide) ?_
      refine lv_istore (lv' := [(8, .int 0), (7, .int rc), (6, .int r4), (5, .int r3), (4, .int r2), (0, .ref h0), (1, .int p0), (2, .int p1), (3, .int p2)]) hx hb dX0_joinRootsModuloPrime_59 hl (by decide) rfl (fun ls hl => ?_)
      obtain ⟨rc_8, rt_8, hr8, h⟩ := rf_b2 h
      refine w_r_joinRootsModuloPrime_61 F hx hb hml hown hts hA h0 h1 h2 h3 a4_5 a5_5 cA hK p1 p2 r2 r3 r4 rc nu pk dc pr ex dv sp_5 F 0 0 rt_5 rc_8 rt_8 hr8 _ _ hP hD hS _ (lv_sub hl [5, 7, 8, 4, 3, 2, 1, 0] rfl) (fun H locs ls hP hD hS hl => ?_)
      cases h
      exact W.vret hx hb hr (fun t ht hW => ⟨⟨(a4_5, a5_5), rfl, trivial, by rw [ht]; exact hP, hD⟩, hS.F ht⟩) hS.2.2 dX0_joinRootsModuloPrime_136
    · rw [if_pos c7] at h
      cases h
      exact W.vret hx hb hr (fun t ht hW => ⟨⟨(a4_5, a5_5), rfl, trivial, by rw [ht]; exact hP, hD⟩, hS.F ht⟩) hS.2.2 dX0_joinRootsModuloPrime_57
def f_r_excess (F : Nat) (p0 p1 p2 p3 : Int32) : Option (Int32) := if 1 ≤ p2 then if (Int32.toInt64 p2) = 0 then none else b1 (f_r_residue F ((((Int32.toInt64 p0) * (Int32.toInt64 p0)) - (Int32.toInt64 p1)) / (Int32.toInt64 p2)) p3) fun r3 => some r3 else some 0
set_option maxHeartbeats 4000000 in
set_option maxRecDepth 100000 in
theorem c_r_excess (l : Launch) (dC : Nat → ClassId) (dI : Nat → Nat → Nat) (sz F : Nat)  (p0 p1 p2 p3 rv : Int32) (h : f_r_excess F p0 p1 p2 p3 = some rv) : Met l yX0_excess wsX0_excess { frames := 1, cells := 0, slots := 0, locals := 24 } (rf_Pc (dC, dI) [] [] sz [.int p0, .int p1, .int p2, .int p3]) (va_Qi (fun (r : Int32) (_ : Unit) => rv = r) (fun (_ : Unit) t => va_P (dC, dI) vwCl [] t.heap ∧ va_D (va_A [] sz) []) (va_A [] sz)) 0 0 (va_A [] sz) := by
  refine Met.ofW (cc := cX0_excess) (maxL := 4) (ret := (some .int)) (by decide) rfl ?_
  intro p e s m args below meth c s₁ B hml hv
  obtain ⟨rfl, hsz, hP, hK, hD0⟩ := hv
  have hx := B.exec
  have hb := B.bytes
  have hr := B.returns
  have hts := atoms_spec (ws := wsX0_excess) B.pre
  have hown : s.vm.findClass RX0 = some m.cls := findClass_of_methodNamed B.named
  have hlocks := B.notSynchronized
  subst hsz
  have hD := hD0.self (sz := s.heap.size)
  generalize hAe : va_A [] s.heap.size = A at hD ⊢
  have hA : ∀ q : Nat, s.heap.size ≤ q → A q := fun q h => by rw [← hAe]; exact Or.inr h
  have hS : va_S A s.heap s.heap [] := va_S.rf
  have hl := lv_entry ([.int p0, .int p1, .int p2, .int p3]) (n := 4) (Nat.le_of_ble_eq_true rfl)
  rw [lg_entry_eq]
  generalize (lg_sl ([.int p0, .int p1, .int p2, .int p3]) ++ List.replicate (4 - (lg_sl ([.int p0, .int p1, .int p2, .int p3])).length) Slot.unset).toArray = ls at hl ⊢
  have hl : lv_has ls 4 [(0, .int p0), (1, .int p1), (2, .int p2), (3, .int p3)] := hl
  unfold f_r_excess at h
  refine lv_iload_n hx hb dX0_excess_0 rfl (lv_at hl 2 rfl) ?_
  refine lv_iconst (v := 1) hx hb dX0_excess_1 (by decide) ?_
  refine lv_icmp_ge (tgt := 7) hx hb dX0_excess_2 (by decide) (fun c1 => ?_) (fun c1 => ?_)
  · rw [if_pos c1] at h
    refine lv_iload_n hx hb dX0_excess_7 rfl (lv_at hl 0 rfl) ?_
    refine lv_i2l (v := (Int32.toInt64 p0)) hx hb dX0_excess_8 rfl ?_
    refine lv_iload_n hx hb dX0_excess_9 rfl (lv_at hl 0 rfl) ?_
    refine lv_i2l (v := (Int32.toInt64 p0)) hx hb dX0_excess_10 rfl ?_
    refine lv_lmul hx hb dX0_excess_11 ?_
    refine lv_iload_n hx hb dX0_excess_12 rfl (lv_at hl 1 rfl) ?_
    refine lv_i2l (v := (Int32.toInt64 p1)) hx hb dX0_excess_13 rfl ?_
    refine lv_lsub hx hb dX0_excess_14 ?_
    refine lv_iload_n hx hb dX0_excess_15 rfl (lv_at hl 2 rfl) ?_
    refine lv_i2l (v := (Int32.toInt64 p2)) hx hb dX0_excess_16 rfl ?_
    obtain ⟨g2, h⟩ := rf_gd h
    refine lv_ldiv hx hb dX0_excess_17 g2 ?_
    refine lv_iload_n hx hb dX0_excess_18 rfl (lv_at hl 3 rfl) ?_
    obtain ⟨r3, hr3, h⟩ := rf_b1 h
    refine rf_ci (wn := (fun _ : Unit => [])) (wc := []) (wr := []) hP hD hS hA [] [] rfl rfl (by decide) (by decide) (va_runS (As := [.long ((((Int32.toInt64 p0) * (Int32.toInt64 p0)) - (Int32.toInt64 p1)) / (Int32.toInt64 p2)), .int p3]) (rest := []) ⟨hx, hb, hml, hown, hts⟩ (c_r_residue l dC dI _ F ((((Int32.toInt64 p0) * (Int32.toInt64 p0)) - (Int32.toInt64 p1)) / (Int32.toInt64 p2)) p3 r3 hr3) (va_cwS 2 hts gX0_excess_X0_residue rfl rfl rfl (by decide +kernel) ⟨Nat.le_of_ble_eq_true rfl, Nat.le_of_ble_eq_true rfl⟩) ⟨rf_blind, fun U hU hW => ⟨rfl, rf_pre (hP.sub (ws' := []) [] rfl) (hK.sub (tys' := []) [] rfl) (hD.sub (ws' := []) [] (by decide) rfl) U hU hW⟩⟩ rfl rfl hl.1 rfl (lv_room (Nat.le_of_ble_eq_true rfl)) dX0_excess_19 ⟨Nat.zero_le _, Nat.zero_le _⟩) (fun r3' u H locs hw hP hD hS => ?_)
    subst hw
    have hP : va_P (dC, dI) vwCl [] H := hP
    have hD : va_D A [] := hD
    cases h
    exact W.iret hx hb hr (fun t ht hW => ⟨⟨_, (), rfl, rfl, by rw [ht]; exact hP, hD⟩, hS.F ht⟩) hS.2.2 dX0_excess_22
  · rw [if_neg c1] at h
    refine lv_iconst (v := 0) hx hb dX0_excess_5 (by decide) ?_
    cases h
    exact W.iret hx hb hr (fun t ht hW => ⟨⟨_, (), rfl, rfl, by rw [ht]; exact hP, hD⟩, hS.F ht⟩) hS.2.2 dX0_excess_6
def l_r_liftByAll_72 (F : Nat) (x2 x4 x5 : Int32) : Nat → Int32 → Int32 → (Nat → Int32) → Option (Int32 × (Nat → Int32))
  | 0, _, _, _ => none
  | n + 1, x6, rc, rt => if x4 ≤ x6 then some (rc, rt) else if x6.toInt < 0 ∨ (4096 : Int) ≤ x6.toInt then none else b2 (f_r_addRoot F rc rt ((rt x6.toNatClampNeg) + (x5 * x2))) fun rc_3 rt_3 => l_r_liftByAll_72 F x2 x4 x5 n (x6 + 1) rc_3 rt_3
set_option maxHeartbeats 4000000 in
set_option maxRecDepth 100000 in
theorem w_r_liftByAll_72 {p : Program} {l : Launch} {e : Env} {s : State} {m : MethodId} {args : Array Value} {below : List Frame} {meth : Method} {c : Code} {A : Nat → Prop} {Q : State → Prop} {dC : Nat → ClassId} {dI : Nat → Nat → Nat} (F : Nat) (hx : p.tables.exec = Jvm.exec) (hb : c.code = cX0_liftByAll) (hml : c.maxLocals = 7) (hown : s.vm.findClass RX0 = some m.cls) (hts : ∀ w ∈ wsX0_liftByAll, w.before args s = true) (hA : ∀ q, s.heap.size ≤ q → A q) (h0 h1 h2 h3 h4 h5 : Nat) (cA : ClassId) (hK : va_K (dC, dI) vwCl [(cA, .int)] s) (x2 x4 x5 x3 nu pk dc : Int32) (pr ex dv sp : Nat → Int32) :
    ∀ (n : Nat) (x6 rc : Int32) (rt : Nat → Int32) (rc' : Int32) (rt' : Nat → Int32), l_r_liftByAll_72 F x2 x4 x5 n x6 rc rt = some (rc', rt') → ∀ (H : Heap) (locs : List Loc), va_P (dC, dI) vwCl [(h0, .inr (0, [.int nu, .int pk, .ref h1, .ref h2, .int dc, .ref h3, .int rc, .ref h4, .ref h5])), (h1, .inl (cA, 7, .inl pr)), (h2, .inl (cA, 7, .inl ex)), (h3, .inl (cA, 360, .inl dv)), (h4, .inl (cA, 4096, .inl rt)), (h5, .inl (cA, 4096, .inl sp))] H → va_D A [(h0, .inr (0, [.int nu, .int pk, .ref h1, .ref h2, .int dc, .ref h3, .int rc, .ref h4, .ref h5])), (h1, .inl (cA, 7, .inl pr)), (h2, .inl (cA, 7, .inl ex)), (h3, .inl (cA, 360, .inl dv)), (h4, .inl (cA, 4096, .inl rt)), (h5, .inl (cA, 4096, .inl sp))] → va_S A s.heap H locs → ∀ ls : Array Slot, lv_has ls 7 [(0, .ref h0), (2, .int x2), (3, .int x3), (4, .int x4), (5, .int x5), (6, .int x6)] → (∀ (H : Heap) (locs : List Loc) (ls : Array Slot), va_P (dC, dI) vwCl [(h0, .inr (0, [.int nu, .int pk, .ref h1, .ref h2, .int dc, .ref h3, .int rc', .ref h4, .ref h5])), (h1, .inl (cA, 7, .inl pr)), (h2, .inl (cA, 7, .inl ex)), (h3, .inl (cA, 360, .inl dv)), (h4, .inl (cA, 4096, .inl rt')), (h5, .inl (cA, 4096, .inl sp))] H → va_D A [(h0, .inr (0, [.int nu, .int pk, .ref h1, .ref h2, .int dc, .ref h3, .int rc', .ref h4, .ref h5])), (h1, .inl (cA, 7, .inl pr)), (h2, .inl (cA, 7, .inl ex)), (h3, .inl (cA, 360, .inl dv)), (h4, .inl (cA, 4096, .inl rt')), (h5, .inl (cA, 4096, .inl sp))] → va_S A s.heap H locs → lv_has ls 7 [(0, .ref h0), (2, .int x2), (3, .int x3), (4, .int x4), (5, .int x5)] → W p l e { frames := 2, cells := 0, slots := 0, locals := 47 } s m args below meth c H locs 0 0 Q (F0 m 101 ls [])) → W p l e { frames := 2, cells := 0, slots := 0, locals := 47 } s m args below meth c H locs 0 0 Q (F0 m 72 ls []) := by
  intro n
  induction n with
  | zero => intro x6 rc rt rc' rt' h; exact nomatch (show (none : Option _) = some _ from h)
  | succ n ih =>
    intro x6 rc rt rc' rt' h H locs hP hD hS ls hl K
    rw [l_r_liftByAll_72] at h
    refine lv_iload hx hb dX0_liftByAll_72 (lv_at hl 5 rfl) ?_
    refine lv_iload hx hb dX0_liftByAll_74 (lv_at hl 3 rfl) ?_
    refine lv_icmp_ge (tgt := 101) hx hb dX0_liftByAll_76 (by decide) (fun c1 => ?_) (fun c1 => ?_)
    · rw [if_pos c1] at h
      cases h
      exact K _ _ _ hP hD hS (lv_sub hl [0, 1, 2, 3, 4] rfl)
    · rw [if_neg c1] at h
      refine lv_aload_n hx hb dX0_liftByAll_79 rfl (lv_at hl 0 rfl) ?_
      refine lv_aload_n hx hb dX0_liftByAll_80 rfl (lv_at hl 0 rfl) ?_
      refine va_get (D := (dC, dI)) (ci := 0) (v := .ref h4) (C := RX0) (T := TX0) (N := 9) hx hb hts (fun _ h => List.mem_cons_of_mem _ (List.mem_append_right _ h)) hown hK hP 0 rfl rfl 7 (by decide) (hts _ (List.mem_of_getElem? (i := 2) rfl)) (fun _ h9 => h9) rfl dX0_liftByAll_81 ?_
      refine lv_iload hx hb dX0_liftByAll_84 (lv_at hl 5 rfl) ?_
      obtain ⟨g2, h⟩ := rf_gd h
      refine va_iald hx hb hK hP 4 0 rfl rfl (rf_in g2) dX0_liftByAll_86 ?_
      refine lv_iload hx hb dX0_liftByAll_87 (lv_at hl 4 rfl) ?_
      refine lv_iload_n hx hb dX0_liftByAll_89 rfl (lv_at hl 1 rfl) ?_
      refine lv_imul hx hb dX0_liftByAll_90 ?_
      refine lv_iadd hx hb dX0_liftByAll_91 ?_
      obtain ⟨rc_3, rt_3, hr3, h⟩ := rf_b2 h
      refine rf_cv (wn := (fun _ : Unit => [(h0, .inr (0, [.int nu, .int pk, .ref h1, .ref h2, .int dc, .ref h3, .int rc_3, .ref h4, .ref h5])), (h1, .inl (cA, 7, .inl pr)), (h2, .inl (cA, 7, .inl ex)), (h3, .inl (cA, 360, .inl dv)), (h4, .inl (cA, 4096, .inl rt_3)), (h5, .inl (cA, 4096, .inl sp))])) (wc := [(h0, .inr (0, [.int nu, .int pk, .ref h1, .ref h2, .int dc, .ref h3, .int rc, .ref h4, .ref h5])), (h1, .inl (cA, 7, .inl pr)), (h2, .inl (cA, 7, .inl ex)), (h3, .inl (cA, 360, .inl dv)), (h4, .inl (cA, 4096, .inl rt)), (h5, .inl (cA, 4096, .inl sp))]) (wr := []) hP hD hS hA [0, 1, 2, 3, 4, 5] [] rfl rfl (by decide) (by decide) (va_runV (As := [.int ((rt x6.toNatClampNeg) + (x5 * x2))]) (rest := []) ⟨hx, hb, hml, hown, hts⟩ (c_r_addRoot l dC dI _ F h0 h1 h2 h3 h4 h5 cA nu pk dc rc pr ex dv rt sp ((rt x6.toNatClampNeg) + (x5 * x2)) rc_3 rt_3 hr3) (cwV 1 hts gX0_liftByAll_X0_addRoot rfl rfl rfl (by decide +kernel) ⟨Nat.le_of_ble_eq_true rfl, Nat.le_of_ble_eq_true rfl⟩) ⟨rf_blind, va_recv hK hP (ci := 0) (q0 := 0) rfl rfl, fun U hU hW => ⟨rfl, rf_pre (hP.sub (ws' := [(h0, .inr (0, [.int nu, .int pk, .ref h1, .ref h2, .int dc, .ref h3, .int rc, .ref h4, .ref h5])), (h1, .inl (cA, 7, .inl pr)), (h2, .inl (cA, 7, .inl ex)), (h3, .inl (cA, 360, .inl dv)), (h4, .inl (cA, 4096, .inl rt)), (h5, .inl (cA, 4096, .inl sp))]) [0, 1, 2, 3, 4, 5] rfl) (hK.sub (tys' := [(cA, .int)]) [0] rfl) (hD.sub (ws' := [(h0, .inr (0, [.int nu, .int pk, .ref h1, .ref h2, .int dc, .ref h3, .int rc, .ref h4, .ref h5])), (h1, .inl (cA, 7, .inl pr)), (h2, .inl (cA, 7, .inl ex)), (h3, .inl (cA, 360, .inl dv)), (h4, .inl (cA, 4096, .inl rt)), (h5, .inl (cA, 4096, .inl sp))]) [0, 1, 2, 3, 4, 5] (by decide) rfl) U hU hW⟩⟩ rfl rfl hl.1 rfl (lv_room (Nat.le_of_ble_eq_true rfl)) dX0_liftByAll_92 ⟨Nat.zero_le _, Nat.zero_le _⟩) (fun u H locs hw hP hD hS => ?_)
      have hP : va_P (dC, dI) vwCl [(h0, .inr (0, [.int nu, .int pk, .ref h1, .ref h2, .int dc, .ref h3, .int rc_3, .ref h4, .ref h5])), (h1, .inl (cA, 7, .inl pr)), (h2, .inl (cA, 7, .inl ex)), (h3, .inl (cA, 360, .inl dv)), (h4, .inl (cA, 4096, .inl rt_3)), (h5, .inl (cA, 4096, .inl sp))] H := hP
      have hD : va_D A [(h0, .inr (0, [.int nu, .int pk, .ref h1, .ref h2, .int dc, .ref h3, .int rc_3, .ref h4, .ref h5])), (h1, .inl (cA, 7, .inl pr)), (h2, .inl (cA, 7, .inl ex)), (h3, .inl (cA, 360, .inl dv)), (h4, .inl (cA, 4096, .inl rt_3)), (h5, .inl (cA, 4096, .inl sp))] := hD
      refine lv_iinc (v := (x6 + 1)) (lv' := [(6, .int (x6 + 1)), (0, .ref h0), (2, .int x2), (3, .int x3), (4, .int x4), (5, .int x5)]) hx hb dX0_liftByAll_95 hl (k := 5) rfl rfl (by decide) rfl (fun ls hl => ?_)
      refine lv_goto (tgt := 72) hx hb dX0_liftByAll_98 (by decide) ?_
      exact ih (x6 + 1) rc_3 rt_3 rc' rt' h _ _ hP hD hS _ (lv_sub hl [1, 2, 3, 4, 5, 0] rfl) K
def l_r_liftByAll_63 (F : Nat) (x2 x3 x4 : Int32) : Nat → Int32 → Int32 → (Nat → Int32) → Option (Int32 × (Nat → Int32))
  | 0, _, _, _ => none
  | n + 1, x5, rc, rt => if x3 ≤ x5 then some (rc, rt) else b2 (l_r_liftByAll_72 F x2 x4 x5 F 0 rc rt) fun rc_2 rt_2 => l_r_liftByAll_63 F x2 x3 x4 n (x5 + 1) rc_2 rt_2
set_option maxHeartbeats 4000000 in
set_option maxRecDepth 100000 in
theorem w_r_liftByAll_63 {p : Program} {l : Launch} {e : Env} {s : State} {m : MethodId} {args : Array Value} {below : List Frame} {meth : Method} {c : Code} {A : Nat → Prop} {Q : State → Prop} {dC : Nat → ClassId} {dI : Nat → Nat → Nat} (F : Nat) (hx : p.tables.exec = Jvm.exec) (hb : c.code = cX0_liftByAll) (hml : c.maxLocals = 7) (hown : s.vm.findClass RX0 = some m.cls) (hts : ∀ w ∈ wsX0_liftByAll, w.before args s = true) (hA : ∀ q, s.heap.size ≤ q → A q) (h0 h1 h2 h3 h4 h5 : Nat) (cA : ClassId) (hK : va_K (dC, dI) vwCl [(cA, .int)] s) (x2 x3 x4 nu pk dc : Int32) (pr ex dv sp : Nat → Int32) :
    ∀ (n : Nat) (x5 rc : Int32) (rt : Nat → Int32) (rc' : Int32) (rt' : Nat → Int32), l_r_liftByAll_63 F x2 x3 x4 n x5 rc rt = some (rc', rt') → ∀ (H : Heap) (locs : List Loc), va_P (dC, dI) vwCl [(h0, .inr (0, [.int nu, .int pk, .ref h1, .ref h2, .int dc, .ref h3, .int rc, .ref h4, .ref h5])), (h1, .inl (cA, 7, .inl pr)), (h2, .inl (cA, 7, .inl ex)), (h3, .inl (cA, 360, .inl dv)), (h4, .inl (cA, 4096, .inl rt)), (h5, .inl (cA, 4096, .inl sp))] H → va_D A [(h0, .inr (0, [.int nu, .int pk, .ref h1, .ref h2, .int dc, .ref h3, .int rc, .ref h4, .ref h5])), (h1, .inl (cA, 7, .inl pr)), (h2, .inl (cA, 7, .inl ex)), (h3, .inl (cA, 360, .inl dv)), (h4, .inl (cA, 4096, .inl rt)), (h5, .inl (cA, 4096, .inl sp))] → va_S A s.heap H locs → ∀ ls : Array Slot, lv_has ls 7 [(0, .ref h0), (2, .int x2), (3, .int x3), (4, .int x4), (5, .int x5)] → (∀ (H : Heap) (locs : List Loc) (ls : Array Slot), va_P (dC, dI) vwCl [(h0, .inr (0, [.int nu, .int pk, .ref h1, .ref h2, .int dc, .ref h3, .int rc', .ref h4, .ref h5])), (h1, .inl (cA, 7, .inl pr)), (h2, .inl (cA, 7, .inl ex)), (h3, .inl (cA, 360, .inl dv)), (h4, .inl (cA, 4096, .inl rt')), (h5, .inl (cA, 4096, .inl sp))] H → va_D A [(h0, .inr (0, [.int nu, .int pk, .ref h1, .ref h2, .int dc, .ref h3, .int rc', .ref h4, .ref h5])), (h1, .inl (cA, 7, .inl pr)), (h2, .inl (cA, 7, .inl ex)), (h3, .inl (cA, 360, .inl dv)), (h4, .inl (cA, 4096, .inl rt')), (h5, .inl (cA, 4096, .inl sp))] → va_S A s.heap H locs → lv_has ls 7 [] → W p l e { frames := 2, cells := 0, slots := 0, locals := 47 } s m args below meth c H locs 0 0 Q (F0 m 107 ls [])) → W p l e { frames := 2, cells := 0, slots := 0, locals := 47 } s m args below meth c H locs 0 0 Q (F0 m 63 ls []) := by
  intro n
  induction n with
  | zero => intro x5 rc rt rc' rt' h; exact nomatch (show (none : Option _) = some _ from h)
  | succ n ih =>
    intro x5 rc rt rc' rt' h H locs hP hD hS ls hl K
    rw [l_r_liftByAll_63] at h
    refine lv_iload hx hb dX0_liftByAll_63 (lv_at hl 4 rfl) ?_
    refine lv_iload_n hx hb dX0_liftByAll_65 rfl (lv_at hl 2 rfl) ?_
    refine lv_icmp_ge (tgt := 107) hx hb dX0_liftByAll_66 (by decide) (fun c1 => ?_) (fun c1 => ?_)
    · rw [if_pos c1] at h
      cases h
      exact K _ _ _ hP hD hS (lv_sub hl [] rfl)
    · rw [if_neg c1] at h
      refine lv_iconst (v := 0) hx hb dX0_liftByAll_69 (by decide) ?_
      refine lv_istore (lv' := [(6, .int 0), (0, .ref h0), (2, .int x2), (3, .int x3), (4, .int x4), (5, .int x5)]) hx hb dX0_liftByAll_70 hl (by decide) rfl (fun ls hl => ?_)
      obtain ⟨rc_2, rt_2, hr2, h⟩ := rf_b2 h
      refine w_r_liftByAll_72 F hx hb hml hown hts hA h0 h1 h2 h3 h4 h5 cA hK x2 x4 x5 x3 nu pk dc pr ex dv sp F 0 rc rt rc_2 rt_2 hr2 _ _ hP hD hS _ (lv_sub hl [1, 2, 3, 4, 5, 0] rfl) (fun H locs ls hP hD hS hl => ?_)
      refine lv_iinc (v := (x5 + 1)) (lv' := [(5, .int (x5 + 1)), (0, .ref h0), (2, .int x2), (3, .int x3), (4, .int x4)]) hx hb dX0_liftByAll_101 hl (k := 4) rfl rfl (by decide) rfl (fun ls hl => ?_)
      refine lv_goto (tgt := 63) hx hb dX0_liftByAll_104 (by decide) ?_
      exact ih (x5 + 1) rc_2 rt_2 rc' rt' h _ _ hP hD hS _ (lv_sub hl [1, 2, 3, 4, 0] rfl) K
def l_r_liftByAll_6 (F : Nat) (x1 x2 x3 rc : Int32) : Nat → Int32 → Int32 → (Nat → Int32) → Option (Int32 × (Nat → Int32))
  | 0, _, _, _ => none
  | n + 1, x4, x5, rt => if rc ≤ x5 then some (x4, rt) else if x5.toInt < 0 ∨ (4096 : Int) ≤ x5.toInt then none else b1 (f_r_excess F (rt x5.toNatClampNeg) x1 x2 x3) fun r3 => if r3 = 0 then if x5.toInt < 0 ∨ (4096 : Int) ≤ x5.toInt then none else if x4.toInt < 0 ∨ (4096 : Int) ≤ x4.toInt then none else l_r_liftByAll_6 F x1 x2 x3 rc n (x4 + 1) (x5 + 1) (upd rt x4.toNatClampNeg (rt x5.toNatClampNeg)) else l_r_liftByAll_6 F x1 x2 x3 rc n x4 (x5 + 1) rt
set_option maxHeartbeats 4000000 in
set_option maxRecDepth 100000 in
theorem w_r_liftByAll_6 {p : Program} {l : Launch} {e : Env} {s : State} {m : MethodId} {args : Array Value} {below : List Frame} {meth : Method} {c : Code} {A : Nat → Prop} {Q : State → Prop} {dC : Nat → ClassId} {dI : Nat → Nat → Nat} (F : Nat) (hx : p.tables.exec = Jvm.exec) (hb : c.code = cX0_liftByAll) (hml : c.maxLocals = 7) (hown : s.vm.findClass RX0 = some m.cls) (hts : ∀ w ∈ wsX0_liftByAll, w.before args s = true) (hA : ∀ q, s.heap.size ≤ q → A q) (h0 h1 h2 h3 h4 h5 : Nat) (cA : ClassId) (hK : va_K (dC, dI) vwCl [(cA, .int)] s) (x1 x2 x3 nu pk dc rc : Int32) (pr ex dv sp : Nat → Int32) :
    ∀ (n : Nat) (x4 x5 : Int32) (rt : Nat → Int32) (x4' : Int32) (rt' : Nat → Int32), l_r_liftByAll_6 F x1 x2 x3 rc n x4 x5 rt = some (x4', rt') → ∀ (H : Heap) (locs : List Loc), va_P (dC, dI) vwCl [(h0, .inr (0, [.int nu, .int pk, .ref h1, .ref h2, .int dc, .ref h3, .int rc, .ref h4, .ref h5])), (h1, .inl (cA, 7, .inl pr)), (h2, .inl (cA, 7, .inl ex)), (h3, .inl (cA, 360, .inl dv)), (h4, .inl (cA, 4096, .inl rt)), (h5, .inl (cA, 4096, .inl sp))] H → va_D A [(h0, .inr (0, [.int nu, .int pk, .ref h1, .ref h2, .int dc, .ref h3, .int rc, .ref h4, .ref h5])), (h1, .inl (cA, 7, .inl pr)), (h2, .inl (cA, 7, .inl ex)), (h3, .inl (cA, 360, .inl dv)), (h4, .inl (cA, 4096, .inl rt)), (h5, .inl (cA, 4096, .inl sp))] → va_S A s.heap H locs → ∀ ls : Array Slot, lv_has ls 7 [(0, .ref h0), (1, .int x1), (2, .int x2), (3, .int x3), (4, .int x4), (5, .int x5)] → (∀ (H : Heap) (locs : List Loc) (ls : Array Slot), va_P (dC, dI) vwCl [(h0, .inr (0, [.int nu, .int pk, .ref h1, .ref h2, .int dc, .ref h3, .int rc, .ref h4, .ref h5])), (h1, .inl (cA, 7, .inl pr)), (h2, .inl (cA, 7, .inl ex)), (h3, .inl (cA, 360, .inl dv)), (h4, .inl (cA, 4096, .inl rt')), (h5, .inl (cA, 4096, .inl sp))] H → va_D A [(h0, .inr (0, [.int nu, .int pk, .ref h1, .ref h2, .int dc, .ref h3, .int rc, .ref h4, .ref h5])), (h1, .inl (cA, 7, .inl pr)), (h2, .inl (cA, 7, .inl ex)), (h3, .inl (cA, 360, .inl dv)), (h4, .inl (cA, 4096, .inl rt')), (h5, .inl (cA, 4096, .inl sp))] → va_S A s.heap H locs → lv_has ls 7 [(0, .ref h0), (2, .int x2), (3, .int x3), (4, .int x4')] → W p l e { frames := 2, cells := 0, slots := 0, locals := 47 } s m args below meth c H locs 0 0 Q (F0 m 54 ls [])) → W p l e { frames := 2, cells := 0, slots := 0, locals := 47 } s m args below meth c H locs 0 0 Q (F0 m 6 ls []) := by
  intro n
  induction n with
  | zero => intro x4 x5 rt x4' rt' h; exact nomatch (show (none : Option _) = some _ from h)
  | succ n ih =>
    intro x4 x5 rt x4' rt' h H locs hP hD hS ls hl K
    rw [l_r_liftByAll_6] at h
    refine lv_iload hx hb dX0_liftByAll_6 (lv_at hl 5 rfl) ?_
    refine lv_aload_n hx hb dX0_liftByAll_8 rfl (lv_at hl 0 rfl) ?_
    refine va_get (D := (dC, dI)) (ci := 0) (v := .int rc) (C := RX0) (T := TX0) (N := 9) hx hb hts (fun _ h => List.mem_cons_of_mem _ (List.mem_append_right _ h)) hown hK hP 0 rfl rfl 6 (by decide) (hts _ (List.mem_of_getElem? (i := 1) rfl)) (fun _ h9 => h9) rfl dX0_liftByAll_9 ?_
    refine lv_icmp_ge (tgt := 54) hx hb dX0_liftByAll_12 (by decide) (fun c1 => ?_) (fun c1 => ?_)
    · rw [if_pos c1] at h
      cases h
      exact K _ _ _ hP hD hS (lv_sub hl [0, 2, 3, 4] rfl)
    · rw [if_neg c1] at h
      refine lv_aload_n hx hb dX0_liftByAll_15 rfl (lv_at hl 0 rfl) ?_
      refine va_get (D := (dC, dI)) (ci := 0) (v := .ref h4) (C := RX0) (T := TX0) (N := 9) hx hb hts (fun _ h => List.mem_cons_of_mem _ (List.mem_append_right _ h)) hown hK hP 0 rfl rfl 7 (by decide) (hts _ (List.mem_of_getElem? (i := 2) rfl)) (fun _ h9 => h9) rfl dX0_liftByAll_16 ?_
      refine lv_iload hx hb dX0_liftByAll_19 (lv_at hl 5 rfl) ?_
      obtain ⟨g2, h⟩ := rf_gd h
      refine va_iald hx hb hK hP 4 0 rfl rfl (rf_in g2) dX0_liftByAll_21 ?_
      refine lv_iload_n hx hb dX0_liftByAll_22 rfl (lv_at hl 1 rfl) ?_
      refine lv_iload_n hx hb dX0_liftByAll_23 rfl (lv_at hl 2 rfl) ?_
      refine lv_iload_n hx hb dX0_liftByAll_24 rfl (lv_at hl 3 rfl) ?_
      obtain ⟨r3, hr3, h⟩ := rf_b1 h
      refine rf_ci (wn := (fun _ : Unit => [])) (wc := []) (wr := [(h0, .inr (0, [.int nu, .int pk, .ref h1, .ref h2, .int dc, .ref h3, .int rc, .ref h4, .ref h5])), (h1, .inl (cA, 7, .inl pr)), (h2, .inl (cA, 7, .inl ex)), (h3, .inl (cA, 360, .inl dv)), (h4, .inl (cA, 4096, .inl rt)), (h5, .inl (cA, 4096, .inl sp))]) hP hD hS hA [] [0, 1, 2, 3, 4, 5] rfl rfl (by decide) (by decide) (va_runS (As := [.int (rt x5.toNatClampNeg), .int x1, .int x2, .int x3]) (rest := []) ⟨hx, hb, hml, hown, hts⟩ (c_r_excess l dC dI _ F (rt x5.toNatClampNeg) x1 x2 x3 r3 hr3) (va_cwS 4 hts gX0_liftByAll_X0_excess rfl rfl rfl (by decide +kernel) ⟨Nat.le_of_ble_eq_true rfl, Nat.le_of_ble_eq_true rfl⟩) ⟨rf_blind, fun U hU hW => ⟨rfl, rf_pre (hP.sub (ws' := []) [] rfl) (hK.sub (tys' := []) [] rfl) (hD.sub (ws' := []) [] (by decide) rfl) U hU hW⟩⟩ rfl rfl hl.1 rfl (lv_room (Nat.le_of_ble_eq_true rfl)) dX0_liftByAll_25 ⟨Nat.zero_le _, Nat.zero_le _⟩) (fun r3' u H locs hw hP hD hS => ?_)
      subst hw
      have hP : va_P (dC, dI) vwCl [(h0, .inr (0, [.int nu, .int pk, .ref h1, .ref h2, .int dc, .ref h3, .int rc, .ref h4, .ref h5])), (h1, .inl (cA, 7, .inl pr)), (h2, .inl (cA, 7, .inl ex)), (h3, .inl (cA, 360, .inl dv)), (h4, .inl (cA, 4096, .inl rt)), (h5, .inl (cA, 4096, .inl sp))] H := hP
      have hD : va_D A [(h0, .inr (0, [.int nu, .int pk, .ref h1, .ref h2, .int dc, .ref h3, .int rc, .ref h4, .ref h5])), (h1, .inl (cA, 7, .inl pr)), (h2, .inl (cA, 7, .inl ex)), (h3, .inl (cA, 360, .inl dv)), (h4, .inl (cA, 4096, .inl rt)), (h5, .inl (cA, 4096, .inl sp))] := hD
      refine lv_if_ne (tgt := 48) hx hb dX0_liftByAll_28 (by decide) (fun c4 => ?_) (fun c4 => ?_)
      · rw [if_neg c4] at h
        refine lv_iinc (v := (x5 + 1)) (lv' := [(5, .int (x5 + 1)), (0, .ref h0), (1, .int x1), (2, .int x2), (3, .int x3), (4, .int x4)]) hx hb dX0_liftByAll_48 hl (k := 5) rfl rfl (by decide) rfl (fun ls hl => ?_)
        refine lv_goto (tgt := 6) hx hb dX0_liftByAll_51 (by decide) ?_
        exact ih x4 (x5 + 1) rt x4' rt' h _ _ hP hD hS _ (lv_sub hl [1, 2, 3, 4, 5, 0] rfl) K
      · rw [if_pos c4] at h
        refine lv_aload_n hx hb dX0_liftByAll_31 rfl (lv_at hl 0 rfl) ?_
        refine va_get (D := (dC, dI)) (ci := 0) (v := .ref h4) (C := RX0) (T := TX0) (N := 9) hx hb hts (fun _ h => List.mem_cons_of_mem _ (List.mem_append_right _ h)) hown hK hP 0 rfl rfl 7 (by decide) (hts _ (List.mem_of_getElem? (i := 2) rfl)) (fun _ h9 => h9) rfl dX0_liftByAll_32 ?_
        refine lv_iload hx hb dX0_liftByAll_35 (lv_at hl 4 rfl) ?_
        refine lv_aload_n hx hb dX0_liftByAll_37 rfl (lv_at hl 0 rfl) ?_
        refine va_get (D := (dC, dI)) (ci := 0) (v := .ref h4) (C := RX0) (T := TX0) (N := 9) hx hb hts (fun _ h => List.mem_cons_of_mem _ (List.mem_append_right _ h)) hown hK hP 0 rfl rfl 7 (by decide) (hts _ (List.mem_of_getElem? (i := 2) rfl)) (fun _ h9 => h9) rfl dX0_liftByAll_38 ?_
        refine lv_iload hx hb dX0_liftByAll_41 (lv_at hl 5 rfl) ?_
        obtain ⟨g5, h⟩ := rf_gd h
        refine va_iald hx hb hK hP 4 0 rfl rfl (rf_in g5) dX0_liftByAll_43 ?_
        obtain ⟨g6, h⟩ := rf_gd h
        refine va_iast hx hb hK hP hD hS 4 0 rfl rfl (rf_in g6) dX0_liftByAll_44 (fun H locs hP hD hS => ?_)
        have hP : va_P (dC, dI) vwCl [(h0, .inr (0, [.int nu, .int pk, .ref h1, .ref h2, .int dc, .ref h3, .int rc, .ref h4, .ref h5])), (h1, .inl (cA, 7, .inl pr)), (h2, .inl (cA, 7, .inl ex)), (h3, .inl (cA, 360, .inl dv)), (h4, .inl (cA, 4096, .inl (upd rt x4.toNatClampNeg (rt x5.toNatClampNeg)))), (h5, .inl (cA, 4096, .inl sp))] H := hP
        have hD : va_D A [(h0, .inr (0, [.int nu, .int pk, .ref h1, .ref h2, .int dc, .ref h3, .int rc, .ref h4, .ref h5])), (h1, .inl (cA, 7, .inl pr)), (h2, .inl (cA, 7, .inl ex)), (h3, .inl (cA, 360, .inl dv)), (h4, .inl (cA, 4096, .inl (upd rt x4.toNatClampNeg (rt x5.toNatClampNeg)))), (h5, .inl (cA, 4096, .inl sp))] := hD
        refine lv_iinc (v := (x4 + 1)) (lv' := [(4, .int (x4 + 1)), (0, .ref h0), (1, .int x1), (2, .int x2), (3, .int x3), (5, .int x5)]) hx hb dX0_liftByAll_45 hl (k := 4) rfl rfl (by decide) rfl (fun ls hl => ?_)
        refine lv_iinc (v := (x5 + 1)) (lv' := [(5, .int (x5 + 1)), (4, .int (x4 + 1)), (0, .ref h0), (1, .int x1), (2, .int x2), (3, .int x3)]) hx hb dX0_liftByAll_48 hl (k := 5) rfl rfl (by decide) rfl (fun ls hl => ?_)
        refine lv_goto (tgt := 6) hx hb dX0_liftByAll_51 (by decide) ?_
        exact ih (x4 + 1) (x5 + 1) (upd rt x4.toNatClampNeg (rt x5.toNatClampNeg)) x4' rt' h _ _ hP hD hS _ (lv_sub hl [2, 3, 4, 5, 1, 0] rfl) K
def f_r_liftByAll (F : Nat) (rc : Int32) (rt : Nat → Int32) (p0 p1 p2 : Int32) : Option (Int32 × (Nat → Int32)) := b2 (l_r_liftByAll_6 F p0 p1 p2 rc F 0 0 rt) fun x4_1 rt_1 => b2 (l_r_liftByAll_63 F p1 p2 x4_1 F 1 x4_1 rt_1) fun rc_2 rt_2 => some (rc_2, rt_2)
set_option maxHeartbeats 4000000 in
set_option maxRecDepth 100000 in
theorem c_r_liftByAll (l : Launch) (dC : Nat → ClassId) (dI : Nat → Nat → Nat) (sz F : Nat) (h0 h1 h2 h3 h4 h5 : Nat) (cA : ClassId) (nu pk dc rc : Int32) (pr ex dv rt sp : Nat → Int32) (p0 p1 p2 rc' : Int32) (rt' : Nat → Int32) (h : f_r_liftByAll F rc rt p0 p1 p2 = some (rc', rt')) : Met l yX0_liftByAll wsX0_liftByAll { frames := 2, cells := 0, slots := 0, locals := 47 } (rf_Pc (dC, dI) [(cA, .int)] [(h0, .inr (0, [.int nu, .int pk, .ref h1, .ref h2, .int dc, .ref h3, .int rc, .ref h4, .ref h5])), (h1, .inl (cA, 7, .inl pr)), (h2, .inl (cA, 7, .inl ex)), (h3, .inl (cA, 360, .inl dv)), (h4, .inl (cA, 4096, .inl rt)), (h5, .inl (cA, 4096, .inl sp))] sz [.ref h0, .int p0, .int p1, .int p2]) (va_Qv (fun _ : Unit => True) (fun (_ : Unit) t => va_P (dC, dI) vwCl [(h0, .inr (0, [.int nu, .int pk, .ref h1, .ref h2, .int dc, .ref h3, .int rc', .ref h4, .ref h5])), (h1, .inl (cA, 7, .inl pr)), (h2, .inl (cA, 7, .inl ex)), (h3, .inl (cA, 360, .inl dv)), (h4, .inl (cA, 4096, .inl rt')), (h5, .inl (cA, 4096, .inl sp))] t.heap ∧ va_D (va_A [(h0, .inr (0, [.int nu, .int pk, .ref h1, .ref h2, .int dc, .ref h3, .int rc, .ref h4, .ref h5])), (h1, .inl (cA, 7, .inl pr)), (h2, .inl (cA, 7, .inl ex)), (h3, .inl (cA, 360, .inl dv)), (h4, .inl (cA, 4096, .inl rt)), (h5, .inl (cA, 4096, .inl sp))] sz) [(h0, .inr (0, [.int nu, .int pk, .ref h1, .ref h2, .int dc, .ref h3, .int rc', .ref h4, .ref h5])), (h1, .inl (cA, 7, .inl pr)), (h2, .inl (cA, 7, .inl ex)), (h3, .inl (cA, 360, .inl dv)), (h4, .inl (cA, 4096, .inl rt')), (h5, .inl (cA, 4096, .inl sp))]) (va_A [(h0, .inr (0, [.int nu, .int pk, .ref h1, .ref h2, .int dc, .ref h3, .int rc, .ref h4, .ref h5])), (h1, .inl (cA, 7, .inl pr)), (h2, .inl (cA, 7, .inl ex)), (h3, .inl (cA, 360, .inl dv)), (h4, .inl (cA, 4096, .inl rt)), (h5, .inl (cA, 4096, .inl sp))] sz)) 0 0 (va_A [(h0, .inr (0, [.int nu, .int pk, .ref h1, .ref h2, .int dc, .ref h3, .int rc, .ref h4, .ref h5])), (h1, .inl (cA, 7, .inl pr)), (h2, .inl (cA, 7, .inl ex)), (h3, .inl (cA, 360, .inl dv)), (h4, .inl (cA, 4096, .inl rt)), (h5, .inl (cA, 4096, .inl sp))] sz) := by
  refine Met.ofW (cc := cX0_liftByAll) (maxL := 7) (ret := none) (by decide) rfl ?_
  intro p e s m args below meth c s₁ B hml hv
  obtain ⟨rfl, hsz, hP, hK, hD0⟩ := hv
  have hx := B.exec
  have hb := B.bytes
  have hr := B.returns
  have hts := atoms_spec (ws := wsX0_liftByAll) B.pre
  have hown : s.vm.findClass RX0 = some m.cls := findClass_of_methodNamed B.named
  have hlocks := B.notSynchronized
  subst hsz
  have hD := hD0.self (sz := s.heap.size)
  generalize hAe : va_A [(h0, .inr (0, [.int nu, .int pk, .ref h1, .ref h2, .int dc, .ref h3, .int rc, .ref h4, .ref h5])), (h1, .inl (cA, 7, .inl pr)), (h2, .inl (cA, 7, .inl ex)), (h3, .inl (cA, 360, .inl dv)), (h4, .inl (cA, 4096, .inl rt)), (h5, .inl (cA, 4096, .inl sp))] s.heap.size = A at hD ⊢
  have hA : ∀ q : Nat, s.heap.size ≤ q → A q := fun q h => by rw [← hAe]; exact Or.inr h
  have hS : va_S A s.heap s.heap [] := va_S.rf
  have hl := lv_entry ([.ref h0, .int p0, .int p1, .int p2]) (n := 7) (Nat.le_of_ble_eq_true rfl)
  rw [lg_entry_eq]
  generalize (lg_sl ([.ref h0, .int p0, .int p1, .int p2]) ++ List.replicate (7 - (lg_sl ([.ref h0, .int p0, .int p1, .int p2])).length) Slot.unset).toArray = ls at hl ⊢
  have hl : lv_has ls 7 [(0, .ref h0), (1, .int p0), (2, .int p1), (3, .int p2)] := hl
  unfold f_r_liftByAll at h
  refine lv_iconst (v := 0) hx hb dX0_liftByAll_0 (by decide) ?_
  refine lv_istore (lv' := [(4, .int 0), (0, .ref h0), (1, .int p0), (2, .int p1), (3, .int p2)]) hx hb dX0_liftByAll_1 hl (by decide) rfl (fun ls hl => ?_)
  refine lv_iconst (v := 0) hx hb dX0_liftByAll_3 (by decide) ?_
  refine lv_istore (lv' := [(5, .int 0), (4, .int 0), (0, .ref h0), (1, .int p0), (2, .int p1), (3, .int p2)]) hx hb dX0_liftByAll_4 hl (by decide) rfl (fun ls hl => ?_)
  obtain ⟨x4_1, rt_1, hr1, h⟩ := rf_b2 h
  refine w_r_liftByAll_6 F hx hb hml hown hts hA h0 h1 h2 h3 h4 h5 cA hK p0 p1 p2 nu pk dc rc pr ex dv sp F 0 0 rt x4_1 rt_1 hr1 _ _ hP hD hS _ (lv_sub hl [2, 3, 4, 5, 1, 0] rfl) (fun H locs ls hP hD hS hl => ?_)
  refine lv_aload_n hx hb dX0_liftByAll_54 rfl (lv_at hl 0 rfl) ?_
  refine lv_iload hx hb dX0_liftByAll_55 (lv_at hl 3 rfl) ?_
  refine va_put (D := (dC, dI)) (ci := 0) (v := .int x4_1) (ty := .int) (C := RX0) (T := TX0) (N := 9) hx hb hts (fun _ h => List.mem_cons_of_mem _ (List.mem_append_right _ h)) tyX0 tyX0_ok nX0 hown hK hP hD hS 0 rfl rfl 6 (by decide) (hts _ (List.mem_of_getElem? (i := 1) rfl)) (fun _ h9 => h9) rfl (by decide +kernel) rfl rfl (Nat.le_of_ble_eq_true rfl) dX0_liftByAll_57 (fun H locs hP hD hS => ?_)
  have hP : va_P (dC, dI) vwCl [(h0, .inr (0, [.int nu, .int pk, .ref h1, .ref h2, .int dc, .ref h3, .int x4_1, .ref h4, .ref h5])), (h1, .inl (cA, 7, .inl pr)), (h2, .inl (cA, 7, .inl ex)), (h3, .inl (cA, 360, .inl dv)), (h4, .inl (cA, 4096, .inl rt_1)), (h5, .inl (cA, 4096, .inl sp))] H := hP
  have hD : va_D A [(h0, .inr (0, [.int nu, .int pk, .ref h1, .ref h2, .int dc, .ref h3, .int x4_1, .ref h4, .ref h5])), (h1, .inl (cA, 7, .inl pr)), (h2, .inl (cA, 7, .inl ex)), (h3, .inl (cA, 360, .inl dv)), (h4, .inl (cA, 4096, .inl rt_1)), (h5, .inl (cA, 4096, .inl sp))] := hD
  refine lv_iconst (v := 1) hx hb dX0_liftByAll_60 (by decide) ?_
  refine lv_istore (lv' := [(5, .int 1), (0, .ref h0), (2, .int p1), (3, .int p2), (4, .int x4_1)]) hx hb dX0_liftByAll_61 hl (by decide) rfl (fun ls hl => ?_)
  obtain ⟨rc_2, rt_2, hr2, h⟩ := rf_b2 h
  refine w_r_liftByAll_63 F hx hb hml hown hts hA h0 h1 h2 h3 h4 h5 cA hK p1 p2 x4_1 nu pk dc pr ex dv sp F 1 x4_1 rt_1 rc_2 rt_2 hr2 _ _ hP hD hS _ (lv_sub hl [1, 2, 3, 4, 0] rfl) (fun H locs ls hP hD hS hl => ?_)
  cases h
  exact W.vret hx hb hr (fun t ht hW => ⟨⟨(), rfl, trivial, by rw [ht]; exact hP, hD⟩, hS.F ht⟩) hS.2.2 dX0_liftByAll_107
def l_r_liftByOne_3 (F : Nat) (x1 x2 x3 rc : Int32) : Nat → Int32 → (Nat → Int32) → Option ((Nat → Int32))
  | 0, _, _ => none
  | n + 1, x4, rt => if rc ≤ x4 then some rt else if x4.toInt < 0 ∨ (4096 : Int) ≤ x4.toInt then none else b1 (f_r_invert F (2 * (Int32.toInt64 (rt x4.toNatClampNeg))) x3) fun r3 => b1 (f_r_excess F (rt x4.toNatClampNeg) x1 x2 x3) fun r4 => b1 (f_r_residue F ((-(Int32.toInt64 r3)) * (Int32.toInt64 r4)) x3) fun r5 => if x4.toInt < 0 ∨ (4096 : Int) ≤ x4.toInt then none else l_r_liftByOne_3 F x1 x2 x3 rc n (x4 + 1) (upd rt x4.toNatClampNeg ((rt x4.toNatClampNeg) + (r5 * x2)))
set_option maxHeartbeats 4000000 in
set_option maxRecDepth 100000 in
theorem w_r_liftByOne_3 {p : Program} {l : Launch} {e : Env} {s : State} {m : MethodId} {args : Array Value} {below : List Frame} {meth : Method} {c : Code} {A : Nat → Prop} {Q : State → Prop} {dC : Nat → ClassId} {dI : Nat → Nat → Nat} (F : Nat) (hx : p.tables.exec = Jvm.exec) (hb : c.code = cX0_liftByOne) (hml : c.maxLocals = 9) (hown : s.vm.findClass RX0 = some m.cls) (hts : ∀ w ∈ wsX0_liftByOne, w.before args s = true) (hA : ∀ q, s.heap.size ≤ q → A q) (h0 h1 h2 h3 h4 h5 : Nat) (cA : ClassId) (hK : va_K (dC, dI) vwCl [(cA, .int)] s) (x1 x2 x3 nu pk dc rc : Int32) (pr ex dv sp : Nat → Int32) :
    ∀ (n : Nat) (x4 : Int32) (rt rt' : Nat → Int32), l_r_liftByOne_3 F x1 x2 x3 rc n x4 rt = some rt' → ∀ (H : Heap) (locs : List Loc), va_P (dC, dI) vwCl [(h0, .inr (0, [.int nu, .int pk, .ref h1, .ref h2, .int dc, .ref h3, .int rc, .ref h4, .ref h5])), (h1, .inl (cA, 7, .inl pr)), (h2, .inl (cA, 7, .inl ex)), (h3, .inl (cA, 360, .inl dv)), (h4, .inl (cA, 4096, .inl rt)), (h5, .inl (cA, 4096, .inl sp))] H → va_D A [(h0, .inr (0, [.int nu, .int pk, .ref h1, .ref h2, .int dc, .ref h3, .int rc, .ref h4, .ref h5])), (h1, .inl (cA, 7, .inl pr)), (h2, .inl (cA, 7, .inl ex)), (h3, .inl (cA, 360, .inl dv)), (h4, .inl (cA, 4096, .inl rt)), (h5, .inl (cA, 4096, .inl sp))] → va_S A s.heap H locs → ∀ ls : Array Slot, lv_has ls 9 [(0, .ref h0), (1, .int x1), (2, .int x2), (3, .int x3), (4, .int x4)] → (∀ (H : Heap) (locs : List Loc) (ls : Array Slot), va_P (dC, dI) vwCl [(h0, .inr (0, [.int nu, .int pk, .ref h1, .ref h2, .int dc, .ref h3, .int rc, .ref h4, .ref h5])), (h1, .inl (cA, 7, .inl pr)), (h2, .inl (cA, 7, .inl ex)), (h3, .inl (cA, 360, .inl dv)), (h4, .inl (cA, 4096, .inl rt')), (h5, .inl (cA, 4096, .inl sp))] H → va_D A [(h0, .inr (0, [.int nu, .int pk, .ref h1, .ref h2, .int dc, .ref h3, .int rc, .ref h4, .ref h5])), (h1, .inl (cA, 7, .inl pr)), (h2, .inl (cA, 7, .inl ex)), (h3, .inl (cA, 360, .inl dv)), (h4, .inl (cA, 4096, .inl rt')), (h5, .inl (cA, 4096, .inl sp))] → va_S A s.heap H locs → lv_has ls 9 [] → W p l e { frames := 2, cells := 0, slots := 0, locals := 54 } s m args below meth c H locs 0 0 Q (F0 m 74 ls [])) → W p l e { frames := 2, cells := 0, slots := 0, locals := 54 } s m args below meth c H locs 0 0 Q (F0 m 3 ls []) := by
  intro n
  induction n with
  | zero => intro x4 rt rt' h; exact nomatch (show (none : Option _) = some _ from h)
  | succ n ih =>
    intro x4 rt rt' h H locs hP hD hS ls hl K
    rw [l_r_liftByOne_3] at h
    refine lv_iload hx hb dX0_liftByOne_3 (lv_at hl 4 rfl) ?_
    refine lv_aload_n hx hb dX0_liftByOne_5 rfl (lv_at hl 0 rfl) ?_
    refine va_get (D := (dC, dI)) (ci := 0) (v := .int rc) (C := RX0) (T := TX0) (N := 9) hx hb hts (fun _ h => List.mem_cons_of_mem _ (List.mem_append_right _ h)) hown hK hP 0 rfl rfl 6 (by decide) (hts _ (List.mem_of_getElem? (i := 1) rfl)) (fun _ h9 => h9) rfl dX0_liftByOne_6 ?_
    refine lv_icmp_ge (tgt := 74) hx hb dX0_liftByOne_9 (by decide) (fun c1 => ?_) (fun c1 => ?_)
    · rw [if_pos c1] at h
      cases h
      exact K _ _ _ hP hD hS (lv_sub hl [] rfl)
    · rw [if_neg c1] at h
      refine lv_aload_n hx hb dX0_liftByOne_12 rfl (lv_at hl 0 rfl) ?_
      refine va_get (D := (dC, dI)) (ci := 0) (v := .ref h4) (C := RX0) (T := TX0) (N := 9) hx hb hts (fun _ h => List.mem_cons_of_mem _ (List.mem_append_right _ h)) hown hK hP 0 rfl rfl 7 (by decide) (hts _ (List.mem_of_getElem? (i := 2) rfl)) (fun _ h9 => h9) rfl dX0_liftByOne_13 ?_
      refine lv_iload hx hb dX0_liftByOne_16 (lv_at hl 4 rfl) ?_
      obtain ⟨g2, h⟩ := rf_gd h
      refine va_iald hx hb hK hP 4 0 rfl rfl (rf_in g2) dX0_liftByOne_18 ?_
      refine lv_istore (lv' := [(5, .int (rt x4.toNatClampNeg)), (0, .ref h0), (1, .int x1), (2, .int x2), (3, .int x3), (4, .int x4)]) hx hb dX0_liftByOne_19 hl (by decide) rfl (fun ls hl => ?_)
      refine lv_ldc2 (v := 2) hx hb hown (hts _ (List.mem_of_getElem? (i := 3) rfl)) dX0_liftByOne_21 ?_
      refine lv_iload hx hb dX0_liftByOne_24 (lv_at hl 0 rfl) ?_
      refine lv_i2l (v := (Int32.toInt64 (rt x4.toNatClampNeg))) hx hb dX0_liftByOne_26 rfl ?_
      refine lv_lmul hx hb dX0_liftByOne_27 ?_
      refine lv_iload_n hx hb dX0_liftByOne_28 rfl (lv_at hl 4 rfl) ?_
      obtain ⟨r3, hr3, h⟩ := rf_b1 h
      refine rf_ci (wn := (fun _ : Unit => [])) (wc := []) (wr := [(h0, .inr (0, [.int nu, .int pk, .ref h1, .ref h2, .int dc, .ref h3, .int rc, .ref h4, .ref h5])), (h1, .inl (cA, 7, .inl pr)), (h2, .inl (cA, 7, .inl ex)), (h3, .inl (cA, 360, .inl dv)), (h4, .inl (cA, 4096, .inl rt)), (h5, .inl (cA, 4096, .inl sp))]) hP hD hS hA [] [0, 1, 2, 3, 4, 5] rfl rfl (by decide) (by decide) (va_runS (As := [.long (2 * (Int32.toInt64 (rt x4.toNatClampNeg))), .int x3]) (rest := []) ⟨hx, hb, hml, hown, hts⟩ (c_r_invert l dC dI _ F (2 * (Int32.toInt64 (rt x4.toNatClampNeg))) x3 r3 hr3) (va_cwS 2 hts gX0_liftByOne_X0_invert rfl rfl rfl (by decide +kernel) ⟨Nat.le_of_ble_eq_true rfl, Nat.le_of_ble_eq_true rfl⟩) ⟨rf_blind, fun U hU hW => ⟨rfl, rf_pre (hP.sub (ws' := []) [] rfl) (hK.sub (tys' := []) [] rfl) (hD.sub (ws' := []) [] (by decide) rfl) U hU hW⟩⟩ rfl rfl hl.1 rfl (lv_room (Nat.le_of_ble_eq_true rfl)) dX0_liftByOne_29 ⟨Nat.zero_le _, Nat.zero_le _⟩) (fun r3' u H locs hw hP hD hS => ?_)
      subst hw
      have hP : va_P (dC, dI) vwCl [(h0, .inr (0, [.int nu, .int pk, .ref h1, .ref h2, .int dc, .ref h3, .int rc, .ref h4, .ref h5])), (h1, .inl (cA, 7, .inl pr)), (h2, .inl (cA, 7, .inl ex)), (h3, .inl (cA, 360, .inl dv)), (h4, .inl (cA, 4096, .inl rt)), (h5, .inl (cA, 4096, .inl sp))] H := hP
      have hD : va_D A [(h0, .inr (0, [.int nu, .int pk, .ref h1, .ref h2, .int dc, .ref h3, .int rc, .ref h4, .ref h5])), (h1, .inl (cA, 7, .inl pr)), (h2, .inl (cA, 7, .inl ex)), (h3, .inl (cA, 360, .inl dv)), (h4, .inl (cA, 4096, .inl rt)), (h5, .inl (cA, 4096, .inl sp))] := hD
      refine lv_i2l (v := (Int32.toInt64 r3)) hx hb dX0_liftByOne_32 rfl ?_
      refine lv_lstore (lv' := [(6, .long (Int32.toInt64 r3)), (5, .int (rt x4.toNatClampNeg)), (0, .ref h0), (1, .int x1), (2, .int x2), (3, .int x3), (4, .int x4)]) hx hb dX0_liftByOne_33 hl (by decide) rfl (fun ls hl => ?_)
      refine lv_lload hx hb dX0_liftByOne_35 (lv_at hl 0 rfl) ?_
      refine lv_lneg hx hb dX0_liftByOne_37 ?_
      refine lv_iload hx hb dX0_liftByOne_38 (lv_at hl 1 rfl) ?_
      refine lv_iload_n hx hb dX0_liftByOne_40 rfl (lv_at hl 3 rfl) ?_
      refine lv_iload_n hx hb dX0_liftByOne_41 rfl (lv_at hl 4 rfl) ?_
      refine lv_iload_n hx hb dX0_liftByOne_42 rfl (lv_at hl 5 rfl) ?_
      obtain ⟨r4, hr4, h⟩ := rf_b1 h
      refine rf_ci (wn := (fun _ : Unit => [])) (wc := []) (wr := [(h0, .inr (0, [.int nu, .int pk, .ref h1, .ref h2, .int dc, .ref h3, .int rc, .ref h4, .ref h5])), (h1, .inl (cA, 7, .inl pr)), (h2, .inl (cA, 7, .inl ex)), (h3, .inl (cA, 360, .inl dv)), (h4, .inl (cA, 4096, .inl rt)), (h5, .inl (cA, 4096, .inl sp))]) hP hD hS hA [] [0, 1, 2, 3, 4, 5] rfl rfl (by decide) (by decide) (va_runS (As := [.int (rt x4.toNatClampNeg), .int x1, .int x2, .int x3]) (rest := [.long (-(Int32.toInt64 r3))]) ⟨hx, hb, hml, hown, hts⟩ (c_r_excess l dC dI _ F (rt x4.toNatClampNeg) x1 x2 x3 r4 hr4) (va_cwS 4 hts gX0_liftByOne_X0_excess rfl rfl rfl (by decide +kernel) ⟨Nat.le_of_ble_eq_true rfl, Nat.le_of_ble_eq_true rfl⟩) ⟨rf_blind, fun U hU hW => ⟨rfl, rf_pre (hP.sub (ws' := []) [] rfl) (hK.sub (tys' := []) [] rfl) (hD.sub (ws' := []) [] (by decide) rfl) U hU hW⟩⟩ rfl rfl hl.1 rfl (lv_room (Nat.le_of_ble_eq_true rfl)) dX0_liftByOne_43 ⟨Nat.zero_le _, Nat.zero_le _⟩) (fun r4' u H locs hw hP hD hS => ?_)
      subst hw
      have hP : va_P (dC, dI) vwCl [(h0, .inr (0, [.int nu, .int pk, .ref h1, .ref h2, .int dc, .ref h3, .int rc, .ref h4, .ref h5])), (h1, .inl (cA, 7, .inl pr)), (h2, .inl (cA, 7, .inl ex)), (h3, .inl (cA, 360, .inl dv)), (h4, .inl (cA, 4096, .inl rt)), (h5, .inl (cA, 4096, .inl sp))] H := hP
      have hD : va_D A [(h0, .inr (0, [.int nu, .int pk, .ref h1, .ref h2, .int dc, .ref h3, .int rc, .ref h4, .ref h5])), (h1, .inl (cA, 7, .inl pr)), (h2, .inl (cA, 7, .inl ex)), (h3, .inl (cA, 360, .inl dv)), (h4, .inl (cA, 4096, .inl rt)), (h5, .inl (cA, 4096, .inl sp))] := hD
      refine lv_i2l (v := (Int32.toInt64 r4)) hx hb dX0_liftByOne_46 rfl ?_
      refine lv_lmul hx hb dX0_liftByOne_47 ?_
      refine lv_iload_n hx hb dX0_liftByOne_48 rfl (lv_at hl 5 rfl) ?_
      obtain ⟨r5, hr5, h⟩ := rf_b1 h
      refine rf_ci (wn := (fun _ : Unit => [])) (wc := []) (wr := [(h0, .inr (0, [.int nu, .int pk, .ref h1, .ref h2, .int dc, .ref h3, .int rc, .ref h4, .ref h5])), (h1, .inl (cA, 7, .inl pr)), (h2, .inl (cA, 7, .inl ex)), (h3, .inl (cA, 360, .inl dv)), (h4, .inl (cA, 4096, .inl rt)), (h5, .inl (cA, 4096, .inl sp))]) hP hD hS hA [] [0, 1, 2, 3, 4, 5] rfl rfl (by decide) (by decide) (va_runS (As := [.long ((-(Int32.toInt64 r3)) * (Int32.toInt64 r4)), .int x3]) (rest := []) ⟨hx, hb, hml, hown, hts⟩ (c_r_residue l dC dI _ F ((-(Int32.toInt64 r3)) * (Int32.toInt64 r4)) x3 r5 hr5) (va_cwS 2 hts gX0_liftByOne_X0_residue rfl rfl rfl (by decide +kernel) ⟨Nat.le_of_ble_eq_true rfl, Nat.le_of_ble_eq_true rfl⟩) ⟨rf_blind, fun U hU hW => ⟨rfl, rf_pre (hP.sub (ws' := []) [] rfl) (hK.sub (tys' := []) [] rfl) (hD.sub (ws' := []) [] (by decide) rfl) U hU hW⟩⟩ rfl rfl hl.1 rfl (lv_room (Nat.le_of_ble_eq_true rfl)) dX0_liftByOne_49 ⟨Nat.zero_le _, Nat.zero_le _⟩) (fun r5' u H locs hw hP hD hS => ?_)
      subst hw
      have hP : va_P (dC, dI) vwCl [(h0, .inr (0, [.int nu, .int pk, .ref h1, .ref h2, .int dc, .ref h3, .int rc, .ref h4, .ref h5])), (h1, .inl (cA, 7, .inl pr)), (h2, .inl (cA, 7, .inl ex)), (h3, .inl (cA, 360, .inl dv)), (h4, .inl (cA, 4096, .inl rt)), (h5, .inl (cA, 4096, .inl sp))] H := hP
      have hD : va_D A [(h0, .inr (0, [.int nu, .int pk, .ref h1, .ref h2, .int dc, .ref h3, .int rc, .ref h4, .ref h5])), (h1, .inl (cA, 7, .inl pr)), (h2, .inl (cA, 7, .inl ex)), (h3, .inl (cA, 360, .inl dv)), (h4, .inl (cA, 4096, .inl rt)), (h5, .inl (cA, 4096, .inl sp))] := hD
      refine lv_istore (lv' := [(8, .int r5), (6, .long (Int32.toInt64 r3)), (5, .int (rt x4.toNatClampNeg)), (0, .ref h0), (1, .int x1), (2, .int x2), (3, .int x3), (4, .int x4)]) hx hb dX0_liftByOne_52 hl (by decide) rfl (fun ls hl => ?_)
      refine lv_aload_n hx hb dX0_liftByOne_54 rfl (lv_at hl 3 rfl) ?_
      refine va_get (D := (dC, dI)) (ci := 0) (v := .ref h4) (C := RX0) (T := TX0) (N := 9) hx hb hts (fun _ h => List.mem_cons_of_mem _ (List.mem_append_right _ h)) hown hK hP 0 rfl rfl 7 (by decide) (hts _ (List.mem_of_getElem? (i := 2) rfl)) (fun _ h9 => h9) rfl dX0_liftByOne_55 ?_
      refine lv_iload hx hb dX0_liftByOne_58 (lv_at hl 7 rfl) ?_
      refine lv_iload hx hb dX0_liftByOne_60 (lv_at hl 2 rfl) ?_
      refine lv_iload hx hb dX0_liftByOne_62 (lv_at hl 0 rfl) ?_
      refine lv_iload_n hx hb dX0_liftByOne_64 rfl (lv_at hl 5 rfl) ?_
      refine lv_imul hx hb dX0_liftByOne_65 ?_
      refine lv_iadd hx hb dX0_liftByOne_66 ?_
      obtain ⟨g6, h⟩ := rf_gd h
      refine va_iast hx hb hK hP hD hS 4 0 rfl rfl (rf_in g6) dX0_liftByOne_67 (fun H locs hP hD hS => ?_)
      have hP : va_P (dC, dI) vwCl [(h0, .inr (0, [.int nu, .int pk, .ref h1, .ref h2, .int dc, .ref h3, .int rc, .ref h4, .ref h5])), (h1, .inl (cA, 7, .inl pr)), (h2, .inl (cA, 7, .inl ex)), (h3, .inl (cA, 360, .inl dv)), (h4, .inl (cA, 4096, .inl (upd rt x4.toNatClampNeg ((rt x4.toNatClampNeg) + (r5 * x2))))), (h5, .inl (cA, 4096, .inl sp))] H := hP
      have hD : va_D A [(h0, .inr (0, [.int nu, .int pk, .ref h1, .ref h2, .int dc, .ref h3, .int rc, .ref h4, .ref h5])), (h1, .inl (cA, 7, .inl pr)), (h2, .inl (cA, 7, .inl ex)), (h3, .inl (cA, 360, .inl dv)), (h4, .inl (cA, 4096, .inl (upd rt x4.toNatClampNeg ((rt x4.toNatClampNeg) + (r5 * x2))))), (h5, .inl (cA, 4096, .inl sp))] := hD
      refine lv_iinc (v := (x4 + 1)) (lv' := [(4, .int (x4 + 1)), (8, .int r5), (6, .long (Int32.toInt64 r3)), (5, .int (rt x4.toNatClampNeg)), (0, .ref h0), (1, .int x1), (2, .int x2), (3, .int x3)]) hx hb dX0_liftByOne_68 hl (k := 7) rfl rfl (by decide) rfl (fun ls hl => ?_)
      refine lv_goto (tgt := 3) hx hb dX0_liftByOne_71 (by decide) ?_
      exact ih (x4 + 1) (upd rt x4.toNatClampNeg ((rt x4.toNatClampNeg) + (r5 * x2))) rt' h _ _ hP hD hS _ (lv_sub hl [4, 5, 6, 7, 0] rfl) K
def f_r_liftByOne (F : Nat) (rc : Int32) (rt : Nat → Int32) (p0 p1 p2 : Int32) : Option ((Nat → Int32)) := b1 (l_r_liftByOne_3 F p0 p1 p2 rc F 0 rt) fun rt_1 => some rt_1
set_option maxHeartbeats 4000000 in
set_option maxRecDepth 100000 in
theorem c_r_liftByOne (l : Launch) (dC : Nat → ClassId) (dI : Nat → Nat → Nat) (sz F : Nat) (h0 h1 h2 h3 h4 h5 : Nat) (cA : ClassId) (nu pk dc rc : Int32) (pr ex dv rt sp : Nat → Int32) (p0 p1 p2 : Int32) (rt' : Nat → Int32) (h : f_r_liftByOne F rc rt p0 p1 p2 = some rt') : Met l yX0_liftByOne wsX0_liftByOne { frames := 2, cells := 0, slots := 0, locals := 54 } (rf_Pc (dC, dI) [(cA, .int)] [(h0, .inr (0, [.int nu, .int pk, .ref h1, .ref h2, .int dc, .ref h3, .int rc, .ref h4, .ref h5])), (h1, .inl (cA, 7, .inl pr)), (h2, .inl (cA, 7, .inl ex)), (h3, .inl (cA, 360, .inl dv)), (h4, .inl (cA, 4096, .inl rt)), (h5, .inl (cA, 4096, .inl sp))] sz [.ref h0, .int p0, .int p1, .int p2]) (va_Qv (fun _ : Unit => True) (fun (_ : Unit) t => va_P (dC, dI) vwCl [(h0, .inr (0, [.int nu, .int pk, .ref h1, .ref h2, .int dc, .ref h3, .int rc, .ref h4, .ref h5])), (h1, .inl (cA, 7, .inl pr)), (h2, .inl (cA, 7, .inl ex)), (h3, .inl (cA, 360, .inl dv)), (h4, .inl (cA, 4096, .inl rt')), (h5, .inl (cA, 4096, .inl sp))] t.heap ∧ va_D (va_A [(h0, .inr (0, [.int nu, .int pk, .ref h1, .ref h2, .int dc, .ref h3, .int rc, .ref h4, .ref h5])), (h1, .inl (cA, 7, .inl pr)), (h2, .inl (cA, 7, .inl ex)), (h3, .inl (cA, 360, .inl dv)), (h4, .inl (cA, 4096, .inl rt)), (h5, .inl (cA, 4096, .inl sp))] sz) [(h0, .inr (0, [.int nu, .int pk, .ref h1, .ref h2, .int dc, .ref h3, .int rc, .ref h4, .ref h5])), (h1, .inl (cA, 7, .inl pr)), (h2, .inl (cA, 7, .inl ex)), (h3, .inl (cA, 360, .inl dv)), (h4, .inl (cA, 4096, .inl rt')), (h5, .inl (cA, 4096, .inl sp))]) (va_A [(h0, .inr (0, [.int nu, .int pk, .ref h1, .ref h2, .int dc, .ref h3, .int rc, .ref h4, .ref h5])), (h1, .inl (cA, 7, .inl pr)), (h2, .inl (cA, 7, .inl ex)), (h3, .inl (cA, 360, .inl dv)), (h4, .inl (cA, 4096, .inl rt)), (h5, .inl (cA, 4096, .inl sp))] sz)) 0 0 (va_A [(h0, .inr (0, [.int nu, .int pk, .ref h1, .ref h2, .int dc, .ref h3, .int rc, .ref h4, .ref h5])), (h1, .inl (cA, 7, .inl pr)), (h2, .inl (cA, 7, .inl ex)), (h3, .inl (cA, 360, .inl dv)), (h4, .inl (cA, 4096, .inl rt)), (h5, .inl (cA, 4096, .inl sp))] sz) := by
  refine Met.ofW (cc := cX0_liftByOne) (maxL := 9) (ret := none) (by decide) rfl ?_
  intro p e s m args below meth c s₁ B hml hv
  obtain ⟨rfl, hsz, hP, hK, hD0⟩ := hv
  have hx := B.exec
  have hb := B.bytes
  have hr := B.returns
  have hts := atoms_spec (ws := wsX0_liftByOne) B.pre
  have hown : s.vm.findClass RX0 = some m.cls := findClass_of_methodNamed B.named
  have hlocks := B.notSynchronized
  subst hsz
  have hD := hD0.self (sz := s.heap.size)
  generalize hAe : va_A [(h0, .inr (0, [.int nu, .int pk, .ref h1, .ref h2, .int dc, .ref h3, .int rc, .ref h4, .ref h5])), (h1, .inl (cA, 7, .inl pr)), (h2, .inl (cA, 7, .inl ex)), (h3, .inl (cA, 360, .inl dv)), (h4, .inl (cA, 4096, .inl rt)), (h5, .inl (cA, 4096, .inl sp))] s.heap.size = A at hD ⊢
  have hA : ∀ q : Nat, s.heap.size ≤ q → A q := fun q h => by rw [← hAe]; exact Or.inr h
  have hS : va_S A s.heap s.heap [] := va_S.rf
  have hl := lv_entry ([.ref h0, .int p0, .int p1, .int p2]) (n := 9) (Nat.le_of_ble_eq_true rfl)
  rw [lg_entry_eq]
  generalize (lg_sl ([.ref h0, .int p0, .int p1, .int p2]) ++ List.replicate (9 - (lg_sl ([.ref h0, .int p0, .int p1, .int p2])).length) Slot.unset).toArray = ls at hl ⊢
  have hl : lv_has ls 9 [(0, .ref h0), (1, .int p0), (2, .int p1), (3, .int p2)] := hl
  unfold f_r_liftByOne at h
  refine lv_iconst (v := 0) hx hb dX0_liftByOne_0 (by decide) ?_
  refine lv_istore (lv' := [(4, .int 0), (0, .ref h0), (1, .int p0), (2, .int p1), (3, .int p2)]) hx hb dX0_liftByOne_1 hl (by decide) rfl (fun ls hl => ?_)
  obtain ⟨rt_1, hr1, h⟩ := rf_b1 h
  refine w_r_liftByOne_3 F hx hb hml hown hts hA h0 h1 h2 h3 h4 h5 cA hK p0 p1 p2 nu pk dc rc pr ex dv sp F 0 rt rt_1 hr1 _ _ hP hD hS _ (lv_sub hl [1, 2, 3, 4, 0] rfl) (fun H locs ls hP hD hS hl => ?_)
  cases h
  exact W.vret hx hb hr (fun t ht hW => ⟨⟨(), rfl, trivial, by rw [ht]; exact hP, hD⟩, hS.F ht⟩) hS.2.2 dX0_liftByOne_74
def f_r_liftRoots (F : Nat) (rc : Int32) (rt : Nat → Int32) (p0 p1 p2 : Int32) : Option (Int32 × (Nat → Int32)) := if p2 = 2 then b2 (f_r_liftByAll F rc rt p0 p1 p2) fun rc_2 rt_2 => some (rc_2, rt_2) else b1 (f_r_residue F (Int32.toInt64 p0) p2) fun r3 => if r3 = 0 then b2 (f_r_liftByAll F rc rt p0 p1 p2) fun rc_6 rt_6 => some (rc_6, rt_6) else b1 (f_r_liftByOne F rc rt p0 p1 p2) fun rt_5 => some (rc, rt_5)
set_option maxHeartbeats 4000000 in
set_option maxRecDepth 100000 in
theorem c_r_liftRoots (l : Launch) (dC : Nat → ClassId) (dI : Nat → Nat → Nat) (sz F : Nat) (h0 h1 h2 h3 h4 h5 : Nat) (cA : ClassId) (nu pk dc rc : Int32) (pr ex dv rt sp : Nat → Int32) (p0 p1 p2 rc' : Int32) (rt' : Nat → Int32) (h : f_r_liftRoots F rc rt p0 p1 p2 = some (rc', rt')) : Met l yX0_liftRoots wsX0_liftRoots { frames := 3, cells := 0, slots := 0, locals := 82 } (rf_Pc (dC, dI) [(cA, .int)] [(h0, .inr (0, [.int nu, .int pk, .ref h1, .ref h2, .int dc, .ref h3, .int rc, .ref h4, .ref h5])), (h1, .inl (cA, 7, .inl pr)), (h2, .inl (cA, 7, .inl ex)), (h3, .inl (cA, 360, .inl dv)), (h4, .inl (cA, 4096, .inl rt)), (h5, .inl (cA, 4096, .inl sp))] sz [.ref h0, .int p0, .int p1, .int p2]) (va_Qv (fun _ : Unit => True) (fun (_ : Unit) t => va_P (dC, dI) vwCl [(h0, .inr (0, [.int nu, .int pk, .ref h1, .ref h2, .int dc, .ref h3, .int rc', .ref h4, .ref h5])), (h1, .inl (cA, 7, .inl pr)), (h2, .inl (cA, 7, .inl ex)), (h3, .inl (cA, 360, .inl dv)), (h4, .inl (cA, 4096, .inl rt')), (h5, .inl (cA, 4096, .inl sp))] t.heap ∧ va_D (va_A [(h0, .inr (0, [.int nu, .int pk, .ref h1, .ref h2, .int dc, .ref h3, .int rc, .ref h4, .ref h5])), (h1, .inl (cA, 7, .inl pr)), (h2, .inl (cA, 7, .inl ex)), (h3, .inl (cA, 360, .inl dv)), (h4, .inl (cA, 4096, .inl rt)), (h5, .inl (cA, 4096, .inl sp))] sz) [(h0, .inr (0, [.int nu, .int pk, .ref h1, .ref h2, .int dc, .ref h3, .int rc', .ref h4, .ref h5])), (h1, .inl (cA, 7, .inl pr)), (h2, .inl (cA, 7, .inl ex)), (h3, .inl (cA, 360, .inl dv)), (h4, .inl (cA, 4096, .inl rt')), (h5, .inl (cA, 4096, .inl sp))]) (va_A [(h0, .inr (0, [.int nu, .int pk, .ref h1, .ref h2, .int dc, .ref h3, .int rc, .ref h4, .ref h5])), (h1, .inl (cA, 7, .inl pr)), (h2, .inl (cA, 7, .inl ex)), (h3, .inl (cA, 360, .inl dv)), (h4, .inl (cA, 4096, .inl rt)), (h5, .inl (cA, 4096, .inl sp))] sz)) 0 0 (va_A [(h0, .inr (0, [.int nu, .int pk, .ref h1, .ref h2, .int dc, .ref h3, .int rc, .ref h4, .ref h5])), (h1, .inl (cA, 7, .inl pr)), (h2, .inl (cA, 7, .inl ex)), (h3, .inl (cA, 360, .inl dv)), (h4, .inl (cA, 4096, .inl rt)), (h5, .inl (cA, 4096, .inl sp))] sz) := by
  refine Met.ofW (cc := cX0_liftRoots) (maxL := 4) (ret := none) (by decide) rfl ?_
  intro p e s m args below meth c s₁ B hml hv
  obtain ⟨rfl, hsz, hP, hK, hD0⟩ := hv
  have hx := B.exec
  have hb := B.bytes
  have hr := B.returns
  have hts := atoms_spec (ws := wsX0_liftRoots) B.pre
  have hown : s.vm.findClass RX0 = some m.cls := findClass_of_methodNamed B.named
  have hlocks := B.notSynchronized
  subst hsz
  have hD := hD0.self (sz := s.heap.size)
  generalize hAe : va_A [(h0, .inr (0, [.int nu, .int pk, .ref h1, .ref h2, .int dc, .ref h3, .int rc, .ref h4, .ref h5])), (h1, .inl (cA, 7, .inl pr)), (h2, .inl (cA, 7, .inl ex)), (h3, .inl (cA, 360, .inl dv)), (h4, .inl (cA, 4096, .inl rt)), (h5, .inl (cA, 4096, .inl sp))] s.heap.size = A at hD ⊢
  have hA : ∀ q : Nat, s.heap.size ≤ q → A q := fun q h => by rw [← hAe]; exact Or.inr h
  have hS : va_S A s.heap s.heap [] := va_S.rf
  have hl := lv_entry ([.ref h0, .int p0, .int p1, .int p2]) (n := 4) (Nat.le_of_ble_eq_true rfl)
  rw [lg_entry_eq]
  generalize (lg_sl ([.ref h0, .int p0, .int p1, .int p2]) ++ List.replicate (4 - (lg_sl ([.ref h0, .int p0, .int p1, .int p2])).length) Slot.unset).toArray = ls at hl ⊢
  have hl : lv_has ls 4 [(0, .ref h0), (1, .int p0), (2, .int p1), (3, .int p2)] := hl
  unfold f_r_liftRoots at h
  refine lv_iload_n hx hb dX0_liftRoots_0 rfl (lv_at hl 3 rfl) ?_
  refine lv_iconst (v := 2) hx hb dX0_liftRoots_1 (by decide) ?_
  refine lv_icmp_eq (tgt := 14) hx hb dX0_liftRoots_2 (by decide) (fun c1 => ?_) (fun c1 => ?_)
  · rw [if_pos c1] at h
    refine lv_aload_n hx hb dX0_liftRoots_14 rfl (lv_at hl 0 rfl) ?_
    refine lv_iload_n hx hb dX0_liftRoots_15 rfl (lv_at hl 1 rfl) ?_
    refine lv_iload_n hx hb dX0_liftRoots_16 rfl (lv_at hl 2 rfl) ?_
    refine lv_iload_n hx hb dX0_liftRoots_17 rfl (lv_at hl 3 rfl) ?_
    obtain ⟨rc_2, rt_2, hr2, h⟩ := rf_b2 h
    refine rf_cv (wn := (fun _ : Unit => [(h0, .inr (0, [.int nu, .int pk, .ref h1, .ref h2, .int dc, .ref h3, .int rc_2, .ref h4, .ref h5])), (h1, .inl (cA, 7, .inl pr)), (h2, .inl (cA, 7, .inl ex)), (h3, .inl (cA, 360, .inl dv)), (h4, .inl (cA, 4096, .inl rt_2)), (h5, .inl (cA, 4096, .inl sp))])) (wc := [(h0, .inr (0, [.int nu, .int pk, .ref h1, .ref h2, .int dc, .ref h3, .int rc, .ref h4, .ref h5])), (h1, .inl (cA, 7, .inl pr)), (h2, .inl (cA, 7, .inl ex)), (h3, .inl (cA, 360, .inl dv)), (h4, .inl (cA, 4096, .inl rt)), (h5, .inl (cA, 4096, .inl sp))]) (wr := []) hP hD hS hA [0, 1, 2, 3, 4, 5] [] rfl rfl (by decide) (by decide) (va_runV (As := [.int p0, .int p1, .int p2]) (rest := []) ⟨hx, hb, hml, hown, hts⟩ (c_r_liftByAll l dC dI _ F h0 h1 h2 h3 h4 h5 cA nu pk dc rc pr ex dv rt sp p0 p1 p2 rc_2 rt_2 hr2) (cwV 3 hts gX0_liftRoots_X0_liftByAll rfl rfl rfl (by decide +kernel) ⟨Nat.le_of_ble_eq_true rfl, Nat.le_of_ble_eq_true rfl⟩) ⟨rf_blind, va_recv hK hP (ci := 0) (q0 := 0) rfl rfl, fun U hU hW => ⟨rfl, rf_pre (hP.sub (ws' := [(h0, .inr (0, [.int nu, .int pk, .ref h1, .ref h2, .int dc, .ref h3, .int rc, .ref h4, .ref h5])), (h1, .inl (cA, 7, .inl pr)), (h2, .inl (cA, 7, .inl ex)), (h3, .inl (cA, 360, .inl dv)), (h4, .inl (cA, 4096, .inl rt)), (h5, .inl (cA, 4096, .inl sp))]) [0, 1, 2, 3, 4, 5] rfl) (hK.sub (tys' := [(cA, .int)]) [0] rfl) (hD.sub (ws' := [(h0, .inr (0, [.int nu, .int pk, .ref h1, .ref h2, .int dc, .ref h3, .int rc, .ref h4, .ref h5])), (h1, .inl (cA, 7, .inl pr)), (h2, .inl (cA, 7, .inl ex)), (h3, .inl (cA, 360, .inl dv)), (h4, .inl (cA, 4096, .inl rt)), (h5, .inl (cA, 4096, .inl sp))]) [0, 1, 2, 3, 4, 5] (by decide) rfl) U hU hW⟩⟩ rfl rfl hl.1 rfl (lv_room (Nat.le_of_ble_eq_true rfl)) dX0_liftRoots_18 ⟨Nat.zero_le _, Nat.zero_le _⟩) (fun u H locs hw hP hD hS => ?_)
    have hP : va_P (dC, dI) vwCl [(h0, .inr (0, [.int nu, .int pk, .ref h1, .ref h2, .int dc, .ref h3, .int rc_2, .ref h4, .ref h5])), (h1, .inl (cA, 7, .inl pr)), (h2, .inl (cA, 7, .inl ex)), (h3, .inl (cA, 360, .inl dv)), (h4, .inl (cA, 4096, .inl rt_2)), (h5, .inl (cA, 4096, .inl sp))] H := hP
    have hD : va_D A [(h0, .inr (0, [.int nu, .int pk, .ref h1, .ref h2, .int dc, .ref h3, .int rc_2, .ref h4, .ref h5])), (h1, .inl (cA, 7, .inl pr)), (h2, .inl (cA, 7, .inl ex)), (h3, .inl (cA, 360, .inl dv)), (h4, .inl (cA, 4096, .inl rt_2)), (h5, .inl (cA, 4096, .inl sp))] := hD
    refine lv_goto (tgt := 31) hx hb dX0_liftRoots_21 (by decide) ?_
    cases h
    exact W.vret hx hb hr (fun t ht hW => ⟨⟨(), rfl, trivial, by rw [ht]; exact hP, hD⟩, hS.F ht⟩) hS.2.2 dX0_liftRoots_31
  · rw [if_neg c1] at h
    refine lv_iload_n hx hb dX0_liftRoots_5 rfl (lv_at hl 1 rfl) ?_
    refine lv_i2l (v := (Int32.toInt64 p0)) hx hb dX0_liftRoots_6 rfl ?_
    refine lv_iload_n hx hb dX0_liftRoots_7 rfl (lv_at hl 3 rfl) ?_
    obtain ⟨r3, hr3, h⟩ := rf_b1 h
    refine rf_ci (wn := (fun _ : Unit => [])) (wc := []) (wr := [(h0, .inr (0, [.int nu, .int pk, .ref h1, .ref h2, .int dc, .ref h3, .int rc, .ref h4, .ref h5])), (h1, .inl (cA, 7, .inl pr)), (h2, .inl (cA, 7, .inl ex)), (h3, .inl (cA, 360, .inl dv)), (h4, .inl (cA, 4096, .inl rt)), (h5, .inl (cA, 4096, .inl sp))]) hP hD hS hA [] [0, 1, 2, 3, 4, 5] rfl rfl (by decide) (by decide) (va_runS (As := [.long (Int32.toInt64 p0), .int p2]) (rest := []) ⟨hx, hb, hml, hown, hts⟩ (c_r_residue l dC dI _ F (Int32.toInt64 p0) p2 r3 hr3) (va_cwS 2 hts gX0_liftRoots_X0_residue rfl rfl rfl (by decide +kernel) ⟨Nat.le_of_ble_eq_true rfl, Nat.le_of_ble_eq_true rfl⟩) ⟨rf_blind, fun U hU hW => ⟨rfl, rf_pre (hP.sub (ws' := []) [] rfl) (hK.sub (tys' := []) [] rfl) (hD.sub (ws' := []) [] (by decide) rfl) U hU hW⟩⟩ rfl rfl hl.1 rfl (lv_room (Nat.le_of_ble_eq_true rfl)) dX0_liftRoots_8 ⟨Nat.zero_le _, Nat.zero_le _⟩) (fun r3' u H locs hw hP hD hS => ?_)
    subst hw
    have hP : va_P (dC, dI) vwCl [(h0, .inr (0, [.int nu, .int pk, .ref h1, .ref h2, .int dc, .ref h3, .int rc, .ref h4, .ref h5])), (h1, .inl (cA, 7, .inl pr)), (h2, .inl (cA, 7, .inl ex)), (h3, .inl (cA, 360, .inl dv)), (h4, .inl (cA, 4096, .inl rt)), (h5, .inl (cA, 4096, .inl sp))] H := hP
    have hD : va_D A [(h0, .inr (0, [.int nu, .int pk, .ref h1, .ref h2, .int dc, .ref h3, .int rc, .ref h4, .ref h5])), (h1, .inl (cA, 7, .inl pr)), (h2, .inl (cA, 7, .inl ex)), (h3, .inl (cA, 360, .inl dv)), (h4, .inl (cA, 4096, .inl rt)), (h5, .inl (cA, 4096, .inl sp))] := hD
    refine lv_if_ne (tgt := 24) hx hb dX0_liftRoots_11 (by decide) (fun c4 => ?_) (fun c4 => ?_)
    · rw [if_neg c4] at h
      refine lv_aload_n hx hb dX0_liftRoots_24 rfl (lv_at hl 0 rfl) ?_
      refine lv_iload_n hx hb dX0_liftRoots_25 rfl (lv_at hl 1 rfl) ?_
      refine lv_iload_n hx hb dX0_liftRoots_26 rfl (lv_at hl 2 rfl) ?_
      refine lv_iload_n hx hb dX0_liftRoots_27 rfl (lv_at hl 3 rfl) ?_
      obtain ⟨rt_5, hr5, h⟩ := rf_b1 h
      refine rf_cv (wn := (fun _ : Unit => [(h0, .inr (0, [.int nu, .int pk, .ref h1, .ref h2, .int dc, .ref h3, .int rc, .ref h4, .ref h5])), (h1, .inl (cA, 7, .inl pr)), (h2, .inl (cA, 7, .inl ex)), (h3, .inl (cA, 360, .inl dv)), (h4, .inl (cA, 4096, .inl rt_5)), (h5, .inl (cA, 4096, .inl sp))])) (wc := [(h0, .inr (0, [.int nu, .int pk, .ref h1, .ref h2, .int dc, .ref h3, .int rc, .ref h4, .ref h5])), (h1, .inl (cA, 7, .inl pr)), (h2, .inl (cA, 7, .inl ex)), (h3, .inl (cA, 360, .inl dv)), (h4, .inl (cA, 4096, .inl rt)), (h5, .inl (cA, 4096, .inl sp))]) (wr := []) hP hD hS hA [0, 1, 2, 3, 4, 5] [] rfl rfl (by decide) (by decide) (va_runV (As := [.int p0, .int p1, .int p2]) (rest := []) ⟨hx, hb, hml, hown, hts⟩ (c_r_liftByOne l dC dI _ F h0 h1 h2 h3 h4 h5 cA nu pk dc rc pr ex dv rt sp p0 p1 p2 rt_5 hr5) (cwV 3 hts gX0_liftRoots_X0_liftByOne rfl rfl rfl (by decide +kernel) ⟨Nat.le_of_ble_eq_true rfl, Nat.le_of_ble_eq_true rfl⟩) ⟨rf_blind, va_recv hK hP (ci := 0) (q0 := 0) rfl rfl, fun U hU hW => ⟨rfl, rf_pre (hP.sub (ws' := [(h0, .inr (0, [.int nu, .int pk, .ref h1, .ref h2, .int dc, .ref h3, .int rc, .ref h4, .ref h5])), (h1, .inl (cA, 7, .inl pr)), (h2, .inl (cA, 7, .inl ex)), (h3, .inl (cA, 360, .inl dv)), (h4, .inl (cA, 4096, .inl rt)), (h5, .inl (cA, 4096, .inl sp))]) [0, 1, 2, 3, 4, 5] rfl) (hK.sub (tys' := [(cA, .int)]) [0] rfl) (hD.sub (ws' := [(h0, .inr (0, [.int nu, .int pk, .ref h1, .ref h2, .int dc, .ref h3, .int rc, .ref h4, .ref h5])), (h1, .inl (cA, 7, .inl pr)), (h2, .inl (cA, 7, .inl ex)), (h3, .inl (cA, 360, .inl dv)), (h4, .inl (cA, 4096, .inl rt)), (h5, .inl (cA, 4096, .inl sp))]) [0, 1, 2, 3, 4, 5] (by decide) rfl) U hU hW⟩⟩ rfl rfl hl.1 rfl (lv_room (Nat.le_of_ble_eq_true rfl)) dX0_liftRoots_28 ⟨Nat.zero_le _, Nat.zero_le _⟩) (fun u H locs hw hP hD hS => ?_)
      have hP : va_P (dC, dI) vwCl [(h0, .inr (0, [.int nu, .int pk, .ref h1, .ref h2, .int dc, .ref h3, .int rc, .ref h4, .ref h5])), (h1, .inl (cA, 7, .inl pr)), (h2, .inl (cA, 7, .inl ex)), (h3, .inl (cA, 360, .inl dv)), (h4, .inl (cA, 4096, .inl rt_5)), (h5, .inl (cA, 4096, .inl sp))] H := hP
      have hD : va_D A [(h0, .inr (0, [.int nu, .int pk, .ref h1, .ref h2, .int dc, .ref h3, .int rc, .ref h4, .ref h5])), (h1, .inl (cA, 7, .inl pr)), (h2, .inl (cA, 7, .inl ex)), (h3, .inl (cA, 360, .inl dv)), (h4, .inl (cA, 4096, .inl rt_5)), (h5, .inl (cA, 4096, .inl sp))] := hD
      cases h
      exact W.vret hx hb hr (fun t ht hW => ⟨⟨(), rfl, trivial, by rw [ht]; exact hP, hD⟩, hS.F ht⟩) hS.2.2 dX0_liftRoots_31
    · rw [if_pos c4] at h
      refine lv_aload_n hx hb dX0_liftRoots_14 rfl (lv_at hl 0 rfl) ?_
      refine lv_iload_n hx hb dX0_liftRoots_15 rfl (lv_at hl 1 rfl) ?_
      refine lv_iload_n hx hb dX0_liftRoots_16 rfl (lv_at hl 2 rfl) ?_
      refine lv_iload_n hx hb dX0_liftRoots_17 rfl (lv_at hl 3 rfl) ?_
      obtain ⟨rc_6, rt_6, hr6, h⟩ := rf_b2 h
      refine rf_cv (wn := (fun _ : Unit => [(h0, .inr (0, [.int nu, .int pk, .ref h1, .ref h2, .int dc, .ref h3, .int rc_6, .ref h4, .ref h5])), (h1, .inl (cA, 7, .inl pr)), (h2, .inl (cA, 7, .inl ex)), (h3, .inl (cA, 360, .inl dv)), (h4, .inl (cA, 4096, .inl rt_6)), (h5, .inl (cA, 4096, .inl sp))])) (wc := [(h0, .inr (0, [.int nu, .int pk, .ref h1, .ref h2, .int dc, .ref h3, .int rc, .ref h4, .ref h5])), (h1, .inl (cA, 7, .inl pr)), (h2, .inl (cA, 7, .inl ex)), (h3, .inl (cA, 360, .inl dv)), (h4, .inl (cA, 4096, .inl rt)), (h5, .inl (cA, 4096, .inl sp))]) (wr := []) hP hD hS hA [0, 1, 2, 3, 4, 5] [] rfl rfl (by decide) (by decide) (va_runV (As := [.int p0, .int p1, .int p2]) (rest := []) ⟨hx, hb, hml, hown, hts⟩ (c_r_liftByAll l dC dI _ F h0 h1 h2 h3 h4 h5 cA nu pk dc rc pr ex dv rt sp p0 p1 p2 rc_6 rt_6 hr6) (cwV 3 hts gX0_liftRoots_X0_liftByAll rfl rfl rfl (by decide +kernel) ⟨Nat.le_of_ble_eq_true rfl, Nat.le_of_ble_eq_true rfl⟩) ⟨rf_blind, va_recv hK hP (ci := 0) (q0 := 0) rfl rfl, fun U hU hW => ⟨rfl, rf_pre (hP.sub (ws' := [(h0, .inr (0, [.int nu, .int pk, .ref h1, .ref h2, .int dc, .ref h3, .int rc, .ref h4, .ref h5])), (h1, .inl (cA, 7, .inl pr)), (h2, .inl (cA, 7, .inl ex)), (h3, .inl (cA, 360, .inl dv)), (h4, .inl (cA, 4096, .inl rt)), (h5, .inl (cA, 4096, .inl sp))]) [0, 1, 2, 3, 4, 5] rfl) (hK.sub (tys' := [(cA, .int)]) [0] rfl) (hD.sub (ws' := [(h0, .inr (0, [.int nu, .int pk, .ref h1, .ref h2, .int dc, .ref h3, .int rc, .ref h4, .ref h5])), (h1, .inl (cA, 7, .inl pr)), (h2, .inl (cA, 7, .inl ex)), (h3, .inl (cA, 360, .inl dv)), (h4, .inl (cA, 4096, .inl rt)), (h5, .inl (cA, 4096, .inl sp))]) [0, 1, 2, 3, 4, 5] (by decide) rfl) U hU hW⟩⟩ rfl rfl hl.1 rfl (lv_room (Nat.le_of_ble_eq_true rfl)) dX0_liftRoots_18 ⟨Nat.zero_le _, Nat.zero_le _⟩) (fun u H locs hw hP hD hS => ?_)
      have hP : va_P (dC, dI) vwCl [(h0, .inr (0, [.int nu, .int pk, .ref h1, .ref h2, .int dc, .ref h3, .int rc_6, .ref h4, .ref h5])), (h1, .inl (cA, 7, .inl pr)), (h2, .inl (cA, 7, .inl ex)), (h3, .inl (cA, 360, .inl dv)), (h4, .inl (cA, 4096, .inl rt_6)), (h5, .inl (cA, 4096, .inl sp))] H := hP
      have hD : va_D A [(h0, .inr (0, [.int nu, .int pk, .ref h1, .ref h2, .int dc, .ref h3, .int rc_6, .ref h4, .ref h5])), (h1, .inl (cA, 7, .inl pr)), (h2, .inl (cA, 7, .inl ex)), (h3, .inl (cA, 360, .inl dv)), (h4, .inl (cA, 4096, .inl rt_6)), (h5, .inl (cA, 4096, .inl sp))] := hD
      refine lv_goto (tgt := 31) hx hb dX0_liftRoots_21 (by decide) ?_
      cases h
      exact W.vret hx hb hr (fun t ht hW => ⟨⟨(), rfl, trivial, by rw [ht]; exact hP, hD⟩, hS.F ht⟩) hS.2.2 dX0_liftRoots_31
def l_r_roots_71 (F : Nat) (x3 x5 x6 : Int32) (ex : Nat → Int32) : Nat → Int32 → Int32 → Int32 → (Nat → Int32) → Option (Int32 × Int32 × (Nat → Int32))
  | 0, _, _, _, _ => none
  | n + 1, x4, x7, rc, rt => if x5.toInt < 0 ∨ (7 : Int) ≤ x5.toInt then none else if (ex x5.toNatClampNeg) ≤ x7 then some (x4, rc, rt) else b2 (f_r_liftRoots F rc rt x3 x4 x6) fun rc_3 rt_3 => l_r_roots_71 F x3 x5 x6 ex n (x4 * x6) (x7 + 1) rc_3 rt_3
set_option maxHeartbeats 4000000 in
set_option maxRecDepth 100000 in
theorem w_r_roots_71 {p : Program} {l : Launch} {e : Env} {s : State} {m : MethodId} {args : Array Value} {below : List Frame} {meth : Method} {c : Code} {A : Nat → Prop} {Q : State → Prop} {dC : Nat → ClassId} {dI : Nat → Nat → Nat} (F : Nat) (hx : p.tables.exec = Jvm.exec) (hb : c.code = cX0_roots) (hml : c.maxLocals = 8) (hown : s.vm.findClass RX0 = some m.cls) (hts : ∀ w ∈ wsX0_roots, w.before args s = true) (hA : ∀ q, s.heap.size ≤ q → A q) (h0 h1 h2 h3 h4 h5 : Nat) (cA : ClassId) (hK : va_K (dC, dI) vwCl [(cA, .int)] s) (x3 x5 x6 nu pk dc : Int32) (pr ex dv sp : Nat → Int32) :
    ∀ (n : Nat) (x4 x7 rc : Int32) (rt : Nat → Int32) (x4' rc' : Int32) (rt' : Nat → Int32), l_r_roots_71 F x3 x5 x6 ex n x4 x7 rc rt = some (x4', rc', rt') → ∀ (H : Heap) (locs : List Loc), va_P (dC, dI) vwCl [(h0, .inr (0, [.int nu, .int pk, .ref h1, .ref h2, .int dc, .ref h3, .int rc, .ref h4, .ref h5])), (h1, .inl (cA, 7, .inl pr)), (h2, .inl (cA, 7, .inl ex)), (h3, .inl (cA, 360, .inl dv)), (h4, .inl (cA, 4096, .inl rt)), (h5, .inl (cA, 4096, .inl sp))] H → va_D A [(h0, .inr (0, [.int nu, .int pk, .ref h1, .ref h2, .int dc, .ref h3, .int rc, .ref h4, .ref h5])), (h1, .inl (cA, 7, .inl pr)), (h2, .inl (cA, 7, .inl ex)), (h3, .inl (cA, 360, .inl dv)), (h4, .inl (cA, 4096, .inl rt)), (h5, .inl (cA, 4096, .inl sp))] → va_S A s.heap H locs → ∀ ls : Array Slot, lv_has ls 8 [(0, .ref h0), (3, .int x3), (4, .int x4), (5, .int x5), (6, .int x6), (7, .int x7)] → (∀ (H : Heap) (locs : List Loc) (ls : Array Slot), va_P (dC, dI) vwCl [(h0, .inr (0, [.int nu, .int pk, .ref h1, .ref h2, .int dc, .ref h3, .int rc', .ref h4, .ref h5])), (h1, .inl (cA, 7, .inl pr)), (h2, .inl (cA, 7, .inl ex)), (h3, .inl (cA, 360, .inl dv)), (h4, .inl (cA, 4096, .inl rt')), (h5, .inl (cA, 4096, .inl sp))] H → va_D A [(h0, .inr (0, [.int nu, .int pk, .ref h1, .ref h2, .int dc, .ref h3, .int rc', .ref h4, .ref h5])), (h1, .inl (cA, 7, .inl pr)), (h2, .inl (cA, 7, .inl ex)), (h3, .inl (cA, 360, .inl dv)), (h4, .inl (cA, 4096, .inl rt')), (h5, .inl (cA, 4096, .inl sp))] → va_S A s.heap H locs → lv_has ls 8 [(0, .ref h0), (3, .int x3), (4, .int x4'), (5, .int x5)] → W p l e { frames := 6, cells := 0, slots := 0, locals := 156 } s m args below meth c H locs 0 0 Q (F0 m 105 ls [])) → W p l e { frames := 6, cells := 0, slots := 0, locals := 156 } s m args below meth c H locs 0 0 Q (F0 m 71 ls []) := by
  intro n
  induction n with
  | zero => intro x4 x7 rc rt x4' rc' rt' h; exact nomatch (show (none : Option _) = some _ from h)
  | succ n ih =>
    intro x4 x7 rc rt x4' rc' rt' h H locs hP hD hS ls hl K
    rw [l_r_roots_71] at h
    refine lv_iload hx hb dX0_roots_71 (lv_at hl 5 rfl) ?_
    refine lv_aload_n hx hb dX0_roots_73 rfl (lv_at hl 0 rfl) ?_
    refine va_get (D := (dC, dI)) (ci := 0) (v := .ref h2) (C := RX0) (T := TX0) (N := 9) hx hb hts (fun _ h => List.mem_cons_of_mem _ (List.mem_append_right _ h)) hown hK hP 0 rfl rfl 3 (by decide) (hts _ (List.mem_of_getElem? (i := 46) rfl)) (fun _ h9 => h9) rfl dX0_roots_74 ?_
    refine lv_iload hx hb dX0_roots_77 (lv_at hl 3 rfl) ?_
    obtain ⟨g1, h⟩ := rf_gd h
    refine va_iald hx hb hK hP 2 0 rfl rfl (rf_in g1) dX0_roots_79 ?_
    refine lv_icmp_ge (tgt := 105) hx hb dX0_roots_80 (by decide) (fun c2 => ?_) (fun c2 => ?_)
    · rw [if_pos c2] at h
      cases h
      exact K _ _ _ hP hD hS (lv_sub hl [0, 1, 2, 3] rfl)
    · rw [if_neg c2] at h
      refine lv_aload_n hx hb dX0_roots_83 rfl (lv_at hl 0 rfl) ?_
      refine lv_iload_n hx hb dX0_roots_84 rfl (lv_at hl 1 rfl) ?_
      refine lv_iload hx hb dX0_roots_85 (lv_at hl 2 rfl) ?_
      refine lv_iload hx hb dX0_roots_87 (lv_at hl 4 rfl) ?_
      obtain ⟨rc_3, rt_3, hr3, h⟩ := rf_b2 h
      refine rf_cv (wn := (fun _ : Unit => [(h0, .inr (0, [.int nu, .int pk, .ref h1, .ref h2, .int dc, .ref h3, .int rc_3, .ref h4, .ref h5])), (h1, .inl (cA, 7, .inl pr)), (h2, .inl (cA, 7, .inl ex)), (h3, .inl (cA, 360, .inl dv)), (h4, .inl (cA, 4096, .inl rt_3)), (h5, .inl (cA, 4096, .inl sp))])) (wc := [(h0, .inr (0, [.int nu, .int pk, .ref h1, .ref h2, .int dc, .ref h3, .int rc, .ref h4, .ref h5])), (h1, .inl (cA, 7, .inl pr)), (h2, .inl (cA, 7, .inl ex)), (h3, .inl (cA, 360, .inl dv)), (h4, .inl (cA, 4096, .inl rt)), (h5, .inl (cA, 4096, .inl sp))]) (wr := []) hP hD hS hA [0, 1, 2, 3, 4, 5] [] rfl rfl (by decide) (by decide) (va_runV (As := [.int x3, .int x4, .int x6]) (rest := []) ⟨hx, hb, hml, hown, hts⟩ (c_r_liftRoots l dC dI _ F h0 h1 h2 h3 h4 h5 cA nu pk dc rc pr ex dv rt sp x3 x4 x6 rc_3 rt_3 hr3) (cwV 3 hts gX0_roots_X0_liftRoots rfl rfl rfl (by decide +kernel) ⟨Nat.le_of_ble_eq_true rfl, Nat.le_of_ble_eq_true rfl⟩) ⟨rf_blind, va_recv hK hP (ci := 0) (q0 := 0) rfl rfl, fun U hU hW => ⟨rfl, rf_pre (hP.sub (ws' := [(h0, .inr (0, [.int nu, .int pk, .ref h1, .ref h2, .int dc, .ref h3, .int rc, .ref h4, .ref h5])), (h1, .inl (cA, 7, .inl pr)), (h2, .inl (cA, 7, .inl ex)), (h3, .inl (cA, 360, .inl dv)), (h4, .inl (cA, 4096, .inl rt)), (h5, .inl (cA, 4096, .inl sp))]) [0, 1, 2, 3, 4, 5] rfl) (hK.sub (tys' := [(cA, .int)]) [0] rfl) (hD.sub (ws' := [(h0, .inr (0, [.int nu, .int pk, .ref h1, .ref h2, .int dc, .ref h3, .int rc, .ref h4, .ref h5])), (h1, .inl (cA, 7, .inl pr)), (h2, .inl (cA, 7, .inl ex)), (h3, .inl (cA, 360, .inl dv)), (h4, .inl (cA, 4096, .inl rt)), (h5, .inl (cA, 4096, .inl sp))]) [0, 1, 2, 3, 4, 5] (by decide) rfl) U hU hW⟩⟩ rfl rfl hl.1 rfl (lv_room (Nat.le_of_ble_eq_true rfl)) dX0_roots_89 ⟨Nat.zero_le _, Nat.zero_le _⟩) (fun u H locs hw hP hD hS => ?_)
      have hP : va_P (dC, dI) vwCl [(h0, .inr (0, [.int nu, .int pk, .ref h1, .ref h2, .int dc, .ref h3, .int rc_3, .ref h4, .ref h5])), (h1, .inl (cA, 7, .inl pr)), (h2, .inl (cA, 7, .inl ex)), (h3, .inl (cA, 360, .inl dv)), (h4, .inl (cA, 4096, .inl rt_3)), (h5, .inl (cA, 4096, .inl sp))] H := hP
      have hD : va_D A [(h0, .inr (0, [.int nu, .int pk, .ref h1, .ref h2, .int dc, .ref h3, .int rc_3, .ref h4, .ref h5])), (h1, .inl (cA, 7, .inl pr)), (h2, .inl (cA, 7, .inl ex)), (h3, .inl (cA, 360, .inl dv)), (h4, .inl (cA, 4096, .inl rt_3)), (h5, .inl (cA, 4096, .inl sp))] := hD
      refine lv_iload hx hb dX0_roots_92 (lv_at hl 2 rfl) ?_
      refine lv_iload hx hb dX0_roots_94 (lv_at hl 4 rfl) ?_
      refine lv_imul hx hb dX0_roots_96 ?_
      refine lv_istore (lv' := [(4, .int (x4 * x6)), (0, .ref h0), (3, .int x3), (5, .int x5), (6, .int x6), (7, .int x7)]) hx hb dX0_roots_97 hl (by decide) rfl (fun ls hl => ?_)
      refine lv_iinc (v := (x7 + 1)) (lv' := [(7, .int (x7 + 1)), (4, .int (x4 * x6)), (0, .ref h0), (3, .int x3), (5, .int x5), (6, .int x6)]) hx hb dX0_roots_99 hl (k := 5) rfl rfl (by decide) rfl (fun ls hl => ?_)
      refine lv_goto (tgt := 71) hx hb dX0_roots_102 (by decide) ?_
      exact ih (x4 * x6) (x7 + 1) rc_3 rt_3 x4' rc' rt' h _ _ hP hD hS _ (lv_sub hl [2, 3, 1, 4, 5, 0] rfl) K
def l_r_roots_27 (F : Nat) (x3 pk : Int32) (pr ex : Nat → Int32) : Nat → Int32 → Int32 → Int32 → (Nat → Int32) → (Nat → Int32) → Option (Int32 × (Nat → Int32) × (Nat → Int32))
  | 0, _, _, _, _, _ => none
  | n + 1, x4, x5, rc, rt, sp => if pk ≤ x5 then some (rc, rt, sp) else if rc ≤ 0 then some (rc, rt, sp) else if x5.toInt < 0 ∨ (7 : Int) ≤ x5.toInt then none else b3 (f_r_joinRootsModuloPrime F rc rt sp x3 x4 (pr x5.toNatClampNeg)) fun rc_4 rt_4 sp_4 => b3 (l_r_roots_71 F x3 x5 (pr x5.toNatClampNeg) ex F (x4 * (pr x5.toNatClampNeg)) 1 rc_4 rt_4) fun x4_5 rc_5 rt_5 => l_r_roots_27 F x3 pk pr ex n x4_5 (x5 + 1) rc_5 rt_5 sp_4
set_option maxHeartbeats 4000000 in
set_option maxRecDepth 100000 in
theorem w_r_roots_27 {p : Program} {l : Launch} {e : Env} {s : State} {m : MethodId} {args : Array Value} {below : List Frame} {meth : Method} {c : Code} {A : Nat → Prop} {Q : State → Prop} {dC : Nat → ClassId} {dI : Nat → Nat → Nat} (F : Nat) (hx : p.tables.exec = Jvm.exec) (hb : c.code = cX0_roots) (hml : c.maxLocals = 8) (hown : s.vm.findClass RX0 = some m.cls) (hts : ∀ w ∈ wsX0_roots, w.before args s = true) (hA : ∀ q, s.heap.size ≤ q → A q) (h0 h1 h2 h3 : Nat) (cA : ClassId) (hK : va_K (dC, dI) vwCl [(cA, .int)] s) (x3 nu pk dc : Int32) (pr ex dv : Nat → Int32) :
    ∀ (n : Nat) (h4 h5 : Nat) (x4 x5 rc : Int32) (rt sp : Nat → Int32) (rc' : Int32) (rt' sp' : Nat → Int32), l_r_roots_27 F x3 pk pr ex n x4 x5 rc rt sp = some (rc', rt', sp') → ∀ (H : Heap) (locs : List Loc), va_P (dC, dI) vwCl [(h0, .inr (0, [.int nu, .int pk, .ref h1, .ref h2, .int dc, .ref h3, .int rc, .ref h4, .ref h5])), (h1, .inl (cA, 7, .inl pr)), (h2, .inl (cA, 7, .inl ex)), (h3, .inl (cA, 360, .inl dv)), (h4, .inl (cA, 4096, .inl rt)), (h5, .inl (cA, 4096, .inl sp))] H → va_D A [(h0, .inr (0, [.int nu, .int pk, .ref h1, .ref h2, .int dc, .ref h3, .int rc, .ref h4, .ref h5])), (h1, .inl (cA, 7, .inl pr)), (h2, .inl (cA, 7, .inl ex)), (h3, .inl (cA, 360, .inl dv)), (h4, .inl (cA, 4096, .inl rt)), (h5, .inl (cA, 4096, .inl sp))] → va_S A s.heap H locs → ∀ ls : Array Slot, lv_has ls 8 [(0, .ref h0), (3, .int x3), (4, .int x4), (5, .int x5)] → (∀ (h4' : Nat) (h5' : Nat) (H : Heap) (locs : List Loc) (ls : Array Slot), va_P (dC, dI) vwCl [(h0, .inr (0, [.int nu, .int pk, .ref h1, .ref h2, .int dc, .ref h3, .int rc', .ref h4', .ref h5'])), (h1, .inl (cA, 7, .inl pr)), (h2, .inl (cA, 7, .inl ex)), (h3, .inl (cA, 360, .inl dv)), (h4', .inl (cA, 4096, .inl rt')), (h5', .inl (cA, 4096, .inl sp'))] H → va_D A [(h0, .inr (0, [.int nu, .int pk, .ref h1, .ref h2, .int dc, .ref h3, .int rc', .ref h4', .ref h5'])), (h1, .inl (cA, 7, .inl pr)), (h2, .inl (cA, 7, .inl ex)), (h3, .inl (cA, 360, .inl dv)), (h4', .inl (cA, 4096, .inl rt')), (h5', .inl (cA, 4096, .inl sp'))] → va_S A s.heap H locs → lv_has ls 8 [(0, .ref h0)] → W p l e { frames := 6, cells := 0, slots := 0, locals := 156 } s m args below meth c H locs 0 0 Q (F0 m 111 ls [])) → W p l e { frames := 6, cells := 0, slots := 0, locals := 156 } s m args below meth c H locs 0 0 Q (F0 m 27 ls []) := by
  intro n
  induction n with
  | zero => intro h4 h5 x4 x5 rc rt sp rc' rt' sp' h; exact nomatch (show (none : Option _) = some _ from h)
  | succ n ih =>
    intro h4 h5 x4 x5 rc rt sp rc' rt' sp' h H locs hP hD hS ls hl K
    rw [l_r_roots_27] at h
    refine lv_iload hx hb dX0_roots_27 (lv_at hl 3 rfl) ?_
    refine lv_aload_n hx hb dX0_roots_29 rfl (lv_at hl 0 rfl) ?_
    refine va_get (D := (dC, dI)) (ci := 0) (v := .int pk) (C := RX0) (T := TX0) (N := 9) hx hb hts (fun _ h => List.mem_cons_of_mem _ (List.mem_append_right _ h)) hown hK hP 0 rfl rfl 1 (by decide) (hts _ (List.mem_of_getElem? (i := 8) rfl)) (fun _ h9 => h9) rfl dX0_roots_30 ?_
    refine lv_icmp_ge (tgt := 111) hx hb dX0_roots_33 (by decide) (fun c1 => ?_) (fun c1 => ?_)
    · rw [if_pos c1] at h
      cases h
      exact K _ _ _ _ _ hP hD hS (lv_sub hl [0] rfl)
    · rw [if_neg c1] at h
      refine lv_aload_n hx hb dX0_roots_36 rfl (lv_at hl 0 rfl) ?_
      refine va_get (D := (dC, dI)) (ci := 0) (v := .int rc) (C := RX0) (T := TX0) (N := 9) hx hb hts (fun _ h => List.mem_cons_of_mem _ (List.mem_append_right _ h)) hown hK hP 0 rfl rfl 6 (by decide) (hts _ (List.mem_of_getElem? (i := 7) rfl)) (fun _ h9 => h9) rfl dX0_roots_37 ?_
      refine lv_if_le (tgt := 111) hx hb dX0_roots_40 (by decide) (fun c2 => ?_) (fun c2 => ?_)
      · rw [if_pos c2] at h
        cases h
        exact K _ _ _ _ _ hP hD hS (lv_sub hl [0] rfl)
      · rw [if_neg c2] at h
        refine lv_aload_n hx hb dX0_roots_43 rfl (lv_at hl 0 rfl) ?_
        refine va_get (D := (dC, dI)) (ci := 0) (v := .ref h1) (C := RX0) (T := TX0) (N := 9) hx hb hts (fun _ h => List.mem_cons_of_mem _ (List.mem_append_right _ h)) hown hK hP 0 rfl rfl 2 (by decide) (hts _ (List.mem_of_getElem? (i := 9) rfl)) (fun _ h9 => h9) rfl dX0_roots_44 ?_
        refine lv_iload hx hb dX0_roots_47 (lv_at hl 3 rfl) ?_
        obtain ⟨g3, h⟩ := rf_gd h
        refine va_iald hx hb hK hP 1 0 rfl rfl (rf_in g3) dX0_roots_49 ?_
        refine lv_istore (lv' := [(6, .int (pr x5.toNatClampNeg)), (0, .ref h0), (3, .int x3), (4, .int x4), (5, .int x5)]) hx hb dX0_roots_50 hl (by decide) rfl (fun ls hl => ?_)
        refine lv_aload_n hx hb dX0_roots_52 rfl (lv_at hl 1 rfl) ?_
        refine lv_iload_n hx hb dX0_roots_53 rfl (lv_at hl 2 rfl) ?_
        refine lv_iload hx hb dX0_roots_54 (lv_at hl 3 rfl) ?_
        refine lv_iload hx hb dX0_roots_56 (lv_at hl 0 rfl) ?_
        obtain ⟨rc_4, rt_4, sp_4, hr4, h⟩ := rf_b3 h
        refine rf_cv (wn := (fun u : Nat × Nat => [(h0, .inr (0, [.int nu, .int pk, .ref h1, .ref h2, .int dc, .ref h3, .int rc_4, .ref u.1, .ref u.2])), (h1, .inl (cA, 7, .inl pr)), (h2, .inl (cA, 7, .inl ex)), (h3, .inl (cA, 360, .inl dv)), (u.1, .inl (cA, 4096, .inl rt_4)), (u.2, .inl (cA, 4096, .inl sp_4))])) (wc := [(h0, .inr (0, [.int nu, .int pk, .ref h1, .ref h2, .int dc, .ref h3, .int rc, .ref h4, .ref h5])), (h1, .inl (cA, 7, .inl pr)), (h2, .inl (cA, 7, .inl ex)), (h3, .inl (cA, 360, .inl dv)), (h4, .inl (cA, 4096, .inl rt)), (h5, .inl (cA, 4096, .inl sp))]) (wr := []) hP hD hS hA [0, 1, 2, 3, 4, 5] [] rfl rfl (by decide) (by decide) (va_runV (As := [.int x3, .int x4, .int (pr x5.toNatClampNeg)]) (rest := []) ⟨hx, hb, hml, hown, hts⟩ (c_r_joinRootsModuloPrime l dC dI _ F h0 h1 h2 h3 h4 h5 cA nu pk dc rc pr ex dv rt sp x3 x4 (pr x5.toNatClampNeg) rc_4 rt_4 sp_4 hr4) (cwV 3 hts gX0_roots_X0_joinRootsModuloPrime rfl rfl rfl (by decide +kernel) ⟨Nat.le_of_ble_eq_true rfl, Nat.le_of_ble_eq_true rfl⟩) ⟨rf_blind, va_recv hK hP (ci := 0) (q0 := 0) rfl rfl, fun U hU hW => ⟨rfl, rf_pre (hP.sub (ws' := [(h0, .inr (0, [.int nu, .int pk, .ref h1, .ref h2, .int dc, .ref h3, .int rc, .ref h4, .ref h5])), (h1, .inl (cA, 7, .inl pr)), (h2, .inl (cA, 7, .inl ex)), (h3, .inl (cA, 360, .inl dv)), (h4, .inl (cA, 4096, .inl rt)), (h5, .inl (cA, 4096, .inl sp))]) [0, 1, 2, 3, 4, 5] rfl) (hK.sub (tys' := [(cA, .int)]) [0] rfl) (hD.sub (ws' := [(h0, .inr (0, [.int nu, .int pk, .ref h1, .ref h2, .int dc, .ref h3, .int rc, .ref h4, .ref h5])), (h1, .inl (cA, 7, .inl pr)), (h2, .inl (cA, 7, .inl ex)), (h3, .inl (cA, 360, .inl dv)), (h4, .inl (cA, 4096, .inl rt)), (h5, .inl (cA, 4096, .inl sp))]) [0, 1, 2, 3, 4, 5] (by decide) rfl) U hU hW⟩⟩ rfl rfl hl.1 rfl (lv_room (Nat.le_of_ble_eq_true rfl)) dX0_roots_58 ⟨Nat.zero_le _, Nat.zero_le _⟩) (fun u H locs hw hP hD hS => ?_)
        obtain ⟨a4_4, a5_4⟩ := u
        have hP : va_P (dC, dI) vwCl [(h0, .inr (0, [.int nu, .int pk, .ref h1, .ref h2, .int dc, .ref h3, .int rc_4, .ref a4_4, .ref a5_4])), (h1, .inl (cA, 7, .inl pr)), (h2, .inl (cA, 7, .inl ex)), (h3, .inl (cA, 360, .inl dv)), (a4_4, .inl (cA, 4096, .inl rt_4)), (a5_4, .inl (cA, 4096, .inl sp_4))] H := hP
        have hD : va_D A [(h0, .inr (0, [.int nu, .int pk, .ref h1, .ref h2, .int dc, .ref h3, .int rc_4, .ref a4_4, .ref a5_4])), (h1, .inl (cA, 7, .inl pr)), (h2, .inl (cA, 7, .inl ex)), (h3, .inl (cA, 360, .inl dv)), (a4_4, .inl (cA, 4096, .inl rt_4)), (a5_4, .inl (cA, 4096, .inl sp_4))] := hD
        refine lv_iload hx hb dX0_roots_61 (lv_at hl 3 rfl) ?_
        refine lv_iload hx hb dX0_roots_63 (lv_at hl 0 rfl) ?_
        refine lv_imul hx hb dX0_roots_65 ?_
        refine lv_istore (lv' := [(4, .int (x4 * (pr x5.toNatClampNeg))), (6, .int (pr x5.toNatClampNeg)), (0, .ref h0), (3, .int x3), (5, .int x5)]) hx hb dX0_roots_66 hl (by decide) rfl (fun ls hl => ?_)
        refine lv_iconst (v := 1) hx hb dX0_roots_68 (by decide) ?_
        refine lv_istore (lv' := [(7, .int 1), (4, .int (x4 * (pr x5.toNatClampNeg))), (6, .int (pr x5.toNatClampNeg)), (0, .ref h0), (3, .int x3), (5, .int x5)]) hx hb dX0_roots_69 hl (by decide) rfl (fun ls hl => ?_)
        obtain ⟨x4_5, rc_5, rt_5, hr5, h⟩ := rf_b3 h
        refine w_r_roots_71 F hx hb hml hown hts hA h0 h1 h2 h3 a4_4 a5_4 cA hK x3 x5 (pr x5.toNatClampNeg) nu pk dc pr ex dv sp_4 F (x4 * (pr x5.toNatClampNeg)) 1 rc_4 rt_4 x4_5 rc_5 rt_5 hr5 _ _ hP hD hS _ (lv_sub hl [3, 4, 1, 5, 2, 0] rfl) (fun H locs ls hP hD hS hl => ?_)
        refine lv_iinc (v := (x5 + 1)) (lv' := [(5, .int (x5 + 1)), (0, .ref h0), (3, .int x3), (4, .int x4_5)]) hx hb dX0_roots_105 hl (k := 3) rfl rfl (by decide) rfl (fun ls hl => ?_)
        refine lv_goto (tgt := 27) hx hb dX0_roots_108 (by decide) ?_
        exact ih a4_4 a5_4 x4_5 (x5 + 1) rc_5 rt_5 sp_4 rc' rt' sp' h _ _ hP hD hS _ (lv_sub hl [1, 2, 3, 0] rfl) K
def f_r_roots (F : Nat) (nu pk rc : Int32) (pr ex rt sp : Nat → Int32) (p0 : Int64) : Option (Int32 × Int32 × (Nat → Int32) × (Nat → Int32)) := b1 (f_r_residue F p0 nu) fun r1 => if (0 : Int32).toInt < 0 ∨ (4096 : Int) ≤ (0 : Int32).toInt then none else b3 (l_r_roots_27 F r1 pk pr ex F 1 0 1 (upd rt (0 : Int32).toNatClampNeg 0) sp) fun rc_3 rt_3 sp_3 => b2 (f_r_sortRising F 4096 rt_3 sp_3 rc_3) fun ra_4 sp_4 => some (rc_3, rc_3, ra_4, sp_4)
set_option maxHeartbeats 4000000 in
set_option maxRecDepth 100000 in
theorem c_r_roots (l : Launch) (dC : Nat → ClassId) (dI : Nat → Nat → Nat) (sz F : Nat) (h0 h1 h2 h3 h4 h5 : Nat) (cA : ClassId) (nu pk dc rc : Int32) (pr ex dv rt sp : Nat → Int32) (p0 : Int64) (rv rc' : Int32) (rt' sp' : Nat → Int32) (h : f_r_roots F nu pk rc pr ex rt sp p0 = some (rv, rc', rt', sp')) : Met l yX0_roots wsX0_roots { frames := 6, cells := 0, slots := 0, locals := 156 } (rf_Pc (dC, dI) [(cA, .int)] [(h0, .inr (0, [.int nu, .int pk, .ref h1, .ref h2, .int dc, .ref h3, .int rc, .ref h4, .ref h5])), (h1, .inl (cA, 7, .inl pr)), (h2, .inl (cA, 7, .inl ex)), (h3, .inl (cA, 360, .inl dv)), (h4, .inl (cA, 4096, .inl rt)), (h5, .inl (cA, 4096, .inl sp))] sz [.ref h0, .long p0]) (va_Qi (fun (r : Int32) (u : Nat × Nat) => rv = r) (fun (u : Nat × Nat) t => va_P (dC, dI) vwCl [(h0, .inr (0, [.int nu, .int pk, .ref h1, .ref h2, .int dc, .ref h3, .int rc', .ref u.1, .ref u.2])), (h1, .inl (cA, 7, .inl pr)), (h2, .inl (cA, 7, .inl ex)), (h3, .inl (cA, 360, .inl dv)), (u.1, .inl (cA, 4096, .inl rt')), (u.2, .inl (cA, 4096, .inl sp'))] t.heap ∧ va_D (va_A [(h0, .inr (0, [.int nu, .int pk, .ref h1, .ref h2, .int dc, .ref h3, .int rc, .ref h4, .ref h5])), (h1, .inl (cA, 7, .inl pr)), (h2, .inl (cA, 7, .inl ex)), (h3, .inl (cA, 360, .inl dv)), (h4, .inl (cA, 4096, .inl rt)), (h5, .inl (cA, 4096, .inl sp))] sz) [(h0, .inr (0, [.int nu, .int pk, .ref h1, .ref h2, .int dc, .ref h3, .int rc', .ref u.1, .ref u.2])), (h1, .inl (cA, 7, .inl pr)), (h2, .inl (cA, 7, .inl ex)), (h3, .inl (cA, 360, .inl dv)), (u.1, .inl (cA, 4096, .inl rt')), (u.2, .inl (cA, 4096, .inl sp'))]) (va_A [(h0, .inr (0, [.int nu, .int pk, .ref h1, .ref h2, .int dc, .ref h3, .int rc, .ref h4, .ref h5])), (h1, .inl (cA, 7, .inl pr)), (h2, .inl (cA, 7, .inl ex)), (h3, .inl (cA, 360, .inl dv)), (h4, .inl (cA, 4096, .inl rt)), (h5, .inl (cA, 4096, .inl sp))] sz)) 0 0 (va_A [(h0, .inr (0, [.int nu, .int pk, .ref h1, .ref h2, .int dc, .ref h3, .int rc, .ref h4, .ref h5])), (h1, .inl (cA, 7, .inl pr)), (h2, .inl (cA, 7, .inl ex)), (h3, .inl (cA, 360, .inl dv)), (h4, .inl (cA, 4096, .inl rt)), (h5, .inl (cA, 4096, .inl sp))] sz) := by
  refine Met.ofW (cc := cX0_roots) (maxL := 8) (ret := (some .int)) (by decide) rfl ?_
  intro p e s m args below meth c s₁ B hml hv
  obtain ⟨rfl, hsz, hP, hK, hD0⟩ := hv
  have hx := B.exec
  have hb := B.bytes
  have hr := B.returns
  have hts := atoms_spec (ws := wsX0_roots) B.pre
  have hown : s.vm.findClass RX0 = some m.cls := findClass_of_methodNamed B.named
  have hlocks := B.notSynchronized
  subst hsz
  have hD := hD0.self (sz := s.heap.size)
  generalize hAe : va_A [(h0, .inr (0, [.int nu, .int pk, .ref h1, .ref h2, .int dc, .ref h3, .int rc, .ref h4, .ref h5])), (h1, .inl (cA, 7, .inl pr)), (h2, .inl (cA, 7, .inl ex)), (h3, .inl (cA, 360, .inl dv)), (h4, .inl (cA, 4096, .inl rt)), (h5, .inl (cA, 4096, .inl sp))] s.heap.size = A at hD ⊢
  have hA : ∀ q : Nat, s.heap.size ≤ q → A q := fun q h => by rw [← hAe]; exact Or.inr h
  have hS : va_S A s.heap s.heap [] := va_S.rf
  have hl := lv_entry ([.ref h0, .long p0]) (n := 8) (Nat.le_of_ble_eq_true rfl)
  rw [lg_entry_eq]
  generalize (lg_sl ([.ref h0, .long p0]) ++ List.replicate (8 - (lg_sl ([.ref h0, .long p0])).length) Slot.unset).toArray = ls at hl ⊢
  have hl : lv_has ls 8 [(0, .ref h0), (1, .long p0)] := hl
  unfold f_r_roots at h
  refine lv_lload_n hx hb dX0_roots_0 rfl (lv_at hl 1 rfl) ?_
  refine lv_aload_n hx hb dX0_roots_1 rfl (lv_at hl 0 rfl) ?_
  refine va_get (D := (dC, dI)) (ci := 0) (v := .int nu) (C := RX0) (T := TX0) (N := 9) hx hb hts (fun _ h => List.mem_cons_of_mem _ (List.mem_append_right _ h)) hown hK hP 0 rfl rfl 0 (by decide) (hts _ (List.mem_of_getElem? (i := 1) rfl)) (fun _ h9 => h9) rfl dX0_roots_2 ?_
  obtain ⟨r1, hr1, h⟩ := rf_b1 h
  refine rf_ci (wn := (fun _ : Unit => [])) (wc := []) (wr := [(h0, .inr (0, [.int nu, .int pk, .ref h1, .ref h2, .int dc, .ref h3, .int rc, .ref h4, .ref h5])), (h1, .inl (cA, 7, .inl pr)), (h2, .inl (cA, 7, .inl ex)), (h3, .inl (cA, 360, .inl dv)), (h4, .inl (cA, 4096, .inl rt)), (h5, .inl (cA, 4096, .inl sp))]) hP hD hS hA [] [0, 1, 2, 3, 4, 5] rfl rfl (by decide) (by decide) (va_runS (As := [.long p0, .int nu]) (rest := []) ⟨hx, hb, hml, hown, hts⟩ (c_r_residue l dC dI _ F p0 nu r1 hr1) (va_cwS 2 hts gX0_roots_X0_residue rfl rfl rfl (by decide +kernel) ⟨Nat.le_of_ble_eq_true rfl, Nat.le_of_ble_eq_true rfl⟩) ⟨rf_blind, fun U hU hW => ⟨rfl, rf_pre (hP.sub (ws' := []) [] rfl) (hK.sub (tys' := []) [] rfl) (hD.sub (ws' := []) [] (by decide) rfl) U hU hW⟩⟩ rfl rfl hl.1 rfl (lv_room (Nat.le_of_ble_eq_true rfl)) dX0_roots_5 ⟨Nat.zero_le _, Nat.zero_le _⟩) (fun r1' u H locs hw hP hD hS => ?_)
  subst hw
  have hP : va_P (dC, dI) vwCl [(h0, .inr (0, [.int nu, .int pk, .ref h1, .ref h2, .int dc, .ref h3, .int rc, .ref h4, .ref h5])), (h1, .inl (cA, 7, .inl pr)), (h2, .inl (cA, 7, .inl ex)), (h3, .inl (cA, 360, .inl dv)), (h4, .inl (cA, 4096, .inl rt)), (h5, .inl (cA, 4096, .inl sp))] H := hP
  have hD : va_D A [(h0, .inr (0, [.int nu, .int pk, .ref h1, .ref h2, .int dc, .ref h3, .int rc, .ref h4, .ref h5])), (h1, .inl (cA, 7, .inl pr)), (h2, .inl (cA, 7, .inl ex)), (h3, .inl (cA, 360, .inl dv)), (h4, .inl (cA, 4096, .inl rt)), (h5, .inl (cA, 4096, .inl sp))] := hD
  refine lv_istore_n (lv' := [(3, .int r1), (0, .ref h0), (1, .long p0)]) hx hb dX0_roots_8 rfl hl (by decide) rfl (fun ls hl => ?_)
  refine lv_iconst (v := 1) hx hb dX0_roots_9 (by decide) ?_
  refine lv_istore (lv' := [(4, .int 1), (3, .int r1), (0, .ref h0), (1, .long p0)]) hx hb dX0_roots_10 hl (by decide) rfl (fun ls hl => ?_)
  refine lv_aload_n hx hb dX0_roots_12 rfl (lv_at hl 2 rfl) ?_
  refine va_get (D := (dC, dI)) (ci := 0) (v := .ref h4) (C := RX0) (T := TX0) (N := 9) hx hb hts (fun _ h => List.mem_cons_of_mem _ (List.mem_append_right _ h)) hown hK hP 0 rfl rfl 7 (by decide) (hts _ (List.mem_of_getElem? (i := 6) rfl)) (fun _ h9 => h9) rfl dX0_roots_13 ?_
  refine lv_iconst (v := 0) hx hb dX0_roots_16 (by decide) ?_
  refine lv_iconst (v := 0) hx hb dX0_roots_17 (by decide) ?_
  obtain ⟨g2, h⟩ := rf_gd h
  refine va_iast hx hb hK hP hD hS 4 0 rfl rfl (rf_in g2) dX0_roots_18 (fun H locs hP hD hS => ?_)
  have hP : va_P (dC, dI) vwCl [(h0, .inr (0, [.int nu, .int pk, .ref h1, .ref h2, .int dc, .ref h3, .int rc, .ref h4, .ref h5])), (h1, .inl (cA, 7, .inl pr)), (h2, .inl (cA, 7, .inl ex)), (h3, .inl (cA, 360, .inl dv)), (h4, .inl (cA, 4096, .inl (upd rt (0 : Int32).toNatClampNeg 0))), (h5, .inl (cA, 4096, .inl sp))] H := hP
  have hD : va_D A [(h0, .inr (0, [.int nu, .int pk, .ref h1, .ref h2, .int dc, .ref h3, .int rc, .ref h4, .ref h5])), (h1, .inl (cA, 7, .inl pr)), (h2, .inl (cA, 7, .inl ex)), (h3, .inl (cA, 360, .inl dv)), (h4, .inl (cA, 4096, .inl (upd rt (0 : Int32).toNatClampNeg 0))), (h5, .inl (cA, 4096, .inl sp))] := hD
  refine lv_aload_n hx hb dX0_roots_19 rfl (lv_at hl 2 rfl) ?_
  refine lv_iconst (v := 1) hx hb dX0_roots_20 (by decide) ?_
  refine va_put (D := (dC, dI)) (ci := 0) (v := .int 1) (ty := .int) (C := RX0) (T := TX0) (N := 9) hx hb hts (fun _ h => List.mem_cons_of_mem _ (List.mem_append_right _ h)) tyX0 tyX0_ok nX0 hown hK hP hD hS 0 rfl rfl 6 (by decide) (hts _ (List.mem_of_getElem? (i := 7) rfl)) (fun _ h9 => h9) rfl (by decide +kernel) rfl rfl (Nat.le_of_ble_eq_true rfl) dX0_roots_21 (fun H locs hP hD hS => ?_)
  have hP : va_P (dC, dI) vwCl [(h0, .inr (0, [.int nu, .int pk, .ref h1, .ref h2, .int dc, .ref h3, .int 1, .ref h4, .ref h5])), (h1, .inl (cA, 7, .inl pr)), (h2, .inl (cA, 7, .inl ex)), (h3, .inl (cA, 360, .inl dv)), (h4, .inl (cA, 4096, .inl (upd rt (0 : Int32).toNatClampNeg 0))), (h5, .inl (cA, 4096, .inl sp))] H := hP
  have hD : va_D A [(h0, .inr (0, [.int nu, .int pk, .ref h1, .ref h2, .int dc, .ref h3, .int 1, .ref h4, .ref h5])), (h1, .inl (cA, 7, .inl pr)), (h2, .inl (cA, 7, .inl ex)), (h3, .inl (cA, 360, .inl dv)), (h4, .inl (cA, 4096, .inl (upd rt (0 : Int32).toNatClampNeg 0))), (h5, .inl (cA, 4096, .inl sp))] := hD
  refine lv_iconst (v := 0) hx hb dX0_roots_24 (by decide) ?_
  refine lv_istore (lv' := [(5, .int 0), (4, .int 1), (3, .int r1), (0, .ref h0), (1, .long p0)]) hx hb dX0_roots_25 hl (by decide) rfl (fun ls hl => ?_)
  obtain ⟨rc_3, rt_3, sp_3, hr3, h⟩ := rf_b3 h
  refine w_r_roots_27 F hx hb hml hown hts hA h0 h1 h2 h3 cA hK r1 nu pk dc pr ex dv F h4 h5 1 0 1 (upd rt (0 : Int32).toNatClampNeg 0) sp rc_3 rt_3 sp_3 hr3 _ _ hP hD hS _ (lv_sub hl [3, 2, 1, 0] rfl) (fun a4_3 a5_3 H locs ls hP hD hS hl => ?_)
  refine lv_aload_n hx hb dX0_roots_111 rfl (lv_at hl 0 rfl) ?_
  refine lv_aload_n hx hb dX0_roots_112 rfl (lv_at hl 0 rfl) ?_
  refine va_get (D := (dC, dI)) (ci := 0) (v := .ref a4_3) (C := RX0) (T := TX0) (N := 9) hx hb hts (fun _ h => List.mem_cons_of_mem _ (List.mem_append_right _ h)) hown hK hP 0 rfl rfl 7 (by decide) (hts _ (List.mem_of_getElem? (i := 6) rfl)) (fun _ h9 => h9) rfl dX0_roots_113 ?_
  refine lv_aload_n hx hb dX0_roots_116 rfl (lv_at hl 0 rfl) ?_
  refine va_get (D := (dC, dI)) (ci := 0) (v := .int rc_3) (C := RX0) (T := TX0) (N := 9) hx hb hts (fun _ h => List.mem_cons_of_mem _ (List.mem_append_right _ h)) hown hK hP 0 rfl rfl 6 (by decide) (hts _ (List.mem_of_getElem? (i := 7) rfl)) (fun _ h9 => h9) rfl dX0_roots_117 ?_
  obtain ⟨ra_4, sp_4, hr4, h⟩ := rf_b2 h
  refine rf_cv (wn := (fun _ : Unit => [(h0, .inr (0, [.int nu, .int pk, .ref h1, .ref h2, .int dc, .ref h3, .int rc_3, .ref a4_3, .ref a5_3])), (a4_3, .inl (cA, 4096, .inl ra_4)), (a5_3, .inl (cA, 4096, .inl sp_4))])) (wc := [(h0, .inr (0, [.int nu, .int pk, .ref h1, .ref h2, .int dc, .ref h3, .int rc_3, .ref a4_3, .ref a5_3])), (a4_3, .inl (cA, 4096, .inl rt_3)), (a5_3, .inl (cA, 4096, .inl sp_3))]) (wr := [(h1, .inl (cA, 7, .inl pr)), (h2, .inl (cA, 7, .inl ex)), (h3, .inl (cA, 360, .inl dv))]) hP hD hS hA [0, 4, 5] [1, 2, 3] rfl rfl (by decide) (by decide) (va_runV (As := [.ref a4_3, .int rc_3]) (rest := []) ⟨hx, hb, hml, hown, hts⟩ (c_r_sortRising l dC dI _ F h0 a4_3 a5_3 h1 h2 h3 a4_3 4096 cA nu pk dc rc_3 rt_3 sp_3 rc_3 ra_4 sp_4 hr4) (cwV 2 hts gX0_roots_X0_sortRising rfl rfl rfl (by decide +kernel) ⟨Nat.le_of_ble_eq_true rfl, Nat.le_of_ble_eq_true rfl⟩) ⟨rf_blind, va_recv hK hP (ci := 0) (q0 := 0) rfl rfl, fun U hU hW => ⟨rfl, rf_pre (hP.sub (ws' := [(h0, .inr (0, [.int nu, .int pk, .ref h1, .ref h2, .int dc, .ref h3, .int rc_3, .ref a4_3, .ref a5_3])), (a4_3, .inl (cA, 4096, .inl rt_3)), (a5_3, .inl (cA, 4096, .inl sp_3))]) [0, 4, 5] rfl) (hK.sub (tys' := [(cA, .int)]) [0] rfl) (hD.sub (ws' := [(h0, .inr (0, [.int nu, .int pk, .ref h1, .ref h2, .int dc, .ref h3, .int rc_3, .ref a4_3, .ref a5_3])), (a4_3, .inl (cA, 4096, .inl rt_3)), (a5_3, .inl (cA, 4096, .inl sp_3))]) [0, 4, 5] (by decide) rfl) U hU hW⟩⟩ rfl rfl hl.1 rfl (lv_room (Nat.le_of_ble_eq_true rfl)) dX0_roots_120 ⟨Nat.zero_le _, Nat.zero_le _⟩) (fun u H locs hw hP hD hS => ?_)
  have hP : va_P (dC, dI) vwCl [(h0, .inr (0, [.int nu, .int pk, .ref h1, .ref h2, .int dc, .ref h3, .int rc_3, .ref a4_3, .ref a5_3])), (h1, .inl (cA, 7, .inl pr)), (h2, .inl (cA, 7, .inl ex)), (h3, .inl (cA, 360, .inl dv)), (a4_3, .inl (cA, 4096, .inl ra_4)), (a5_3, .inl (cA, 4096, .inl sp_4))] H := hP.sub [3, 0, 1, 2, 4, 5] rfl
  have hD : va_D A [(h0, .inr (0, [.int nu, .int pk, .ref h1, .ref h2, .int dc, .ref h3, .int rc_3, .ref a4_3, .ref a5_3])), (h1, .inl (cA, 7, .inl pr)), (h2, .inl (cA, 7, .inl ex)), (h3, .inl (cA, 360, .inl dv)), (a4_3, .inl (cA, 4096, .inl ra_4)), (a5_3, .inl (cA, 4096, .inl sp_4))] := hD.sub [3, 0, 1, 2, 4, 5] (by decide) rfl
  refine lv_aload_n hx hb dX0_roots_123 rfl (lv_at hl 0 rfl) ?_
  refine va_get (D := (dC, dI)) (ci := 0) (v := .int rc_3) (C := RX0) (T := TX0) (N := 9) hx hb hts (fun _ h => List.mem_cons_of_mem _ (List.mem_append_right _ h)) hown hK hP 0 rfl rfl 6 (by decide) (hts _ (List.mem_of_getElem? (i := 7) rfl)) (fun _ h9 => h9) rfl dX0_roots_124 ?_
  cases h
  exact W.iret hx hb hr (fun t ht hW => ⟨⟨_, (a4_3, a5_3), rfl, rfl, by rw [ht]; exact hP, hD⟩, hS.F ht⟩) hS.2.2 dX0_roots_127
def f_r_root (F : Nat) (rc : Int32) (rt : Nat → Int32) (p0 : Int32) : Option (Option (Int32)) := if p0 < 0 then some none else if p0 < rc then sm (if p0.toInt < 0 ∨ (4096 : Int) ≤ p0.toInt then none else some (rt p0.toNatClampNeg)) else some none
set_option maxHeartbeats 4000000 in
set_option maxRecDepth 100000 in
theorem c_r_root (l : Launch) (dC : Nat → ClassId) (dI : Nat → Nat → Nat) (sz F : Nat) (h0 h1 h2 h3 h4 h5 : Nat) (cA : ClassId) (nu pk dc rc : Int32) (pr ex dv rt sp : Nat → Int32) (p0 rv : Int32) (h : f_r_root F rc rt p0 = some (some rv)) : Met l yX0_root wsX0_root { frames := 0, cells := 0, slots := 0, locals := 0 } (rf_Pc (dC, dI) [(cA, .int)] [(h0, .inr (0, [.int nu, .int pk, .ref h1, .ref h2, .int dc, .ref h3, .int rc, .ref h4, .ref h5])), (h1, .inl (cA, 7, .inl pr)), (h2, .inl (cA, 7, .inl ex)), (h3, .inl (cA, 360, .inl dv)), (h4, .inl (cA, 4096, .inl rt)), (h5, .inl (cA, 4096, .inl sp))] sz [.ref h0, .int p0]) (va_Qi (fun (r : Int32) (_ : Unit) => rv = r) (fun (_ : Unit) t => va_P (dC, dI) vwCl [(h0, .inr (0, [.int nu, .int pk, .ref h1, .ref h2, .int dc, .ref h3, .int rc, .ref h4, .ref h5])), (h1, .inl (cA, 7, .inl pr)), (h2, .inl (cA, 7, .inl ex)), (h3, .inl (cA, 360, .inl dv)), (h4, .inl (cA, 4096, .inl rt)), (h5, .inl (cA, 4096, .inl sp))] t.heap ∧ va_D (va_A [(h0, .inr (0, [.int nu, .int pk, .ref h1, .ref h2, .int dc, .ref h3, .int rc, .ref h4, .ref h5])), (h1, .inl (cA, 7, .inl pr)), (h2, .inl (cA, 7, .inl ex)), (h3, .inl (cA, 360, .inl dv)), (h4, .inl (cA, 4096, .inl rt)), (h5, .inl (cA, 4096, .inl sp))] sz) [(h0, .inr (0, [.int nu, .int pk, .ref h1, .ref h2, .int dc, .ref h3, .int rc, .ref h4, .ref h5])), (h1, .inl (cA, 7, .inl pr)), (h2, .inl (cA, 7, .inl ex)), (h3, .inl (cA, 360, .inl dv)), (h4, .inl (cA, 4096, .inl rt)), (h5, .inl (cA, 4096, .inl sp))]) (va_A [(h0, .inr (0, [.int nu, .int pk, .ref h1, .ref h2, .int dc, .ref h3, .int rc, .ref h4, .ref h5])), (h1, .inl (cA, 7, .inl pr)), (h2, .inl (cA, 7, .inl ex)), (h3, .inl (cA, 360, .inl dv)), (h4, .inl (cA, 4096, .inl rt)), (h5, .inl (cA, 4096, .inl sp))] sz)) 0 0 (va_A [(h0, .inr (0, [.int nu, .int pk, .ref h1, .ref h2, .int dc, .ref h3, .int rc, .ref h4, .ref h5])), (h1, .inl (cA, 7, .inl pr)), (h2, .inl (cA, 7, .inl ex)), (h3, .inl (cA, 360, .inl dv)), (h4, .inl (cA, 4096, .inl rt)), (h5, .inl (cA, 4096, .inl sp))] sz) := by
  refine Met.ofW (cc := cX0_root) (maxL := 2) (ret := (some .int)) (by decide) rfl ?_
  intro p e s m args below meth c s₁ B hml hv
  obtain ⟨rfl, hsz, hP, hK, hD0⟩ := hv
  have hx := B.exec
  have hb := B.bytes
  have hr := B.returns
  have hts := atoms_spec (ws := wsX0_root) B.pre
  have hown : s.vm.findClass RX0 = some m.cls := findClass_of_methodNamed B.named
  have hlocks := B.notSynchronized
  subst hsz
  have hD := hD0.self (sz := s.heap.size)
  generalize hAe : va_A [(h0, .inr (0, [.int nu, .int pk, .ref h1, .ref h2, .int dc, .ref h3, .int rc, .ref h4, .ref h5])), (h1, .inl (cA, 7, .inl pr)), (h2, .inl (cA, 7, .inl ex)), (h3, .inl (cA, 360, .inl dv)), (h4, .inl (cA, 4096, .inl rt)), (h5, .inl (cA, 4096, .inl sp))] s.heap.size = A at hD ⊢
  have hA : ∀ q : Nat, s.heap.size ≤ q → A q := fun q h => by rw [← hAe]; exact Or.inr h
  have hS : va_S A s.heap s.heap [] := va_S.rf
  have hl := lv_entry ([.ref h0, .int p0]) (n := 2) (Nat.le_of_ble_eq_true rfl)
  rw [lg_entry_eq]
  generalize (lg_sl ([.ref h0, .int p0]) ++ List.replicate (2 - (lg_sl ([.ref h0, .int p0])).length) Slot.unset).toArray = ls at hl ⊢
  have hl : lv_has ls 2 [(0, .ref h0), (1, .int p0)] := hl
  unfold f_r_root at h
  refine lv_iload_n hx hb dX0_root_0 rfl (lv_at hl 1 rfl) ?_
  refine lv_if_lt (tgt := 12) hx hb dX0_root_1 (by decide) (fun c1 => ?_) (fun c1 => ?_)
  · rw [if_pos c1] at h
    cases h
  · rw [if_neg c1] at h
    refine lv_iload_n hx hb dX0_root_4 rfl (lv_at hl 1 rfl) ?_
    refine lv_aload_n hx hb dX0_root_5 rfl (lv_at hl 0 rfl) ?_
    refine va_get (D := (dC, dI)) (ci := 0) (v := .int rc) (C := RX0) (T := TX0) (N := 9) hx hb hts (fun _ h => List.mem_cons_of_mem _ (List.mem_append_right _ h)) hown hK hP 0 rfl rfl 6 (by decide) (hts _ (List.mem_of_getElem? (i := 1) rfl)) (fun _ h9 => h9) rfl dX0_root_6 ?_
    refine lv_icmp_lt (tgt := 22) hx hb dX0_root_9 (by decide) (fun c2 => ?_) (fun c2 => ?_)
    · rw [if_pos c2] at h
      have h := rf_sm h
      refine lv_aload_n hx hb dX0_root_22 rfl (lv_at hl 0 rfl) ?_
      refine va_get (D := (dC, dI)) (ci := 0) (v := .ref h4) (C := RX0) (T := TX0) (N := 9) hx hb hts (fun _ h => List.mem_cons_of_mem _ (List.mem_append_right _ h)) hown hK hP 0 rfl rfl 7 (by decide) (hts _ (List.mem_of_getElem? (i := 2) rfl)) (fun _ h9 => h9) rfl dX0_root_23 ?_
      refine lv_iload_n hx hb dX0_root_26 rfl (lv_at hl 1 rfl) ?_
      obtain ⟨g3, h⟩ := rf_gd h
      refine va_iald hx hb hK hP 4 0 rfl rfl (rf_in g3) dX0_root_27 ?_
      cases h
      exact W.iret hx hb hr (fun t ht hW => ⟨⟨_, (), rfl, rfl, by rw [ht]; exact hP, hD⟩, hS.F ht⟩) hS.2.2 dX0_root_28
    · rw [if_neg c2] at h
      cases h
