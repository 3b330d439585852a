theorem ry_and0 (x : Int32) : x &&& 0 = 0 := by
  apply Int32.toBitVec_inj.mp
  simp

abbrev rm_refuseFullPrograms : Room := { frames := 0, cells := 0, slots := 0, locals := 0 }
abbrev b_refuseFullPrograms : ByteArray := prog_1_method_48_code
def y_refuseFullPrograms : MethodName := ⟨"Leastcode", "refuseFullPrograms", "()V"⟩
def w_refuseFullPrograms : List Cond := [.code ⟨"Leastcode", "refuseFullPrograms", "()V"⟩ prog_1_method_48_code 1 none, .laysFinal "Leastcode" "Leastcode" "machine" "LLeastcode$Machine;", .laysFinal "Leastcode" "Leastcode" "prices" "LLeastcode$Prices;", .laysFinal "Leastcode" "Leastcode" "lots" "LLeastcode$Lots;", .laysFinal "Leastcode" "Leastcode" "search" "LLeastcode$Search;", .laysFinal "Leastcode" "Leastcode" "programs" "[LLeastcode$Code;", .lays "Leastcode" "Leastcode" "programCount" "I", .laysFinal "Leastcode" "Leastcode" "goals" "[LLeastcode$Goal;", .lays "Leastcode" "Leastcode" "goalCount" "I", .laysFinal "Leastcode" "Leastcode" "rules" "[LLeastcode$Rule;", .lays "Leastcode" "Leastcode" "ruleCount" "I", .laysFinal "Leastcode" "Leastcode" "killed" "[I", .laysFinal "Leastcode" "Leastcode" "unlikeUpTo" "[I", .laysFinal "Leastcode" "Leastcode" "found" "LLeastcode$Code;", .lays "Leastcode" "Leastcode" "hasFound" "Z", .laysFinal "Leastcode" "Leastcode" "draft" "LLeastcode$Code;", .laysFinal "Leastcode" "Leastcode" "shorter" "LLeastcode$Code;", .laysFinal "Leastcode" "Leastcode" "windowGoal" "LLeastcode$Goal;", .fieldLink "Leastcode" 84 "Leastcode" "programCount" "I"]
theorem d_refuseFullPrograms_0 : decode b_refuseFullPrograms 0 = .ok (.aload_n 0, 1) := by decide +kernel
theorem d_refuseFullPrograms_1 : decode b_refuseFullPrograms 1 = .ok (.getfield 84, 3) := by decide +kernel
theorem d_refuseFullPrograms_4 : decode b_refuseFullPrograms 4 = .ok (.bipush 8, 2) := by decide +kernel
theorem d_refuseFullPrograms_6 : decode b_refuseFullPrograms 6 = .ok (.if_icmp .lt 14, 3) := by decide +kernel
theorem d_refuseFullPrograms_20 : decode b_refuseFullPrograms 20 = .ok (.return_, 1) := by decide +kernel
theorem in_refuseFullPrograms_LC : ∀ v ∈ u_ws R_LC T_LC 17, v ∈ w_refuseFullPrograms := by decide +kernel
set_option maxHeartbeats 4000000 in
set_option maxRecDepth 100000 in
theorem c_refuseFullPrograms (l : Launch) (dC : Nat → ClassId) (dI : Nat → Nat → Nat) (h0 : Nat) (qm : Nat) (qp : Nat) (y1 : Nat) (y2 : Nat) (y3 : Nat) (y4 : Nat) (y5 : Nat) (y6 : Nat) (y7 : Nat) (y8 : Nat) (y9 : Nat) (y10 : Nat) (y11 : Nat) : Met l y_refuseFullPrograms w_refuseFullPrograms rm_refuseFullPrograms (va_Pc [.ref h0] (fun U => va_P (dC, dI) classes [(h0, .inr (0, [.ref qm, .ref y1, .ref y2, .ref y3, .ref qp, .int 0, .ref y4, .int 0, .ref y5, .int 0, .ref y6, .ref y7, .ref y8, .int 0, .ref y9, .ref y10, .ref y11]))] U.heap ∧ va_K (dC, dI) classes [] U)) (va_Sv (fun _ => True)) 0 0 (fun _ => False) := by
  refine Met.ofW (cc := b_refuseFullPrograms) (maxL := 1) (ret := none) (by decide) rfl ?_
  intro p e s m args below meth c s₁ B hml hv
  obtain ⟨rfl, hP, hK⟩ := hv
  have hx := B.exec
  have hb := B.bytes
  have hr := B.returns
  have hts := atoms_spec (ws := w_refuseFullPrograms) B.pre
  have hown : s.vm.findClass "Leastcode" = some m.cls := findClass_of_methodNamed B.named
  have hlocks := B.notSynchronized
  have hP : va_P (dC, dI) classes [(h0, .inr (0, [.ref qm, .ref y1, .ref y2, .ref y3, .ref qp, .int 0, .ref y4, .int 0, .ref y5, .int 0, .ref y6, .ref y7, .ref y8, .int 0, .ref y9, .ref y10, .ref y11]))] s.heap := hP
  have hl := lv_entry ([.ref h0]) (n := 1) (Nat.le_of_ble_eq_true rfl)
  rw [lg_entry_eq]
  generalize (lg_sl ([.ref h0]) ++ List.replicate (1 - (lg_sl ([.ref h0])).length) Slot.unset).toArray = ls at hl ⊢
  have hl : lv_has ls 1 [(0, .ref h0)] := hl
  refine lv_aload_n hx hb d_refuseFullPrograms_0 rfl (lv_at hl 0 rfl) ?_
  refine va_get (D := (dC, dI)) (ci := 0) (v := .int 0) (C := R_LC) (T := T_LC) (N := 17) hx hb hts in_refuseFullPrograms_LC hown hK hP 0 rfl rfl 5 (by decide) (hts (.fieldLink "Leastcode" 84 "Leastcode" "programCount" "I") (List.mem_of_getElem? (i := 18) rfl)) (fun _ h9 => h9) rfl d_refuseFullPrograms_1 ?_
  refine lv_bipush (v := 8) hx hb d_refuseFullPrograms_4 (by decide) ?_
  refine lv_icmp_lt (tgt := 20) hx hb d_refuseFullPrograms_6 (by decide) (fun c_6 => ?_) (fun c_6 => ?_)
  · skip
    exact W.vret hx hb hr (fun t ht hW => ⟨rfl, trivial, ht⟩) (fun _ h => by cases h) d_refuseFullPrograms_20
  · exact absurd (by decide) c_6

abbrev rm_addProgram : Room := { frames := 1, cells := 0, slots := 0, locals := 20 }
abbrev b_addProgram : ByteArray := prog_1_method_2_code
def y_addProgram : MethodName := ⟨"Leastcode", "addProgram", "()I"⟩
def w_addProgram : List Cond := [.code ⟨"Leastcode", "addProgram", "()I"⟩ prog_1_method_2_code 2 (some .int), .methodLink "Leastcode" 81 ⟨"Leastcode", "refuseFullPrograms", "()V"⟩, .instanceMethod ⟨"Leastcode", "refuseFullPrograms", "()V"⟩, .selects "Leastcode" ⟨"Leastcode", "refuseFullPrograms", "()V"⟩ ⟨"Leastcode", "refuseFullPrograms", "()V"⟩, .initialized "Leastcode", .code ⟨"Leastcode", "refuseFullPrograms", "()V"⟩ prog_1_method_48_code 1 none, .laysFinal "Leastcode" "Leastcode" "machine" "LLeastcode$Machine;", .laysFinal "Leastcode" "Leastcode" "prices" "LLeastcode$Prices;", .laysFinal "Leastcode" "Leastcode" "lots" "LLeastcode$Lots;", .laysFinal "Leastcode" "Leastcode" "search" "LLeastcode$Search;", .laysFinal "Leastcode" "Leastcode" "programs" "[LLeastcode$Code;", .lays "Leastcode" "Leastcode" "programCount" "I", .laysFinal "Leastcode" "Leastcode" "goals" "[LLeastcode$Goal;", .lays "Leastcode" "Leastcode" "goalCount" "I", .laysFinal "Leastcode" "Leastcode" "rules" "[LLeastcode$Rule;", .lays "Leastcode" "Leastcode" "ruleCount" "I", .laysFinal "Leastcode" "Leastcode" "killed" "[I", .laysFinal "Leastcode" "Leastcode" "unlikeUpTo" "[I", .laysFinal "Leastcode" "Leastcode" "found" "LLeastcode$Code;", .lays "Leastcode" "Leastcode" "hasFound" "Z", .laysFinal "Leastcode" "Leastcode" "draft" "LLeastcode$Code;", .laysFinal "Leastcode" "Leastcode" "shorter" "LLeastcode$Code;", .laysFinal "Leastcode" "Leastcode" "windowGoal" "LLeastcode$Goal;", .fieldLink "Leastcode" 84 "Leastcode" "programCount" "I"]
theorem d_addProgram_0 : decode b_addProgram 0 = .ok (.aload_n 0, 1) := by decide +kernel
theorem d_addProgram_1 : decode b_addProgram 1 = .ok (.invokevirtual 81, 3) := by decide +kernel
theorem d_addProgram_4 : decode b_addProgram 4 = .ok (.aload_n 0, 1) := by decide +kernel
theorem d_addProgram_5 : decode b_addProgram 5 = .ok (.getfield 84, 3) := by decide +kernel
theorem d_addProgram_8 : decode b_addProgram 8 = .ok (.istore_n 1, 1) := by decide +kernel
theorem d_addProgram_9 : decode b_addProgram 9 = .ok (.aload_n 0, 1) := by decide +kernel
theorem d_addProgram_10 : decode b_addProgram 10 = .ok (.dup, 1) := by decide +kernel
theorem d_addProgram_11 : decode b_addProgram 11 = .ok (.getfield 84, 3) := by decide +kernel
theorem d_addProgram_14 : decode b_addProgram 14 = .ok (.iconst 1, 1) := by decide +kernel
theorem d_addProgram_15 : decode b_addProgram 15 = .ok (.iadd, 1) := by decide +kernel
theorem d_addProgram_16 : decode b_addProgram 16 = .ok (.putfield 84, 3) := by decide +kernel
theorem d_addProgram_19 : decode b_addProgram 19 = .ok (.iload_n 1, 1) := by decide +kernel
theorem d_addProgram_20 : decode b_addProgram 20 = .ok (.ireturn, 1) := by decide +kernel
theorem in_addProgram_LC : ∀ v ∈ u_ws R_LC T_LC 17, v ∈ w_addProgram := by decide +kernel
set_option maxRecDepth 20000 in
theorem g_addProgram_1 : GoodIn w_addProgram (wsV "Leastcode" 81 "Leastcode" ⟨"Leastcode", "refuseFullPrograms", "()V"⟩ w_refuseFullPrograms) := goodIn_r _ [1, 2, 3, 4, 5, 6, 7, 8, 9, 10, 11, 12, 13, 14, 15, 16, 17, 18, 19, 20, 21, 22, 23] rfl (by decide +kernel)
set_option maxHeartbeats 4000000 in
set_option maxRecDepth 100000 in
theorem c_addProgram (l : Launch) (dC : Nat → ClassId) (dI : Nat → Nat → Nat) (h0 : Nat) (qm : Nat) (qp : Nat) (y1 : Nat) (y2 : Nat) (y3 : Nat) (y4 : Nat) (y5 : Nat) (y6 : Nat) (y7 : Nat) (y8 : Nat) (y9 : Nat) (y10 : Nat) (y11 : Nat) (sz : Nat) : Met l y_addProgram w_addProgram rm_addProgram (va_Pc [.ref h0] (fun U => U.heap.size = sz ∧ va_P (dC, dI) classes [(h0, .inr (0, [.ref qm, .ref y1, .ref y2, .ref y3, .ref qp, .int 0, .ref y4, .int 0, .ref y5, .int 0, .ref y6, .ref y7, .ref y8, .int 0, .ref y9, .ref y10, .ref y11]))] U.heap ∧ va_K (dC, dI) classes [] U ∧ va_D (fun _ => True) [(h0, .inr (0, [.ref qm, .ref y1, .ref y2, .ref y3, .ref qp, .int 0, .ref y4, .int 0, .ref y5, .int 0, .ref y6, .ref y7, .ref y8, .int 0, .ref y9, .ref y10, .ref y11]))])) (va_Qi (fun r (_ : Unit) => r = 0) (fun _ t => va_P (dC, dI) classes [(h0, .inr (0, [.ref qm, .ref y1, .ref y2, .ref y3, .ref qp, .int 1, .ref y4, .int 0, .ref y5, .int 0, .ref y6, .ref y7, .ref y8, .int 0, .ref y9, .ref y10, .ref y11]))] t.heap ∧ va_K (dC, dI) classes [] t ∧ va_D (va_A [(h0, .inr (0, [.ref qm, .ref y1, .ref y2, .ref y3, .ref qp, .int 0, .ref y4, .int 0, .ref y5, .int 0, .ref y6, .ref y7, .ref y8, .int 0, .ref y9, .ref y10, .ref y11]))] sz) [(h0, .inr (0, [.ref qm, .ref y1, .ref y2, .ref y3, .ref qp, .int 1, .ref y4, .int 0, .ref y5, .int 0, .ref y6, .ref y7, .ref y8, .int 0, .ref y9, .ref y10, .ref y11]))]) (va_A [(h0, .inr (0, [.ref qm, .ref y1, .ref y2, .ref y3, .ref qp, .int 0, .ref y4, .int 0, .ref y5, .int 0, .ref y6, .ref y7, .ref y8, .int 0, .ref y9, .ref y10, .ref y11]))] sz)) 0 0 (va_A [(h0, .inr (0, [.ref qm, .ref y1, .ref y2, .ref y3, .ref qp, .int 0, .ref y4, .int 0, .ref y5, .int 0, .ref y6, .ref y7, .ref y8, .int 0, .ref y9, .ref y10, .ref y11]))] sz) := by
  refine Met.ofW (cc := b_addProgram) (maxL := 2) (ret := (some .int)) (by decide) rfl ?_
  intro p e s m args below meth c s₁ B hml hv
  obtain ⟨rfl, hsz, hP, hK, hD0⟩ := hv
  have hx := B.exec
  have hb := B.bytes
  have hr := B.returns
  have hts := atoms_spec (ws := w_addProgram) B.pre
  have hown : s.vm.findClass "Leastcode" = some m.cls := findClass_of_methodNamed B.named
  have hlocks := B.notSynchronized
  subst hsz
  have hD := hD0.self (sz := s.heap.size)
  generalize hAe : va_A [(h0, .inr (0, [.ref qm, .ref y1, .ref y2, .ref y3, .ref qp, .int 0, .ref y4, .int 0, .ref y5, .int 0, .ref y6, .ref y7, .ref y8, .int 0, .ref y9, .ref y10, .ref y11]))] s.heap.size = A at hD ⊢
  have hA : ∀ q : Nat, s.heap.size ≤ q → A q := fun q h => by rw [← hAe]; exact Or.inr h
  have hS : va_S A s.heap s.heap [] := va_S.rf
  have hP : va_P (dC, dI) classes [(h0, .inr (0, [.ref qm, .ref y1, .ref y2, .ref y3, .ref qp, .int 0, .ref y4, .int 0, .ref y5, .int 0, .ref y6, .ref y7, .ref y8, .int 0, .ref y9, .ref y10, .ref y11]))] s.heap := hP
  have hl := lv_entry ([.ref h0]) (n := 2) (Nat.le_of_ble_eq_true rfl)
  rw [lg_entry_eq]
  generalize (lg_sl ([.ref h0]) ++ List.replicate (2 - (lg_sl ([.ref h0])).length) Slot.unset).toArray = ls at hl ⊢
  have hl : lv_has ls 2 [(0, .ref h0)] := hl
  refine lv_aload_n hx hb d_addProgram_0 rfl (lv_at hl 0 rfl) ?_
  have hPc : va_P (dC, dI) classes [(h0, .inr (0, [.ref qm, .ref y1, .ref y2, .ref y3, .ref qp, .int 0, .ref y4, .int 0, .ref y5, .int 0, .ref y6, .ref y7, .ref y8, .int 0, .ref y9, .ref y10, .ref y11]))] _ := hP.sub (ws' := [(h0, .inr (0, [.ref qm, .ref y1, .ref y2, .ref y3, .ref qp, .int 0, .ref y4, .int 0, .ref y5, .int 0, .ref y6, .ref y7, .ref y8, .int 0, .ref y9, .ref y10, .ref y11]))]) [0] rfl
  have hKc : va_K (dC, dI) classes [] s := hK.sub (tys' := []) [] rfl
  refine va_csv (W.runV (As := []) (rest := []) ⟨hx, hb, hml, hown, hts⟩ (c_refuseFullPrograms l dC dI h0 qm qp y1 y2 y3 y4 y5 y6 y7 y8 y9 y10 y11) (cwV 0 hts g_addProgram_1 rfl rfl rfl (by decide +kernel) ⟨Nat.le_of_ble_eq_true rfl, Nat.le_of_ble_eq_true rfl⟩) ⟨fun a U g mk z => by obtain ⟨z0, zP, zK⟩ := z; exact ⟨z0, zP, va_K.moved (u := U) (U := U.calling g mk a) (Vm.Alike.refl U.vm) zK⟩, va_recv hKc hPc (ci := 0) (q0 := 0) rfl rfl, fun U hU hW => ⟨rfl, by rw [hU]; exact hPc, va_K.moved hW.alike hKc⟩⟩ rfl rfl hl.1 rfl (lv_room (Nat.le_of_ble_eq_true rfl)) d_addProgram_1 ⟨(Nat.le_of_ble_eq_true rfl), (Nat.le_of_ble_eq_true rfl)⟩) (fun hr1 => ?_)
  refine lv_aload_n hx hb d_addProgram_4 rfl (lv_at hl 0 rfl) ?_
  refine va_get (D := (dC, dI)) (ci := 0) (v := .int 0) (C := R_LC) (T := T_LC) (N := 17) hx hb hts in_addProgram_LC hown hK hP 0 rfl rfl 5 (by decide) (hts (.fieldLink "Leastcode" 84 "Leastcode" "programCount" "I") (List.mem_of_getElem? (i := 23) rfl)) (fun _ h9 => h9) rfl d_addProgram_5 ?_
  refine lv_istore_n (lv' := [(1, .int 0), (0, .ref h0)]) hx hb d_addProgram_8 rfl hl (by decide) rfl (fun ls hl => ?_)
  refine lv_aload_n hx hb d_addProgram_9 rfl (lv_at hl 1 rfl) ?_
  refine lv_dup hx hb d_addProgram_10 rfl ?_
  refine va_get (D := (dC, dI)) (ci := 0) (v := .int 0) (C := R_LC) (T := T_LC) (N := 17) hx hb hts in_addProgram_LC hown hK hP 0 rfl rfl 5 (by decide) (hts (.fieldLink "Leastcode" 84 "Leastcode" "programCount" "I") (List.mem_of_getElem? (i := 23) rfl)) (fun _ h9 => h9) rfl d_addProgram_11 ?_
  refine lv_iconst (v := 1) hx hb d_addProgram_14 (by decide) ?_
  refine lv_iadd hx hb d_addProgram_15 ?_
  refine lv_topi (fun x2 ex2 => ?_)
  obtain rfl : 1 = x2 := Eq.symm (by rw [ex2]; decide)
  refine va_put (D := (dC, dI)) (ci := 0) (v := .int 1) (ty := .int) (C := R_LC) (T := T_LC) (N := 17) hx hb hts in_addProgram_LC t_LC t_LC_ok n_LC hown hK hP hD hS 0 rfl rfl 5 (by decide) (hts (.fieldLink "Leastcode" 84 "Leastcode" "programCount" "I") (List.mem_of_getElem? (i := 23) rfl)) (fun _ h9 => h9) rfl (by decide +kernel) rfl rfl (Nat.le_of_ble_eq_true rfl) d_addProgram_16 (fun H locs hP hD hS => ?_)
  have hP : va_P (dC, dI) classes [(h0, .inr (0, [.ref qm, .ref y1, .ref y2, .ref y3, .ref qp, .int 1, .ref y4, .int 0, .ref y5, .int 0, .ref y6, .ref y7, .ref y8, .int 0, .ref y9, .ref y10, .ref y11]))] H := hP
  have hD : va_D A [(h0, .inr (0, [.ref qm, .ref y1, .ref y2, .ref y3, .ref qp, .int 1, .ref y4, .int 0, .ref y5, .int 0, .ref y6, .ref y7, .ref y8, .int 0, .ref y9, .ref y10, .ref y11]))] := hD
  refine lv_iload_n hx hb d_addProgram_19 rfl (lv_at hl 0 rfl) ?_
  have hP9 : va_P (dC, dI) classes [(h0, .inr (0, [.ref qm, .ref y1, .ref y2, .ref y3, .ref qp, .int 1, .ref y4, .int 0, .ref y5, .int 0, .ref y6, .ref y7, .ref y8, .int 0, .ref y9, .ref y10, .ref y11]))] H := hP.sub (ws' := [(h0, .inr (0, [.ref qm, .ref y1, .ref y2, .ref y3, .ref qp, .int 1, .ref y4, .int 0, .ref y5, .int 0, .ref y6, .ref y7, .ref y8, .int 0, .ref y9, .ref y10, .ref y11]))]) [0] rfl
  have hD9 := hD.sub (ws' := [(h0, .inr (0, [.ref qm, .ref y1, .ref y2, .ref y3, .ref qp, .int 1, .ref y4, .int 0, .ref y5, .int 0, .ref y6, .ref y7, .ref y8, .int 0, .ref y9, .ref y10, .ref y11]))]) [0] (by decide) rfl
  have hK9 := hK.sub (tys' := []) [] rfl
  refine W.widen (k := 0) (n := 0) (by omega) (by omega) ?_
  exact W.iret hx hb hr (fun t ht hW => ⟨⟨_, (), rfl, rfl, ⟨by rw [ht]; exact hP9, va_K.moved hW.alike hK9, hD9⟩⟩, hS.F ht⟩) hS.2.2 d_addProgram_20

abbrev rm_programAt : Room := { frames := 0, cells := 0, slots := 0, locals := 0 }
abbrev b_programAt : ByteArray := prog_1_method_40_code
def y_programAt : MethodName := ⟨"Leastcode", "programAt", "(I)LLeastcode$Code;"⟩
def w_programAt : List Cond := [.code ⟨"Leastcode", "programAt", "(I)LLeastcode$Code;"⟩ prog_1_method_40_code 2 (some (.object "Leastcode$Code")), .laysFinal "Leastcode" "Leastcode" "machine" "LLeastcode$Machine;", .laysFinal "Leastcode" "Leastcode" "prices" "LLeastcode$Prices;", .laysFinal "Leastcode" "Leastcode" "lots" "LLeastcode$Lots;", .laysFinal "Leastcode" "Leastcode" "search" "LLeastcode$Search;", .laysFinal "Leastcode" "Leastcode" "programs" "[LLeastcode$Code;", .lays "Leastcode" "Leastcode" "programCount" "I", .laysFinal "Leastcode" "Leastcode" "goals" "[LLeastcode$Goal;", .lays "Leastcode" "Leastcode" "goalCount" "I", .laysFinal "Leastcode" "Leastcode" "rules" "[LLeastcode$Rule;", .lays "Leastcode" "Leastcode" "ruleCount" "I", .laysFinal "Leastcode" "Leastcode" "killed" "[I", .laysFinal "Leastcode" "Leastcode" "unlikeUpTo" "[I", .laysFinal "Leastcode" "Leastcode" "found" "LLeastcode$Code;", .lays "Leastcode" "Leastcode" "hasFound" "Z", .laysFinal "Leastcode" "Leastcode" "draft" "LLeastcode$Code;", .laysFinal "Leastcode" "Leastcode" "shorter" "LLeastcode$Code;", .laysFinal "Leastcode" "Leastcode" "windowGoal" "LLeastcode$Goal;", .fieldLink "Leastcode" 84 "Leastcode" "programCount" "I", .fieldLink "Leastcode" 41 "Leastcode" "programs" "[LLeastcode$Code;"]
theorem d_programAt_0 : decode b_programAt 0 = .ok (.iload_n 1, 1) := by decide +kernel
theorem d_programAt_1 : decode b_programAt 1 = .ok (.ifCond .lt 11, 3) := by decide +kernel
theorem d_programAt_4 : decode b_programAt 4 = .ok (.iload_n 1, 1) := by decide +kernel
theorem d_programAt_5 : decode b_programAt 5 = .ok (.aload_n 0, 1) := by decide +kernel
theorem d_programAt_6 : decode b_programAt 6 = .ok (.getfield 84, 3) := by decide +kernel
theorem d_programAt_9 : decode b_programAt 9 = .ok (.if_icmp .lt 14, 3) := by decide +kernel
theorem d_programAt_23 : decode b_programAt 23 = .ok (.aload_n 0, 1) := by decide +kernel
theorem d_programAt_24 : decode b_programAt 24 = .ok (.getfield 41, 3) := by decide +kernel
theorem d_programAt_27 : decode b_programAt 27 = .ok (.iload_n 1, 1) := by decide +kernel
theorem d_programAt_28 : decode b_programAt 28 = .ok (.aaload, 1) := by decide +kernel
theorem d_programAt_29 : decode b_programAt 29 = .ok (.areturn, 1) := by decide +kernel
theorem in_programAt_LC : ∀ v ∈ u_ws R_LC T_LC 17, v ∈ w_programAt := by decide +kernel
set_option maxHeartbeats 4000000 in
set_option maxRecDepth 100000 in
theorem c_programAt (l : Launch) (dC : Nat → ClassId) (dI : Nat → Nat → Nat) (h0 : Nat) (qm : Nat) (qp : Nat) (y1 : Nat) (y2 : Nat) (y3 : Nat) (y4 : Nat) (y5 : Nat) (y6 : Nat) (y7 : Nat) (y8 : Nat) (y9 : Nat) (y10 : Nat) (y11 : Nat) (cB : ClassId) (fp : Nat → Option Nat) (c0 : Nat) (hf : fp 0 = some c0) : Met l y_programAt w_programAt rm_programAt (va_Pc [.ref h0, .int 0] (fun U => va_P (dC, dI) classes [(h0, .inr (0, [.ref qm, .ref y1, .ref y2, .ref y3, .ref qp, .int 1, .ref y4, .int 0, .ref y5, .int 0, .ref y6, .ref y7, .ref y8, .int 0, .ref y9, .ref y10, .ref y11])), (qp, .inl (cB, 8, .inr (.inr (.inr (.inr (fp))))))] U.heap ∧ va_K (dC, dI) classes [(cB, .object "Leastcode$Code")] U)) (va_Sr (fun r => r = c0) Value.ref) 0 0 (fun _ => False) := by
  refine Met.ofW (cc := b_programAt) (maxL := 2) (ret := (some (.object "Leastcode$Code"))) (by decide) rfl ?_
  intro p e s m args below meth c s₁ B hml hv
  obtain ⟨rfl, hP, hK⟩ := hv
  have hx := B.exec
  have hb := B.bytes
  have hr := B.returns
  have hts := atoms_spec (ws := w_programAt) B.pre
  have hown : s.vm.findClass "Leastcode" = some m.cls := findClass_of_methodNamed B.named
  have hlocks := B.notSynchronized
  have hP : va_P (dC, dI) classes [(h0, .inr (0, [.ref qm, .ref y1, .ref y2, .ref y3, .ref qp, .int 1, .ref y4, .int 0, .ref y5, .int 0, .ref y6, .ref y7, .ref y8, .int 0, .ref y9, .ref y10, .ref y11])), (qp, .inl (cB, 8, .inr (.inr (.inr (.inr (fp))))))] s.heap := hP
  have hl := lv_entry ([.ref h0, .int 0]) (n := 2) (Nat.le_of_ble_eq_true rfl)
  rw [lg_entry_eq]
  generalize (lg_sl ([.ref h0, .int 0]) ++ List.replicate (2 - (lg_sl ([.ref h0, .int 0])).length) Slot.unset).toArray = ls at hl ⊢
  have hl : lv_has ls 2 [(0, .ref h0), (1, .int 0)] := hl
  refine lv_iload_n hx hb d_programAt_0 rfl (lv_at hl 1 rfl) ?_
  refine lv_if_lt (tgt := 12) hx hb d_programAt_1 (by decide) (fun c_1 => ?_) (fun c_1 => ?_)
  · exact absurd c_1 (by decide)
  · skip
    refine lv_iload_n hx hb d_programAt_4 rfl (lv_at hl 1 rfl) ?_
    refine lv_aload_n hx hb d_programAt_5 rfl (lv_at hl 0 rfl) ?_
    refine va_get (D := (dC, dI)) (ci := 0) (v := .int 1) (C := R_LC) (T := T_LC) (N := 17) hx hb hts in_programAt_LC hown hK hP 0 rfl rfl 5 (by decide) (hts (.fieldLink "Leastcode" 84 "Leastcode" "programCount" "I") (List.mem_of_getElem? (i := 18) rfl)) (fun _ h9 => h9) rfl d_programAt_6 ?_
    refine lv_icmp_lt (tgt := 23) hx hb d_programAt_9 (by decide) (fun c_9 => ?_) (fun c_9 => ?_)
    · skip
      refine lv_aload_n hx hb d_programAt_23 rfl (lv_at hl 0 rfl) ?_
      refine va_get (D := (dC, dI)) (ci := 0) (v := .ref qp) (C := R_LC) (T := T_LC) (N := 17) hx hb hts in_programAt_LC hown hK hP 0 rfl rfl 4 (by decide) (hts (.fieldLink "Leastcode" 41 "Leastcode" "programs" "[LLeastcode$Code;") (List.mem_of_getElem? (i := 19) rfl)) (fun _ h9 => h9) rfl d_programAt_24 ?_
      refine lv_iload_n hx hb d_programAt_27 rfl (lv_at hl 1 rfl) ?_
      refine va_aldq hx hb hK hP 1 0 rfl rfl (by unfold vp_in; decide) d_programAt_28 ?_
      have hav : fp (0 : Int32).toNatClampNeg = some c0 := by rw [show (0 : Int32).toNatClampNeg = 0 by decide, hf]
      rw [hav]
      refine W.eq (g2 := F0 m 29 ls [.ref c0]) rfl ?_
      exact W.aret hx hb hr (Or.inl ⟨_, rfl⟩) (Or.inr ⟨_, rfl⟩) (fun t ht hW => ⟨_, rfl, rfl, ht⟩) (fun _ h => by cases h) d_programAt_29
    · exact absurd (by decide) c_9

abbrev rm_kindAt : Room := { frames := 4, cells := 0, slots := 0, locals := 85 }
abbrev b_kindAt : ByteArray := prog_1_method_42_code
def y_kindAt : MethodName := ⟨"Leastcode", "kindAt", "(C)I"⟩
def w_kindAt : List Cond := [.code ⟨"Leastcode", "kindAt", "(C)I"⟩ prog_1_method_42_code 2 (some .int), .methodLink "Leastcode" 307 ⟨"java/lang/String", "length", "()I"⟩, .instanceMethod ⟨"java/lang/String", "length", "()I"⟩, .selects "java/lang/String" ⟨"java/lang/String", "length", "()I"⟩ ⟨"java/lang/String", "length", "()I"⟩, .initialized "java/lang/String", .code ⟨"java/lang/String", "length", "()I"⟩ prog_34_method_54_code 1 (some .int), .fieldLink "java/lang/String" 9 "java/lang/String" "value" "[B", .methodLink "java/lang/String" 335 ⟨"java/lang/String", "coder", "()B"⟩, .instanceMethod ⟨"java/lang/String", "coder", "()B"⟩, .selects "java/lang/String" ⟨"java/lang/String", "coder", "()B"⟩ ⟨"java/lang/String", "coder", "()B"⟩, .code ⟨"java/lang/String", "coder", "()B"⟩ prog_34_method_152_code 1 (some .byte), .fieldLink "java/lang/String" 38 "java/lang/String" "COMPACT_STRINGS" "Z", .fieldLink "java/lang/String" 15 "java/lang/String" "coder" "B", .methodLink "Leastcode" 310 ⟨"java/lang/String", "charAt", "(I)C"⟩, .instanceMethod ⟨"java/lang/String", "charAt", "(I)C"⟩, .selects "java/lang/String" ⟨"java/lang/String", "charAt", "(I)C"⟩ ⟨"java/lang/String", "charAt", "(I)C"⟩, .code ⟨"java/lang/String", "charAt", "(I)C"⟩ prog_34_method_56_code 2 (some .char), .methodLink "java/lang/String" 492 ⟨"java/lang/String", "isLatin1", "()Z"⟩, .instanceMethod ⟨"java/lang/String", "isLatin1", "()Z"⟩, .selects "java/lang/String" ⟨"java/lang/String", "isLatin1", "()Z"⟩ ⟨"java/lang/String", "isLatin1", "()Z"⟩, .code ⟨"java/lang/String", "isLatin1", "()Z"⟩ prog_34_method_154_code 1 (some .boolean), .methodLink "java/lang/String" 495 ⟨"java/lang/StringLatin1", "charAt", "([BI)C"⟩, .static ⟨"java/lang/StringLatin1", "charAt", "([BI)C"⟩, .initialized "java/lang/StringLatin1", .code ⟨"java/lang/StringLatin1", "charAt", "([BI)C"⟩ prog_36_method_2_code 2 (some .char), .methodLink "java/lang/StringLatin1" 9 ⟨"java/lang/String", "checkIndex", "(II)V"⟩, .static ⟨"java/lang/String", "checkIndex", "(II)V"⟩, .code ⟨"java/lang/String", "checkIndex", "(II)V"⟩ prog_34_method_155_code 2 none, .fieldLink "java/lang/String" 1053 "jdk/internal/util/Preconditions" "SIOOBE_FORMATTER" "Ljava/util/function/BiFunction;", .methodLink "java/lang/String" 1059 ⟨"jdk/internal/util/Preconditions", "checkIndex", "(IILjava/util/function/BiFunction;)I"⟩, .static ⟨"jdk/internal/util/Preconditions", "checkIndex", "(IILjava/util/function/BiFunction;)I"⟩, .initialized "jdk/internal/util/Preconditions", .code ⟨"jdk/internal/util/Preconditions", "checkIndex", "(IILjava/util/function/BiFunction;)I"⟩ prog_81_method_11_code 3 (some .int)]
theorem d_kindAt_0 : decode b_kindAt 0 = .ok (.iconst 0, 1) := by decide +kernel
theorem d_kindAt_1 : decode b_kindAt 1 = .ok (.istore_n 1, 1) := by decide +kernel
theorem d_kindAt_2 : decode b_kindAt 2 = .ok (.iload_n 1, 1) := by decide +kernel
theorem d_kindAt_3 : decode b_kindAt 3 = .ok (.ldc_w 305, 3) := by decide +kernel
theorem d_kindAt_6 : decode b_kindAt 6 = .ok (.invokevirtual 307, 3) := by decide +kernel
theorem d_kindAt_9 : decode b_kindAt 9 = .ok (.if_icmp .ge 22, 3) := by decide +kernel
theorem d_kindAt_12 : decode b_kindAt 12 = .ok (.ldc_w 305, 3) := by decide +kernel
theorem d_kindAt_15 : decode b_kindAt 15 = .ok (.iload_n 1, 1) := by decide +kernel
theorem d_kindAt_16 : decode b_kindAt 16 = .ok (.invokevirtual 310, 3) := by decide +kernel
theorem d_kindAt_19 : decode b_kindAt 19 = .ok (.iload_n 0, 1) := by decide +kernel
theorem d_kindAt_20 : decode b_kindAt 20 = .ok (.if_icmp .ne 5, 3) := by decide +kernel
theorem d_kindAt_23 : decode b_kindAt 23 = .ok (.iload_n 1, 1) := by decide +kernel
theorem d_kindAt_24 : decode b_kindAt 24 = .ok (.ireturn, 1) := by decide +kernel
theorem d_kindAt_25 : decode b_kindAt 25 = .ok (.iinc 1 1, 3) := by decide +kernel
theorem d_kindAt_28 : decode b_kindAt 28 = .ok (.goto (-26), 3) := by decide +kernel
set_option maxRecDepth 20000 in
theorem g_kindAt_6 : GoodIn w_kindAt (wsV "Leastcode" 307 "java/lang/String" ⟨"java/lang/String", "length", "()I"⟩ w_ST_length) := goodIn_r _ [1, 2, 3, 4, 5, 6, 7, 8, 9, 4, 10, 11, 12] rfl (by decide +kernel)
set_option maxRecDepth 20000 in
theorem g_kindAt_16 : GoodIn w_kindAt (wsV "Leastcode" 310 "java/lang/String" ⟨"java/lang/String", "charAt", "(I)C"⟩ w_ST_charAt) := goodIn_r _ [13, 14, 15, 4, 16, 17, 18, 19, 4, 20, 11, 12, 6, 21, 22, 23, 24, 25, 26, 27, 28, 29, 30, 31, 32] rfl (by decide +kernel)
set_option maxHeartbeats 4000000 in
set_option maxRecDepth 100000 in
theorem c_kindAt (l : Launch) (sa : Nat) (va : Nat) : Met l y_kindAt w_kindAt rm_kindAt (va_Pc [.int 102] (fun U => va_O "java/lang/String" sa (fun _ => False) U U.heap ∧ va_OF "java/lang/String" "value" "[B" (.ref va) sa (fun _ => False) U U.heap ∧ va_OF "java/lang/String" "coder" "B" (.int 0) sa (fun _ => False) U U.heap ∧ va_T .byte va 16 kb (fun _ => False) U U.heap ∧ va_Z "java/lang/String" "COMPACT_STRINGS" "Z" (.int 1) (fun _ => False) U U.heap ∧ va_Zq "jdk/internal/util/Preconditions" "SIOOBE_FORMATTER" "Ljava/util/function/BiFunction;" (fun _ => False) U U.heap ∧ vk_R "Leastcode" 305 "masnoxkcidlrtzbf" sa U)) (vp_Si (fun r => r = 15)) 0 0 (fun _ => False) := by
  refine Met.ofW (cc := b_kindAt) (maxL := 2) (ret := (some .int)) (by decide) rfl ?_
  intro p e s m args below meth c s₁ B hml hv
  obtain ⟨rfl, hE0, hE1, hE2, hE3, hE4, hE5, hE6⟩ := hv
  have hx := B.exec
  have hb := B.bytes
  have hr := B.returns
  have hts := atoms_spec (ws := w_kindAt) B.pre
  have hown : s.vm.findClass "Leastcode" = some m.cls := findClass_of_methodNamed B.named
  have hlocks := B.notSynchronized
  have hl := lv_entry ([.int 102]) (n := 2) (Nat.le_of_ble_eq_true rfl)
  rw [lg_entry_eq]
  generalize (lg_sl ([.int 102]) ++ List.replicate (2 - (lg_sl ([.int 102])).length) Slot.unset).toArray = ls at hl ⊢
  have hl : lv_has ls 2 [(0, .int 102)] := hl
  refine lv_iconst (v := 0) hx hb d_kindAt_0 (by decide) ?_
  refine lv_istore_n (lv' := [(1, .int 0), (0, .int 102)]) hx hb d_kindAt_1 rfl hl (by decide) rfl (fun ls hl => ?_)
  refine ry_abs (fun QQ hQ => ?_)
  have loop : ∀ (k i : Nat), i + k = 15 → ∀ (ls : Array Slot) (x : Int32), x = nI i → lv_has ls 2 [(1, .int x), (0, .int 102)] → W p l e (headSpec w_kindAt rm_kindAt).room s m ([.int 102] : List Value).toArray below meth c s.heap [] (0) (0) QQ (F0 m 2 ls []) := by
    intro k
    induction k with
    | zero =>
      intro i hi ls x ex0 hl
      obtain rfl : i = 15 := by omega
      refine lv_iload_n hx hb d_kindAt_2 rfl (lv_at hl 0 rfl) ?_
      refine va_ldcSW hx hb hown hE6 d_kindAt_3 ?_
      refine vp_callSi (W.runV (As := []) (rest := [.int x]) ⟨hx, hb, hml, hown, hts⟩ (c_ST_length l sa va) (cwV 0 hts g_kindAt_6 rfl rfl rfl (by decide +kernel) ⟨Nat.le_of_ble_eq_true rfl, Nat.le_of_ble_eq_true rfl⟩) ⟨fun a U g mk z => by obtain ⟨z0, zE0, zE1, zE2, zE3, zE4⟩ := z; exact ⟨z0, zE0.moved (u := U) (U := U.calling g mk a) (Vm.Alike.refl U.vm), zE1.moved (u := U) (U := U.calling g mk a) (Vm.Alike.refl U.vm), zE2.moved (u := U) (U := U.calling g mk a) (Vm.Alike.refl U.vm), zE3.moved (u := U) (U := U.calling g mk a) (Vm.Alike.refl U.vm), zE4.moved (u := U) (U := U.calling g mk a) (Vm.Alike.refl U.vm)⟩, va_Orecv hE0 (va_S.rf (A := fun _ => False)), fun U hU hW => ⟨rfl, by have q9 := hE0.moved hW.alike; rw [← hU] at q9; exact q9, by have q9 := hE1.moved hW.alike; rw [← hU] at q9; exact q9, by have q9 := hE2.moved hW.alike; rw [← hU] at q9; exact q9, by have q9 := hE3.moved hW.alike; rw [← hU] at q9; exact q9, by have q9 := hE4.moved hW.alike; rw [← hU] at q9; exact q9⟩⟩ rfl rfl hl.1 rfl (lv_room (Nat.le_of_ble_eq_true rfl)) d_kindAt_6 ⟨(Nat.le_of_ble_eq_true rfl), (Nat.le_of_ble_eq_true rfl)⟩) (fun r1 hr1 => ?_)
      replace hr1 := hr1.symm; subst hr1
      refine lv_icmp_ge (tgt := 31) hx hb d_kindAt_9 (by decide) (fun c_9 => ?_) (fun c_9 => ?_)
      · exact absurd c_9 (by rw [ex0]; exact (show ¬ nI 16 ≤ nI 15 from nI_ge (by omega) (by omega)))
      · skip
        refine va_ldcSW hx hb hown hE6 d_kindAt_12 ?_
        refine lv_iload_n hx hb d_kindAt_15 rfl (lv_at hl 0 rfl) ?_
        refine vp_callSi (W.runV (As := [.int x]) (rest := []) ⟨hx, hb, hml, hown, hts⟩ (c_ST_charAt l sa va x 15 (by omega) ex0) (cwV 1 hts g_kindAt_16 rfl rfl rfl (by decide +kernel) ⟨Nat.le_of_ble_eq_true rfl, Nat.le_of_ble_eq_true rfl⟩) ⟨fun a U g mk z => by obtain ⟨z0, zE0, zE1, zE2, zE3, zE4, zE5⟩ := z; exact ⟨z0, zE0.moved (u := U) (U := U.calling g mk a) (Vm.Alike.refl U.vm), zE1.moved (u := U) (U := U.calling g mk a) (Vm.Alike.refl U.vm), zE2.moved (u := U) (U := U.calling g mk a) (Vm.Alike.refl U.vm), zE3.moved (u := U) (U := U.calling g mk a) (Vm.Alike.refl U.vm), zE4.moved (u := U) (U := U.calling g mk a) (Vm.Alike.refl U.vm), zE5.moved (u := U) (U := U.calling g mk a) (Vm.Alike.refl U.vm)⟩, va_Orecv hE0 (va_S.rf (A := fun _ => False)), fun U hU hW => ⟨rfl, by have q9 := hE0.moved hW.alike; rw [← hU] at q9; exact q9, by have q9 := hE1.moved hW.alike; rw [← hU] at q9; exact q9, by have q9 := hE2.moved hW.alike; rw [← hU] at q9; exact q9, by have q9 := hE3.moved hW.alike; rw [← hU] at q9; exact q9, by have q9 := hE4.moved hW.alike; rw [← hU] at q9; exact q9, by have q9 := hE5.moved hW.alike; rw [← hU] at q9; exact q9⟩⟩ rfl rfl hl.1 rfl (lv_room (Nat.le_of_ble_eq_true rfl)) d_kindAt_16 ⟨(Nat.le_of_ble_eq_true rfl), (Nat.le_of_ble_eq_true rfl)⟩) (fun r2 hr2 => ?_)
        replace hr2 := hr2.symm; subst hr2
        refine lv_iload_n hx hb d_kindAt_19 rfl (lv_at hl 1 rfl) ?_
        refine lv_icmp_ne (tgt := 25) hx hb d_kindAt_20 (by decide) (fun c_20 => ?_) (fun c_20 => ?_)
        · exact absurd c_20 (fun q => q kb_last)
        · skip
          refine lv_iload_n hx hb d_kindAt_23 rfl (lv_at hl 0 rfl) ?_
          subst hQ
          exact W.iret hx hb hr (fun t ht hW => ⟨_, rfl, (by rw [ex0]; decide), ht⟩) (fun _ h => by cases h) d_kindAt_24
    | succ k ih =>
      intro i hi ls x ex0 hl
      have hlt : i < 15 := by omega
      refine lv_iload_n hx hb d_kindAt_2 rfl (lv_at hl 0 rfl) ?_
      refine va_ldcSW hx hb hown hE6 d_kindAt_3 ?_
      refine vp_callSi (W.runV (As := []) (rest := [.int x]) ⟨hx, hb, hml, hown, hts⟩ (c_ST_length l sa va) (cwV 0 hts g_kindAt_6 rfl rfl rfl (by decide +kernel) ⟨Nat.le_of_ble_eq_true rfl, Nat.le_of_ble_eq_true rfl⟩) ⟨fun a U g mk z => by obtain ⟨z0, zE0, zE1, zE2, zE3, zE4⟩ := z; exact ⟨z0, zE0.moved (u := U) (U := U.calling g mk a) (Vm.Alike.refl U.vm), zE1.moved (u := U) (U := U.calling g mk a) (Vm.Alike.refl U.vm), zE2.moved (u := U) (U := U.calling g mk a) (Vm.Alike.refl U.vm), zE3.moved (u := U) (U := U.calling g mk a) (Vm.Alike.refl U.vm), zE4.moved (u := U) (U := U.calling g mk a) (Vm.Alike.refl U.vm)⟩, va_Orecv hE0 (va_S.rf (A := fun _ => False)), fun U hU hW => ⟨rfl, by have q9 := hE0.moved hW.alike; rw [← hU] at q9; exact q9, by have q9 := hE1.moved hW.alike; rw [← hU] at q9; exact q9, by have q9 := hE2.moved hW.alike; rw [← hU] at q9; exact q9, by have q9 := hE3.moved hW.alike; rw [← hU] at q9; exact q9, by have q9 := hE4.moved hW.alike; rw [← hU] at q9; exact q9⟩⟩ rfl rfl hl.1 rfl (lv_room (Nat.le_of_ble_eq_true rfl)) d_kindAt_6 ⟨(Nat.le_of_ble_eq_true rfl), (Nat.le_of_ble_eq_true rfl)⟩) (fun r3 hr3 => ?_)
      replace hr3 := hr3.symm; subst hr3
      refine lv_icmp_ge (tgt := 31) hx hb d_kindAt_9 (by decide) (fun c_9 => ?_) (fun c_9 => ?_)
      · exact absurd c_9 (by rw [ex0]; exact (show ¬ nI 16 ≤ nI i from nI_ge (by omega) (by omega)))
      · skip
        refine va_ldcSW hx hb hown hE6 d_kindAt_12 ?_
        refine lv_iload_n hx hb d_kindAt_15 rfl (lv_at hl 0 rfl) ?_
        refine vp_callSi (W.runV (As := [.int x]) (rest := []) ⟨hx, hb, hml, hown, hts⟩ (c_ST_charAt l sa va x i (by omega) ex0) (cwV 1 hts g_kindAt_16 rfl rfl rfl (by decide +kernel) ⟨Nat.le_of_ble_eq_true rfl, Nat.le_of_ble_eq_true rfl⟩) ⟨fun a U g mk z => by obtain ⟨z0, zE0, zE1, zE2, zE3, zE4, zE5⟩ := z; exact ⟨z0, zE0.moved (u := U) (U := U.calling g mk a) (Vm.Alike.refl U.vm), zE1.moved (u := U) (U := U.calling g mk a) (Vm.Alike.refl U.vm), zE2.moved (u := U) (U := U.calling g mk a) (Vm.Alike.refl U.vm), zE3.moved (u := U) (U := U.calling g mk a) (Vm.Alike.refl U.vm), zE4.moved (u := U) (U := U.calling g mk a) (Vm.Alike.refl U.vm), zE5.moved (u := U) (U := U.calling g mk a) (Vm.Alike.refl U.vm)⟩, va_Orecv hE0 (va_S.rf (A := fun _ => False)), fun U hU hW => ⟨rfl, by have q9 := hE0.moved hW.alike; rw [← hU] at q9; exact q9, by have q9 := hE1.moved hW.alike; rw [← hU] at q9; exact q9, by have q9 := hE2.moved hW.alike; rw [← hU] at q9; exact q9, by have q9 := hE3.moved hW.alike; rw [← hU] at q9; exact q9, by have q9 := hE4.moved hW.alike; rw [← hU] at q9; exact q9, by have q9 := hE5.moved hW.alike; rw [← hU] at q9; exact q9⟩⟩ rfl rfl hl.1 rfl (lv_room (Nat.le_of_ble_eq_true rfl)) d_kindAt_16 ⟨(Nat.le_of_ble_eq_true rfl), (Nat.le_of_ble_eq_true rfl)⟩) (fun r4 hr4 => ?_)
        replace hr4 := hr4.symm; subst hr4
        refine lv_iload_n hx hb d_kindAt_19 rfl (lv_at hl 1 rfl) ?_
        refine lv_icmp_ne (tgt := 25) hx hb d_kindAt_20 (by decide) (fun c_20 => ?_) (fun c_20 => ?_)
        · skip
          obtain ⟨x5, ex5⟩ : ∃ y_ : Int32, y_ = x + 1 := ⟨_, rfl⟩
          refine lv_iinc (v := x5) (lv' := [(1, .int x5), (0, .int 102)]) hx hb d_kindAt_25 hl (k := 0) rfl (by rw [ex5]; rfl) (by decide) rfl (fun ls hl => ?_)
          refine lv_goto (tgt := 2) hx hb d_kindAt_28 (by decide) ?_
          exact ih (i + 1) (by omega) _ x5 (by rw [ex5, ex0]; exact nI_1 i) (lv_sub hl [0, 1] rfl)
        · exact absurd c_20 (kb_not i hlt)
  exact loop 15 0 rfl _ _ nI_0.symm (lv_sub hl [0, 1] rfl)

abbrev rm_numberOf15 : Room := { frames := 0, cells := 0, slots := 0, locals := 0 }
abbrev b_numberOf15 : ByteArray := prog_6_method_2_code
def y_numberOf15 : MethodName := ⟨"Leastcode$Machine", "numberOf", "(III)I"⟩
def w_numberOf15 : List Cond := [.code ⟨"Leastcode$Machine", "numberOf", "(III)I"⟩ prog_6_method_2_code 3 (some .int)]
theorem d_numberOf15_0 : decode b_numberOf15 0 = .ok (.iload_n 0, 1) := by decide +kernel
theorem d_numberOf15_1 : decode b_numberOf15 1 = .ok (.bipush 15, 2) := by decide +kernel
theorem d_numberOf15_3 : decode b_numberOf15 3 = .ok (.if_icmp .lt 6, 3) := by decide +kernel
theorem d_numberOf15_6 : decode b_numberOf15 6 = .ok (.bipush 46, 2) := by decide +kernel
theorem d_numberOf15_8 : decode b_numberOf15 8 = .ok (.ireturn, 1) := by decide +kernel
set_option maxHeartbeats 4000000 in
set_option maxRecDepth 100000 in
theorem c_numberOf15 (l : Launch)  : Met l y_numberOf15 w_numberOf15 rm_numberOf15 (va_Pc [.int 15, .int 0, .int 0] (fun U => True)) (vp_Si (fun r => r = 46)) 0 0 (fun _ => False) := by
  refine Met.ofW (cc := b_numberOf15) (maxL := 3) (ret := (some .int)) (by decide) rfl ?_
  intro p e s m args below meth c s₁ B hml hv
  obtain ⟨rfl, -⟩ := hv
  have hx := B.exec
  have hb := B.bytes
  have hr := B.returns
  have hts := atoms_spec (ws := w_numberOf15) B.pre
  have hown : s.vm.findClass "Leastcode$Machine" = some m.cls := findClass_of_methodNamed B.named
  have hlocks := B.notSynchronized
  have hl := lv_entry ([.int 15, .int 0, .int 0]) (n := 3) (Nat.le_of_ble_eq_true rfl)
  rw [lg_entry_eq]
  generalize (lg_sl ([.int 15, .int 0, .int 0]) ++ List.replicate (3 - (lg_sl ([.int 15, .int 0, .int 0])).length) Slot.unset).toArray = ls at hl ⊢
  have hl : lv_has ls 3 [(0, .int 15), (1, .int 0), (2, .int 0)] := hl
  refine lv_iload_n hx hb d_numberOf15_0 rfl (lv_at hl 0 rfl) ?_
  refine lv_bipush (v := 15) hx hb d_numberOf15_1 (by decide) ?_
  refine lv_icmp_lt (tgt := 9) hx hb d_numberOf15_3 (by decide) (fun c_3 => ?_) (fun c_3 => ?_)
  · exact absurd c_3 (by decide)
  · skip
    refine lv_bipush (v := 46) hx hb d_numberOf15_6 (by decide) ?_
    exact W.iret hx hb hr (fun t ht hW => ⟨_, rfl, rfl, ht⟩) (fun _ h => by cases h) d_numberOf15_8

abbrev rm_Code_length : Room := { frames := 0, cells := 0, slots := 0, locals := 0 }
abbrev b_Code_length : ByteArray := prog_2_method_2_code
def y_Code_length : MethodName := ⟨"Leastcode$Code", "length", "()I"⟩
def w_Code_length : List Cond := [.code ⟨"Leastcode$Code", "length", "()I"⟩ prog_2_method_2_code 1 (some .int), .laysFinal "Leastcode$Code" "Leastcode$Code" "numbers" "[I", .lays "Leastcode$Code" "Leastcode$Code" "length" "I", .fieldLink "Leastcode$Code" 15 "Leastcode$Code" "length" "I"]
theorem d_Code_length_0 : decode b_Code_length 0 = .ok (.aload_n 0, 1) := by decide +kernel
theorem d_Code_length_1 : decode b_Code_length 1 = .ok (.getfield 15, 3) := by decide +kernel
theorem d_Code_length_4 : decode b_Code_length 4 = .ok (.ireturn, 1) := by decide +kernel
theorem in_Code_length_CO : ∀ v ∈ u_ws R_CO T_CO 2, v ∈ w_Code_length := by decide +kernel
set_option maxHeartbeats 4000000 in
set_option maxRecDepth 100000 in
theorem c_Code_length (l : Launch) (dC : Nat → ClassId) (dI : Nat → Nat → Nat) (c0 : Nat) (a0 : Nat) (n : Int32) : Met l y_Code_length w_Code_length rm_Code_length (va_Pc [.ref c0] (fun U => va_P (dC, dI) classes [(c0, .inr (2, [.ref a0, .int n]))] U.heap ∧ va_K (dC, dI) classes [] U)) (vp_Si (fun r => r = n)) 0 0 (fun _ => False) := by
  refine Met.ofW (cc := b_Code_length) (maxL := 1) (ret := (some .int)) (by decide) rfl ?_
  intro p e s m args below meth c s₁ B hml hv
  obtain ⟨rfl, hP, hK⟩ := hv
  have hx := B.exec
  have hb := B.bytes
  have hr := B.returns
  have hts := atoms_spec (ws := w_Code_length) B.pre
  have hown : s.vm.findClass "Leastcode$Code" = some m.cls := findClass_of_methodNamed B.named
  have hlocks := B.notSynchronized
  have hP : va_P (dC, dI) classes [(c0, .inr (2, [.ref a0, .int n]))] s.heap := hP
  have hl := lv_entry ([.ref c0]) (n := 1) (Nat.le_of_ble_eq_true rfl)
  rw [lg_entry_eq]
  generalize (lg_sl ([.ref c0]) ++ List.replicate (1 - (lg_sl ([.ref c0])).length) Slot.unset).toArray = ls at hl ⊢
  have hl : lv_has ls 1 [(0, .ref c0)] := hl
  refine lv_aload_n hx hb d_Code_length_0 rfl (lv_at hl 0 rfl) ?_
  refine va_get (D := (dC, dI)) (ci := 2) (v := .int n) (C := R_CO) (T := T_CO) (N := 2) hx hb hts in_Code_length_CO hown hK hP 0 rfl rfl 1 (by decide) (hts (.fieldLink "Leastcode$Code" 15 "Leastcode$Code" "length" "I") (List.mem_of_getElem? (i := 3) rfl)) (fun _ h9 => h9) rfl d_Code_length_1 ?_
  exact W.iret hx hb hr (fun t ht hW => ⟨_, rfl, rfl, ht⟩) (fun _ h => by cases h) d_Code_length_4

abbrev rm_Code_append : Room := { frames := 0, cells := 0, slots := 0, locals := 0 }
abbrev b_Code_append : ByteArray := prog_2_method_6_code
def y_Code_append : MethodName := ⟨"Leastcode$Code", "append", "(I)V"⟩
def w_Code_append : List Cond := [.code ⟨"Leastcode$Code", "append", "(I)V"⟩ prog_2_method_6_code 2 none, .laysFinal "Leastcode$Code" "Leastcode$Code" "numbers" "[I", .lays "Leastcode$Code" "Leastcode$Code" "length" "I", .fieldLink "Leastcode$Code" 15 "Leastcode$Code" "length" "I", .fieldLink "Leastcode$Code" 9 "Leastcode$Code" "numbers" "[I"]
theorem d_Code_append_0 : decode b_Code_append 0 = .ok (.aload_n 0, 1) := by decide +kernel
theorem d_Code_append_1 : decode b_Code_append 1 = .ok (.getfield 15, 3) := by decide +kernel
theorem d_Code_append_4 : decode b_Code_append 4 = .ok (.ifCond .lt 32, 3) := by decide +kernel
theorem d_Code_append_7 : decode b_Code_append 7 = .ok (.aload_n 0, 1) := by decide +kernel
theorem d_Code_append_8 : decode b_Code_append 8 = .ok (.getfield 15, 3) := by decide +kernel
theorem d_Code_append_11 : decode b_Code_append 11 = .ok (.bipush 8, 2) := by decide +kernel
theorem d_Code_append_13 : decode b_Code_append 13 = .ok (.if_icmp .ge 23, 3) := by decide +kernel
theorem d_Code_append_16 : decode b_Code_append 16 = .ok (.aload_n 0, 1) := by decide +kernel
theorem d_Code_append_17 : decode b_Code_append 17 = .ok (.getfield 9, 3) := by decide +kernel
theorem d_Code_append_20 : decode b_Code_append 20 = .ok (.aload_n 0, 1) := by decide +kernel
theorem d_Code_append_21 : decode b_Code_append 21 = .ok (.getfield 15, 3) := by decide +kernel
theorem d_Code_append_24 : decode b_Code_append 24 = .ok (.iload_n 1, 1) := by decide +kernel
theorem d_Code_append_25 : decode b_Code_append 25 = .ok (.iastore, 1) := by decide +kernel
theorem d_Code_append_26 : decode b_Code_append 26 = .ok (.aload_n 0, 1) := by decide +kernel
theorem d_Code_append_27 : decode b_Code_append 27 = .ok (.dup, 1) := by decide +kernel
theorem d_Code_append_28 : decode b_Code_append 28 = .ok (.getfield 15, 3) := by decide +kernel
theorem d_Code_append_31 : decode b_Code_append 31 = .ok (.iconst 1, 1) := by decide +kernel
theorem d_Code_append_32 : decode b_Code_append 32 = .ok (.iadd, 1) := by decide +kernel
theorem d_Code_append_33 : decode b_Code_append 33 = .ok (.putfield 15, 3) := by decide +kernel
theorem d_Code_append_36 : decode b_Code_append 36 = .ok (.return_, 1) := by decide +kernel
theorem in_Code_append_CO : ∀ v ∈ u_ws R_CO T_CO 2, v ∈ w_Code_append := by decide +kernel
set_option maxHeartbeats 4000000 in
set_option maxRecDepth 100000 in
theorem c_Code_append (l : Launch) (dC : Nat → ClassId) (dI : Nat → Nat → Nat) (c0 : Nat) (a0 : Nat) (n : Int32) (cC : ClassId) (fa : Nat → Int32) (v : Int32) (k : Nat) (hk : k < 8) (hnk : n = nI k) (sz : Nat) : Met l y_Code_append w_Code_append rm_Code_append (va_Pc [.ref c0, .int v] (fun U => U.heap.size = sz ∧ va_P (dC, dI) classes [(c0, .inr (2, [.ref a0, .int n])), (a0, .inl (cC, 8, .inl (fa)))] U.heap ∧ va_K (dC, dI) classes [(cC, .int)] U ∧ va_D (fun _ => True) [(c0, .inr (2, [.ref a0, .int n])), (a0, .inl (cC, 8, .inl (fa)))])) (va_Qv (fun (_ : Unit) => True) (fun _ t => ∃ n1 : Int32, ∃ f1 : Nat → Int32, va_P (dC, dI) classes [(c0, .inr (2, [.ref a0, .int n1])), (a0, .inl (cC, 8, .inl (f1)))] t.heap ∧ va_K (dC, dI) classes [(cC, .int)] t ∧ va_D (va_A [(c0, .inr (2, [.ref a0, .int n])), (a0, .inl (cC, 8, .inl (fa)))] sz) [(c0, .inr (2, [.ref a0, .int n1])), (a0, .inl (cC, 8, .inl (f1)))] ∧ n1 = nI (k + 1)) (va_A [(c0, .inr (2, [.ref a0, .int n])), (a0, .inl (cC, 8, .inl (fa)))] sz)) 0 0 (va_A [(c0, .inr (2, [.ref a0, .int n])), (a0, .inl (cC, 8, .inl (fa)))] sz) := by
  refine Met.ofW (cc := b_Code_append) (maxL := 2) (ret := none) (by decide) rfl ?_
  intro p e s m args below meth c s₁ B hml hv
  obtain ⟨rfl, hsz, hP, hK, hD0⟩ := hv
  have hx := B.exec
  have hb := B.bytes
  have hr := B.returns
  have hts := atoms_spec (ws := w_Code_append) B.pre
  have hown : s.vm.findClass "Leastcode$Code" = some m.cls := findClass_of_methodNamed B.named
  have hlocks := B.notSynchronized
  subst hsz
  have hD := hD0.self (sz := s.heap.size)
  generalize hAe : va_A [(c0, .inr (2, [.ref a0, .int n])), (a0, .inl (cC, 8, .inl (fa)))] s.heap.size = A at hD ⊢
  have hA : ∀ q : Nat, s.heap.size ≤ q → A q := fun q h => by rw [← hAe]; exact Or.inr h
  have hS : va_S A s.heap s.heap [] := va_S.rf
  have hP : va_P (dC, dI) classes [(c0, .inr (2, [.ref a0, .int n])), (a0, .inl (cC, 8, .inl (fa)))] s.heap := hP
  have hl := lv_entry ([.ref c0, .int v]) (n := 2) (Nat.le_of_ble_eq_true rfl)
  rw [lg_entry_eq]
  generalize (lg_sl ([.ref c0, .int v]) ++ List.replicate (2 - (lg_sl ([.ref c0, .int v])).length) Slot.unset).toArray = ls at hl ⊢
  have hl : lv_has ls 2 [(0, .ref c0), (1, .int v)] := hl
  refine lv_aload_n hx hb d_Code_append_0 rfl (lv_at hl 0 rfl) ?_
  refine va_get (D := (dC, dI)) (ci := 2) (v := .int n) (C := R_CO) (T := T_CO) (N := 2) hx hb hts in_Code_append_CO hown hK hP 0 rfl rfl 1 (by decide) (hts (.fieldLink "Leastcode$Code" 15 "Leastcode$Code" "length" "I") (List.mem_of_getElem? (i := 3) rfl)) (fun _ h9 => h9) rfl d_Code_append_1 ?_
  refine lv_if_lt (tgt := 36) hx hb d_Code_append_4 (by decide) (fun c_4 => ?_) (fun c_4 => ?_)
  · exact absurd c_4 (by rw [hnk]; exact nI_pos (by omega))
  · skip
    refine lv_aload_n hx hb d_Code_append_7 rfl (lv_at hl 0 rfl) ?_
    refine va_get (D := (dC, dI)) (ci := 2) (v := .int n) (C := R_CO) (T := T_CO) (N := 2) hx hb hts in_Code_append_CO hown hK hP 0 rfl rfl 1 (by decide) (hts (.fieldLink "Leastcode$Code" 15 "Leastcode$Code" "length" "I") (List.mem_of_getElem? (i := 3) rfl)) (fun _ h9 => h9) rfl d_Code_append_8 ?_
    refine lv_bipush (v := 8) hx hb d_Code_append_11 (by decide) ?_
    refine lv_icmp_ge (tgt := 36) hx hb d_Code_append_13 (by decide) (fun c_13 => ?_) (fun c_13 => ?_)
    · exact absurd c_13 (by rw [hnk]; exact (show ¬ nI 8 ≤ nI k from nI_ge hk (by omega)))
    · skip
      refine lv_aload_n hx hb d_Code_append_16 rfl (lv_at hl 0 rfl) ?_
      refine va_get (D := (dC, dI)) (ci := 2) (v := .ref a0) (C := R_CO) (T := T_CO) (N := 2) hx hb hts in_Code_append_CO hown hK hP 0 rfl rfl 0 (by decide) (hts (.fieldLink "Leastcode$Code" 9 "Leastcode$Code" "numbers" "[I") (List.mem_of_getElem? (i := 4) rfl)) (fun _ h9 => h9) rfl d_Code_append_17 ?_
      refine lv_aload_n hx hb d_Code_append_20 rfl (lv_at hl 0 rfl) ?_
      refine va_get (D := (dC, dI)) (ci := 2) (v := .int n) (C := R_CO) (T := T_CO) (N := 2) hx hb hts in_Code_append_CO hown hK hP 0 rfl rfl 1 (by decide) (hts (.fieldLink "Leastcode$Code" 15 "Leastcode$Code" "length" "I") (List.mem_of_getElem? (i := 3) rfl)) (fun _ h9 => h9) rfl d_Code_append_21 ?_
      refine lv_iload_n hx hb d_Code_append_24 rfl (lv_at hl 1 rfl) ?_
      refine va_iast (D := (dC, dI)) hx hb hK hP hD hS 1 0 rfl rfl (by rw [hnk]; exact vp_in_nI hk (by omega)) d_Code_append_25 (fun H locs hP hD hS => ?_)
      have hP : va_P (dC, dI) classes [(c0, .inr (2, [.ref a0, .int n])), (a0, .inl (cC, 8, .inl (upd fa (n : Int32).toNatClampNeg (v))))] H := hP
      have hD : va_D A [(c0, .inr (2, [.ref a0, .int n])), (a0, .inl (cC, 8, .inl (upd fa (n : Int32).toNatClampNeg (v))))] := hD
      generalize upd fa (n : Int32).toNatClampNeg (v) = f1 at hP hD
      refine lv_aload_n hx hb d_Code_append_26 rfl (lv_at hl 0 rfl) ?_
      refine lv_dup hx hb d_Code_append_27 rfl ?_
      refine va_get (D := (dC, dI)) (ci := 2) (v := .int n) (C := R_CO) (T := T_CO) (N := 2) hx hb hts in_Code_append_CO hown hK hP 0 rfl rfl 1 (by decide) (hts (.fieldLink "Leastcode$Code" 15 "Leastcode$Code" "length" "I") (List.mem_of_getElem? (i := 3) rfl)) (fun _ h9 => h9) rfl d_Code_append_28 ?_
      refine lv_iconst (v := 1) hx hb d_Code_append_31 (by decide) ?_
      refine lv_iadd hx hb d_Code_append_32 ?_
      refine lv_topi (fun x2 ex2 => ?_)
      refine va_put (D := (dC, dI)) (ci := 2) (v := .int x2) (ty := .int) (C := R_CO) (T := T_CO) (N := 2) hx hb hts in_Code_append_CO t_CO t_CO_ok n_CO hown hK hP hD hS 0 rfl rfl 1 (by decide) (hts (.fieldLink "Leastcode$Code" 15 "Leastcode$Code" "length" "I") (List.mem_of_getElem? (i := 3) rfl)) (fun _ h9 => h9) rfl (by decide +kernel) rfl rfl (Nat.le_of_ble_eq_true rfl) d_Code_append_33 (fun H locs hP hD hS => ?_)
      have hP : va_P (dC, dI) classes [(c0, .inr (2, [.ref a0, .int x2])), (a0, .inl (cC, 8, .inl (f1)))] H := hP
      have hD : va_D A [(c0, .inr (2, [.ref a0, .int x2])), (a0, .inl (cC, 8, .inl (f1)))] := hD
      have hP9 : va_P (dC, dI) classes [(c0, .inr (2, [.ref a0, .int x2])), (a0, .inl (cC, 8, .inl (f1)))] H := hP.sub (ws' := [(c0, .inr (2, [.ref a0, .int x2])), (a0, .inl (cC, 8, .inl (f1)))]) [0, 1] rfl
      have hD9 := hD.sub (ws' := [(c0, .inr (2, [.ref a0, .int x2])), (a0, .inl (cC, 8, .inl (f1)))]) [0, 1] (by decide) rfl
      have hK9 := hK.sub (tys' := [(cC, .int)]) [0] rfl
      refine W.widen (k := 0) (n := 0) (by omega) (by omega) ?_
      exact W.vret hx hb hr (fun t ht hW => ⟨⟨(), rfl, trivial, ⟨x2, ⟨f1, ⟨by rw [ht]; exact hP9, va_K.moved hW.alike hK9, hD9, (by rw [ex2, hnk]; exact nI_1 k)⟩⟩⟩⟩, hS.F ht⟩) hS.2.2 d_Code_append_36

abbrev rm_LC_add : Room := { frames := 5, cells := 0, slots := 0, locals := 106 }
abbrev b_LC_add : ByteArray := prog_1_method_3_code
def y_LC_add : MethodName := ⟨"Leastcode", "add", "(ICII)I"⟩
def w_LC_add : List Cond := [.code ⟨"Leastcode", "add", "(ICII)I"⟩ prog_1_method_3_code 7 (some .int), .methodLink "Leastcode" 88 ⟨"Leastcode", "programAt", "(I)LLeastcode$Code;"⟩, .instanceMethod ⟨"Leastcode", "programAt", "(I)LLeastcode$Code;"⟩, .selects "Leastcode" ⟨"Leastcode", "programAt", "(I)LLeastcode$Code;"⟩ ⟨"Leastcode", "programAt", "(I)LLeastcode$Code;"⟩, .initialized "Leastcode", .code ⟨"Leastcode", "programAt", "(I)LLeastcode$Code;"⟩ prog_1_method_40_code 2 (some (.object "Leastcode$Code")), .laysFinal "Leastcode" "Leastcode" "machine" "LLeastcode$Machine;", .laysFinal "Leastcode" "Leastcode" "prices" "LLeastcode$Prices;", .laysFinal "Leastcode" "Leastcode" "lots" "LLeastcode$Lots;", .laysFinal "Leastcode" "Leastcode" "search" "LLeastcode$Search;", .laysFinal "Leastcode" "Leastcode" "programs" "[LLeastcode$Code;", .lays "Leastcode" "Leastcode" "programCount" "I", .laysFinal "Leastcode" "Leastcode" "goals" "[LLeastcode$Goal;", .lays "Leastcode" "Leastcode" "goalCount" "I", .laysFinal "Leastcode" "Leastcode" "rules" "[LLeastcode$Rule;", .lays "Leastcode" "Leastcode" "ruleCount" "I", .laysFinal "Leastcode" "Leastcode" "killed" "[I", .laysFinal "Leastcode" "Leastcode" "unlikeUpTo" "[I", .laysFinal "Leastcode" "Leastcode" "found" "LLeastcode$Code;", .lays "Leastcode" "Leastcode" "hasFound" "Z", .laysFinal "Leastcode" "Leastcode" "draft" "LLeastcode$Code;", .laysFinal "Leastcode" "Leastcode" "shorter" "LLeastcode$Code;", .laysFinal "Leastcode" "Leastcode" "windowGoal" "LLeastcode$Goal;", .fieldLink "Leastcode" 84 "Leastcode" "programCount" "I", .fieldLink "Leastcode" 41 "Leastcode" "programs" "[LLeastcode$Code;", .methodLink "Leastcode" 92 ⟨"Leastcode", "kindAt", "(C)I"⟩, .static ⟨"Leastcode", "kindAt", "(C)I"⟩, .code ⟨"Leastcode", "kindAt", "(C)I"⟩ prog_1_method_42_code 2 (some .int), .methodLink "Leastcode" 307 ⟨"java/lang/String", "length", "()I"⟩, .instanceMethod ⟨"java/lang/String", "length", "()I"⟩, .selects "java/lang/String" ⟨"java/lang/String", "length", "()I"⟩ ⟨"java/lang/String", "length", "()I"⟩, .initialized "java/lang/String", .code ⟨"java/lang/String", "length", "()I"⟩ prog_34_method_54_code 1 (some .int), .fieldLink "java/lang/String" 9 "java/lang/String" "value" "[B", .methodLink "java/lang/String" 335 ⟨"java/lang/String", "coder", "()B"⟩, .instanceMethod ⟨"java/lang/String", "coder", "()B"⟩, .selects "java/lang/String" ⟨"java/lang/String", "coder", "()B"⟩ ⟨"java/lang/String", "coder", "()B"⟩, .code ⟨"java/lang/String", "coder", "()B"⟩ prog_34_method_152_code 1 (some .byte), .fieldLink "java/lang/String" 38 "java/lang/String" "COMPACT_STRINGS" "Z", .fieldLink "java/lang/String" 15 "java/lang/String" "coder" "B", .methodLink "Leastcode" 310 ⟨"java/lang/String", "charAt", "(I)C"⟩, .instanceMethod ⟨"java/lang/String", "charAt", "(I)C"⟩, .selects "java/lang/String" ⟨"java/lang/String", "charAt", "(I)C"⟩ ⟨"java/lang/String", "charAt", "(I)C"⟩, .code ⟨"java/lang/String", "charAt", "(I)C"⟩ prog_34_method_56_code 2 (some .char), .methodLink "java/lang/String" 492 ⟨"java/lang/String", "isLatin1", "()Z"⟩, .instanceMethod ⟨"java/lang/String", "isLatin1", "()Z"⟩, .selects "java/lang/String" ⟨"java/lang/String", "isLatin1", "()Z"⟩ ⟨"java/lang/String", "isLatin1", "()Z"⟩, .code ⟨"java/lang/String", "isLatin1", "()Z"⟩ prog_34_method_154_code 1 (some .boolean), .methodLink "java/lang/String" 495 ⟨"java/lang/StringLatin1", "charAt", "([BI)C"⟩, .static ⟨"java/lang/StringLatin1", "charAt", "([BI)C"⟩, .initialized "java/lang/StringLatin1", .code ⟨"java/lang/StringLatin1", "charAt", "([BI)C"⟩ prog_36_method_2_code 2 (some .char), .methodLink "java/lang/StringLatin1" 9 ⟨"java/lang/String", "checkIndex", "(II)V"⟩, .static ⟨"java/lang/String", "checkIndex", "(II)V"⟩, .code ⟨"java/lang/String", "checkIndex", "(II)V"⟩ prog_34_method_155_code 2 none, .fieldLink "java/lang/String" 1053 "jdk/internal/util/Preconditions" "SIOOBE_FORMATTER" "Ljava/util/function/BiFunction;", .methodLink "java/lang/String" 1059 ⟨"jdk/internal/util/Preconditions", "checkIndex", "(IILjava/util/function/BiFunction;)I"⟩, .static ⟨"jdk/internal/util/Preconditions", "checkIndex", "(IILjava/util/function/BiFunction;)I"⟩, .initialized "jdk/internal/util/Preconditions", .code ⟨"jdk/internal/util/Preconditions", "checkIndex", "(IILjava/util/function/BiFunction;)I"⟩ prog_81_method_11_code 3 (some .int), .methodLink "Leastcode" 96 ⟨"Leastcode$Machine", "numberOf", "(III)I"⟩, .static ⟨"Leastcode$Machine", "numberOf", "(III)I"⟩, .initialized "Leastcode$Machine", .code ⟨"Leastcode$Machine", "numberOf", "(III)I"⟩ prog_6_method_2_code 3 (some .int), .methodLink "Leastcode" 107 ⟨"Leastcode$Code", "length", "()I"⟩, .instanceMethod ⟨"Leastcode$Code", "length", "()I"⟩, .selects "Leastcode$Code" ⟨"Leastcode$Code", "length", "()I"⟩ ⟨"Leastcode$Code", "length", "()I"⟩, .initialized "Leastcode$Code", .code ⟨"Leastcode$Code", "length", "()I"⟩ prog_2_method_2_code 1 (some .int), .laysFinal "Leastcode$Code" "Leastcode$Code" "numbers" "[I", .lays "Leastcode$Code" "Leastcode$Code" "length" "I", .fieldLink "Leastcode$Code" 15 "Leastcode$Code" "length" "I", .methodLink "Leastcode" 116 ⟨"Leastcode$Code", "append", "(I)V"⟩, .instanceMethod ⟨"Leastcode$Code", "append", "(I)V"⟩, .selects "Leastcode$Code" ⟨"Leastcode$Code", "append", "(I)V"⟩ ⟨"Leastcode$Code", "append", "(I)V"⟩, .code ⟨"Leastcode$Code", "append", "(I)V"⟩ prog_2_method_6_code 2 none, .fieldLink "Leastcode$Code" 9 "Leastcode$Code" "numbers" "[I"]
theorem d_LC_add_0 : decode b_LC_add 0 = .ok (.aload_n 0, 1) := by decide +kernel
theorem d_LC_add_1 : decode b_LC_add 1 = .ok (.iload_n 1, 1) := by decide +kernel
theorem d_LC_add_2 : decode b_LC_add 2 = .ok (.invokevirtual 88, 3) := by decide +kernel
theorem d_LC_add_5 : decode b_LC_add 5 = .ok (.astore 5, 2) := by decide +kernel
theorem d_LC_add_7 : decode b_LC_add 7 = .ok (.iload_n 2, 1) := by decide +kernel
theorem d_LC_add_8 : decode b_LC_add 8 = .ok (.invokestatic 92, 3) := by decide +kernel
theorem d_LC_add_11 : decode b_LC_add 11 = .ok (.iload_n 3, 1) := by decide +kernel
theorem d_LC_add_12 : decode b_LC_add 12 = .ok (.iload 4, 2) := by decide +kernel
theorem d_LC_add_14 : decode b_LC_add 14 = .ok (.invokestatic 96, 3) := by decide +kernel
theorem d_LC_add_17 : decode b_LC_add 17 = .ok (.istore 6, 2) := by decide +kernel
theorem d_LC_add_19 : decode b_LC_add 19 = .ok (.iload 6, 2) := by decide +kernel
theorem d_LC_add_21 : decode b_LC_add 21 = .ok (.iconst (-1), 1) := by decide +kernel
theorem d_LC_add_22 : decode b_LC_add 22 = .ok (.if_icmp .ne 13, 3) := by decide +kernel
theorem d_LC_add_35 : decode b_LC_add 35 = .ok (.aload 5, 2) := by decide +kernel
theorem d_LC_add_37 : decode b_LC_add 37 = .ok (.invokevirtual 107, 3) := by decide +kernel
theorem d_LC_add_40 : decode b_LC_add 40 = .ok (.bipush 8, 2) := by decide +kernel
theorem d_LC_add_42 : decode b_LC_add 42 = .ok (.if_icmp .lt 13, 3) := by decide +kernel
theorem d_LC_add_55 : decode b_LC_add 55 = .ok (.aload 5, 2) := by decide +kernel
theorem d_LC_add_57 : decode b_LC_add 57 = .ok (.iload 6, 2) := by decide +kernel
theorem d_LC_add_59 : decode b_LC_add 59 = .ok (.invokevirtual 116, 3) := by decide +kernel
theorem d_LC_add_62 : decode b_LC_add 62 = .ok (.aload 5, 2) := by decide +kernel
theorem d_LC_add_64 : decode b_LC_add 64 = .ok (.invokevirtual 107, 3) := by decide +kernel
theorem d_LC_add_67 : decode b_LC_add 67 = .ok (.ireturn, 1) := by decide +kernel
set_option maxRecDepth 20000 in
theorem g_LC_add_2 : GoodIn w_LC_add (wsV "Leastcode" 88 "Leastcode" ⟨"Leastcode", "programAt", "(I)LLeastcode$Code;"⟩ w_programAt) := goodIn_r _ [1, 2, 3, 4, 5, 6, 7, 8, 9, 10, 11, 12, 13, 14, 15, 16, 17, 18, 19, 20, 21, 22, 23, 24] rfl (by decide +kernel)
set_option maxRecDepth 20000 in
theorem g_LC_add_8 : GoodIn w_LC_add (wsS "Leastcode" 92 ⟨"Leastcode", "kindAt", "(C)I"⟩ w_kindAt) := goodIn_r _ [25, 26, 4, 27, 28, 29, 30, 31, 32, 33, 34, 35, 36, 37, 38, 39, 40, 41, 42, 43, 44, 45, 46, 47, 48, 49, 50, 51, 52, 53, 54, 55, 56, 57, 58, 59] rfl (by decide +kernel)
set_option maxRecDepth 20000 in
theorem g_LC_add_14 : GoodIn w_LC_add (va_wsS "Leastcode" 96 ⟨"Leastcode$Machine", "numberOf", "(III)I"⟩ w_numberOf15) := goodIn_r _ [60, 61, 62, 63] rfl (by decide +kernel)
set_option maxRecDepth 20000 in
theorem g_LC_add_37 : GoodIn w_LC_add (wsV "Leastcode" 107 "Leastcode$Code" ⟨"Leastcode$Code", "length", "()I"⟩ w_Code_length) := goodIn_r _ [64, 65, 66, 67, 68, 69, 70, 71] rfl (by decide +kernel)
set_option maxRecDepth 20000 in
theorem g_LC_add_59 : GoodIn w_LC_add (wsV "Leastcode" 116 "Leastcode$Code" ⟨"Leastcode$Code", "append", "(I)V"⟩ w_Code_append) := goodIn_r _ [72, 73, 74, 67, 75, 69, 70, 71, 76] rfl (by decide +kernel)
set_option maxRecDepth 20000 in
theorem g_LC_add_64 : GoodIn w_LC_add (wsV "Leastcode" 107 "Leastcode$Code" ⟨"Leastcode$Code", "length", "()I"⟩ w_Code_length) := goodIn_r _ [64, 65, 66, 67, 68, 69, 70, 71] rfl (by decide +kernel)
set_option maxHeartbeats 4000000 in
set_option maxRecDepth 100000 in
theorem c_LC_add (l : Launch) (dC : Nat → ClassId) (dI : Nat → Nat → Nat) (sa : Nat) (va : Nat) (h0 : Nat) (qm : Nat) (qp : Nat) (y1 : Nat) (y2 : Nat) (y3 : Nat) (y4 : Nat) (y5 : Nat) (y6 : Nat) (y7 : Nat) (y8 : Nat) (y9 : Nat) (y10 : Nat) (y11 : Nat) (cB : ClassId) (fp : Nat → Option Nat) (c0 : Nat) (a0 : Nat) (n : Int32) (cC : ClassId) (fa : Nat → Int32) (k : Nat) (hf : fp 0 = some c0) (hk : k < 8) (hnk : n = nI k) (sz : Nat) : Met l y_LC_add w_LC_add rm_LC_add (va_Pc [.ref h0, .int 0, .int 102, .int 0, .int 0] (fun U => U.heap.size = sz ∧ va_P (dC, dI) classes [(h0, .inr (0, [.ref qm, .ref y1, .ref y2, .ref y3, .ref qp, .int 1, .ref y4, .int 0, .ref y5, .int 0, .ref y6, .ref y7, .ref y8, .int 0, .ref y9, .ref y10, .ref y11])), (qp, .inl (cB, 8, .inr (.inr (.inr (.inr (fp)))))), (c0, .inr (2, [.ref a0, .int n])), (a0, .inl (cC, 8, .inl (fa)))] U.heap ∧ va_K (dC, dI) classes [(cB, .object "Leastcode$Code"), (cC, .int)] U ∧ va_D (fun _ => True) [(h0, .inr (0, [.ref qm, .ref y1, .ref y2, .ref y3, .ref qp, .int 1, .ref y4, .int 0, .ref y5, .int 0, .ref y6, .ref y7, .ref y8, .int 0, .ref y9, .ref y10, .ref y11])), (qp, .inl (cB, 8, .inr (.inr (.inr (.inr (fp)))))), (c0, .inr (2, [.ref a0, .int n])), (a0, .inl (cC, 8, .inl (fa)))] ∧ va_O "java/lang/String" sa (va_A [(h0, .inr (0, [.ref qm, .ref y1, .ref y2, .ref y3, .ref qp, .int 1, .ref y4, .int 0, .ref y5, .int 0, .ref y6, .ref y7, .ref y8, .int 0, .ref y9, .ref y10, .ref y11])), (qp, .inl (cB, 8, .inr (.inr (.inr (.inr (fp)))))), (c0, .inr (2, [.ref a0, .int n])), (a0, .inl (cC, 8, .inl (fa)))] sz) U U.heap ∧ va_OF "java/lang/String" "value" "[B" (.ref va) sa (va_A [(h0, .inr (0, [.ref qm, .ref y1, .ref y2, .ref y3, .ref qp, .int 1, .ref y4, .int 0, .ref y5, .int 0, .ref y6, .ref y7, .ref y8, .int 0, .ref y9, .ref y10, .ref y11])), (qp, .inl (cB, 8, .inr (.inr (.inr (.inr (fp)))))), (c0, .inr (2, [.ref a0, .int n])), (a0, .inl (cC, 8, .inl (fa)))] sz) U U.heap ∧ va_OF "java/lang/String" "coder" "B" (.int 0) sa (va_A [(h0, .inr (0, [.ref qm, .ref y1, .ref y2, .ref y3, .ref qp, .int 1, .ref y4, .int 0, .ref y5, .int 0, .ref y6, .ref y7, .ref y8, .int 0, .ref y9, .ref y10, .ref y11])), (qp, .inl (cB, 8, .inr (.inr (.inr (.inr (fp)))))), (c0, .inr (2, [.ref a0, .int n])), (a0, .inl (cC, 8, .inl (fa)))] sz) U U.heap ∧ va_T .byte va 16 kb (va_A [(h0, .inr (0, [.ref qm, .ref y1, .ref y2, .ref y3, .ref qp, .int 1, .ref y4, .int 0, .ref y5, .int 0, .ref y6, .ref y7, .ref y8, .int 0, .ref y9, .ref y10, .ref y11])), (qp, .inl (cB, 8, .inr (.inr (.inr (.inr (fp)))))), (c0, .inr (2, [.ref a0, .int n])), (a0, .inl (cC, 8, .inl (fa)))] sz) U U.heap ∧ va_Z "java/lang/String" "COMPACT_STRINGS" "Z" (.int 1) (va_A [(h0, .inr (0, [.ref qm, .ref y1, .ref y2, .ref y3, .ref qp, .int 1, .ref y4, .int 0, .ref y5, .int 0, .ref y6, .ref y7, .ref y8, .int 0, .ref y9, .ref y10, .ref y11])), (qp, .inl (cB, 8, .inr (.inr (.inr (.inr (fp)))))), (c0, .inr (2, [.ref a0, .int n])), (a0, .inl (cC, 8, .inl (fa)))] sz) U U.heap ∧ va_Zq "jdk/internal/util/Preconditions" "SIOOBE_FORMATTER" "Ljava/util/function/BiFunction;" (va_A [(h0, .inr (0, [.ref qm, .ref y1, .ref y2, .ref y3, .ref qp, .int 1, .ref y4, .int 0, .ref y5, .int 0, .ref y6, .ref y7, .ref y8, .int 0, .ref y9, .ref y10, .ref y11])), (qp, .inl (cB, 8, .inr (.inr (.inr (.inr (fp)))))), (c0, .inr (2, [.ref a0, .int n])), (a0, .inl (cC, 8, .inl (fa)))] sz) U U.heap ∧ vk_R "Leastcode" 305 "masnoxkcidlrtzbf" sa U)) (va_Qi (fun r (_ : Unit) => r = nI (k + 1)) (fun _ t => ∃ n1 : Int32, ∃ f1 : Nat → Int32, va_P (dC, dI) classes [(h0, .inr (0, [.ref qm, .ref y1, .ref y2, .ref y3, .ref qp, .int 1, .ref y4, .int 0, .ref y5, .int 0, .ref y6, .ref y7, .ref y8, .int 0, .ref y9, .ref y10, .ref y11])), (qp, .inl (cB, 8, .inr (.inr (.inr (.inr (fp)))))), (c0, .inr (2, [.ref a0, .int n1])), (a0, .inl (cC, 8, .inl (f1)))] t.heap ∧ va_K (dC, dI) classes [(cB, .object "Leastcode$Code"), (cC, .int)] t ∧ va_D (va_A [(h0, .inr (0, [.ref qm, .ref y1, .ref y2, .ref y3, .ref qp, .int 1, .ref y4, .int 0, .ref y5, .int 0, .ref y6, .ref y7, .ref y8, .int 0, .ref y9, .ref y10, .ref y11])), (qp, .inl (cB, 8, .inr (.inr (.inr (.inr (fp)))))), (c0, .inr (2, [.ref a0, .int n])), (a0, .inl (cC, 8, .inl (fa)))] sz) [(h0, .inr (0, [.ref qm, .ref y1, .ref y2, .ref y3, .ref qp, .int 1, .ref y4, .int 0, .ref y5, .int 0, .ref y6, .ref y7, .ref y8, .int 0, .ref y9, .ref y10, .ref y11])), (qp, .inl (cB, 8, .inr (.inr (.inr (.inr (fp)))))), (c0, .inr (2, [.ref a0, .int n1])), (a0, .inl (cC, 8, .inl (f1)))] ∧ n1 = nI (k + 1)) (va_A [(h0, .inr (0, [.ref qm, .ref y1, .ref y2, .ref y3, .ref qp, .int 1, .ref y4, .int 0, .ref y5, .int 0, .ref y6, .ref y7, .ref y8, .int 0, .ref y9, .ref y10, .ref y11])), (qp, .inl (cB, 8, .inr (.inr (.inr (.inr (fp)))))), (c0, .inr (2, [.ref a0, .int n])), (a0, .inl (cC, 8, .inl (fa)))] sz)) 0 0 (va_A [(h0, .inr (0, [.ref qm, .ref y1, .ref y2, .ref y3, .ref qp, .int 1, .ref y4, .int 0, .ref y5, .int 0, .ref y6, .ref y7, .ref y8, .int 0, .ref y9, .ref y10, .ref y11])), (qp, .inl (cB, 8, .inr (.inr (.inr (.inr (fp)))))), (c0, .inr (2, [.ref a0, .int n])), (a0, .inl (cC, 8, .inl (fa)))] sz) := by
  refine Met.ofW (cc := b_LC_add) (maxL := 7) (ret := (some .int)) (by decide) rfl ?_
  intro p e s m args below meth c s₁ B hml hv
  obtain ⟨rfl, hsz, hP, hK, hD0, hE0, hE1, hE2, hE3, hE4, hE5, hE6⟩ := hv
  have hx := B.exec
  have hb := B.bytes
  have hr := B.returns
  have hts := atoms_spec (ws := w_LC_add) B.pre
  have hown : s.vm.findClass "Leastcode" = some m.cls := findClass_of_methodNamed B.named
  have hlocks := B.notSynchronized
  subst hsz
  have hD := hD0.self (sz := s.heap.size)
  generalize hAe : va_A [(h0, .inr (0, [.ref qm, .ref y1, .ref y2, .ref y3, .ref qp, .int 1, .ref y4, .int 0, .ref y5, .int 0, .ref y6, .ref y7, .ref y8, .int 0, .ref y9, .ref y10, .ref y11])), (qp, .inl (cB, 8, .inr (.inr (.inr (.inr (fp)))))), (c0, .inr (2, [.ref a0, .int n])), (a0, .inl (cC, 8, .inl (fa)))] s.heap.size = A at hD hE0 hE1 hE2 hE3 hE4 hE5 hE6 ⊢
  have hA : ∀ q : Nat, s.heap.size ≤ q → A q := fun q h => by rw [← hAe]; exact Or.inr h
  have hS : va_S A s.heap s.heap [] := va_S.rf
  have hP : va_P (dC, dI) classes [(h0, .inr (0, [.ref qm, .ref y1, .ref y2, .ref y3, .ref qp, .int 1, .ref y4, .int 0, .ref y5, .int 0, .ref y6, .ref y7, .ref y8, .int 0, .ref y9, .ref y10, .ref y11])), (qp, .inl (cB, 8, .inr (.inr (.inr (.inr (fp)))))), (c0, .inr (2, [.ref a0, .int n])), (a0, .inl (cC, 8, .inl (fa)))] s.heap := hP
  have hl := lv_entry ([.ref h0, .int 0, .int 102, .int 0, .int 0]) (n := 7) (Nat.le_of_ble_eq_true rfl)
  rw [lg_entry_eq]
  generalize (lg_sl ([.ref h0, .int 0, .int 102, .int 0, .int 0]) ++ List.replicate (7 - (lg_sl ([.ref h0, .int 0, .int 102, .int 0, .int 0])).length) Slot.unset).toArray = ls at hl ⊢
  have hl : lv_has ls 7 [(0, .ref h0), (1, .int 0), (2, .int 102), (3, .int 0), (4, .int 0)] := hl
  refine lv_aload_n hx hb d_LC_add_0 rfl (lv_at hl 0 rfl) ?_
  refine lv_iload_n hx hb d_LC_add_1 rfl (lv_at hl 1 rfl) ?_
  have hPc : va_P (dC, dI) classes [(h0, .inr (0, [.ref qm, .ref y1, .ref y2, .ref y3, .ref qp, .int 1, .ref y4, .int 0, .ref y5, .int 0, .ref y6, .ref y7, .ref y8, .int 0, .ref y9, .ref y10, .ref y11])), (qp, .inl (cB, 8, .inr (.inr (.inr (.inr (fp))))))] _ := hP.sub (ws' := [(h0, .inr (0, [.ref qm, .ref y1, .ref y2, .ref y3, .ref qp, .int 1, .ref y4, .int 0, .ref y5, .int 0, .ref y6, .ref y7, .ref y8, .int 0, .ref y9, .ref y10, .ref y11])), (qp, .inl (cB, 8, .inr (.inr (.inr (.inr (fp))))))]) [0, 1] rfl
  have hKc : va_K (dC, dI) classes [(cB, .object "Leastcode$Code")] s := hK.sub (tys' := [(cB, .object "Leastcode$Code")]) [0] rfl
  refine va_csr (W.runV (As := [.int 0]) (rest := []) ⟨hx, hb, hml, hown, hts⟩ (c_programAt l dC dI h0 qm qp y1 y2 y3 y4 y5 y6 y7 y8 y9 y10 y11 cB fp c0 hf) (cwV 1 hts g_LC_add_2 rfl rfl rfl (by decide +kernel) ⟨Nat.le_of_ble_eq_true rfl, Nat.le_of_ble_eq_true rfl⟩) ⟨fun a U g mk z => by obtain ⟨z0, zP, zK⟩ := z; exact ⟨z0, zP, va_K.moved (u := U) (U := U.calling g mk a) (Vm.Alike.refl U.vm) zK⟩, va_recv hKc hPc (ci := 0) (q0 := 0) rfl rfl, fun U hU hW => ⟨rfl, by rw [hU]; exact hPc, va_K.moved hW.alike hKc⟩⟩ rfl rfl hl.1 rfl (lv_room (Nat.le_of_ble_eq_true rfl)) d_LC_add_2 ⟨(Nat.le_of_ble_eq_true rfl), (Nat.le_of_ble_eq_true rfl)⟩) (fun r1 hr1 => ?_)
  replace hr1 := hr1.symm; subst hr1
  refine lv_astore (lv' := [(5, .ref c0), (0, .ref h0), (1, .int 0), (2, .int 102), (3, .int 0), (4, .int 0)]) hx hb d_LC_add_5 hl (by decide) rfl (fun ls hl => ?_)
  refine lv_iload_n hx hb d_LC_add_7 rfl (lv_at hl 3 rfl) ?_
  refine vp_callSi (W.runS (As := [.int 102]) (rest := []) ⟨hx, hb, hml, hown, hts⟩ (c_kindAt l sa va) (cwS 1 hts g_LC_add_8 rfl rfl rfl (by decide +kernel) ⟨Nat.le_of_ble_eq_true rfl, Nat.le_of_ble_eq_true rfl⟩) ⟨fun a U g mk z => by obtain ⟨z0, zE0, zE1, zE2, zE3, zE4, zE5, zE6⟩ := z; exact ⟨z0, zE0.moved (u := U) (U := U.calling g mk a) (Vm.Alike.refl U.vm), zE1.moved (u := U) (U := U.calling g mk a) (Vm.Alike.refl U.vm), zE2.moved (u := U) (U := U.calling g mk a) (Vm.Alike.refl U.vm), zE3.moved (u := U) (U := U.calling g mk a) (Vm.Alike.refl U.vm), zE4.moved (u := U) (U := U.calling g mk a) (Vm.Alike.refl U.vm), zE5.moved (u := U) (U := U.calling g mk a) (Vm.Alike.refl U.vm), vk_R.same (u := U) (U := U.calling g mk a) rfl zE6⟩, fun U hU hW => ⟨rfl, by (try dsimp only); rw [hU]; exact ((hE0.kept (fun a h1 h2 => hS.2.1 a h1 h2)).narrow (B := fun _ => False) (fun _ h => h.elim)).moved hW.alike, by (try dsimp only); rw [hU]; exact ((hE1.kept (fun a h1 h2 => hS.2.1 a h1 h2)).narrow (B := fun _ => False) (fun _ h => h.elim)).moved hW.alike, by (try dsimp only); rw [hU]; exact ((hE2.kept (fun a h1 h2 => hS.2.1 a h1 h2)).narrow (B := fun _ => False) (fun _ h => h.elim)).moved hW.alike, by (try dsimp only); rw [hU]; exact ((hE3.kept (fun a h1 h2 => hS.2.1 a h1 h2)).narrow (B := fun _ => False) (fun _ h => h.elim)).moved hW.alike, by (try dsimp only); rw [hU]; exact ((hE4.kept (fun a h1 h2 => hS.2.1 a h1 h2)).narrow (B := fun _ => False) (fun _ h => h.elim)).moved hW.alike, by (try dsimp only); rw [hU]; exact ((hE5.kept (fun a h1 h2 => hS.2.1 a h1 h2)).narrow (B := fun _ => False) (fun _ h => h.elim)).moved hW.alike, vk_R.warm hW hE6⟩⟩ rfl rfl hl.1 rfl (lv_room (Nat.le_of_ble_eq_true rfl)) d_LC_add_8 ⟨(Nat.le_of_ble_eq_true rfl), (Nat.le_of_ble_eq_true rfl)⟩) (fun r2 hr2 => ?_)
  replace hr2 := hr2.symm; subst hr2
  refine lv_iload_n hx hb d_LC_add_11 rfl (lv_at hl 4 rfl) ?_
  refine lv_iload hx hb d_LC_add_12 (lv_at hl 5 rfl) ?_
  refine vp_callSi (W.runS (As := [.int 15, .int 0, .int 0]) (rest := []) ⟨hx, hb, hml, hown, hts⟩ (c_numberOf15 l ) (va_cwS 3 hts g_LC_add_14 rfl rfl rfl (by decide +kernel) ⟨Nat.le_of_ble_eq_true rfl, Nat.le_of_ble_eq_true rfl⟩) ⟨fun a U g mk z => z, fun U hU hW => ⟨rfl, trivial⟩⟩ rfl rfl hl.1 rfl (lv_room (Nat.le_of_ble_eq_true rfl)) d_LC_add_14 ⟨(Nat.le_of_ble_eq_true rfl), (Nat.le_of_ble_eq_true rfl)⟩) (fun r3 hr3 => ?_)
  replace hr3 := hr3.symm; subst hr3
  refine lv_istore (lv' := [(6, .int 46), (5, .ref c0), (0, .ref h0), (1, .int 0), (2, .int 102), (3, .int 0), (4, .int 0)]) hx hb d_LC_add_17 hl (by decide) rfl (fun ls hl => ?_)
  refine lv_iload hx hb d_LC_add_19 (lv_at hl 0 rfl) ?_
  refine lv_iconst (v := (-1)) hx hb d_LC_add_21 (by decide) ?_
  refine lv_icmp_ne (tgt := 35) hx hb d_LC_add_22 (by decide) (fun c_22 => ?_) (fun c_22 => ?_)
  · skip
    refine lv_aload hx hb d_LC_add_35 (lv_at hl 1 rfl) ?_
    have hPc : va_P (dC, dI) classes [(c0, .inr (2, [.ref a0, .int n]))] _ := hP.sub (ws' := [(c0, .inr (2, [.ref a0, .int n]))]) [2] rfl
    have hKc : va_K (dC, dI) classes [] s := hK.sub (tys' := []) [] rfl
    refine vp_callSi (W.runV (As := []) (rest := []) ⟨hx, hb, hml, hown, hts⟩ (c_Code_length l dC dI c0 a0 n) (cwV 0 hts g_LC_add_37 rfl rfl rfl (by decide +kernel) ⟨Nat.le_of_ble_eq_true rfl, Nat.le_of_ble_eq_true rfl⟩) ⟨fun a U g mk z => by obtain ⟨z0, zP, zK⟩ := z; exact ⟨z0, zP, va_K.moved (u := U) (U := U.calling g mk a) (Vm.Alike.refl U.vm) zK⟩, va_recv hKc hPc (ci := 2) (q0 := 0) rfl rfl, fun U hU hW => ⟨rfl, by rw [hU]; exact hPc, va_K.moved hW.alike hKc⟩⟩ rfl rfl hl.1 rfl (lv_room (Nat.le_of_ble_eq_true rfl)) d_LC_add_37 ⟨(Nat.le_of_ble_eq_true rfl), (Nat.le_of_ble_eq_true rfl)⟩) (fun r4 hr4 => ?_)
    replace hr4 := hr4.symm; subst hr4
    refine lv_bipush (v := 8) hx hb d_LC_add_40 (by decide) ?_
    refine lv_icmp_lt (tgt := 55) hx hb d_LC_add_42 (by decide) (fun c_42 => ?_) (fun c_42 => ?_)
    · skip
      refine lv_aload hx hb d_LC_add_55 (lv_at hl 1 rfl) ?_
      refine lv_iload hx hb d_LC_add_57 (lv_at hl 0 rfl) ?_
      have hPc : va_P (dC, dI) classes [(c0, .inr (2, [.ref a0, .int n])), (a0, .inl (cC, 8, .inl (fa)))] _ := hP.sub (ws' := [(c0, .inr (2, [.ref a0, .int n])), (a0, .inl (cC, 8, .inl (fa)))]) [2, 3] rfl
      have hKc : va_K (dC, dI) classes [(cC, .int)] s := hK.sub (tys' := [(cC, .int)]) [1] rfl
      have hDc : va_D _ [(c0, .inr (2, [.ref a0, .int n])), (a0, .inl (cC, 8, .inl (fa)))] := hD.sub (ws' := [(c0, .inr (2, [.ref a0, .int n])), (a0, .inl (cC, 8, .inl (fa)))]) [2, 3] (by decide) rfl
      have hFc := va_free (wc := [(c0, .inr (2, [.ref a0, .int n])), (a0, .inl (cC, 8, .inl (fa)))]) hD hS hA [2, 3] rfl
      refine va_callv (va_runV (As := [.int 46]) (rest := []) ⟨hx, hb, hml, hown, hts⟩ (c_Code_append l dC dI c0 a0 n cC fa 46 k hk hnk s.heap.size) (cwV 1 hts g_LC_add_59 rfl rfl rfl (by decide +kernel) ⟨Nat.le_of_ble_eq_true rfl, Nat.le_of_ble_eq_true rfl⟩) ⟨fun a U g mk z => by obtain ⟨z0, z1, zP, zK, zD⟩ := z; exact ⟨z0, z1, zP, va_K.moved (u := U) (U := U.calling g mk a) (Vm.Alike.refl U.vm) zK, zD⟩, va_recv hKc hPc (ci := 2) (q0 := 0) rfl rfl, fun U hU hW => ⟨rfl, by rw [hU], by rw [hU]; exact hPc, va_K.moved hW.alike hKc, hDc.weaken (fun _ _ _ _ => trivial)⟩⟩ rfl rfl hl.1 rfl (lv_room (Nat.le_of_ble_eq_true rfl)) d_LC_add_59 ⟨(Nat.le_of_ble_eq_true rfl), (Nat.le_of_ble_eq_true rfl)⟩) hS (fun q _ h => hFc q h) hFc (fun u t H1 locs ht hvm hr5 hB hz1 hk1 hS => ?_)
      obtain ⟨n6, f7, hP1, hK1, hD1, hpr5_0⟩ := hB
      rw [ht] at hP1
      have hK1 := va_K.moved hvm.symm hK1
      obtain ⟨hP, hD⟩ := va_join (wr := [(h0, .inr (0, [.ref qm, .ref y1, .ref y2, .ref y3, .ref qp, .int 1, .ref y4, .int 0, .ref y5, .int 0, .ref y6, .ref y7, .ref y8, .int 0, .ref y9, .ref y10, .ref y11])), (qp, .inl (cB, 8, .inr (.inr (.inr (.inr (fp))))))]) (w1 := [(c0, .inr (2, [.ref a0, .int n6])), (a0, .inl (cC, 8, .inl (f7)))]) hP hD [2, 3] [0, 1] rfl rfl (by decide) (by decide) hk1 hFc hP1 hD1
      clear hPc hDc hKc hFc hP1 hD1 hK1 hk1
      generalize H1 = H at hP hS ⊢
      have hP : va_P (dC, dI) classes [(h0, .inr (0, [.ref qm, .ref y1, .ref y2, .ref y3, .ref qp, .int 1, .ref y4, .int 0, .ref y5, .int 0, .ref y6, .ref y7, .ref y8, .int 0, .ref y9, .ref y10, .ref y11])), (qp, .inl (cB, 8, .inr (.inr (.inr (.inr (fp)))))), (c0, .inr (2, [.ref a0, .int n6])), (a0, .inl (cC, 8, .inl (f7)))] H := hP
      have hD : va_D A [(h0, .inr (0, [.ref qm, .ref y1, .ref y2, .ref y3, .ref qp, .int 1, .ref y4, .int 0, .ref y5, .int 0, .ref y6, .ref y7, .ref y8, .int 0, .ref y9, .ref y10, .ref y11])), (qp, .inl (cB, 8, .inr (.inr (.inr (.inr (fp)))))), (c0, .inr (2, [.ref a0, .int n6])), (a0, .inl (cC, 8, .inl (f7)))] := hD
      refine W.widen (k := 0) (n := 0) (by omega) (by omega) ?_
      refine lv_aload hx hb d_LC_add_62 (lv_at hl 1 rfl) ?_
      have hPc : va_P (dC, dI) classes [(c0, .inr (2, [.ref a0, .int n6]))] _ := hP.sub (ws' := [(c0, .inr (2, [.ref a0, .int n6]))]) [2] rfl
      have hKc : va_K (dC, dI) classes [] s := hK.sub (tys' := []) [] rfl
      refine vp_callSi (W.runV (As := []) (rest := []) ⟨hx, hb, hml, hown, hts⟩ (c_Code_length l dC dI c0 a0 n6) (cwV 0 hts g_LC_add_64 rfl rfl rfl (by decide +kernel) ⟨Nat.le_of_ble_eq_true rfl, Nat.le_of_ble_eq_true rfl⟩) ⟨fun a U g mk z => by obtain ⟨z0, zP, zK⟩ := z; exact ⟨z0, zP, va_K.moved (u := U) (U := U.calling g mk a) (Vm.Alike.refl U.vm) zK⟩, va_recv hKc hPc (ci := 2) (q0 := 0) rfl rfl, fun U hU hW => ⟨rfl, by rw [hU]; exact hPc, va_K.moved hW.alike hKc⟩⟩ rfl rfl hl.1 rfl (lv_room (Nat.le_of_ble_eq_true rfl)) d_LC_add_64 ⟨(Nat.le_of_ble_eq_true rfl), (Nat.le_of_ble_eq_true rfl)⟩) (fun r8 hr8 => ?_)
      replace hr8 := hr8.symm; subst hr8
      have hP9 : va_P (dC, dI) classes [(h0, .inr (0, [.ref qm, .ref y1, .ref y2, .ref y3, .ref qp, .int 1, .ref y4, .int 0, .ref y5, .int 0, .ref y6, .ref y7, .ref y8, .int 0, .ref y9, .ref y10, .ref y11])), (qp, .inl (cB, 8, .inr (.inr (.inr (.inr (fp)))))), (c0, .inr (2, [.ref a0, .int n6])), (a0, .inl (cC, 8, .inl (f7)))] H := hP.sub (ws' := [(h0, .inr (0, [.ref qm, .ref y1, .ref y2, .ref y3, .ref qp, .int 1, .ref y4, .int 0, .ref y5, .int 0, .ref y6, .ref y7, .ref y8, .int 0, .ref y9, .ref y10, .ref y11])), (qp, .inl (cB, 8, .inr (.inr (.inr (.inr (fp)))))), (c0, .inr (2, [.ref a0, .int n6])), (a0, .inl (cC, 8, .inl (f7)))]) [0, 1, 2, 3] rfl
      have hD9 := hD.sub (ws' := [(h0, .inr (0, [.ref qm, .ref y1, .ref y2, .ref y3, .ref qp, .int 1, .ref y4, .int 0, .ref y5, .int 0, .ref y6, .ref y7, .ref y8, .int 0, .ref y9, .ref y10, .ref y11])), (qp, .inl (cB, 8, .inr (.inr (.inr (.inr (fp)))))), (c0, .inr (2, [.ref a0, .int n6])), (a0, .inl (cC, 8, .inl (f7)))]) [0, 1, 2, 3] (by decide) rfl
      have hK9 := hK.sub (tys' := [(cB, .object "Leastcode$Code"), (cC, .int)]) [0, 1] rfl
      refine W.widen (k := 0) (n := 0) (by omega) (by omega) ?_
      exact W.iret hx hb hr (fun t ht hW => ⟨⟨_, (), rfl, hpr5_0, ⟨n6, ⟨f7, ⟨by rw [ht]; exact hP9, va_K.moved hW.alike hK9, hD9, hpr5_0⟩⟩⟩⟩, hS.F ht⟩) hS.2.2 d_LC_add_67
    · exact absurd (by rw [hnk]; exact (show nI k < nI 8 from nI_lt hk (by omega))) c_42
  · exact absurd c_22 (by decide)

abbrev rm_refuseOutside : Room := { frames := 0, cells := 0, slots := 0, locals := 0 }
abbrev b_refuseOutside : ByteArray := prog_1_method_43_code
def y_refuseOutside : MethodName := ⟨"Leastcode", "refuseOutside", "(III)V"⟩
def w_refuseOutside : List Cond := [.code ⟨"Leastcode", "refuseOutside", "(III)V"⟩ prog_1_method_43_code 3 none]
theorem d_refuseOutside_0 : decode b_refuseOutside 0 = .ok (.iload_n 0, 1) := by decide +kernel
theorem d_refuseOutside_1 : decode b_refuseOutside 1 = .ok (.iload_n 1, 1) := by decide +kernel
theorem d_refuseOutside_2 : decode b_refuseOutside 2 = .ok (.if_icmp .lt 8, 3) := by decide +kernel
theorem d_refuseOutside_5 : decode b_refuseOutside 5 = .ok (.iload_n 0, 1) := by decide +kernel
theorem d_refuseOutside_6 : decode b_refuseOutside 6 = .ok (.iload_n 2, 1) := by decide +kernel
theorem d_refuseOutside_7 : decode b_refuseOutside 7 = .ok (.if_icmp .le 14, 3) := by decide +kernel
theorem d_refuseOutside_21 : decode b_refuseOutside 21 = .ok (.return_, 1) := by decide +kernel
set_option maxHeartbeats 4000000 in
set_option maxRecDepth 100000 in
theorem c_refuseOutside (l : Launch)  : Met l y_refuseOutside w_refuseOutside rm_refuseOutside (va_Pc [.int 0, .int 0, .int 7] (fun U => True)) (va_Sv (fun _ => True)) 0 0 (fun _ => False) := by
  refine Met.ofW (cc := b_refuseOutside) (maxL := 3) (ret := none) (by decide) rfl ?_
  intro p e s m args below meth c s₁ B hml hv
  obtain ⟨rfl, -⟩ := hv
  have hx := B.exec
  have hb := B.bytes
  have hr := B.returns
  have hts := atoms_spec (ws := w_refuseOutside) B.pre
  have hown : s.vm.findClass "Leastcode" = some m.cls := findClass_of_methodNamed B.named
  have hlocks := B.notSynchronized
  have hl := lv_entry ([.int 0, .int 0, .int 7]) (n := 3) (Nat.le_of_ble_eq_true rfl)
  rw [lg_entry_eq]
  generalize (lg_sl ([.int 0, .int 0, .int 7]) ++ List.replicate (3 - (lg_sl ([.int 0, .int 0, .int 7])).length) Slot.unset).toArray = ls at hl ⊢
  have hl : lv_has ls 3 [(0, .int 0), (1, .int 0), (2, .int 7)] := hl
  refine lv_iload_n hx hb d_refuseOutside_0 rfl (lv_at hl 0 rfl) ?_
  refine lv_iload_n hx hb d_refuseOutside_1 rfl (lv_at hl 1 rfl) ?_
  refine lv_icmp_lt (tgt := 10) hx hb d_refuseOutside_2 (by decide) (fun c_2 => ?_) (fun c_2 => ?_)
  · exact absurd c_2 (by decide)
  · skip
    refine lv_iload_n hx hb d_refuseOutside_5 rfl (lv_at hl 0 rfl) ?_
    refine lv_iload_n hx hb d_refuseOutside_6 rfl (lv_at hl 2 rfl) ?_
    refine lv_icmp_le (tgt := 21) hx hb d_refuseOutside_7 (by decide) (fun c_7 => ?_) (fun c_7 => ?_)
    · skip
      exact W.vret hx hb hr (fun t ht hW => ⟨rfl, trivial, ht⟩) (fun _ h => by cases h) d_refuseOutside_21
    · exact absurd (by decide) c_7

abbrev rm_refuseBadParts : Room := { frames := 1, cells := 0, slots := 0, locals := 22 }
abbrev b_refuseBadParts : ByteArray := prog_1_method_45_code
def y_refuseBadParts : MethodName := ⟨"Leastcode", "refuseBadParts", "(I)V"⟩
def w_refuseBadParts : List Cond := [.code ⟨"Leastcode", "refuseBadParts", "(I)V"⟩ prog_1_method_45_code 1 none, .methodLink "Leastcode" 143 ⟨"Leastcode", "refuseOutside", "(III)V"⟩, .static ⟨"Leastcode", "refuseOutside", "(III)V"⟩, .initialized "Leastcode", .code ⟨"Leastcode", "refuseOutside", "(III)V"⟩ prog_1_method_43_code 3 none]
theorem d_refuseBadParts_0 : decode b_refuseBadParts 0 = .ok (.iload_n 0, 1) := by decide +kernel
theorem d_refuseBadParts_1 : decode b_refuseBadParts 1 = .ok (.iconst 0, 1) := by decide +kernel
theorem d_refuseBadParts_2 : decode b_refuseBadParts 2 = .ok (.bipush 7, 2) := by decide +kernel
theorem d_refuseBadParts_4 : decode b_refuseBadParts 4 = .ok (.invokestatic 143, 3) := by decide +kernel
theorem d_refuseBadParts_7 : decode b_refuseBadParts 7 = .ok (.return_, 1) := by decide +kernel
set_option maxRecDepth 20000 in
theorem g_refuseBadParts_4 : GoodIn w_refuseBadParts (wsS "Leastcode" 143 ⟨"Leastcode", "refuseOutside", "(III)V"⟩ w_refuseOutside) := goodIn_r _ [1, 2, 3, 4] rfl (by decide +kernel)
set_option maxHeartbeats 4000000 in
set_option maxRecDepth 100000 in
theorem c_refuseBadParts (l : Launch)  : Met l y_refuseBadParts w_refuseBadParts rm_refuseBadParts (va_Pc [.int 0] (fun U => True)) (va_Sv (fun _ => True)) 0 0 (fun _ => False) := by
  refine Met.ofW (cc := b_refuseBadParts) (maxL := 1) (ret := none) (by decide) rfl ?_
  intro p e s m args below meth c s₁ B hml hv
  obtain ⟨rfl, -⟩ := hv
  have hx := B.exec
  have hb := B.bytes
  have hr := B.returns
  have hts := atoms_spec (ws := w_refuseBadParts) B.pre
  have hown : s.vm.findClass "Leastcode" = some m.cls := findClass_of_methodNamed B.named
  have hlocks := B.notSynchronized
  have hl := lv_entry ([.int 0]) (n := 1) (Nat.le_of_ble_eq_true rfl)
  rw [lg_entry_eq]
  generalize (lg_sl ([.int 0]) ++ List.replicate (1 - (lg_sl ([.int 0])).length) Slot.unset).toArray = ls at hl ⊢
  have hl : lv_has ls 1 [(0, .int 0)] := hl
  refine lv_iload_n hx hb d_refuseBadParts_0 rfl (lv_at hl 0 rfl) ?_
  refine lv_iconst (v := 0) hx hb d_refuseBadParts_1 (by decide) ?_
  refine lv_bipush (v := 7) hx hb d_refuseBadParts_2 (by decide) ?_
  refine va_csv (W.runS (As := [.int 0, .int 0, .int 7]) (rest := []) ⟨hx, hb, hml, hown, hts⟩ (c_refuseOutside l ) (cwS 3 hts g_refuseBadParts_4 rfl rfl rfl (by decide +kernel) ⟨Nat.le_of_ble_eq_true rfl, Nat.le_of_ble_eq_true rfl⟩) ⟨fun a U g mk z => z, fun U hU hW => ⟨rfl, trivial⟩⟩ rfl rfl hl.1 rfl (lv_room (Nat.le_of_ble_eq_true rfl)) d_refuseBadParts_4 ⟨(Nat.le_of_ble_eq_true rfl), (Nat.le_of_ble_eq_true rfl)⟩) (fun hr1 => ?_)
  exact W.vret hx hb hr (fun t ht hW => ⟨rfl, trivial, ht⟩) (fun _ h => by cases h) d_refuseBadParts_7

abbrev rm_step : Room := { frames := 0, cells := 0, slots := 0, locals := 0 }
abbrev b_step : ByteArray := prog_6_method_18_code
def y_step : MethodName := ⟨"Leastcode$Machine", "step", "(II)I"⟩
def w_step : List Cond := [.code ⟨"Leastcode$Machine", "step", "(II)I"⟩ prog_6_method_18_code 4 (some .int), .laysFinal "Leastcode$Machine" "Leastcode$Machine" "next" "[I", .laysFinal "Leastcode$Machine" "Leastcode$Machine" "readParts" "[I", .laysFinal "Leastcode$Machine" "Leastcode$Machine" "writtenParts" "[I", .laysFinal "Leastcode$Machine" "Leastcode$Machine" "mirrors" "[I", .laysFinal "Leastcode$Machine" "Leastcode$Machine" "toRegister0" "[J", .laysFinal "Leastcode$Machine" "Leastcode$Machine" "toRegister1" "[J", .laysFinal "Leastcode$Machine" "Leastcode$Machine" "toFlag" "[J", .fieldLink "Leastcode$Machine" 9 "Leastcode$Machine" "next" "[I"]
theorem d_step_0 : decode b_step 0 = .ok (.iload_n 1, 1) := by decide +kernel
theorem d_step_1 : decode b_step 1 = .ok (.sipush 128, 3) := by decide +kernel
theorem d_step_4 : decode b_step 4 = .ok (.imul, 1) := by decide +kernel
theorem d_step_5 : decode b_step 5 = .ok (.iload_n 2, 1) := by decide +kernel
theorem d_step_6 : decode b_step 6 = .ok (.iadd, 1) := by decide +kernel
theorem d_step_7 : decode b_step 7 = .ok (.istore_n 3, 1) := by decide +kernel
theorem d_step_8 : decode b_step 8 = .ok (.iload_n 3, 1) := by decide +kernel
theorem d_step_9 : decode b_step 9 = .ok (.ifCond .lt 21, 3) := by decide +kernel
theorem d_step_12 : decode b_step 12 = .ok (.iload_n 3, 1) := by decide +kernel
theorem d_step_13 : decode b_step 13 = .ok (.aload_n 0, 1) := by decide +kernel
theorem d_step_14 : decode b_step 14 = .ok (.getfield 9, 3) := by decide +kernel
theorem d_step_17 : decode b_step 17 = .ok (.arraylength, 1) := by decide +kernel
theorem d_step_18 : decode b_step 18 = .ok (.if_icmp .ge 12, 3) := by decide +kernel
theorem d_step_21 : decode b_step 21 = .ok (.aload_n 0, 1) := by decide +kernel
theorem d_step_22 : decode b_step 22 = .ok (.getfield 9, 3) := by decide +kernel
theorem d_step_25 : decode b_step 25 = .ok (.iload_n 3, 1) := by decide +kernel
theorem d_step_26 : decode b_step 26 = .ok (.iaload, 1) := by decide +kernel
theorem d_step_27 : decode b_step 27 = .ok (.goto 4, 3) := by decide +kernel
theorem d_step_30 : decode b_step 30 = .ok (.iload_n 2, 1) := by decide +kernel
theorem d_step_31 : decode b_step 31 = .ok (.ireturn, 1) := by decide +kernel
theorem in_step_MA : ∀ v ∈ u_ws R_MA T_MA 7, v ∈ w_step := by decide +kernel
set_option maxHeartbeats 4000000 in
set_option maxRecDepth 100000 in
theorem c_step (l : Launch) (dC : Nat → ClassId) (dI : Nat → Nat → Nat) (qm : Nat) (qn : Nat) (qa : Nat) (qb : Nat) (qc : Nat) (qd : Nat) (qe : Nat) (qf : Nat) (cA : ClassId) (f : Nat → Int32) (u : Int32) (v : Int32) : Met l y_step w_step rm_step (va_Pc [.ref qm, .int u, .int v] (fun U => va_P (dC, dI) classes [(qm, .inr (1, [.ref qn, .ref qa, .ref qb, .ref qc, .ref qd, .ref qe, .ref qf])), (qn, .inl (cA, 6016, .inl (f)))] U.heap ∧ va_K (dC, dI) classes [(cA, .int)] U)) (vp_Si (fun r => True)) 0 0 (fun _ => False) := by
  refine Met.ofW (cc := b_step) (maxL := 4) (ret := (some .int)) (by decide) rfl ?_
  intro p e s m args below meth c s₁ B hml hv
  obtain ⟨rfl, hP, hK⟩ := hv
  have hx := B.exec
  have hb := B.bytes
  have hr := B.returns
  have hts := atoms_spec (ws := w_step) B.pre
  have hown : s.vm.findClass "Leastcode$Machine" = some m.cls := findClass_of_methodNamed B.named
  have hlocks := B.notSynchronized
  have hP : va_P (dC, dI) classes [(qm, .inr (1, [.ref qn, .ref qa, .ref qb, .ref qc, .ref qd, .ref qe, .ref qf])), (qn, .inl (cA, 6016, .inl (f)))] s.heap := hP
  have hl := lv_entry ([.ref qm, .int u, .int v]) (n := 4) (Nat.le_of_ble_eq_true rfl)
  rw [lg_entry_eq]
  generalize (lg_sl ([.ref qm, .int u, .int v]) ++ List.replicate (4 - (lg_sl ([.ref qm, .int u, .int v])).length) Slot.unset).toArray = ls at hl ⊢
  have hl : lv_has ls 4 [(0, .ref qm), (1, .int u), (2, .int v)] := hl
  refine lv_iload_n hx hb d_step_0 rfl (lv_at hl 1 rfl) ?_
  refine lv_sipush (v := 128) hx hb d_step_1 (by decide) ?_
  refine lv_imul hx hb d_step_4 ?_
  refine lv_topi (fun x1 ex1 => ?_)
  refine lv_iload_n hx hb d_step_5 rfl (lv_at hl 2 rfl) ?_
  refine lv_iadd hx hb d_step_6 ?_
  refine lv_topi (fun x2 ex2 => ?_)
  refine lv_istore_n (lv' := [(3, .int x2), (0, .ref qm), (1, .int u), (2, .int v)]) hx hb d_step_7 rfl hl (by decide) rfl (fun ls hl => ?_)
  refine lv_iload_n hx hb d_step_8 rfl (lv_at hl 0 rfl) ?_
  refine lv_if_lt (tgt := 30) hx hb d_step_9 (by decide) (fun c_9 => ?_) (fun c_9 => ?_)
  · skip
    refine lv_iload_n hx hb d_step_30 rfl (lv_at hl 3 rfl) ?_
    exact W.iret hx hb hr (fun t ht hW => ⟨_, rfl, trivial, ht⟩) (fun _ h => by cases h) d_step_31
  · skip
    refine lv_iload_n hx hb d_step_12 rfl (lv_at hl 0 rfl) ?_
    refine lv_aload_n hx hb d_step_13 rfl (lv_at hl 1 rfl) ?_
    refine va_get (D := (dC, dI)) (ci := 1) (v := .ref qn) (C := R_MA) (T := T_MA) (N := 7) hx hb hts in_step_MA hown hK hP 0 rfl rfl 0 (by decide) (hts (.fieldLink "Leastcode$Machine" 9 "Leastcode$Machine" "next" "[I") (List.mem_of_getElem? (i := 8) rfl)) (fun _ h9 => h9) rfl d_step_14 ?_
    refine va_alen (v := 6016) hx hb hK hP 1 0 rfl rfl (show Int32.ofNat 6016 = 6016 by decide) d_step_17 ?_
    refine lv_icmp_ge (tgt := 30) hx hb d_step_18 (by decide) (fun c_18 => ?_) (fun c_18 => ?_)
    · skip
      refine lv_iload_n hx hb d_step_30 rfl (lv_at hl 3 rfl) ?_
      exact W.iret hx hb hr (fun t ht hW => ⟨_, rfl, trivial, ht⟩) (fun _ h => by cases h) d_step_31
    · skip
      obtain ⟨k9, hk9, hx9⟩ := nI_within (n := 6016) (by omega) c_9 c_18
      have hb9 : vp_in x2 6016 := by rw [hx9]; exact vp_in_nI hk9 (by omega)
      refine lv_aload_n hx hb d_step_21 rfl (lv_at hl 1 rfl) ?_
      refine va_get (D := (dC, dI)) (ci := 1) (v := .ref qn) (C := R_MA) (T := T_MA) (N := 7) hx hb hts in_step_MA hown hK hP 0 rfl rfl 0 (by decide) (hts (.fieldLink "Leastcode$Machine" 9 "Leastcode$Machine" "next" "[I") (List.mem_of_getElem? (i := 8) rfl)) (fun _ h9 => h9) rfl d_step_22 ?_
      refine lv_iload_n hx hb d_step_25 rfl (lv_at hl 0 rfl) ?_
      refine va_iald hx hb hK hP 1 0 rfl rfl hb9 d_step_26 ?_
      refine lv_topi (fun x3 ex3 => ?_)
      refine lv_goto (tgt := 31) hx hb d_step_27 (by decide) ?_
      exact W.iret hx hb hr (fun t ht hW => ⟨_, rfl, trivial, ht⟩) (fun _ h => by cases h) d_step_31

abbrev rm_Code_get : Room := { frames := 0, cells := 0, slots := 0, locals := 0 }
abbrev b_Code_get : ByteArray := prog_2_method_3_code
def y_Code_get : MethodName := ⟨"Leastcode$Code", "get", "(I)I"⟩
def w_Code_get : List Cond := [.code ⟨"Leastcode$Code", "get", "(I)I"⟩ prog_2_method_3_code 2 (some .int), .laysFinal "Leastcode$Code" "Leastcode$Code" "numbers" "[I", .lays "Leastcode$Code" "Leastcode$Code" "length" "I", .fieldLink "Leastcode$Code" 9 "Leastcode$Code" "numbers" "[I"]
theorem d_Code_get_0 : decode b_Code_get 0 = .ok (.iload_n 1, 1) := by decide +kernel
theorem d_Code_get_1 : decode b_Code_get 1 = .ok (.ifCond .lt 18, 3) := by decide +kernel
theorem d_Code_get_4 : decode b_Code_get 4 = .ok (.iload_n 1, 1) := by decide +kernel
theorem d_Code_get_5 : decode b_Code_get 5 = .ok (.bipush 8, 2) := by decide +kernel
theorem d_Code_get_7 : decode b_Code_get 7 = .ok (.if_icmp .ge 12, 3) := by decide +kernel
theorem d_Code_get_10 : decode b_Code_get 10 = .ok (.aload_n 0, 1) := by decide +kernel
theorem d_Code_get_11 : decode b_Code_get 11 = .ok (.getfield 9, 3) := by decide +kernel
theorem d_Code_get_14 : decode b_Code_get 14 = .ok (.iload_n 1, 1) := by decide +kernel
theorem d_Code_get_15 : decode b_Code_get 15 = .ok (.iaload, 1) := by decide +kernel
theorem d_Code_get_16 : decode b_Code_get 16 = .ok (.goto 4, 3) := by decide +kernel
theorem d_Code_get_19 : decode b_Code_get 19 = .ok (.iconst 0, 1) := by decide +kernel
theorem d_Code_get_20 : decode b_Code_get 20 = .ok (.ireturn, 1) := by decide +kernel
theorem in_Code_get_CO : ∀ v ∈ u_ws R_CO T_CO 2, v ∈ w_Code_get := by decide +kernel
set_option maxHeartbeats 4000000 in
set_option maxRecDepth 100000 in
theorem c_Code_get (l : Launch) (dC : Nat → ClassId) (dI : Nat → Nat → Nat) (c0 : Nat) (a0 : Nat) (n : Int32) (cC : ClassId) (fa : Nat → Int32) (i : Int32) : Met l y_Code_get w_Code_get rm_Code_get (va_Pc [.ref c0, .int i] (fun U => va_P (dC, dI) classes [(c0, .inr (2, [.ref a0, .int n])), (a0, .inl (cC, 8, .inl (fa)))] U.heap ∧ va_K (dC, dI) classes [(cC, .int)] U)) (vp_Si (fun r => True)) 0 0 (fun _ => False) := by
  refine Met.ofW (cc := b_Code_get) (maxL := 2) (ret := (some .int)) (by decide) rfl ?_
  intro p e s m args below meth c s₁ B hml hv
  obtain ⟨rfl, hP, hK⟩ := hv
  have hx := B.exec
  have hb := B.bytes
  have hr := B.returns
  have hts := atoms_spec (ws := w_Code_get) B.pre
  have hown : s.vm.findClass "Leastcode$Code" = some m.cls := findClass_of_methodNamed B.named
  have hlocks := B.notSynchronized
  have hP : va_P (dC, dI) classes [(c0, .inr (2, [.ref a0, .int n])), (a0, .inl (cC, 8, .inl (fa)))] s.heap := hP
  have hl := lv_entry ([.ref c0, .int i]) (n := 2) (Nat.le_of_ble_eq_true rfl)
  rw [lg_entry_eq]
  generalize (lg_sl ([.ref c0, .int i]) ++ List.replicate (2 - (lg_sl ([.ref c0, .int i])).length) Slot.unset).toArray = ls at hl ⊢
  have hl : lv_has ls 2 [(0, .ref c0), (1, .int i)] := hl
  refine lv_iload_n hx hb d_Code_get_0 rfl (lv_at hl 1 rfl) ?_
  refine lv_if_lt (tgt := 19) hx hb d_Code_get_1 (by decide) (fun c_1 => ?_) (fun c_1 => ?_)
  · skip
    refine lv_iconst (v := 0) hx hb d_Code_get_19 (by decide) ?_
    exact W.iret hx hb hr (fun t ht hW => ⟨_, rfl, trivial, ht⟩) (fun _ h => by cases h) d_Code_get_20
  · skip
    refine lv_iload_n hx hb d_Code_get_4 rfl (lv_at hl 1 rfl) ?_
    refine lv_bipush (v := 8) hx hb d_Code_get_5 (by decide) ?_
    refine lv_icmp_ge (tgt := 19) hx hb d_Code_get_7 (by decide) (fun c_7 => ?_) (fun c_7 => ?_)
    · skip
      refine lv_iconst (v := 0) hx hb d_Code_get_19 (by decide) ?_
      exact W.iret hx hb hr (fun t ht hW => ⟨_, rfl, trivial, ht⟩) (fun _ h => by cases h) d_Code_get_20
    · skip
      obtain ⟨k9, hk9, hx9⟩ := nI_within (n := 8) (by omega) c_1 c_7
      have hb9 : vp_in i 8 := by rw [hx9]; exact vp_in_nI hk9 (by omega)
      refine lv_aload_n hx hb d_Code_get_10 rfl (lv_at hl 0 rfl) ?_
      refine va_get (D := (dC, dI)) (ci := 2) (v := .ref a0) (C := R_CO) (T := T_CO) (N := 2) hx hb hts in_Code_get_CO hown hK hP 0 rfl rfl 0 (by decide) (hts (.fieldLink "Leastcode$Code" 9 "Leastcode$Code" "numbers" "[I") (List.mem_of_getElem? (i := 3) rfl)) (fun _ h9 => h9) rfl d_Code_get_11 ?_
      refine lv_iload_n hx hb d_Code_get_14 rfl (lv_at hl 1 rfl) ?_
      refine va_iald hx hb hK hP 1 0 rfl rfl hb9 d_Code_get_15 ?_
      refine lv_topi (fun x1 ex1 => ?_)
      refine lv_goto (tgt := 20) hx hb d_Code_get_16 (by decide) ?_
      exact W.iret hx hb hr (fun t ht hW => ⟨_, rfl, trivial, ht⟩) (fun _ h => by cases h) d_Code_get_20

abbrev rm_through : Room := { frames := 1, cells := 0, slots := 0, locals := 23 }
abbrev b_through : ByteArray := prog_6_method_19_code
def y_through : MethodName := ⟨"Leastcode$Machine", "through", "(LLeastcode$Code;I)I"⟩
def w_through : List Cond := [.code ⟨"Leastcode$Machine", "through", "(LLeastcode$Code;I)I"⟩ prog_6_method_19_code 5 (some .int), .methodLink "Leastcode$Machine" 89 ⟨"Leastcode$Code", "length", "()I"⟩, .instanceMethod ⟨"Leastcode$Code", "length", "()I"⟩, .selects "Leastcode$Code" ⟨"Leastcode$Code", "length", "()I"⟩ ⟨"Leastcode$Code", "length", "()I"⟩, .initialized "Leastcode$Code", .code ⟨"Leastcode$Code", "length", "()I"⟩ prog_2_method_2_code 1 (some .int), .laysFinal "Leastcode$Code" "Leastcode$Code" "numbers" "[I", .lays "Leastcode$Code" "Leastcode$Code" "length" "I", .fieldLink "Leastcode$Code" 15 "Leastcode$Code" "length" "I", .methodLink "Leastcode$Machine" 92 ⟨"Leastcode$Code", "get", "(I)I"⟩, .instanceMethod ⟨"Leastcode$Code", "get", "(I)I"⟩, .selects "Leastcode$Code" ⟨"Leastcode$Code", "get", "(I)I"⟩ ⟨"Leastcode$Code", "get", "(I)I"⟩, .code ⟨"Leastcode$Code", "get", "(I)I"⟩ prog_2_method_3_code 2 (some .int), .fieldLink "Leastcode$Code" 9 "Leastcode$Code" "numbers" "[I", .methodLink "Leastcode$Machine" 95 ⟨"Leastcode$Machine", "step", "(II)I"⟩, .instanceMethod ⟨"Leastcode$Machine", "step", "(II)I"⟩, .selects "Leastcode$Machine" ⟨"Leastcode$Machine", "step", "(II)I"⟩ ⟨"Leastcode$Machine", "step", "(II)I"⟩, .initialized "Leastcode$Machine", .code ⟨"Leastcode$Machine", "step", "(II)I"⟩ prog_6_method_18_code 4 (some .int), .laysFinal "Leastcode$Machine" "Leastcode$Machine" "next" "[I", .laysFinal "Leastcode$Machine" "Leastcode$Machine" "readParts" "[I", .laysFinal "Leastcode$Machine" "Leastcode$Machine" "writtenParts" "[I", .laysFinal "Leastcode$Machine" "Leastcode$Machine" "mirrors" "[I", .laysFinal "Leastcode$Machine" "Leastcode$Machine" "toRegister0" "[J", .laysFinal "Leastcode$Machine" "Leastcode$Machine" "toRegister1" "[J", .laysFinal "Leastcode$Machine" "Leastcode$Machine" "toFlag" "[J", .fieldLink "Leastcode$Machine" 9 "Leastcode$Machine" "next" "[I"]
theorem d_through_0 : decode b_through 0 = .ok (.iload_n 2, 1) := by decide +kernel
theorem d_through_1 : decode b_through 1 = .ok (.istore_n 3, 1) := by decide +kernel
theorem d_through_2 : decode b_through 2 = .ok (.iconst 0, 1) := by decide +kernel
theorem d_through_3 : decode b_through 3 = .ok (.istore 4, 2) := by decide +kernel
theorem d_through_5 : decode b_through 5 = .ok (.iload 4, 2) := by decide +kernel
theorem d_through_7 : decode b_through 7 = .ok (.aload_n 1, 1) := by decide +kernel
theorem d_through_8 : decode b_through 8 = .ok (.invokevirtual 89, 3) := by decide +kernel
theorem d_through_11 : decode b_through 11 = .ok (.if_icmp .ge 21, 3) := by decide +kernel
theorem d_through_14 : decode b_through 14 = .ok (.aload_n 0, 1) := by decide +kernel
theorem d_through_15 : decode b_through 15 = .ok (.aload_n 1, 1) := by decide +kernel
theorem d_through_16 : decode b_through 16 = .ok (.iload 4, 2) := by decide +kernel
theorem d_through_18 : decode b_through 18 = .ok (.invokevirtual 92, 3) := by decide +kernel
theorem d_through_21 : decode b_through 21 = .ok (.iload_n 3, 1) := by decide +kernel
theorem d_through_22 : decode b_through 22 = .ok (.invokevirtual 95, 3) := by decide +kernel
theorem d_through_25 : decode b_through 25 = .ok (.istore_n 3, 1) := by decide +kernel
theorem d_through_26 : decode b_through 26 = .ok (.iinc 4 1, 3) := by decide +kernel
theorem d_through_29 : decode b_through 29 = .ok (.goto (-24), 3) := by decide +kernel
theorem d_through_32 : decode b_through 32 = .ok (.iload_n 3, 1) := by decide +kernel
theorem d_through_33 : decode b_through 33 = .ok (.ireturn, 1) := by decide +kernel
set_option maxRecDepth 20000 in
theorem g_through_8 : GoodIn w_through (wsV "Leastcode$Machine" 89 "Leastcode$Code" ⟨"Leastcode$Code", "length", "()I"⟩ w_Code_length) := goodIn_r _ [1, 2, 3, 4, 5, 6, 7, 8] rfl (by decide +kernel)
set_option maxRecDepth 20000 in
theorem g_through_18 : GoodIn w_through (wsV "Leastcode$Machine" 92 "Leastcode$Code" ⟨"Leastcode$Code", "get", "(I)I"⟩ w_Code_get) := goodIn_r _ [9, 10, 11, 4, 12, 6, 7, 13] rfl (by decide +kernel)
set_option maxRecDepth 20000 in
theorem g_through_22 : GoodIn w_through (wsV "Leastcode$Machine" 95 "Leastcode$Machine" ⟨"Leastcode$Machine", "step", "(II)I"⟩ w_step) := goodIn_r _ [14, 15, 16, 17, 18, 19, 20, 21, 22, 23, 24, 25, 26] rfl (by decide +kernel)
set_option maxHeartbeats 4000000 in
set_option maxRecDepth 100000 in
theorem c_through (l : Launch) (dC : Nat → ClassId) (dI : Nat → Nat → Nat) (qm : Nat) (qn : Nat) (qa : Nat) (qb : Nat) (qc : Nat) (qd : Nat) (qe : Nat) (qf : Nat) (cA : ClassId) (f : Nat → Int32) (c0 : Nat) (a0 : Nat) (n : Int32) (cC : ClassId) (fa : Nat → Int32) (kk : Nat) (v : Int32) (hnk : n = nI kk) (hkk : kk ≤ 8) : Met l y_through w_through rm_through (va_Pc [.ref qm, .ref c0, .int v] (fun U => va_P (dC, dI) classes [(qm, .inr (1, [.ref qn, .ref qa, .ref qb, .ref qc, .ref qd, .ref qe, .ref qf])), (qn, .inl (cA, 6016, .inl (f))), (c0, .inr (2, [.ref a0, .int n])), (a0, .inl (cC, 8, .inl (fa)))] U.heap ∧ va_K (dC, dI) classes [(cA, .int), (cC, .int)] U)) (vp_Si (fun r => True)) 0 0 (fun _ => False) := by
  refine Met.ofW (cc := b_through) (maxL := 5) (ret := (some .int)) (by decide) rfl ?_
  intro p e s m args below meth c s₁ B hml hv
  obtain ⟨rfl, hP, hK⟩ := hv
  have hx := B.exec
  have hb := B.bytes
  have hr := B.returns
  have hts := atoms_spec (ws := w_through) B.pre
  have hown : s.vm.findClass "Leastcode$Machine" = some m.cls := findClass_of_methodNamed B.named
  have hlocks := B.notSynchronized
  have hP : va_P (dC, dI) classes [(qm, .inr (1, [.ref qn, .ref qa, .ref qb, .ref qc, .ref qd, .ref qe, .ref qf])), (qn, .inl (cA, 6016, .inl (f))), (c0, .inr (2, [.ref a0, .int n])), (a0, .inl (cC, 8, .inl (fa)))] s.heap := hP
  have hl := lv_entry ([.ref qm, .ref c0, .int v]) (n := 5) (Nat.le_of_ble_eq_true rfl)
  rw [lg_entry_eq]
  generalize (lg_sl ([.ref qm, .ref c0, .int v]) ++ List.replicate (5 - (lg_sl ([.ref qm, .ref c0, .int v])).length) Slot.unset).toArray = ls at hl ⊢
  have hl : lv_has ls 5 [(0, .ref qm), (1, .ref c0), (2, .int v)] := hl
  refine lv_iload_n hx hb d_through_0 rfl (lv_at hl 2 rfl) ?_
  refine lv_istore_n (lv' := [(3, .int v), (0, .ref qm), (1, .ref c0), (2, .int v)]) hx hb d_through_1 rfl hl (by decide) rfl (fun ls hl => ?_)
  refine lv_iconst (v := 0) hx hb d_through_2 (by decide) ?_
  refine lv_istore (lv' := [(4, .int 0), (3, .int v), (0, .ref qm), (1, .ref c0), (2, .int v)]) hx hb d_through_3 hl (by decide) rfl (fun ls hl => ?_)
  refine ry_abs (fun QQ hQ => ?_)
  have loop : ∀ (k i : Nat), i + k = kk → ∀ (z : Int32) (ls : Array Slot) (x : Int32), x = nI i → lv_has ls 5 [(4, .int x), (3, .int z), (0, .ref qm), (1, .ref c0), (2, .int v)] → W p l e (headSpec w_through rm_through).room s m ([.ref qm, .ref c0, .int v] : List Value).toArray below meth c s.heap [] (0) (0) QQ (F0 m 5 ls []) := by
    intro k
    induction k with
    | zero =>
      intro i hi z ls x ex0 hl
      obtain rfl : i = kk := by omega
      refine lv_iload hx hb d_through_5 (lv_at hl 0 rfl) ?_
      refine lv_aload_n hx hb d_through_7 rfl (lv_at hl 3 rfl) ?_
      have hPc : va_P (dC, dI) classes [(c0, .inr (2, [.ref a0, .int n]))] _ := hP.sub (ws' := [(c0, .inr (2, [.ref a0, .int n]))]) [2] rfl
      have hKc : va_K (dC, dI) classes [] s := hK.sub (tys' := []) [] rfl
      refine vp_callSi (W.runV (As := []) (rest := [.int x]) ⟨hx, hb, hml, hown, hts⟩ (c_Code_length l dC dI c0 a0 n) (cwV 0 hts g_through_8 rfl rfl rfl (by decide +kernel) ⟨Nat.le_of_ble_eq_true rfl, Nat.le_of_ble_eq_true rfl⟩) ⟨fun a U g mk z => by obtain ⟨z0, zP, zK⟩ := z; exact ⟨z0, zP, va_K.moved (u := U) (U := U.calling g mk a) (Vm.Alike.refl U.vm) zK⟩, va_recv hKc hPc (ci := 2) (q0 := 0) rfl rfl, fun U hU hW => ⟨rfl, by rw [hU]; exact hPc, va_K.moved hW.alike hKc⟩⟩ rfl rfl hl.1 rfl (lv_room (Nat.le_of_ble_eq_true rfl)) d_through_8 ⟨(Nat.le_of_ble_eq_true rfl), (Nat.le_of_ble_eq_true rfl)⟩) (fun r1 hr1 => ?_)
      replace hr1 := hr1.symm; subst hr1
      refine lv_icmp_ge (tgt := 32) hx hb d_through_11 (by decide) (fun c_11 => ?_) (fun c_11 => ?_)
      · skip
        refine lv_iload_n hx hb d_through_32 rfl (lv_at hl 1 rfl) ?_
        subst hQ
        exact W.iret hx hb hr (fun t ht hW => ⟨_, rfl, trivial, ht⟩) (fun _ h => by cases h) d_through_33
      · exact absurd (by rw [hnk, ex0]; exact nI_le (Nat.le_refl _) (by omega)) c_11
    | succ k ih =>
      intro i hi z ls x ex0 hl
      have hlt : i < kk := by omega
      refine lv_iload hx hb d_through_5 (lv_at hl 0 rfl) ?_
      refine lv_aload_n hx hb d_through_7 rfl (lv_at hl 3 rfl) ?_
      have hPc : va_P (dC, dI) classes [(c0, .inr (2, [.ref a0, .int n]))] _ := hP.sub (ws' := [(c0, .inr (2, [.ref a0, .int n]))]) [2] rfl
      have hKc : va_K (dC, dI) classes [] s := hK.sub (tys' := []) [] rfl
      refine vp_callSi (W.runV (As := []) (rest := [.int x]) ⟨hx, hb, hml, hown, hts⟩ (c_Code_length l dC dI c0 a0 n) (cwV 0 hts g_through_8 rfl rfl rfl (by decide +kernel) ⟨Nat.le_of_ble_eq_true rfl, Nat.le_of_ble_eq_true rfl⟩) ⟨fun a U g mk z => by obtain ⟨z0, zP, zK⟩ := z; exact ⟨z0, zP, va_K.moved (u := U) (U := U.calling g mk a) (Vm.Alike.refl U.vm) zK⟩, va_recv hKc hPc (ci := 2) (q0 := 0) rfl rfl, fun U hU hW => ⟨rfl, by rw [hU]; exact hPc, va_K.moved hW.alike hKc⟩⟩ rfl rfl hl.1 rfl (lv_room (Nat.le_of_ble_eq_true rfl)) d_through_8 ⟨(Nat.le_of_ble_eq_true rfl), (Nat.le_of_ble_eq_true rfl)⟩) (fun r2 hr2 => ?_)
      replace hr2 := hr2.symm; subst hr2
      refine lv_icmp_ge (tgt := 32) hx hb d_through_11 (by decide) (fun c_11 => ?_) (fun c_11 => ?_)
      · exact absurd c_11 (by rw [hnk, ex0]; exact nI_ge hlt (by omega))
      · skip
        refine lv_aload_n hx hb d_through_14 rfl (lv_at hl 2 rfl) ?_
        refine lv_aload_n hx hb d_through_15 rfl (lv_at hl 3 rfl) ?_
        refine lv_iload hx hb d_through_16 (lv_at hl 0 rfl) ?_
        have hPc : va_P (dC, dI) classes [(c0, .inr (2, [.ref a0, .int n])), (a0, .inl (cC, 8, .inl (fa)))] _ := hP.sub (ws' := [(c0, .inr (2, [.ref a0, .int n])), (a0, .inl (cC, 8, .inl (fa)))]) [2, 3] rfl
        have hKc : va_K (dC, dI) classes [(cC, .int)] s := hK.sub (tys' := [(cC, .int)]) [1] rfl
        refine vp_callSi (W.runV (As := [.int x]) (rest := [.ref qm]) ⟨hx, hb, hml, hown, hts⟩ (c_Code_get l dC dI c0 a0 n cC fa x) (cwV 1 hts g_through_18 rfl rfl rfl (by decide +kernel) ⟨Nat.le_of_ble_eq_true rfl, Nat.le_of_ble_eq_true rfl⟩) ⟨fun a U g mk z => by obtain ⟨z0, zP, zK⟩ := z; exact ⟨z0, zP, va_K.moved (u := U) (U := U.calling g mk a) (Vm.Alike.refl U.vm) zK⟩, va_recv hKc hPc (ci := 2) (q0 := 0) rfl rfl, fun U hU hW => ⟨rfl, by rw [hU]; exact hPc, va_K.moved hW.alike hKc⟩⟩ rfl rfl hl.1 rfl (lv_room (Nat.le_of_ble_eq_true rfl)) d_through_18 ⟨(Nat.le_of_ble_eq_true rfl), (Nat.le_of_ble_eq_true rfl)⟩) (fun r3 hr3 => ?_)
        refine lv_iload_n hx hb d_through_21 rfl (lv_at hl 1 rfl) ?_
        have hPc : va_P (dC, dI) classes [(qm, .inr (1, [.ref qn, .ref qa, .ref qb, .ref qc, .ref qd, .ref qe, .ref qf])), (qn, .inl (cA, 6016, .inl (f)))] _ := hP.sub (ws' := [(qm, .inr (1, [.ref qn, .ref qa, .ref qb, .ref qc, .ref qd, .ref qe, .ref qf])), (qn, .inl (cA, 6016, .inl (f)))]) [0, 1] rfl
        have hKc : va_K (dC, dI) classes [(cA, .int)] s := hK.sub (tys' := [(cA, .int)]) [0] rfl
        refine vp_callSi (W.runV (As := [.int r3, .int z]) (rest := []) ⟨hx, hb, hml, hown, hts⟩ (c_step l dC dI qm qn qa qb qc qd qe qf cA f r3 z) (cwV 2 hts g_through_22 rfl rfl rfl (by decide +kernel) ⟨Nat.le_of_ble_eq_true rfl, Nat.le_of_ble_eq_true rfl⟩) ⟨fun a U g mk z => by obtain ⟨z0, zP, zK⟩ := z; exact ⟨z0, zP, va_K.moved (u := U) (U := U.calling g mk a) (Vm.Alike.refl U.vm) zK⟩, va_recv hKc hPc (ci := 1) (q0 := 0) rfl rfl, fun U hU hW => ⟨rfl, by rw [hU]; exact hPc, va_K.moved hW.alike hKc⟩⟩ rfl rfl hl.1 rfl (lv_room (Nat.le_of_ble_eq_true rfl)) d_through_22 ⟨(Nat.le_of_ble_eq_true rfl), (Nat.le_of_ble_eq_true rfl)⟩) (fun r4 hr4 => ?_)
        refine lv_istore_n (lv' := [(3, .int r4), (4, .int x), (0, .ref qm), (1, .ref c0), (2, .int v)]) hx hb d_through_25 rfl hl (by decide) rfl (fun ls hl => ?_)
        obtain ⟨x5, ex5⟩ : ∃ y_ : Int32, y_ = x + 1 := ⟨_, rfl⟩
        refine lv_iinc (v := x5) (lv' := [(4, .int x5), (3, .int r4), (0, .ref qm), (1, .ref c0), (2, .int v)]) hx hb d_through_26 hl (k := 1) rfl (by rw [ex5]; rfl) (by decide) rfl (fun ls hl => ?_)
        refine lv_goto (tgt := 5) hx hb d_through_29 (by decide) ?_
        exact ih (i + 1) (by omega) r4 _ x5 (by rw [ex5, ex0]; exact nI_1 i) (lv_sub hl [0, 1, 2, 3, 4] rfl)
  exact loop kk 0 (by omega) _ _ _ nI_0.symm (lv_sub hl [0, 1, 2, 3, 4] rfl)

abbrev rm_bitsOf0 : Room := { frames := 0, cells := 0, slots := 0, locals := 0 }
abbrev b_bitsOf0 : ByteArray := prog_6_method_13_code
def y_bitsOf0 : MethodName := ⟨"Leastcode$Machine", "bitsOf", "(I)I"⟩
def w_bitsOf0 : List Cond := [.code ⟨"Leastcode$Machine", "bitsOf", "(I)I"⟩ prog_6_method_13_code 1 (some .int)]
theorem d_bitsOf0_0 : decode b_bitsOf0 0 = .ok (.iload_n 0, 1) := by decide +kernel
theorem d_bitsOf0_1 : decode b_bitsOf0 1 = .ok (.iconst 1, 1) := by decide +kernel
theorem d_bitsOf0_2 : decode b_bitsOf0 2 = .ok (.iand, 1) := by decide +kernel
theorem d_bitsOf0_3 : decode b_bitsOf0 3 = .ok (.ifCond .eq 8, 3) := by decide +kernel
theorem d_bitsOf0_11 : decode b_bitsOf0 11 = .ok (.iconst 0, 1) := by decide +kernel
theorem d_bitsOf0_12 : decode b_bitsOf0 12 = .ok (.iload_n 0, 1) := by decide +kernel
theorem d_bitsOf0_13 : decode b_bitsOf0 13 = .ok (.iconst 2, 1) := by decide +kernel
theorem d_bitsOf0_14 : decode b_bitsOf0 14 = .ok (.iand, 1) := by decide +kernel
theorem d_bitsOf0_15 : decode b_bitsOf0 15 = .ok (.ifCond .eq 8, 3) := by decide +kernel
theorem d_bitsOf0_23 : decode b_bitsOf0 23 = .ok (.iconst 0, 1) := by decide +kernel
theorem d_bitsOf0_24 : decode b_bitsOf0 24 = .ok (.ior, 1) := by decide +kernel
theorem d_bitsOf0_25 : decode b_bitsOf0 25 = .ok (.iload_n 0, 1) := by decide +kernel
theorem d_bitsOf0_26 : decode b_bitsOf0 26 = .ok (.iconst 4, 1) := by decide +kernel
theorem d_bitsOf0_27 : decode b_bitsOf0 27 = .ok (.iand, 1) := by decide +kernel
theorem d_bitsOf0_28 : decode b_bitsOf0 28 = .ok (.ifCond .eq 7, 3) := by decide +kernel
theorem d_bitsOf0_35 : decode b_bitsOf0 35 = .ok (.iconst 0, 1) := by decide +kernel
theorem d_bitsOf0_36 : decode b_bitsOf0 36 = .ok (.ior, 1) := by decide +kernel
theorem d_bitsOf0_37 : decode b_bitsOf0 37 = .ok (.ireturn, 1) := by decide +kernel
set_option maxHeartbeats 4000000 in
set_option maxRecDepth 100000 in
theorem c_bitsOf0 (l : Launch)  : Met l y_bitsOf0 w_bitsOf0 rm_bitsOf0 (va_Pc [.int 0] (fun U => True)) (vp_Si (fun r => r = 0)) 0 0 (fun _ => False) := by
  refine Met.ofW (cc := b_bitsOf0) (maxL := 1) (ret := (some .int)) (by decide) rfl ?_
  intro p e s m args below meth c s₁ B hml hv
  obtain ⟨rfl, -⟩ := hv
  have hx := B.exec
  have hb := B.bytes
  have hr := B.returns
  have hts := atoms_spec (ws := w_bitsOf0) B.pre
  have hown : s.vm.findClass "Leastcode$Machine" = some m.cls := findClass_of_methodNamed B.named
  have hlocks := B.notSynchronized
  have hl := lv_entry ([.int 0]) (n := 1) (Nat.le_of_ble_eq_true rfl)
  rw [lg_entry_eq]
  generalize (lg_sl ([.int 0]) ++ List.replicate (1 - (lg_sl ([.int 0])).length) Slot.unset).toArray = ls at hl ⊢
  have hl : lv_has ls 1 [(0, .int 0)] := hl
  refine lv_iload_n hx hb d_bitsOf0_0 rfl (lv_at hl 0 rfl) ?_
  refine lv_iconst (v := 1) hx hb d_bitsOf0_1 (by decide) ?_
  refine lv_iand hx hb d_bitsOf0_2 ?_
  refine lv_topi (fun x1 ex1 => ?_)
  refine lv_if_eq (tgt := 11) hx hb d_bitsOf0_3 (by decide) (fun c_3 => ?_) (fun c_3 => ?_)
  · skip
    refine lv_iconst (v := 0) hx hb d_bitsOf0_11 (by decide) ?_
    refine lv_iload_n hx hb d_bitsOf0_12 rfl (lv_at hl 0 rfl) ?_
    refine lv_iconst (v := 2) hx hb d_bitsOf0_13 (by decide) ?_
    refine lv_iand hx hb d_bitsOf0_14 ?_
    refine lv_topi (fun x2 ex2 => ?_)
    refine lv_if_eq (tgt := 23) hx hb d_bitsOf0_15 (by decide) (fun c_15 => ?_) (fun c_15 => ?_)
    · skip
      refine lv_iconst (v := 0) hx hb d_bitsOf0_23 (by decide) ?_
      refine lv_ior hx hb d_bitsOf0_24 ?_
      refine lv_topi (fun x3 ex3 => ?_)
      refine lv_iload_n hx hb d_bitsOf0_25 rfl (lv_at hl 0 rfl) ?_
      refine lv_iconst (v := 4) hx hb d_bitsOf0_26 (by decide) ?_
      refine lv_iand hx hb d_bitsOf0_27 ?_
      refine lv_topi (fun x4 ex4 => ?_)
      refine lv_if_eq (tgt := 35) hx hb d_bitsOf0_28 (by decide) (fun c_28 => ?_) (fun c_28 => ?_)
      · skip
        refine lv_iconst (v := 0) hx hb d_bitsOf0_35 (by decide) ?_
        refine lv_ior hx hb d_bitsOf0_36 ?_
        refine lv_topi (fun x5 ex5 => ?_)
        exact W.iret hx hb hr (fun t ht hW => ⟨_, rfl, (by rw [ex5, ex3]; decide), ht⟩) (fun _ h => by cases h) d_bitsOf0_37
      · exact absurd (by rw [ex4]; decide) c_28
    · exact absurd (by rw [ex2]; decide) c_15
  · exact absurd (by rw [ex1]; decide) c_3

abbrev rm_areAlike : Room := { frames := 2, cells := 0, slots := 0, locals := 47 }
abbrev b_areAlike : ByteArray := prog_6_method_26_code
def y_areAlike : MethodName := ⟨"Leastcode$Machine", "areAlike", "(LLeastcode$Code;LLeastcode$Code;I)Z"⟩
def w_areAlike : List Cond := [.code ⟨"Leastcode$Machine", "areAlike", "(LLeastcode$Code;LLeastcode$Code;I)Z"⟩ prog_6_method_26_code 6 (some .boolean), .methodLink "Leastcode$Machine" 114 ⟨"Leastcode$Machine", "bitsOf", "(I)I"⟩, .static ⟨"Leastcode$Machine", "bitsOf", "(I)I"⟩, .initialized "Leastcode$Machine", .code ⟨"Leastcode$Machine", "bitsOf", "(I)I"⟩ prog_6_method_13_code 1 (some .int), .methodLink "Leastcode$Machine" 117 ⟨"Leastcode$Machine", "through", "(LLeastcode$Code;I)I"⟩, .instanceMethod ⟨"Leastcode$Machine", "through", "(LLeastcode$Code;I)I"⟩, .selects "Leastcode$Machine" ⟨"Leastcode$Machine", "through", "(LLeastcode$Code;I)I"⟩ ⟨"Leastcode$Machine", "through", "(LLeastcode$Code;I)I"⟩, .code ⟨"Leastcode$Machine", "through", "(LLeastcode$Code;I)I"⟩ prog_6_method_19_code 5 (some .int), .methodLink "Leastcode$Machine" 89 ⟨"Leastcode$Code", "length", "()I"⟩, .instanceMethod ⟨"Leastcode$Code", "length", "()I"⟩, .selects "Leastcode$Code" ⟨"Leastcode$Code", "length", "()I"⟩ ⟨"Leastcode$Code", "length", "()I"⟩, .initialized "Leastcode$Code", .code ⟨"Leastcode$Code", "length", "()I"⟩ prog_2_method_2_code 1 (some .int), .laysFinal "Leastcode$Code" "Leastcode$Code" "numbers" "[I", .lays "Leastcode$Code" "Leastcode$Code" "length" "I", .fieldLink "Leastcode$Code" 15 "Leastcode$Code" "length" "I", .methodLink "Leastcode$Machine" 92 ⟨"Leastcode$Code", "get", "(I)I"⟩, .instanceMethod ⟨"Leastcode$Code", "get", "(I)I"⟩, .selects "Leastcode$Code" ⟨"Leastcode$Code", "get", "(I)I"⟩ ⟨"Leastcode$Code", "get", "(I)I"⟩, .code ⟨"Leastcode$Code", "get", "(I)I"⟩ prog_2_method_3_code 2 (some .int), .fieldLink "Leastcode$Code" 9 "Leastcode$Code" "numbers" "[I", .methodLink "Leastcode$Machine" 95 ⟨"Leastcode$Machine", "step", "(II)I"⟩, .instanceMethod ⟨"Leastcode$Machine", "step", "(II)I"⟩, .selects "Leastcode$Machine" ⟨"Leastcode$Machine", "step", "(II)I"⟩ ⟨"Leastcode$Machine", "step", "(II)I"⟩, .code ⟨"Leastcode$Machine", "step", "(II)I"⟩ prog_6_method_18_code 4 (some .int), .laysFinal "Leastcode$Machine" "Leastcode$Machine" "next" "[I", .laysFinal "Leastcode$Machine" "Leastcode$Machine" "readParts" "[I", .laysFinal "Leastcode$Machine" "Leastcode$Machine" "writtenParts" "[I", .laysFinal "Leastcode$Machine" "Leastcode$Machine" "mirrors" "[I", .laysFinal "Leastcode$Machine" "Leastcode$Machine" "toRegister0" "[J", .laysFinal "Leastcode$Machine" "Leastcode$Machine" "toRegister1" "[J", .laysFinal "Leastcode$Machine" "Leastcode$Machine" "toFlag" "[J", .fieldLink "Leastcode$Machine" 9 "Leastcode$Machine" "next" "[I"]
theorem d_areAlike_0 : decode b_areAlike 0 = .ok (.iload_n 3, 1) := by decide +kernel
theorem d_areAlike_1 : decode b_areAlike 1 = .ok (.invokestatic 114, 3) := by decide +kernel
theorem d_areAlike_4 : decode b_areAlike 4 = .ok (.istore 4, 2) := by decide +kernel
theorem d_areAlike_6 : decode b_areAlike 6 = .ok (.iconst 0, 1) := by decide +kernel
theorem d_areAlike_7 : decode b_areAlike 7 = .ok (.istore 5, 2) := by decide +kernel
theorem d_areAlike_9 : decode b_areAlike 9 = .ok (.iload 5, 2) := by decide +kernel
theorem d_areAlike_11 : decode b_areAlike 11 = .ok (.sipush 128, 3) := by decide +kernel
theorem d_areAlike_14 : decode b_areAlike 14 = .ok (.if_icmp .ge 32, 3) := by decide +kernel
theorem d_areAlike_17 : decode b_areAlike 17 = .ok (.aload_n 0, 1) := by decide +kernel
theorem d_areAlike_18 : decode b_areAlike 18 = .ok (.aload_n 1, 1) := by decide +kernel
theorem d_areAlike_19 : decode b_areAlike 19 = .ok (.iload 5, 2) := by decide +kernel
theorem d_areAlike_21 : decode b_areAlike 21 = .ok (.invokevirtual 117, 3) := by decide +kernel
theorem d_areAlike_24 : decode b_areAlike 24 = .ok (.aload_n 0, 1) := by decide +kernel
theorem d_areAlike_25 : decode b_areAlike 25 = .ok (.aload_n 2, 1) := by decide +kernel
theorem d_areAlike_26 : decode b_areAlike 26 = .ok (.iload 5, 2) := by decide +kernel
theorem d_areAlike_28 : decode b_areAlike 28 = .ok (.invokevirtual 117, 3) := by decide +kernel
theorem d_areAlike_31 : decode b_areAlike 31 = .ok (.ixor, 1) := by decide +kernel
theorem d_areAlike_32 : decode b_areAlike 32 = .ok (.iload 4, 2) := by decide +kernel
theorem d_areAlike_34 : decode b_areAlike 34 = .ok (.iand, 1) := by decide +kernel
theorem d_areAlike_35 : decode b_areAlike 35 = .ok (.ifCond .eq 5, 3) := by decide +kernel
theorem d_areAlike_40 : decode b_areAlike 40 = .ok (.iinc 5 1, 3) := by decide +kernel
theorem d_areAlike_43 : decode b_areAlike 43 = .ok (.goto (-34), 3) := by decide +kernel
theorem d_areAlike_46 : decode b_areAlike 46 = .ok (.iconst 1, 1) := by decide +kernel
theorem d_areAlike_47 : decode b_areAlike 47 = .ok (.ireturn, 1) := by decide +kernel
set_option maxRecDepth 20000 in
theorem g_areAlike_1 : GoodIn w_areAlike (wsS "Leastcode$Machine" 114 ⟨"Leastcode$Machine", "bitsOf", "(I)I"⟩ w_bitsOf0) := goodIn_r _ [1, 2, 3, 4] rfl (by decide +kernel)
set_option maxRecDepth 20000 in
theorem g_areAlike_21 : GoodIn w_areAlike (wsV "Leastcode$Machine" 117 "Leastcode$Machine" ⟨"Leastcode$Machine", "through", "(LLeastcode$Code;I)I"⟩ w_through) := goodIn_r _ [5, 6, 7, 3, 8, 9, 10, 11, 12, 13, 14, 15, 16, 17, 18, 19, 20, 21, 22, 23, 24, 3, 25, 26, 27, 28, 29, 30, 31, 32, 33] rfl (by decide +kernel)
set_option maxRecDepth 20000 in
theorem g_areAlike_28 : GoodIn w_areAlike (wsV "Leastcode$Machine" 117 "Leastcode$Machine" ⟨"Leastcode$Machine", "through", "(LLeastcode$Code;I)I"⟩ w_through) := goodIn_r _ [5, 6, 7, 3, 8, 9, 10, 11, 12, 13, 14, 15, 16, 17, 18, 19, 20, 21, 22, 23, 24, 3, 25, 26, 27, 28, 29, 30, 31, 32, 33] rfl (by decide +kernel)
set_option maxHeartbeats 4000000 in
set_option maxRecDepth 100000 in
theorem c_areAlike (l : Launch) (dC : Nat → ClassId) (dI : Nat → Nat → Nat) (qm : Nat) (qn : Nat) (qa : Nat) (qb : Nat) (qc : Nat) (qd : Nat) (qe : Nat) (qf : Nat) (cA : ClassId) (f : Nat → Int32) (c0 : Nat) (a0 : Nat) (n : Int32) (cC : ClassId) (fa : Nat → Int32) (kk : Nat) (hnk : n = nI kk) (hkk : kk ≤ 8) : Met l y_areAlike w_areAlike rm_areAlike (va_Pc [.ref qm, .ref c0, .ref c0, .int 0] (fun U => va_P (dC, dI) classes [(qm, .inr (1, [.ref qn, .ref qa, .ref qb, .ref qc, .ref qd, .ref qe, .ref qf])), (qn, .inl (cA, 6016, .inl (f))), (c0, .inr (2, [.ref a0, .int n])), (a0, .inl (cC, 8, .inl (fa)))] U.heap ∧ va_K (dC, dI) classes [(cA, .int), (cC, .int)] U)) (vp_Si (fun r => r = 1)) 0 0 (fun _ => False) := by
  refine Met.ofW (cc := b_areAlike) (maxL := 6) (ret := (some .boolean)) (by decide) rfl ?_
  intro p e s m args below meth c s₁ B hml hv
  obtain ⟨rfl, hP, hK⟩ := hv
  have hx := B.exec
  have hb := B.bytes
  have hr := B.returns
  have hts := atoms_spec (ws := w_areAlike) B.pre
  have hown : s.vm.findClass "Leastcode$Machine" = some m.cls := findClass_of_methodNamed B.named
  have hlocks := B.notSynchronized
  have hP : va_P (dC, dI) classes [(qm, .inr (1, [.ref qn, .ref qa, .ref qb, .ref qc, .ref qd, .ref qe, .ref qf])), (qn, .inl (cA, 6016, .inl (f))), (c0, .inr (2, [.ref a0, .int n])), (a0, .inl (cC, 8, .inl (fa)))] s.heap := hP
  have hl := lv_entry ([.ref qm, .ref c0, .ref c0, .int 0]) (n := 6) (Nat.le_of_ble_eq_true rfl)
  rw [lg_entry_eq]
  generalize (lg_sl ([.ref qm, .ref c0, .ref c0, .int 0]) ++ List.replicate (6 - (lg_sl ([.ref qm, .ref c0, .ref c0, .int 0])).length) Slot.unset).toArray = ls at hl ⊢
  have hl : lv_has ls 6 [(0, .ref qm), (1, .ref c0), (2, .ref c0), (3, .int 0)] := hl
  refine lv_iload_n hx hb d_areAlike_0 rfl (lv_at hl 3 rfl) ?_
  refine vp_callSi (W.runS (As := [.int 0]) (rest := []) ⟨hx, hb, hml, hown, hts⟩ (c_bitsOf0 l ) (cwS 1 hts g_areAlike_1 rfl rfl rfl (by decide +kernel) ⟨Nat.le_of_ble_eq_true rfl, Nat.le_of_ble_eq_true rfl⟩) ⟨fun a U g mk z => z, fun U hU hW => ⟨rfl, trivial⟩⟩ rfl rfl hl.1 rfl (lv_room (Nat.le_of_ble_eq_true rfl)) d_areAlike_1 ⟨(Nat.le_of_ble_eq_true rfl), (Nat.le_of_ble_eq_true rfl)⟩) (fun r1 hr1 => ?_)
  replace hr1 := hr1.symm; subst hr1
  refine lv_istore (lv' := [(4, .int 0), (0, .ref qm), (1, .ref c0), (2, .ref c0), (3, .int 0)]) hx hb d_areAlike_4 hl (by decide) rfl (fun ls hl => ?_)
  refine lv_iconst (v := 0) hx hb d_areAlike_6 (by decide) ?_
  refine lv_istore (lv' := [(5, .int 0), (4, .int 0), (0, .ref qm), (1, .ref c0), (2, .ref c0), (3, .int 0)]) hx hb d_areAlike_7 hl (by decide) rfl (fun ls hl => ?_)
  refine ry_abs (fun QQ hQ => ?_)
  have loop : ∀ (k i : Nat), i + k = 128 → ∀ (ls : Array Slot) (x : Int32), x = nI i → lv_has ls 6 [(5, .int x), (4, .int 0), (0, .ref qm), (1, .ref c0), (2, .ref c0), (3, .int 0)] → W p l e (headSpec w_areAlike rm_areAlike).room s m ([.ref qm, .ref c0, .ref c0, .int 0] : List Value).toArray below meth c s.heap [] (0) (0) QQ (F0 m 9 ls []) := by
    intro k
    induction k with
    | zero =>
      intro i hi ls x ex0 hl
      obtain rfl : i = 128 := by omega
      refine lv_iload hx hb d_areAlike_9 (lv_at hl 0 rfl) ?_
      refine lv_sipush (v := 128) hx hb d_areAlike_11 (by decide) ?_
      refine lv_icmp_ge (tgt := 46) hx hb d_areAlike_14 (by decide) (fun c_14 => ?_) (fun c_14 => ?_)
      · skip
        refine lv_iconst (v := 1) hx hb d_areAlike_46 (by decide) ?_
        subst hQ
        exact W.zret hx hb hr rfl (fun t ht hW => ⟨_, rfl, rfl, ht⟩) (fun _ h => by cases h) d_areAlike_47
      · exact absurd (by rw [ex0]; exact (show nI 128 ≤ nI 128 from nI_le (Nat.le_refl 128) (by omega))) c_14
    | succ k ih =>
      intro i hi ls x ex0 hl
      have hlt : i < 128 := by omega
      refine lv_iload hx hb d_areAlike_9 (lv_at hl 0 rfl) ?_
      refine lv_sipush (v := 128) hx hb d_areAlike_11 (by decide) ?_
      refine lv_icmp_ge (tgt := 46) hx hb d_areAlike_14 (by decide) (fun c_14 => ?_) (fun c_14 => ?_)
      · exact absurd c_14 (by rw [ex0]; exact (show ¬ nI 128 ≤ nI i from nI_ge hlt (by omega)))
      · skip
        refine lv_aload_n hx hb d_areAlike_17 rfl (lv_at hl 2 rfl) ?_
        refine lv_aload_n hx hb d_areAlike_18 rfl (lv_at hl 3 rfl) ?_
        refine lv_iload hx hb d_areAlike_19 (lv_at hl 0 rfl) ?_
        have hPc : va_P (dC, dI) classes [(qm, .inr (1, [.ref qn, .ref qa, .ref qb, .ref qc, .ref qd, .ref qe, .ref qf])), (qn, .inl (cA, 6016, .inl (f))), (c0, .inr (2, [.ref a0, .int n])), (a0, .inl (cC, 8, .inl (fa)))] _ := hP.sub (ws' := [(qm, .inr (1, [.ref qn, .ref qa, .ref qb, .ref qc, .ref qd, .ref qe, .ref qf])), (qn, .inl (cA, 6016, .inl (f))), (c0, .inr (2, [.ref a0, .int n])), (a0, .inl (cC, 8, .inl (fa)))]) [0, 1, 2, 3] rfl
        have hKc : va_K (dC, dI) classes [(cA, .int), (cC, .int)] s := hK.sub (tys' := [(cA, .int), (cC, .int)]) [0, 1] rfl
        refine vp_callSi (W.runV (As := [.ref c0, .int x]) (rest := []) ⟨hx, hb, hml, hown, hts⟩ (c_through l dC dI qm qn qa qb qc qd qe qf cA f c0 a0 n cC fa kk x hnk hkk) (cwV 2 hts g_areAlike_21 rfl rfl rfl (by decide +kernel) ⟨Nat.le_of_ble_eq_true rfl, Nat.le_of_ble_eq_true rfl⟩) ⟨fun a U g mk z => by obtain ⟨z0, zP, zK⟩ := z; exact ⟨z0, zP, va_K.moved (u := U) (U := U.calling g mk a) (Vm.Alike.refl U.vm) zK⟩, va_recv hKc hPc (ci := 1) (q0 := 0) rfl rfl, fun U hU hW => ⟨rfl, by rw [hU]; exact hPc, va_K.moved hW.alike hKc⟩⟩ rfl rfl hl.1 rfl (lv_room (Nat.le_of_ble_eq_true rfl)) d_areAlike_21 ⟨(Nat.le_of_ble_eq_true rfl), (Nat.le_of_ble_eq_true rfl)⟩) (fun r2 hr2 => ?_)
        refine lv_aload_n hx hb d_areAlike_24 rfl (lv_at hl 2 rfl) ?_
        refine lv_aload_n hx hb d_areAlike_25 rfl (lv_at hl 4 rfl) ?_
        refine lv_iload hx hb d_areAlike_26 (lv_at hl 0 rfl) ?_
        have hPc : va_P (dC, dI) classes [(qm, .inr (1, [.ref qn, .ref qa, .ref qb, .ref qc, .ref qd, .ref qe, .ref qf])), (qn, .inl (cA, 6016, .inl (f))), (c0, .inr (2, [.ref a0, .int n])), (a0, .inl (cC, 8, .inl (fa)))] _ := hP.sub (ws' := [(qm, .inr (1, [.ref qn, .ref qa, .ref qb, .ref qc, .ref qd, .ref qe, .ref qf])), (qn, .inl (cA, 6016, .inl (f))), (c0, .inr (2, [.ref a0, .int n])), (a0, .inl (cC, 8, .inl (fa)))]) [0, 1, 2, 3] rfl
        have hKc : va_K (dC, dI) classes [(cA, .int), (cC, .int)] s := hK.sub (tys' := [(cA, .int), (cC, .int)]) [0, 1] rfl
        refine vp_callSi (W.runV (As := [.ref c0, .int x]) (rest := [.int r2]) ⟨hx, hb, hml, hown, hts⟩ (c_through l dC dI qm qn qa qb qc qd qe qf cA f c0 a0 n cC fa kk x hnk hkk) (cwV 2 hts g_areAlike_28 rfl rfl rfl (by decide +kernel) ⟨Nat.le_of_ble_eq_true rfl, Nat.le_of_ble_eq_true rfl⟩) ⟨fun a U g mk z => by obtain ⟨z0, zP, zK⟩ := z; exact ⟨z0, zP, va_K.moved (u := U) (U := U.calling g mk a) (Vm.Alike.refl U.vm) zK⟩, va_recv hKc hPc (ci := 1) (q0 := 0) rfl rfl, fun U hU hW => ⟨rfl, by rw [hU]; exact hPc, va_K.moved hW.alike hKc⟩⟩ rfl rfl hl.1 rfl (lv_room (Nat.le_of_ble_eq_true rfl)) d_areAlike_28 ⟨(Nat.le_of_ble_eq_true rfl), (Nat.le_of_ble_eq_true rfl)⟩) (fun r3 hr3 => ?_)
        refine lv_ixor hx hb d_areAlike_31 ?_
        refine lv_topi (fun x4 ex4 => ?_)
        refine lv_iload hx hb d_areAlike_32 (lv_at hl 1 rfl) ?_
        refine lv_iand hx hb d_areAlike_34 ?_
        refine lv_topi (fun x5 ex5 => ?_)
        refine lv_if_eq (tgt := 40) hx hb d_areAlike_35 (by decide) (fun c_35 => ?_) (fun c_35 => ?_)
        · skip
          obtain ⟨x6, ex6⟩ : ∃ y_ : Int32, y_ = x + 1 := ⟨_, rfl⟩
          refine lv_iinc (v := x6) (lv' := [(5, .int x6), (4, .int 0), (0, .ref qm), (1, .ref c0), (2, .ref c0), (3, .int 0)]) hx hb d_areAlike_40 hl (k := 0) rfl (by rw [ex6]; rfl) (by decide) rfl (fun ls hl => ?_)
          refine lv_goto (tgt := 9) hx hb d_areAlike_43 (by decide) ?_
          exact ih (i + 1) (by omega) _ x6 (by rw [ex6, ex0]; exact nI_1 i) (lv_sub hl [0, 1, 2, 3, 4, 5] rfl)
        · exact absurd (by rw [ex5]; exact ry_and0 _) c_35
  exact loop 128 0 rfl _ _ nI_0.symm (lv_sub hl [0, 1, 2, 3, 4, 5] rfl)

abbrev rm_LC_isSame : Room := { frames := 3, cells := 0, slots := 0, locals := 72 }
abbrev b_LC_isSame : ByteArray := prog_1_method_15_code
def y_LC_isSame : MethodName := ⟨"Leastcode", "isSame", "(III)Z"⟩
def w_LC_isSame : List Cond := [.code ⟨"Leastcode", "isSame", "(III)Z"⟩ prog_1_method_15_code 6 (some .boolean), .methodLink "Leastcode" 88 ⟨"Leastcode", "programAt", "(I)LLeastcode$Code;"⟩, .instanceMethod ⟨"Leastcode", "programAt", "(I)LLeastcode$Code;"⟩, .selects "Leastcode" ⟨"Leastcode", "programAt", "(I)LLeastcode$Code;"⟩ ⟨"Leastcode", "programAt", "(I)LLeastcode$Code;"⟩, .initialized "Leastcode", .code ⟨"Leastcode", "programAt", "(I)LLeastcode$Code;"⟩ prog_1_method_40_code 2 (some (.object "Leastcode$Code")), .laysFinal "Leastcode" "Leastcode" "machine" "LLeastcode$Machine;", .laysFinal "Leastcode" "Leastcode" "prices" "LLeastcode$Prices;", .laysFinal "Leastcode" "Leastcode" "lots" "LLeastcode$Lots;", .laysFinal "Leastcode" "Leastcode" "search" "LLeastcode$Search;", .laysFinal "Leastcode" "Leastcode" "programs" "[LLeastcode$Code;", .lays "Leastcode" "Leastcode" "programCount" "I", .laysFinal "Leastcode" "Leastcode" "goals" "[LLeastcode$Goal;", .lays "Leastcode" "Leastcode" "goalCount" "I", .laysFinal "Leastcode" "Leastcode" "rules" "[LLeastcode$Rule;", .lays "Leastcode" "Leastcode" "ruleCount" "I", .laysFinal "Leastcode" "Leastcode" "killed" "[I", .laysFinal "Leastcode" "Leastcode" "unlikeUpTo" "[I", .laysFinal "Leastcode" "Leastcode" "found" "LLeastcode$Code;", .lays "Leastcode" "Leastcode" "hasFound" "Z", .laysFinal "Leastcode" "Leastcode" "draft" "LLeastcode$Code;", .laysFinal "Leastcode" "Leastcode" "shorter" "LLeastcode$Code;", .laysFinal "Leastcode" "Leastcode" "windowGoal" "LLeastcode$Goal;", .fieldLink "Leastcode" 84 "Leastcode" "programCount" "I", .fieldLink "Leastcode" 41 "Leastcode" "programs" "[LLeastcode$Code;", .methodLink "Leastcode" 162 ⟨"Leastcode", "refuseBadParts", "(I)V"⟩, .static ⟨"Leastcode", "refuseBadParts", "(I)V"⟩, .code ⟨"Leastcode", "refuseBadParts", "(I)V"⟩ prog_1_method_45_code 1 none, .methodLink "Leastcode" 143 ⟨"Leastcode", "refuseOutside", "(III)V"⟩, .static ⟨"Leastcode", "refuseOutside", "(III)V"⟩, .code ⟨"Leastcode", "refuseOutside", "(III)V"⟩ prog_1_method_43_code 3 none, .fieldLink "Leastcode" 10 "Leastcode" "machine" "LLeastcode$Machine;", .methodLink "Leastcode" 172 ⟨"Leastcode$Machine", "areAlike", "(LLeastcode$Code;LLeastcode$Code;I)Z"⟩, .instanceMethod ⟨"Leastcode$Machine", "areAlike", "(LLeastcode$Code;LLeastcode$Code;I)Z"⟩, .selects "Leastcode$Machine" ⟨"Leastcode$Machine", "areAlike", "(LLeastcode$Code;LLeastcode$Code;I)Z"⟩ ⟨"Leastcode$Machine", "areAlike", "(LLeastcode$Code;LLeastcode$Code;I)Z"⟩, .initialized "Leastcode$Machine", .code ⟨"Leastcode$Machine", "areAlike", "(LLeastcode$Code;LLeastcode$Code;I)Z"⟩ prog_6_method_26_code 6 (some .boolean), .methodLink "Leastcode$Machine" 114 ⟨"Leastcode$Machine", "bitsOf", "(I)I"⟩, .static ⟨"Leastcode$Machine", "bitsOf", "(I)I"⟩, .code ⟨"Leastcode$Machine", "bitsOf", "(I)I"⟩ prog_6_method_13_code 1 (some .int), .methodLink "Leastcode$Machine" 117 ⟨"Leastcode$Machine", "through", "(LLeastcode$Code;I)I"⟩, .instanceMethod ⟨"Leastcode$Machine", "through", "(LLeastcode$Code;I)I"⟩, .selects "Leastcode$Machine" ⟨"Leastcode$Machine", "through", "(LLeastcode$Code;I)I"⟩ ⟨"Leastcode$Machine", "through", "(LLeastcode$Code;I)I"⟩, .code ⟨"Leastcode$Machine", "through", "(LLeastcode$Code;I)I"⟩ prog_6_method_19_code 5 (some .int), .methodLink "Leastcode$Machine" 89 ⟨"Leastcode$Code", "length", "()I"⟩, .instanceMethod ⟨"Leastcode$Code", "length", "()I"⟩, .selects "Leastcode$Code" ⟨"Leastcode$Code", "length", "()I"⟩ ⟨"Leastcode$Code", "length", "()I"⟩, .initialized "Leastcode$Code", .code ⟨"Leastcode$Code", "length", "()I"⟩ prog_2_method_2_code 1 (some .int), .laysFinal "Leastcode$Code" "Leastcode$Code" "numbers" "[I", .lays "Leastcode$Code" "Leastcode$Code" "length" "I", .fieldLink "Leastcode$Code" 15 "Leastcode$Code" "length" "I", .methodLink "Leastcode$Machine" 92 ⟨"Leastcode$Code", "get", "(I)I"⟩, .instanceMethod ⟨"Leastcode$Code", "get", "(I)I"⟩, .selects "Leastcode$Code" ⟨"Leastcode$Code", "get", "(I)I"⟩ ⟨"Leastcode$Code", "get", "(I)I"⟩, .code ⟨"Leastcode$Code", "get", "(I)I"⟩ prog_2_method_3_code 2 (some .int), .fieldLink "Leastcode$Code" 9 "Leastcode$Code" "numbers" "[I", .methodLink "Leastcode$Machine" 95 ⟨"Leastcode$Machine", "step", "(II)I"⟩, .instanceMethod ⟨"Leastcode$Machine", "step", "(II)I"⟩, .selects "Leastcode$Machine" ⟨"Leastcode$Machine", "step", "(II)I"⟩ ⟨"Leastcode$Machine", "step", "(II)I"⟩, .code ⟨"Leastcode$Machine", "step", "(II)I"⟩ prog_6_method_18_code 4 (some .int), .laysFinal "Leastcode$Machine" "Leastcode$Machine" "next" "[I", .laysFinal "Leastcode$Machine" "Leastcode$Machine" "readParts" "[I", .laysFinal "Leastcode$Machine" "Leastcode$Machine" "writtenParts" "[I", .laysFinal "Leastcode$Machine" "Leastcode$Machine" "mirrors" "[I", .laysFinal "Leastcode$Machine" "Leastcode$Machine" "toRegister0" "[J", .laysFinal "Leastcode$Machine" "Leastcode$Machine" "toRegister1" "[J", .laysFinal "Leastcode$Machine" "Leastcode$Machine" "toFlag" "[J", .fieldLink "Leastcode$Machine" 9 "Leastcode$Machine" "next" "[I"]
theorem d_LC_isSame_0 : decode b_LC_isSame 0 = .ok (.aload_n 0, 1) := by decide +kernel
theorem d_LC_isSame_1 : decode b_LC_isSame 1 = .ok (.iload_n 1, 1) := by decide +kernel
theorem d_LC_isSame_2 : decode b_LC_isSame 2 = .ok (.invokevirtual 88, 3) := by decide +kernel
theorem d_LC_isSame_5 : decode b_LC_isSame 5 = .ok (.astore 4, 2) := by decide +kernel
theorem d_LC_isSame_7 : decode b_LC_isSame 7 = .ok (.aload_n 0, 1) := by decide +kernel
theorem d_LC_isSame_8 : decode b_LC_isSame 8 = .ok (.iload_n 2, 1) := by decide +kernel
theorem d_LC_isSame_9 : decode b_LC_isSame 9 = .ok (.invokevirtual 88, 3) := by decide +kernel
theorem d_LC_isSame_12 : decode b_LC_isSame 12 = .ok (.astore 5, 2) := by decide +kernel
theorem d_LC_isSame_14 : decode b_LC_isSame 14 = .ok (.iload_n 3, 1) := by decide +kernel
theorem d_LC_isSame_15 : decode b_LC_isSame 15 = .ok (.invokestatic 162, 3) := by decide +kernel
theorem d_LC_isSame_18 : decode b_LC_isSame 18 = .ok (.aload_n 0, 1) := by decide +kernel
theorem d_LC_isSame_19 : decode b_LC_isSame 19 = .ok (.getfield 10, 3) := by decide +kernel
theorem d_LC_isSame_22 : decode b_LC_isSame 22 = .ok (.aload 4, 2) := by decide +kernel
theorem d_LC_isSame_24 : decode b_LC_isSame 24 = .ok (.aload 5, 2) := by decide +kernel
theorem d_LC_isSame_26 : decode b_LC_isSame 26 = .ok (.iload_n 3, 1) := by decide +kernel
theorem d_LC_isSame_27 : decode b_LC_isSame 27 = .ok (.invokevirtual 172, 3) := by decide +kernel
theorem d_LC_isSame_30 : decode b_LC_isSame 30 = .ok (.ireturn, 1) := by decide +kernel
theorem in_LC_isSame_LC : ∀ v ∈ u_ws R_LC T_LC 17, v ∈ w_LC_isSame := by decide +kernel
set_option maxRecDepth 20000 in
theorem g_LC_isSame_2 : GoodIn w_LC_isSame (wsV "Leastcode" 88 "Leastcode" ⟨"Leastcode", "programAt", "(I)LLeastcode$Code;"⟩ w_programAt) := goodIn_r _ [1, 2, 3, 4, 5, 6, 7, 8, 9, 10, 11, 12, 13, 14, 15, 16, 17, 18, 19, 20, 21, 22, 23, 24] rfl (by decide +kernel)
set_option maxRecDepth 20000 in
theorem g_LC_isSame_9 : GoodIn w_LC_isSame (wsV "Leastcode" 88 "Leastcode" ⟨"Leastcode", "programAt", "(I)LLeastcode$Code;"⟩ w_programAt) := goodIn_r _ [1, 2, 3, 4, 5, 6, 7, 8, 9, 10, 11, 12, 13, 14, 15, 16, 17, 18, 19, 20, 21, 22, 23, 24] rfl (by decide +kernel)
set_option maxRecDepth 20000 in
theorem g_LC_isSame_15 : GoodIn w_LC_isSame (wsS "Leastcode" 162 ⟨"Leastcode", "refuseBadParts", "(I)V"⟩ w_refuseBadParts) := goodIn_r _ [25, 26, 4, 27, 28, 29, 4, 30] rfl (by decide +kernel)
set_option maxRecDepth 20000 in
theorem g_LC_isSame_27 : GoodIn w_LC_isSame (wsV "Leastcode" 172 "Leastcode$Machine" ⟨"Leastcode$Machine", "areAlike", "(LLeastcode$Code;LLeastcode$Code;I)Z"⟩ w_areAlike) := goodIn_r _ [32, 33, 34, 35, 36, 37, 38, 35, 39, 40, 41, 42, 43, 44, 45, 46, 47, 48, 49, 50, 51, 52, 53, 54, 55, 56, 57, 58, 59, 60, 61, 62, 63, 64, 65, 66, 67, 68] rfl (by decide +kernel)
set_option maxHeartbeats 4000000 in
set_option maxRecDepth 100000 in
theorem c_LC_isSame (l : Launch) (dC : Nat → ClassId) (dI : Nat → Nat → Nat) (h0 : Nat) (qm : Nat) (qp : Nat) (y1 : Nat) (y2 : Nat) (y3 : Nat) (y4 : Nat) (y5 : Nat) (y6 : Nat) (y7 : Nat) (y8 : Nat) (y9 : Nat) (y10 : Nat) (y11 : Nat) (qn : Nat) (qa : Nat) (qb : Nat) (qc : Nat) (qd : Nat) (qe : Nat) (qf : Nat) (cA : ClassId) (f : Nat → Int32) (cB : ClassId) (fp : Nat → Option Nat) (c0 : Nat) (a0 : Nat) (n : Int32) (cC : ClassId) (fa : Nat → Int32) (kk : Nat) (hf : fp 0 = some c0) (hnk : n = nI kk) (hkk : kk ≤ 8) : Met l y_LC_isSame w_LC_isSame rm_LC_isSame (va_Pc [.ref h0, .int 0, .int 0, .int 0] (fun U => va_P (dC, dI) classes [(h0, .inr (0, [.ref qm, .ref y1, .ref y2, .ref y3, .ref qp, .int 1, .ref y4, .int 0, .ref y5, .int 0, .ref y6, .ref y7, .ref y8, .int 0, .ref y9, .ref y10, .ref y11])), (qm, .inr (1, [.ref qn, .ref qa, .ref qb, .ref qc, .ref qd, .ref qe, .ref qf])), (qn, .inl (cA, 6016, .inl (f))), (qp, .inl (cB, 8, .inr (.inr (.inr (.inr (fp)))))), (c0, .inr (2, [.ref a0, .int n])), (a0, .inl (cC, 8, .inl (fa)))] U.heap ∧ va_K (dC, dI) classes [(cA, .int), (cB, .object "Leastcode$Code"), (cC, .int)] U)) (vp_Si (fun r => r = 1)) 0 0 (fun _ => False) := by
  refine Met.ofW (cc := b_LC_isSame) (maxL := 6) (ret := (some .boolean)) (by decide) rfl ?_
  intro p e s m args below meth c s₁ B hml hv
  obtain ⟨rfl, hP, hK⟩ := hv
  have hx := B.exec
  have hb := B.bytes
  have hr := B.returns
  have hts := atoms_spec (ws := w_LC_isSame) B.pre
  have hown : s.vm.findClass "Leastcode" = some m.cls := findClass_of_methodNamed B.named
  have hlocks := B.notSynchronized
  have hP : va_P (dC, dI) classes [(h0, .inr (0, [.ref qm, .ref y1, .ref y2, .ref y3, .ref qp, .int 1, .ref y4, .int 0, .ref y5, .int 0, .ref y6, .ref y7, .ref y8, .int 0, .ref y9, .ref y10, .ref y11])), (qm, .inr (1, [.ref qn, .ref qa, .ref qb, .ref qc, .ref qd, .ref qe, .ref qf])), (qn, .inl (cA, 6016, .inl (f))), (qp, .inl (cB, 8, .inr (.inr (.inr (.inr (fp)))))), (c0, .inr (2, [.ref a0, .int n])), (a0, .inl (cC, 8, .inl (fa)))] s.heap := hP
  have hl := lv_entry ([.ref h0, .int 0, .int 0, .int 0]) (n := 6) (Nat.le_of_ble_eq_true rfl)
  rw [lg_entry_eq]
  generalize (lg_sl ([.ref h0, .int 0, .int 0, .int 0]) ++ List.replicate (6 - (lg_sl ([.ref h0, .int 0, .int 0, .int 0])).length) Slot.unset).toArray = ls at hl ⊢
  have hl : lv_has ls 6 [(0, .ref h0), (1, .int 0), (2, .int 0), (3, .int 0)] := hl
  refine lv_aload_n hx hb d_LC_isSame_0 rfl (lv_at hl 0 rfl) ?_
  refine lv_iload_n hx hb d_LC_isSame_1 rfl (lv_at hl 1 rfl) ?_
  have hPc : va_P (dC, dI) classes [(h0, .inr (0, [.ref qm, .ref y1, .ref y2, .ref y3, .ref qp, .int 1, .ref y4, .int 0, .ref y5, .int 0, .ref y6, .ref y7, .ref y8, .int 0, .ref y9, .ref y10, .ref y11])), (qp, .inl (cB, 8, .inr (.inr (.inr (.inr (fp))))))] _ := hP.sub (ws' := [(h0, .inr (0, [.ref qm, .ref y1, .ref y2, .ref y3, .ref qp, .int 1, .ref y4, .int 0, .ref y5, .int 0, .ref y6, .ref y7, .ref y8, .int 0, .ref y9, .ref y10, .ref y11])), (qp, .inl (cB, 8, .inr (.inr (.inr (.inr (fp))))))]) [0, 3] rfl
  have hKc : va_K (dC, dI) classes [(cB, .object "Leastcode$Code")] s := hK.sub (tys' := [(cB, .object "Leastcode$Code")]) [1] rfl
  refine va_csr (W.runV (As := [.int 0]) (rest := []) ⟨hx, hb, hml, hown, hts⟩ (c_programAt l dC dI h0 qm qp y1 y2 y3 y4 y5 y6 y7 y8 y9 y10 y11 cB fp c0 hf) (cwV 1 hts g_LC_isSame_2 rfl rfl rfl (by decide +kernel) ⟨Nat.le_of_ble_eq_true rfl, Nat.le_of_ble_eq_true rfl⟩) ⟨fun a U g mk z => by obtain ⟨z0, zP, zK⟩ := z; exact ⟨z0, zP, va_K.moved (u := U) (U := U.calling g mk a) (Vm.Alike.refl U.vm) zK⟩, va_recv hKc hPc (ci := 0) (q0 := 0) rfl rfl, fun U hU hW => ⟨rfl, by rw [hU]; exact hPc, va_K.moved hW.alike hKc⟩⟩ rfl rfl hl.1 rfl (lv_room (Nat.le_of_ble_eq_true rfl)) d_LC_isSame_2 ⟨(Nat.le_of_ble_eq_true rfl), (Nat.le_of_ble_eq_true rfl)⟩) (fun r1 hr1 => ?_)
  replace hr1 := hr1.symm; subst hr1
  refine lv_astore (lv' := [(4, .ref c0), (0, .ref h0), (1, .int 0), (2, .int 0), (3, .int 0)]) hx hb d_LC_isSame_5 hl (by decide) rfl (fun ls hl => ?_)
  refine lv_aload_n hx hb d_LC_isSame_7 rfl (lv_at hl 1 rfl) ?_
  refine lv_iload_n hx hb d_LC_isSame_8 rfl (lv_at hl 3 rfl) ?_
  have hPc : va_P (dC, dI) classes [(h0, .inr (0, [.ref qm, .ref y1, .ref y2, .ref y3, .ref qp, .int 1, .ref y4, .int 0, .ref y5, .int 0, .ref y6, .ref y7, .ref y8, .int 0, .ref y9, .ref y10, .ref y11])), (qp, .inl (cB, 8, .inr (.inr (.inr (.inr (fp))))))] _ := hP.sub (ws' := [(h0, .inr (0, [.ref qm, .ref y1, .ref y2, .ref y3, .ref qp, .int 1, .ref y4, .int 0, .ref y5, .int 0, .ref y6, .ref y7, .ref y8, .int 0, .ref y9, .ref y10, .ref y11])), (qp, .inl (cB, 8, .inr (.inr (.inr (.inr (fp))))))]) [0, 3] rfl
  have hKc : va_K (dC, dI) classes [(cB, .object "Leastcode$Code")] s := hK.sub (tys' := [(cB, .object "Leastcode$Code")]) [1] rfl
  refine va_csr (W.runV (As := [.int 0]) (rest := []) ⟨hx, hb, hml, hown, hts⟩ (c_programAt l dC dI h0 qm qp y1 y2 y3 y4 y5 y6 y7 y8 y9 y10 y11 cB fp c0 hf) (cwV 1 hts g_LC_isSame_9 rfl rfl rfl (by decide +kernel) ⟨Nat.le_of_ble_eq_true rfl, Nat.le_of_ble_eq_true rfl⟩) ⟨fun a U g mk z => by obtain ⟨z0, zP, zK⟩ := z; exact ⟨z0, zP, va_K.moved (u := U) (U := U.calling g mk a) (Vm.Alike.refl U.vm) zK⟩, va_recv hKc hPc (ci := 0) (q0 := 0) rfl rfl, fun U hU hW => ⟨rfl, by rw [hU]; exact hPc, va_K.moved hW.alike hKc⟩⟩ rfl rfl hl.1 rfl (lv_room (Nat.le_of_ble_eq_true rfl)) d_LC_isSame_9 ⟨(Nat.le_of_ble_eq_true rfl), (Nat.le_of_ble_eq_true rfl)⟩) (fun r2 hr2 => ?_)
  replace hr2 := hr2.symm; subst hr2
  refine lv_astore (lv' := [(5, .ref c0), (4, .ref c0), (0, .ref h0), (1, .int 0), (2, .int 0), (3, .int 0)]) hx hb d_LC_isSame_12 hl (by decide) rfl (fun ls hl => ?_)
  refine lv_iload_n hx hb d_LC_isSame_14 rfl (lv_at hl 5 rfl) ?_
  refine va_csv (W.runS (As := [.int 0]) (rest := []) ⟨hx, hb, hml, hown, hts⟩ (c_refuseBadParts l ) (cwS 1 hts g_LC_isSame_15 rfl rfl rfl (by decide +kernel) ⟨Nat.le_of_ble_eq_true rfl, Nat.le_of_ble_eq_true rfl⟩) ⟨fun a U g mk z => z, fun U hU hW => ⟨rfl, trivial⟩⟩ rfl rfl hl.1 rfl (lv_room (Nat.le_of_ble_eq_true rfl)) d_LC_isSame_15 ⟨(Nat.le_of_ble_eq_true rfl), (Nat.le_of_ble_eq_true rfl)⟩) (fun hr3 => ?_)
  refine lv_aload_n hx hb d_LC_isSame_18 rfl (lv_at hl 2 rfl) ?_
  refine va_get (D := (dC, dI)) (ci := 0) (v := .ref qm) (C := R_LC) (T := T_LC) (N := 17) hx hb hts in_LC_isSame_LC hown hK hP 0 rfl rfl 0 (by decide) (hts (.fieldLink "Leastcode" 10 "Leastcode" "machine" "LLeastcode$Machine;") (List.mem_of_getElem? (i := 31) rfl)) (fun _ h9 => h9) rfl d_LC_isSame_19 ?_
  refine lv_aload hx hb d_LC_isSame_22 (lv_at hl 1 rfl) ?_
  refine lv_aload hx hb d_LC_isSame_24 (lv_at hl 0 rfl) ?_
  refine lv_iload_n hx hb d_LC_isSame_26 rfl (lv_at hl 5 rfl) ?_
  have hPc : va_P (dC, dI) classes [(qm, .inr (1, [.ref qn, .ref qa, .ref qb, .ref qc, .ref qd, .ref qe, .ref qf])), (qn, .inl (cA, 6016, .inl (f))), (c0, .inr (2, [.ref a0, .int n])), (a0, .inl (cC, 8, .inl (fa)))] _ := hP.sub (ws' := [(qm, .inr (1, [.ref qn, .ref qa, .ref qb, .ref qc, .ref qd, .ref qe, .ref qf])), (qn, .inl (cA, 6016, .inl (f))), (c0, .inr (2, [.ref a0, .int n])), (a0, .inl (cC, 8, .inl (fa)))]) [1, 2, 4, 5] rfl
  have hKc : va_K (dC, dI) classes [(cA, .int), (cC, .int)] s := hK.sub (tys' := [(cA, .int), (cC, .int)]) [0, 2] rfl
  refine vp_callSi (W.runV (As := [.ref c0, .ref c0, .int 0]) (rest := []) ⟨hx, hb, hml, hown, hts⟩ (c_areAlike l dC dI qm qn qa qb qc qd qe qf cA f c0 a0 n cC fa kk hnk hkk) (cwV 3 hts g_LC_isSame_27 rfl rfl rfl (by decide +kernel) ⟨Nat.le_of_ble_eq_true rfl, Nat.le_of_ble_eq_true rfl⟩) ⟨fun a U g mk z => by obtain ⟨z0, zP, zK⟩ := z; exact ⟨z0, zP, va_K.moved (u := U) (U := U.calling g mk a) (Vm.Alike.refl U.vm) zK⟩, va_recv hKc hPc (ci := 1) (q0 := 0) rfl rfl, fun U hU hW => ⟨rfl, by rw [hU]; exact hPc, va_K.moved hW.alike hKc⟩⟩ rfl rfl hl.1 rfl (lv_room (Nat.le_of_ble_eq_true rfl)) d_LC_isSame_27 ⟨(Nat.le_of_ble_eq_true rfl), (Nat.le_of_ble_eq_true rfl)⟩) (fun r4 hr4 => ?_)
  replace hr4 := hr4.symm; subst hr4
  exact W.zret hx hb hr rfl (fun t ht hW => ⟨_, rfl, rfl, ht⟩) (fun _ h => by cases h) d_LC_isSame_30
