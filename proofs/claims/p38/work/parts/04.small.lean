abbrev rm_Code_init : Room := { frames := 1, cells := 1, slots := 8, locals := 12 }
abbrev b_Code_init : ByteArray := prog_2_method_1_code
def y_Code_init : MethodName := ⟨"Leastcode$Code", "<init>", "()V"⟩
def w_Code_init : List Cond := [.code ⟨"Leastcode$Code", "<init>", "()V"⟩ prog_2_method_1_code 1 none, .methodLink "Leastcode$Code" 3 ⟨"java/lang/Object", "<init>", "()V"⟩, .instanceMethod ⟨"java/lang/Object", "<init>", "()V"⟩, .code ⟨"java/lang/Object", "<init>", "()V"⟩ object_method_1_code 1 none, .arrayClass .int, .laysFinal "Leastcode$Code" "Leastcode$Code" "numbers" "[I", .lays "Leastcode$Code" "Leastcode$Code" "length" "I", .fieldLink "Leastcode$Code" 9 "Leastcode$Code" "numbers" "[I"]
theorem d_Code_init_0 : decode b_Code_init 0 = .ok (.aload_n 0, 1) := by decide +kernel
theorem d_Code_init_1 : decode b_Code_init 1 = .ok (.invokespecial 3, 3) := by decide +kernel
theorem d_Code_init_4 : decode b_Code_init 4 = .ok (.aload_n 0, 1) := by decide +kernel
theorem d_Code_init_5 : decode b_Code_init 5 = .ok (.bipush 8, 2) := by decide +kernel
theorem d_Code_init_7 : decode b_Code_init 7 = .ok (.newarray .int, 2) := by decide +kernel
theorem d_Code_init_9 : decode b_Code_init 9 = .ok (.putfield 9, 3) := by decide +kernel
theorem d_Code_init_12 : decode b_Code_init 12 = .ok (.return_, 1) := by decide +kernel
theorem in_Code_init_CO : ∀ v ∈ u_ws R_CO T_CO 2, v ∈ w_Code_init := by decide +kernel
set_option maxHeartbeats 4000000 in
set_option maxRecDepth 100000 in
theorem c_Code_init (l : Launch) (dC : Nat → ClassId) (dI : Nat → Nat → Nat) (h0 : Nat) (sz : Nat) : Met l y_Code_init w_Code_init rm_Code_init (va_Pc [.ref h0] (fun U => U.heap.size = sz ∧ va_P (dC, dI) classes [(h0, .inr (2, [.null, .int 0]))] U.heap ∧ va_K (dC, dI) classes [] U ∧ va_D (fun _ => True) [(h0, .inr (2, [.null, .int 0]))])) (va_Qv (fun (_ : Unit) => True) (fun _ t => ∃ q : Nat, ∃ cA : ClassId, va_P (dC, dI) classes [(h0, .inr (2, [.ref q, .int 0])), (q, .inl (cA, 8, .inl (fun _ => 0)))] t.heap ∧ va_K (dC, dI) classes [(cA, .int)] t ∧ va_D (va_A [(h0, .inr (2, [.null, .int 0]))] sz) [(h0, .inr (2, [.ref q, .int 0])), (q, .inl (cA, 8, .inl (fun _ => 0)))]) (va_A [(h0, .inr (2, [.null, .int 0]))] sz)) 1 8 (va_A [(h0, .inr (2, [.null, .int 0]))] sz) := by
  refine Met.ofW (cc := b_Code_init) (maxL := 1) (ret := none) (by decide) rfl ?_
  intro p e s m args below meth c s₁ B hml hv
  obtain ⟨rfl, hsz, hP, hK, hD0⟩ := hv
  have hx := B.exec
  have hb := B.bytes
  have hr := B.returns
  have hts := atoms_spec (ws := w_Code_init) B.pre
  have hown : s.vm.findClass "Leastcode$Code" = some m.cls := findClass_of_methodNamed B.named
  have hlocks := B.notSynchronized
  have hin : meth.name = "<init>" := (name_of_methodNamed B.named B.method).1
  subst hsz
  have hD := hD0.self (sz := s.heap.size)
  generalize hAe : va_A [(h0, .inr (2, [.null, .int 0]))] s.heap.size = A at hD ⊢
  have hA : ∀ q : Nat, s.heap.size ≤ q → A q := fun q h => by rw [← hAe]; exact Or.inr h
  have hS : va_S A s.heap s.heap [] := va_S.rf
  have hP : va_P (dC, dI) classes [(h0, .inr (2, [.null, .int 0]))] s.heap := hP
  have hl := lv_entry ([.ref h0]) (n := 1) (Nat.le_of_ble_eq_true rfl)
  rw [lg_entry_eq]
  generalize (lg_sl ([.ref h0]) ++ List.replicate (1 - (lg_sl ([.ref h0])).length) Slot.unset).toArray = ls at hl ⊢
  have hl : lv_has ls 1 [(0, .ref h0)] := hl
  refine lv_aload_n hx hb d_Code_init_0 rfl (lv_at hl 0 rfl) ?_
  refine W.objInit hx hb hown (hts (.methodLink "Leastcode$Code" 3 ⟨"java/lang/Object", "<init>", "()V"⟩) (List.mem_of_getElem? (i := 1) rfl)) (hts (.instanceMethod ⟨"java/lang/Object", "<init>", "()V"⟩) (List.mem_of_getElem? (i := 2) rfl)) (hts (.code ⟨"java/lang/Object", "<init>", "()V"⟩ object_method_1_code 1 none) (List.mem_of_getElem? (i := 3) rfl)) rfl (by rw [hml]; exact hl.1) rfl d_Code_init_1 (Nat.le_of_ble_eq_true rfl) (Nat.le_of_ble_eq_true rfl) ?_
  refine W.eq (g2 := F0 m 4 ls []) rfl ?_
  refine lv_aload_n hx hb d_Code_init_4 rfl (lv_at hl 0 rfl) ?_
  refine lv_bipush (v := 8) hx hb d_Code_init_5 (by decide) ?_
  refine va_newa (D := (dC, dI)) (atype := .int) (a0 := (8, .inl (fun _ => 0))) (ty := .int) (N' := 8) hx hb (hts (.arrayClass .int) (List.mem_of_getElem? (i := 4) rfl)) rfl hK hP hD hS hA (fun cA => rfl) (by decide) (by decide) (Nat.le_of_ble_eq_true rfl) (Nat.le_of_ble_eq_true rfl) (Nat.le_of_ble_eq_true rfl) d_Code_init_7 (fun q1 cA2 H hK hP hD hS => ?_)
  have hP : va_P (dC, dI) classes [(h0, .inr (2, [.null, .int 0])), (q1, .inl (cA2, 8, .inl (fun _ => 0)))] H := hP
  have hK : va_K (dC, dI) classes [(cA2, .int)] s := hK
  have hD : va_D A [(h0, .inr (2, [.null, .int 0])), (q1, .inl (cA2, 8, .inl (fun _ => 0)))] := hD
  refine W.widen (k := 1) (n := 8) (by omega) (by omega) ?_
  refine va_putF (D := (dC, dI)) (ci := 2) (v := .ref q1) (ty := .array .int) (C := R_CO) (T := T_CO) (N := 2) hx hb hts in_Code_init_CO t_CO t_CO_ok n_CO hown hK hP hD hS 0 rfl rfl 0 (by decide) (hts (.fieldLink "Leastcode$Code" 9 "Leastcode$Code" "numbers" "[I") (List.mem_of_getElem? (i := 7) rfl)) (fun _ h9 => h9) rfl hin rfl (by decide +kernel) rfl rfl (Nat.le_of_ble_eq_true rfl) d_Code_init_9 (fun H locs hP hD hS => ?_)
  have hP : va_P (dC, dI) classes [(h0, .inr (2, [.ref q1, .int 0])), (q1, .inl (cA2, 8, .inl (fun _ => 0)))] H := hP
  have hD : va_D A [(h0, .inr (2, [.ref q1, .int 0])), (q1, .inl (cA2, 8, .inl (fun _ => 0)))] := hD
  have hP9 : va_P (dC, dI) classes [(h0, .inr (2, [.ref q1, .int 0])), (q1, .inl (cA2, 8, .inl (fun _ => 0)))] H := hP.sub (ws' := [(h0, .inr (2, [.ref q1, .int 0])), (q1, .inl (cA2, 8, .inl (fun _ => 0)))]) [0, 1] rfl
  have hD9 := hD.sub (ws' := [(h0, .inr (2, [.ref q1, .int 0])), (q1, .inl (cA2, 8, .inl (fun _ => 0)))]) [0, 1] (by decide) rfl
  have hK9 := hK.sub (tys' := [(cA2, .int)]) [0] rfl
  refine W.widen (k := 1) (n := 8) (by omega) (by omega) ?_
  exact W.vret hx hb hr (fun t ht hW => ⟨⟨(), rfl, trivial, ⟨q1, ⟨cA2, ⟨by rw [ht]; exact hP9, va_K.moved hW.alike hK9, hD9⟩⟩⟩⟩, hS.F ht⟩) hS.2.2 d_Code_init_12

abbrev rm_Goal_init : Room := { frames := 1, cells := 1, slots := 128, locals := 12 }
abbrev b_Goal_init : ByteArray := prog_4_method_1_code
def y_Goal_init : MethodName := ⟨"Leastcode$Goal", "<init>", "()V"⟩
def w_Goal_init : List Cond := [.code ⟨"Leastcode$Goal", "<init>", "()V"⟩ prog_4_method_1_code 1 none, .methodLink "Leastcode$Goal" 3 ⟨"java/lang/Object", "<init>", "()V"⟩, .instanceMethod ⟨"java/lang/Object", "<init>", "()V"⟩, .code ⟨"java/lang/Object", "<init>", "()V"⟩ object_method_1_code 1 none, .arrayClass .int, .laysFinal "Leastcode$Goal" "Leastcode$Goal" "wanted" "[I", .lays "Leastcode$Goal" "Leastcode$Goal" "liveParts" "I", .fieldLink "Leastcode$Goal" 9 "Leastcode$Goal" "wanted" "[I"]
theorem d_Goal_init_0 : decode b_Goal_init 0 = .ok (.aload_n 0, 1) := by decide +kernel
theorem d_Goal_init_1 : decode b_Goal_init 1 = .ok (.invokespecial 3, 3) := by decide +kernel
theorem d_Goal_init_4 : decode b_Goal_init 4 = .ok (.aload_n 0, 1) := by decide +kernel
theorem d_Goal_init_5 : decode b_Goal_init 5 = .ok (.sipush 128, 3) := by decide +kernel
theorem d_Goal_init_8 : decode b_Goal_init 8 = .ok (.newarray .int, 2) := by decide +kernel
theorem d_Goal_init_10 : decode b_Goal_init 10 = .ok (.putfield 9, 3) := by decide +kernel
theorem d_Goal_init_13 : decode b_Goal_init 13 = .ok (.return_, 1) := by decide +kernel
theorem in_Goal_init_GO : ∀ v ∈ u_ws R_GO T_GO 2, v ∈ w_Goal_init := by decide +kernel
set_option maxHeartbeats 4000000 in
set_option maxRecDepth 100000 in
theorem c_Goal_init (l : Launch) (dC : Nat → ClassId) (dI : Nat → Nat → Nat) (h0 : Nat) (sz : Nat) : Met l y_Goal_init w_Goal_init rm_Goal_init (va_Pc [.ref h0] (fun U => U.heap.size = sz ∧ va_P (dC, dI) classes [(h0, .inr (6, [.null, .int 0]))] U.heap ∧ va_K (dC, dI) classes [] U ∧ va_D (fun _ => True) [(h0, .inr (6, [.null, .int 0]))])) (va_Qv (fun (_ : Unit) => True) (fun _ t => ∃ q : Nat, va_P (dC, dI) classes [(h0, .inr (6, [.ref q, .int 0]))] t.heap ∧ va_K (dC, dI) classes [] t ∧ va_D (va_A [(h0, .inr (6, [.null, .int 0]))] sz) [(h0, .inr (6, [.ref q, .int 0]))]) (va_A [(h0, .inr (6, [.null, .int 0]))] sz)) 1 128 (va_A [(h0, .inr (6, [.null, .int 0]))] sz) := by
  refine Met.ofW (cc := b_Goal_init) (maxL := 1) (ret := none) (by decide) rfl ?_
  intro p e s m args below meth c s₁ B hml hv
  obtain ⟨rfl, hsz, hP, hK, hD0⟩ := hv
  have hx := B.exec
  have hb := B.bytes
  have hr := B.returns
  have hts := atoms_spec (ws := w_Goal_init) B.pre
  have hown : s.vm.findClass "Leastcode$Goal" = some m.cls := findClass_of_methodNamed B.named
  have hlocks := B.notSynchronized
  have hin : meth.name = "<init>" := (name_of_methodNamed B.named B.method).1
  subst hsz
  have hD := hD0.self (sz := s.heap.size)
  generalize hAe : va_A [(h0, .inr (6, [.null, .int 0]))] s.heap.size = A at hD ⊢
  have hA : ∀ q : Nat, s.heap.size ≤ q → A q := fun q h => by rw [← hAe]; exact Or.inr h
  have hS : va_S A s.heap s.heap [] := va_S.rf
  have hP : va_P (dC, dI) classes [(h0, .inr (6, [.null, .int 0]))] s.heap := hP
  have hl := lv_entry ([.ref h0]) (n := 1) (Nat.le_of_ble_eq_true rfl)
  rw [lg_entry_eq]
  generalize (lg_sl ([.ref h0]) ++ List.replicate (1 - (lg_sl ([.ref h0])).length) Slot.unset).toArray = ls at hl ⊢
  have hl : lv_has ls 1 [(0, .ref h0)] := hl
  refine lv_aload_n hx hb d_Goal_init_0 rfl (lv_at hl 0 rfl) ?_
  refine W.objInit hx hb hown (hts (.methodLink "Leastcode$Goal" 3 ⟨"java/lang/Object", "<init>", "()V"⟩) (List.mem_of_getElem? (i := 1) rfl)) (hts (.instanceMethod ⟨"java/lang/Object", "<init>", "()V"⟩) (List.mem_of_getElem? (i := 2) rfl)) (hts (.code ⟨"java/lang/Object", "<init>", "()V"⟩ object_method_1_code 1 none) (List.mem_of_getElem? (i := 3) rfl)) rfl (by rw [hml]; exact hl.1) rfl d_Goal_init_1 (Nat.le_of_ble_eq_true rfl) (Nat.le_of_ble_eq_true rfl) ?_
  refine W.eq (g2 := F0 m 4 ls []) rfl ?_
  refine lv_aload_n hx hb d_Goal_init_4 rfl (lv_at hl 0 rfl) ?_
  refine lv_sipush (v := 128) hx hb d_Goal_init_5 (by decide) ?_
  refine va_newa (D := (dC, dI)) (atype := .int) (a0 := (128, .inl (fun _ => 0))) (ty := .int) (N' := 128) hx hb (hts (.arrayClass .int) (List.mem_of_getElem? (i := 4) rfl)) rfl hK hP hD hS hA (fun cA => rfl) (by decide) (by decide) (Nat.le_of_ble_eq_true rfl) (Nat.le_of_ble_eq_true rfl) (Nat.le_of_ble_eq_true rfl) d_Goal_init_8 (fun q1 cA2 H hK hP hD hS => ?_)
  have hP : va_P (dC, dI) classes [(h0, .inr (6, [.null, .int 0])), (q1, .inl (cA2, 128, .inl (fun _ => 0)))] H := hP
  have hK : va_K (dC, dI) classes [(cA2, .int)] s := hK
  have hD : va_D A [(h0, .inr (6, [.null, .int 0])), (q1, .inl (cA2, 128, .inl (fun _ => 0)))] := hD
  refine W.widen (k := 1) (n := 128) (by omega) (by omega) ?_
  refine va_putF (D := (dC, dI)) (ci := 6) (v := .ref q1) (ty := .array .int) (C := R_GO) (T := T_GO) (N := 2) hx hb hts in_Goal_init_GO t_GO t_GO_ok n_GO hown hK hP hD hS 0 rfl rfl 0 (by decide) (hts (.fieldLink "Leastcode$Goal" 9 "Leastcode$Goal" "wanted" "[I") (List.mem_of_getElem? (i := 7) rfl)) (fun _ h9 => h9) rfl hin rfl (by decide +kernel) rfl rfl (Nat.le_of_ble_eq_true rfl) d_Goal_init_10 (fun H locs hP hD hS => ?_)
  have hP : va_P (dC, dI) classes [(h0, .inr (6, [.ref q1, .int 0])), (q1, .inl (cA2, 128, .inl (fun _ => 0)))] H := hP
  have hD : va_D A [(h0, .inr (6, [.ref q1, .int 0])), (q1, .inl (cA2, 128, .inl (fun _ => 0)))] := hD
  have hP9 : va_P (dC, dI) classes [(h0, .inr (6, [.ref q1, .int 0]))] H := hP.sub (ws' := [(h0, .inr (6, [.ref q1, .int 0]))]) [0] rfl
  have hD9 := hD.sub (ws' := [(h0, .inr (6, [.ref q1, .int 0]))]) [0] (by decide) rfl
  have hK9 := hK.sub (tys' := []) [] rfl
  refine W.widen (k := 1) (n := 128) (by omega) (by omega) ?_
  exact W.vret hx hb hr (fun t ht hW => ⟨⟨(), rfl, trivial, ⟨q1, ⟨by rw [ht]; exact hP9, va_K.moved hW.alike hK9, hD9⟩⟩⟩, hS.F ht⟩) hS.2.2 d_Goal_init_13

abbrev rm_Rule_init : Room := { frames := 2, cells := 8, slots := 40, locals := 32 }
abbrev b_Rule_init : ByteArray := prog_8_method_1_code
def y_Rule_init : MethodName := ⟨"Leastcode$Rule", "<init>", "()V"⟩
def w_Rule_init : List Cond := [.code ⟨"Leastcode$Rule", "<init>", "()V"⟩ prog_8_method_1_code 1 none, .methodLink "Leastcode$Rule" 1 ⟨"java/lang/Object", "<init>", "()V"⟩, .instanceMethod ⟨"java/lang/Object", "<init>", "()V"⟩, .code ⟨"java/lang/Object", "<init>", "()V"⟩ object_method_1_code 1 none, .laysFinal "Leastcode$Code" "Leastcode$Code" "numbers" "[I", .lays "Leastcode$Code" "Leastcode$Code" "length" "I", .classLink "Leastcode$Rule" 7 "Leastcode$Code", .instantiable "Leastcode$Code" 2, .initialized "Leastcode$Code", .code ⟨"Leastcode$Code", "<init>", "()V"⟩ prog_2_method_1_code 1 none, .methodLink "Leastcode$Code" 3 ⟨"java/lang/Object", "<init>", "()V"⟩, .arrayClass .int, .fieldLink "Leastcode$Code" 9 "Leastcode$Code" "numbers" "[I", .instanceMethod ⟨"Leastcode$Code", "<init>", "()V"⟩, .laysFinal "Leastcode$Rule" "Leastcode$Rule" "left" "LLeastcode$Code;", .laysFinal "Leastcode$Rule" "Leastcode$Rule" "right" "LLeastcode$Code;", .laysFinal "Leastcode$Rule" "Leastcode$Rule" "mirroredLeft" "LLeastcode$Code;", .laysFinal "Leastcode$Rule" "Leastcode$Rule" "mirroredRight" "LLeastcode$Code;", .lays "Leastcode$Rule" "Leastcode$Rule" "kept" "I", .lays "Leastcode$Rule" "Leastcode$Rule" "mirroredKept" "I", .lays "Leastcode$Rule" "Leastcode$Rule" "taken" "I", .fieldLink "Leastcode$Rule" 10 "Leastcode$Rule" "left" "LLeastcode$Code;", .fieldLink "Leastcode$Rule" 16 "Leastcode$Rule" "right" "LLeastcode$Code;", .fieldLink "Leastcode$Rule" 19 "Leastcode$Rule" "mirroredLeft" "LLeastcode$Code;", .fieldLink "Leastcode$Rule" 22 "Leastcode$Rule" "mirroredRight" "LLeastcode$Code;"]
theorem d_Rule_init_0 : decode b_Rule_init 0 = .ok (.aload_n 0, 1) := by decide +kernel
theorem d_Rule_init_1 : decode b_Rule_init 1 = .ok (.invokespecial 1, 3) := by decide +kernel
theorem d_Rule_init_4 : decode b_Rule_init 4 = .ok (.aload_n 0, 1) := by decide +kernel
theorem d_Rule_init_5 : decode b_Rule_init 5 = .ok (.new 7, 3) := by decide +kernel
theorem d_Rule_init_8 : decode b_Rule_init 8 = .ok (.dup, 1) := by decide +kernel
theorem d_Rule_init_9 : decode b_Rule_init 9 = .ok (.invokespecial 9, 3) := by decide +kernel
theorem d_Rule_init_12 : decode b_Rule_init 12 = .ok (.putfield 10, 3) := by decide +kernel
theorem d_Rule_init_15 : decode b_Rule_init 15 = .ok (.aload_n 0, 1) := by decide +kernel
theorem d_Rule_init_16 : decode b_Rule_init 16 = .ok (.new 7, 3) := by decide +kernel
theorem d_Rule_init_19 : decode b_Rule_init 19 = .ok (.dup, 1) := by decide +kernel
theorem d_Rule_init_20 : decode b_Rule_init 20 = .ok (.invokespecial 9, 3) := by decide +kernel
theorem d_Rule_init_23 : decode b_Rule_init 23 = .ok (.putfield 16, 3) := by decide +kernel
theorem d_Rule_init_26 : decode b_Rule_init 26 = .ok (.aload_n 0, 1) := by decide +kernel
theorem d_Rule_init_27 : decode b_Rule_init 27 = .ok (.new 7, 3) := by decide +kernel
theorem d_Rule_init_30 : decode b_Rule_init 30 = .ok (.dup, 1) := by decide +kernel
theorem d_Rule_init_31 : decode b_Rule_init 31 = .ok (.invokespecial 9, 3) := by decide +kernel
theorem d_Rule_init_34 : decode b_Rule_init 34 = .ok (.putfield 19, 3) := by decide +kernel
theorem d_Rule_init_37 : decode b_Rule_init 37 = .ok (.aload_n 0, 1) := by decide +kernel
theorem d_Rule_init_38 : decode b_Rule_init 38 = .ok (.new 7, 3) := by decide +kernel
theorem d_Rule_init_41 : decode b_Rule_init 41 = .ok (.dup, 1) := by decide +kernel
theorem d_Rule_init_42 : decode b_Rule_init 42 = .ok (.invokespecial 9, 3) := by decide +kernel
theorem d_Rule_init_45 : decode b_Rule_init 45 = .ok (.putfield 22, 3) := by decide +kernel
theorem d_Rule_init_48 : decode b_Rule_init 48 = .ok (.return_, 1) := by decide +kernel
theorem in_Rule_init_CO : ∀ v ∈ u_ws R_CO T_CO 2, v ∈ w_Rule_init := by decide +kernel
theorem in_Rule_init_RU : ∀ v ∈ u_ws R_RU T_RU 7, v ∈ w_Rule_init := by decide +kernel
set_option maxRecDepth 20000 in
theorem g_Rule_init_9 : GoodIn w_Rule_init (w_Code_init) := goodIn_r _ [9, 10, 2, 3, 11, 4, 5, 12] rfl (by decide +kernel)
set_option maxRecDepth 20000 in
theorem g_Rule_init_20 : GoodIn w_Rule_init (w_Code_init) := goodIn_r _ [9, 10, 2, 3, 11, 4, 5, 12] rfl (by decide +kernel)
set_option maxRecDepth 20000 in
theorem g_Rule_init_31 : GoodIn w_Rule_init (w_Code_init) := goodIn_r _ [9, 10, 2, 3, 11, 4, 5, 12] rfl (by decide +kernel)
set_option maxRecDepth 20000 in
theorem g_Rule_init_42 : GoodIn w_Rule_init (w_Code_init) := goodIn_r _ [9, 10, 2, 3, 11, 4, 5, 12] rfl (by decide +kernel)
set_option maxHeartbeats 4000000 in
set_option maxRecDepth 100000 in
theorem c_Rule_init (l : Launch) (dC : Nat → ClassId) (dI : Nat → Nat → Nat) (h0 : Nat) (sz : Nat) : Met l y_Rule_init w_Rule_init rm_Rule_init (va_Pc [.ref h0] (fun U => U.heap.size = sz ∧ va_P (dC, dI) classes [(h0, .inr (7, [.null, .null, .null, .null, .int 0, .int 0, .int 0]))] U.heap ∧ va_K (dC, dI) classes [] U ∧ va_D (fun _ => True) [(h0, .inr (7, [.null, .null, .null, .null, .int 0, .int 0, .int 0]))] ∧ va_Nw (.methodLinkNest "Leastcode$Rule" 9 ⟨"Leastcode$Code", "<init>", "()V"⟩ "Leastcode") U)) (va_Qv (fun (_ : Unit) => True) (fun _ t => ∃ qa : Nat, ∃ qb : Nat, ∃ qc : Nat, ∃ qd : Nat, va_P (dC, dI) classes [(h0, .inr (7, [.ref qa, .ref qb, .ref qc, .ref qd, .int 0, .int 0, .int 0]))] t.heap ∧ va_K (dC, dI) classes [] t ∧ va_D (va_A [(h0, .inr (7, [.null, .null, .null, .null, .int 0, .int 0, .int 0]))] sz) [(h0, .inr (7, [.ref qa, .ref qb, .ref qc, .ref qd, .int 0, .int 0, .int 0]))]) (va_A [(h0, .inr (7, [.null, .null, .null, .null, .int 0, .int 0, .int 0]))] sz)) 8 40 (va_A [(h0, .inr (7, [.null, .null, .null, .null, .int 0, .int 0, .int 0]))] sz) := by
  refine Met.ofW (cc := b_Rule_init) (maxL := 1) (ret := none) (by decide) rfl ?_
  intro p e s m args below meth c s₁ B hml hv
  obtain ⟨rfl, hsz, hP, hK, hD0, hE0⟩ := hv
  have hx := B.exec
  have hb := B.bytes
  have hr := B.returns
  have hts := atoms_spec (ws := w_Rule_init) B.pre
  have hown : s.vm.findClass "Leastcode$Rule" = some m.cls := findClass_of_methodNamed B.named
  have hlocks := B.notSynchronized
  have hin : meth.name = "<init>" := (name_of_methodNamed B.named B.method).1
  subst hsz
  have hD := hD0.self (sz := s.heap.size)
  generalize hAe : va_A [(h0, .inr (7, [.null, .null, .null, .null, .int 0, .int 0, .int 0]))] s.heap.size = A at hD hE0 ⊢
  have hA : ∀ q : Nat, s.heap.size ≤ q → A q := fun q h => by rw [← hAe]; exact Or.inr h
  have hS : va_S A s.heap s.heap [] := va_S.rf
  have hP : va_P (dC, dI) classes [(h0, .inr (7, [.null, .null, .null, .null, .int 0, .int 0, .int 0]))] s.heap := hP
  have hl := lv_entry ([.ref h0]) (n := 1) (Nat.le_of_ble_eq_true rfl)
  rw [lg_entry_eq]
  generalize (lg_sl ([.ref h0]) ++ List.replicate (1 - (lg_sl ([.ref h0])).length) Slot.unset).toArray = ls at hl ⊢
  have hl : lv_has ls 1 [(0, .ref h0)] := hl
  refine lv_aload_n hx hb d_Rule_init_0 rfl (lv_at hl 0 rfl) ?_
  refine W.objInit hx hb hown (hts (.methodLink "Leastcode$Rule" 1 ⟨"java/lang/Object", "<init>", "()V"⟩) (List.mem_of_getElem? (i := 1) rfl)) (hts (.instanceMethod ⟨"java/lang/Object", "<init>", "()V"⟩) (List.mem_of_getElem? (i := 2) rfl)) (hts (.code ⟨"java/lang/Object", "<init>", "()V"⟩ object_method_1_code 1 none) (List.mem_of_getElem? (i := 3) rfl)) rfl (by rw [hml]; exact hl.1) rfl d_Rule_init_1 (Nat.le_of_ble_eq_true rfl) (Nat.le_of_ble_eq_true rfl) ?_
  refine W.eq (g2 := F0 m 4 ls []) rfl ?_
  refine lv_aload_n hx hb d_Rule_init_4 rfl (lv_at hl 0 rfl) ?_
  refine va_new (D := (dC, dI)) (ci := 2) (fs := [.null, .int 0]) (C := R_CO) (T := T_CO) (N := 2) hx hb hts in_Rule_init_CO t_CO t_CO_ok hown (hts (.classLink "Leastcode$Rule" 7 "Leastcode$Code") (List.mem_of_getElem? (i := 6) rfl)) (hts (.instantiable "Leastcode$Code" 2) (List.mem_of_getElem? (i := 7) rfl)) (hts (.initialized "Leastcode$Code") (List.mem_of_getElem? (i := 8) rfl)) hK hP hD hS hA rfl (fun j hj => by rcases (show j = 0 ∨ j = 1 by omega) with rfl | rfl <;> rfl) (Nat.le_of_ble_eq_true rfl) (Nat.le_of_ble_eq_true rfl) d_Rule_init_5 (fun q1 H hP hD hS => ?_)
  have hP : va_P (dC, dI) classes [(h0, .inr (7, [.null, .null, .null, .null, .int 0, .int 0, .int 0])), (q1, .inr (2, [.null, .int 0]))] H := hP
  have hD : va_D A [(h0, .inr (7, [.null, .null, .null, .null, .int 0, .int 0, .int 0])), (q1, .inr (2, [.null, .int 0]))] := hD
  refine W.widen (k := 1) (n := 2) (by omega) (by omega) ?_
  refine lv_dup hx hb d_Rule_init_8 rfl ?_
  have hPc : va_P (dC, dI) classes [(q1, .inr (2, [.null, .int 0]))] _ := hP.sub (ws' := [(q1, .inr (2, [.null, .int 0]))]) [1] rfl
  have hKc : va_K (dC, dI) classes [] s := hK.sub (tys' := []) [] rfl
  have hDc : va_D _ [(q1, .inr (2, [.null, .int 0]))] := hD.sub (ws' := [(q1, .inr (2, [.null, .int 0]))]) [1] (by decide) rfl
  have hFc := va_free (wc := [(q1, .inr (2, [.null, .int 0]))]) hD hS hA [1] rfl
  refine va_callv (va_runIN (As := []) (rest := [.ref q1, .ref h0]) ⟨hx, hb, hml, hown, hts⟩ (c_Code_init l dC dI q1 H.size) ⟨va_cnB 0 hts g_Rule_init_9 rfl rfl rfl hE0 (hts (.initialized "Leastcode$Code") (List.mem_of_getElem? (i := 8) rfl)) (by decide +kernel) ⟨Nat.le_of_ble_eq_true rfl, Nat.le_of_ble_eq_true rfl⟩, rfl, (hts (.instanceMethod ⟨"Leastcode$Code", "<init>", "()V"⟩) (List.mem_of_getElem? (i := 13) rfl))⟩ ⟨fun a U g mk z => by obtain ⟨z0, z1, zP, zK, zD⟩ := z; exact ⟨z0, z1, zP, va_K.moved (u := U) (U := U.calling g mk a) (Vm.Alike.refl U.vm) zK, zD⟩, fun U hU hW => ⟨rfl, by rw [hU], by rw [hU]; exact hPc, va_K.moved hW.alike hKc, hDc.weaken (fun _ _ _ _ => trivial)⟩⟩ rfl rfl hl.1 rfl (lv_room (Nat.le_of_ble_eq_true rfl)) d_Rule_init_9 ⟨(Nat.le_of_ble_eq_true rfl), (Nat.le_of_ble_eq_true rfl)⟩) hS (fun q _ h => hFc q h) hFc (fun u t H1 locs ht hvm hr2 hB hz1 hk1 hS => ?_)
  obtain ⟨q3, cA4, hP1, hK1, hD1⟩ := hB
  rw [ht] at hP1
  have hK1 := va_K.moved hvm.symm hK1
  obtain ⟨hP, hD⟩ := va_join (wr := [(h0, .inr (7, [.null, .null, .null, .null, .int 0, .int 0, .int 0]))]) (w1 := [(q1, .inr (2, [.ref q3, .int 0])), (q3, .inl (cA4, 8, .inl (fun _ => 0)))]) hP hD [1] [0] rfl rfl (by decide) (by decide) hk1 hFc hP1 hD1
  have hK := hK.app (hK1.sub (tys' := [(cA4, .int)]) [0] rfl)
  have hK : va_K (dC, dI) classes [(cA4, .int)] s := hK
  clear hPc hDc hKc hFc hP1 hD1 hK1 hk1
  generalize H1 = H at hP hS ⊢
  have hP : va_P (dC, dI) classes [(h0, .inr (7, [.null, .null, .null, .null, .int 0, .int 0, .int 0])), (q1, .inr (2, [.ref q3, .int 0])), (q3, .inl (cA4, 8, .inl (fun _ => 0)))] H := hP
  have hD : va_D A [(h0, .inr (7, [.null, .null, .null, .null, .int 0, .int 0, .int 0])), (q1, .inr (2, [.ref q3, .int 0])), (q3, .inl (cA4, 8, .inl (fun _ => 0)))] := hD
  refine W.widen (k := 2) (n := 10) (by omega) (by omega) ?_
  refine va_putF (D := (dC, dI)) (ci := 7) (v := .ref q1) (ty := .object "Leastcode$Code") (C := R_RU) (T := T_RU) (N := 7) hx hb hts in_Rule_init_RU t_RU t_RU_ok n_RU hown hK hP hD hS 0 rfl rfl 0 (by decide) (hts (.fieldLink "Leastcode$Rule" 10 "Leastcode$Rule" "left" "LLeastcode$Code;") (List.mem_of_getElem? (i := 21) rfl)) (fun _ h9 => h9) rfl hin rfl (by decide +kernel) rfl rfl (Nat.le_of_ble_eq_true rfl) d_Rule_init_12 (fun H locs hP hD hS => ?_)
  have hP : va_P (dC, dI) classes [(h0, .inr (7, [.ref q1, .null, .null, .null, .int 0, .int 0, .int 0])), (q1, .inr (2, [.ref q3, .int 0])), (q3, .inl (cA4, 8, .inl (fun _ => 0)))] H := hP
  have hD : va_D A [(h0, .inr (7, [.ref q1, .null, .null, .null, .int 0, .int 0, .int 0])), (q1, .inr (2, [.ref q3, .int 0])), (q3, .inl (cA4, 8, .inl (fun _ => 0)))] := hD
  refine lv_aload_n hx hb d_Rule_init_15 rfl (lv_at hl 0 rfl) ?_
  refine va_new (D := (dC, dI)) (ci := 2) (fs := [.null, .int 0]) (C := R_CO) (T := T_CO) (N := 2) hx hb hts in_Rule_init_CO t_CO t_CO_ok hown (hts (.classLink "Leastcode$Rule" 7 "Leastcode$Code") (List.mem_of_getElem? (i := 6) rfl)) (hts (.instantiable "Leastcode$Code" 2) (List.mem_of_getElem? (i := 7) rfl)) (hts (.initialized "Leastcode$Code") (List.mem_of_getElem? (i := 8) rfl)) hK hP hD hS hA rfl (fun j hj => by rcases (show j = 0 ∨ j = 1 by omega) with rfl | rfl <;> rfl) (Nat.le_of_ble_eq_true rfl) (Nat.le_of_ble_eq_true rfl) d_Rule_init_16 (fun q5 H hP hD hS => ?_)
  have hP : va_P (dC, dI) classes [(h0, .inr (7, [.ref q1, .null, .null, .null, .int 0, .int 0, .int 0])), (q1, .inr (2, [.ref q3, .int 0])), (q3, .inl (cA4, 8, .inl (fun _ => 0))), (q5, .inr (2, [.null, .int 0]))] H := hP
  have hD : va_D A [(h0, .inr (7, [.ref q1, .null, .null, .null, .int 0, .int 0, .int 0])), (q1, .inr (2, [.ref q3, .int 0])), (q3, .inl (cA4, 8, .inl (fun _ => 0))), (q5, .inr (2, [.null, .int 0]))] := hD
  refine W.widen (k := 3) (n := 12) (by omega) (by omega) ?_
  refine lv_dup hx hb d_Rule_init_19 rfl ?_
  have hPc : va_P (dC, dI) classes [(q5, .inr (2, [.null, .int 0]))] _ := hP.sub (ws' := [(q5, .inr (2, [.null, .int 0]))]) [3] rfl
  have hKc : va_K (dC, dI) classes [] s := hK.sub (tys' := []) [] rfl
  have hDc : va_D _ [(q5, .inr (2, [.null, .int 0]))] := hD.sub (ws' := [(q5, .inr (2, [.null, .int 0]))]) [3] (by decide) rfl
  have hFc := va_free (wc := [(q5, .inr (2, [.null, .int 0]))]) hD hS hA [3] rfl
  refine va_callv (va_runIN (As := []) (rest := [.ref q5, .ref h0]) ⟨hx, hb, hml, hown, hts⟩ (c_Code_init l dC dI q5 H.size) ⟨va_cnB 0 hts g_Rule_init_20 rfl rfl rfl hE0 (hts (.initialized "Leastcode$Code") (List.mem_of_getElem? (i := 8) rfl)) (by decide +kernel) ⟨Nat.le_of_ble_eq_true rfl, Nat.le_of_ble_eq_true rfl⟩, rfl, (hts (.instanceMethod ⟨"Leastcode$Code", "<init>", "()V"⟩) (List.mem_of_getElem? (i := 13) rfl))⟩ ⟨fun a U g mk z => by obtain ⟨z0, z1, zP, zK, zD⟩ := z; exact ⟨z0, z1, zP, va_K.moved (u := U) (U := U.calling g mk a) (Vm.Alike.refl U.vm) zK, zD⟩, fun U hU hW => ⟨rfl, by rw [hU], by rw [hU]; exact hPc, va_K.moved hW.alike hKc, hDc.weaken (fun _ _ _ _ => trivial)⟩⟩ rfl rfl hl.1 rfl (lv_room (Nat.le_of_ble_eq_true rfl)) d_Rule_init_20 ⟨(Nat.le_of_ble_eq_true rfl), (Nat.le_of_ble_eq_true rfl)⟩) hS (fun q _ h => hFc q h) hFc (fun u t H1 locs ht hvm hr6 hB hz1 hk1 hS => ?_)
  obtain ⟨q7, cA8, hP1, hK1, hD1⟩ := hB
  rw [ht] at hP1
  have hK1 := va_K.moved hvm.symm hK1
  obtain ⟨hP, hD⟩ := va_join (wr := [(h0, .inr (7, [.ref q1, .null, .null, .null, .int 0, .int 0, .int 0])), (q1, .inr (2, [.ref q3, .int 0])), (q3, .inl (cA4, 8, .inl (fun _ => 0)))]) (w1 := [(q5, .inr (2, [.ref q7, .int 0])), (q7, .inl (cA8, 8, .inl (fun _ => 0)))]) hP hD [3] [0, 1, 2] rfl rfl (by decide) (by decide) hk1 hFc hP1 hD1
  have hK := hK.app (hK1.sub (tys' := [(cA8, .int)]) [0] rfl)
  have hK : va_K (dC, dI) classes [(cA4, .int), (cA8, .int)] s := hK
  clear hPc hDc hKc hFc hP1 hD1 hK1 hk1
  generalize H1 = H at hP hS ⊢
  have hP : va_P (dC, dI) classes [(h0, .inr (7, [.ref q1, .null, .null, .null, .int 0, .int 0, .int 0])), (q1, .inr (2, [.ref q3, .int 0])), (q3, .inl (cA4, 8, .inl (fun _ => 0))), (q5, .inr (2, [.ref q7, .int 0])), (q7, .inl (cA8, 8, .inl (fun _ => 0)))] H := hP
  have hD : va_D A [(h0, .inr (7, [.ref q1, .null, .null, .null, .int 0, .int 0, .int 0])), (q1, .inr (2, [.ref q3, .int 0])), (q3, .inl (cA4, 8, .inl (fun _ => 0))), (q5, .inr (2, [.ref q7, .int 0])), (q7, .inl (cA8, 8, .inl (fun _ => 0)))] := hD
  refine W.widen (k := 4) (n := 20) (by omega) (by omega) ?_
  refine va_putF (D := (dC, dI)) (ci := 7) (v := .ref q5) (ty := .object "Leastcode$Code") (C := R_RU) (T := T_RU) (N := 7) hx hb hts in_Rule_init_RU t_RU t_RU_ok n_RU hown hK hP hD hS 0 rfl rfl 1 (by decide) (hts (.fieldLink "Leastcode$Rule" 16 "Leastcode$Rule" "right" "LLeastcode$Code;") (List.mem_of_getElem? (i := 22) rfl)) (fun _ h9 => h9) rfl hin rfl (by decide +kernel) rfl rfl (Nat.le_of_ble_eq_true rfl) d_Rule_init_23 (fun H locs hP hD hS => ?_)
  have hP : va_P (dC, dI) classes [(h0, .inr (7, [.ref q1, .ref q5, .null, .null, .int 0, .int 0, .int 0])), (q1, .inr (2, [.ref q3, .int 0])), (q3, .inl (cA4, 8, .inl (fun _ => 0))), (q5, .inr (2, [.ref q7, .int 0])), (q7, .inl (cA8, 8, .inl (fun _ => 0)))] H := hP
  have hD : va_D A [(h0, .inr (7, [.ref q1, .ref q5, .null, .null, .int 0, .int 0, .int 0])), (q1, .inr (2, [.ref q3, .int 0])), (q3, .inl (cA4, 8, .inl (fun _ => 0))), (q5, .inr (2, [.ref q7, .int 0])), (q7, .inl (cA8, 8, .inl (fun _ => 0)))] := hD
  refine lv_aload_n hx hb d_Rule_init_26 rfl (lv_at hl 0 rfl) ?_
  refine va_new (D := (dC, dI)) (ci := 2) (fs := [.null, .int 0]) (C := R_CO) (T := T_CO) (N := 2) hx hb hts in_Rule_init_CO t_CO t_CO_ok hown (hts (.classLink "Leastcode$Rule" 7 "Leastcode$Code") (List.mem_of_getElem? (i := 6) rfl)) (hts (.instantiable "Leastcode$Code" 2) (List.mem_of_getElem? (i := 7) rfl)) (hts (.initialized "Leastcode$Code") (List.mem_of_getElem? (i := 8) rfl)) hK hP hD hS hA rfl (fun j hj => by rcases (show j = 0 ∨ j = 1 by omega) with rfl | rfl <;> rfl) (Nat.le_of_ble_eq_true rfl) (Nat.le_of_ble_eq_true rfl) d_Rule_init_27 (fun q9 H hP hD hS => ?_)
  have hP : va_P (dC, dI) classes [(h0, .inr (7, [.ref q1, .ref q5, .null, .null, .int 0, .int 0, .int 0])), (q1, .inr (2, [.ref q3, .int 0])), (q3, .inl (cA4, 8, .inl (fun _ => 0))), (q5, .inr (2, [.ref q7, .int 0])), (q7, .inl (cA8, 8, .inl (fun _ => 0))), (q9, .inr (2, [.null, .int 0]))] H := hP
  have hD : va_D A [(h0, .inr (7, [.ref q1, .ref q5, .null, .null, .int 0, .int 0, .int 0])), (q1, .inr (2, [.ref q3, .int 0])), (q3, .inl (cA4, 8, .inl (fun _ => 0))), (q5, .inr (2, [.ref q7, .int 0])), (q7, .inl (cA8, 8, .inl (fun _ => 0))), (q9, .inr (2, [.null, .int 0]))] := hD
  refine W.widen (k := 5) (n := 22) (by omega) (by omega) ?_
  refine lv_dup hx hb d_Rule_init_30 rfl ?_
  have hPc : va_P (dC, dI) classes [(q9, .inr (2, [.null, .int 0]))] _ := hP.sub (ws' := [(q9, .inr (2, [.null, .int 0]))]) [5] rfl
  have hKc : va_K (dC, dI) classes [] s := hK.sub (tys' := []) [] rfl
  have hDc : va_D _ [(q9, .inr (2, [.null, .int 0]))] := hD.sub (ws' := [(q9, .inr (2, [.null, .int 0]))]) [5] (by decide) rfl
  have hFc := va_free (wc := [(q9, .inr (2, [.null, .int 0]))]) hD hS hA [5] rfl
  refine va_callv (va_runIN (As := []) (rest := [.ref q9, .ref h0]) ⟨hx, hb, hml, hown, hts⟩ (c_Code_init l dC dI q9 H.size) ⟨va_cnB 0 hts g_Rule_init_31 rfl rfl rfl hE0 (hts (.initialized "Leastcode$Code") (List.mem_of_getElem? (i := 8) rfl)) (by decide +kernel) ⟨Nat.le_of_ble_eq_true rfl, Nat.le_of_ble_eq_true rfl⟩, rfl, (hts (.instanceMethod ⟨"Leastcode$Code", "<init>", "()V"⟩) (List.mem_of_getElem? (i := 13) rfl))⟩ ⟨fun a U g mk z => by obtain ⟨z0, z1, zP, zK, zD⟩ := z; exact ⟨z0, z1, zP, va_K.moved (u := U) (U := U.calling g mk a) (Vm.Alike.refl U.vm) zK, zD⟩, fun U hU hW => ⟨rfl, by rw [hU], by rw [hU]; exact hPc, va_K.moved hW.alike hKc, hDc.weaken (fun _ _ _ _ => trivial)⟩⟩ rfl rfl hl.1 rfl (lv_room (Nat.le_of_ble_eq_true rfl)) d_Rule_init_31 ⟨(Nat.le_of_ble_eq_true rfl), (Nat.le_of_ble_eq_true rfl)⟩) hS (fun q _ h => hFc q h) hFc (fun u t H1 locs ht hvm hr10 hB hz1 hk1 hS => ?_)
  obtain ⟨q11, cA12, hP1, hK1, hD1⟩ := hB
  rw [ht] at hP1
  have hK1 := va_K.moved hvm.symm hK1
  obtain ⟨hP, hD⟩ := va_join (wr := [(h0, .inr (7, [.ref q1, .ref q5, .null, .null, .int 0, .int 0, .int 0])), (q1, .inr (2, [.ref q3, .int 0])), (q3, .inl (cA4, 8, .inl (fun _ => 0))), (q5, .inr (2, [.ref q7, .int 0])), (q7, .inl (cA8, 8, .inl (fun _ => 0)))]) (w1 := [(q9, .inr (2, [.ref q11, .int 0])), (q11, .inl (cA12, 8, .inl (fun _ => 0)))]) hP hD [5] [0, 1, 2, 3, 4] rfl rfl (by decide) (by decide) hk1 hFc hP1 hD1
  have hK := hK.app (hK1.sub (tys' := [(cA12, .int)]) [0] rfl)
  have hK : va_K (dC, dI) classes [(cA4, .int), (cA8, .int), (cA12, .int)] s := hK
  clear hPc hDc hKc hFc hP1 hD1 hK1 hk1
  generalize H1 = H at hP hS ⊢
  have hP : va_P (dC, dI) classes [(h0, .inr (7, [.ref q1, .ref q5, .null, .null, .int 0, .int 0, .int 0])), (q1, .inr (2, [.ref q3, .int 0])), (q3, .inl (cA4, 8, .inl (fun _ => 0))), (q5, .inr (2, [.ref q7, .int 0])), (q7, .inl (cA8, 8, .inl (fun _ => 0))), (q9, .inr (2, [.ref q11, .int 0])), (q11, .inl (cA12, 8, .inl (fun _ => 0)))] H := hP
  have hD : va_D A [(h0, .inr (7, [.ref q1, .ref q5, .null, .null, .int 0, .int 0, .int 0])), (q1, .inr (2, [.ref q3, .int 0])), (q3, .inl (cA4, 8, .inl (fun _ => 0))), (q5, .inr (2, [.ref q7, .int 0])), (q7, .inl (cA8, 8, .inl (fun _ => 0))), (q9, .inr (2, [.ref q11, .int 0])), (q11, .inl (cA12, 8, .inl (fun _ => 0)))] := hD
  refine W.widen (k := 6) (n := 30) (by omega) (by omega) ?_
  refine va_putF (D := (dC, dI)) (ci := 7) (v := .ref q9) (ty := .object "Leastcode$Code") (C := R_RU) (T := T_RU) (N := 7) hx hb hts in_Rule_init_RU t_RU t_RU_ok n_RU hown hK hP hD hS 0 rfl rfl 2 (by decide) (hts (.fieldLink "Leastcode$Rule" 19 "Leastcode$Rule" "mirroredLeft" "LLeastcode$Code;") (List.mem_of_getElem? (i := 23) rfl)) (fun _ h9 => h9) rfl hin rfl (by decide +kernel) rfl rfl (Nat.le_of_ble_eq_true rfl) d_Rule_init_34 (fun H locs hP hD hS => ?_)
  have hP : va_P (dC, dI) classes [(h0, .inr (7, [.ref q1, .ref q5, .ref q9, .null, .int 0, .int 0, .int 0])), (q1, .inr (2, [.ref q3, .int 0])), (q3, .inl (cA4, 8, .inl (fun _ => 0))), (q5, .inr (2, [.ref q7, .int 0])), (q7, .inl (cA8, 8, .inl (fun _ => 0))), (q9, .inr (2, [.ref q11, .int 0])), (q11, .inl (cA12, 8, .inl (fun _ => 0)))] H := hP
  have hD : va_D A [(h0, .inr (7, [.ref q1, .ref q5, .ref q9, .null, .int 0, .int 0, .int 0])), (q1, .inr (2, [.ref q3, .int 0])), (q3, .inl (cA4, 8, .inl (fun _ => 0))), (q5, .inr (2, [.ref q7, .int 0])), (q7, .inl (cA8, 8, .inl (fun _ => 0))), (q9, .inr (2, [.ref q11, .int 0])), (q11, .inl (cA12, 8, .inl (fun _ => 0)))] := hD
  refine lv_aload_n hx hb d_Rule_init_37 rfl (lv_at hl 0 rfl) ?_
  refine va_new (D := (dC, dI)) (ci := 2) (fs := [.null, .int 0]) (C := R_CO) (T := T_CO) (N := 2) hx hb hts in_Rule_init_CO t_CO t_CO_ok hown (hts (.classLink "Leastcode$Rule" 7 "Leastcode$Code") (List.mem_of_getElem? (i := 6) rfl)) (hts (.instantiable "Leastcode$Code" 2) (List.mem_of_getElem? (i := 7) rfl)) (hts (.initialized "Leastcode$Code") (List.mem_of_getElem? (i := 8) rfl)) hK hP hD hS hA rfl (fun j hj => by rcases (show j = 0 ∨ j = 1 by omega) with rfl | rfl <;> rfl) (Nat.le_of_ble_eq_true rfl) (Nat.le_of_ble_eq_true rfl) d_Rule_init_38 (fun q13 H hP hD hS => ?_)
  have hP : va_P (dC, dI) classes [(h0, .inr (7, [.ref q1, .ref q5, .ref q9, .null, .int 0, .int 0, .int 0])), (q1, .inr (2, [.ref q3, .int 0])), (q3, .inl (cA4, 8, .inl (fun _ => 0))), (q5, .inr (2, [.ref q7, .int 0])), (q7, .inl (cA8, 8, .inl (fun _ => 0))), (q9, .inr (2, [.ref q11, .int 0])), (q11, .inl (cA12, 8, .inl (fun _ => 0))), (q13, .inr (2, [.null, .int 0]))] H := hP
  have hD : va_D A [(h0, .inr (7, [.ref q1, .ref q5, .ref q9, .null, .int 0, .int 0, .int 0])), (q1, .inr (2, [.ref q3, .int 0])), (q3, .inl (cA4, 8, .inl (fun _ => 0))), (q5, .inr (2, [.ref q7, .int 0])), (q7, .inl (cA8, 8, .inl (fun _ => 0))), (q9, .inr (2, [.ref q11, .int 0])), (q11, .inl (cA12, 8, .inl (fun _ => 0))), (q13, .inr (2, [.null, .int 0]))] := hD
  refine W.widen (k := 7) (n := 32) (by omega) (by omega) ?_
  refine lv_dup hx hb d_Rule_init_41 rfl ?_
  have hPc : va_P (dC, dI) classes [(q13, .inr (2, [.null, .int 0]))] _ := hP.sub (ws' := [(q13, .inr (2, [.null, .int 0]))]) [7] rfl
  have hKc : va_K (dC, dI) classes [] s := hK.sub (tys' := []) [] rfl
  have hDc : va_D _ [(q13, .inr (2, [.null, .int 0]))] := hD.sub (ws' := [(q13, .inr (2, [.null, .int 0]))]) [7] (by decide) rfl
  have hFc := va_free (wc := [(q13, .inr (2, [.null, .int 0]))]) hD hS hA [7] rfl
  refine va_callv (va_runIN (As := []) (rest := [.ref q13, .ref h0]) ⟨hx, hb, hml, hown, hts⟩ (c_Code_init l dC dI q13 H.size) ⟨va_cnB 0 hts g_Rule_init_42 rfl rfl rfl hE0 (hts (.initialized "Leastcode$Code") (List.mem_of_getElem? (i := 8) rfl)) (by decide +kernel) ⟨Nat.le_of_ble_eq_true rfl, Nat.le_of_ble_eq_true rfl⟩, rfl, (hts (.instanceMethod ⟨"Leastcode$Code", "<init>", "()V"⟩) (List.mem_of_getElem? (i := 13) rfl))⟩ ⟨fun a U g mk z => by obtain ⟨z0, z1, zP, zK, zD⟩ := z; exact ⟨z0, z1, zP, va_K.moved (u := U) (U := U.calling g mk a) (Vm.Alike.refl U.vm) zK, zD⟩, fun U hU hW => ⟨rfl, by rw [hU], by rw [hU]; exact hPc, va_K.moved hW.alike hKc, hDc.weaken (fun _ _ _ _ => trivial)⟩⟩ rfl rfl hl.1 rfl (lv_room (Nat.le_of_ble_eq_true rfl)) d_Rule_init_42 ⟨(Nat.le_of_ble_eq_true rfl), (Nat.le_of_ble_eq_true rfl)⟩) hS (fun q _ h => hFc q h) hFc (fun u t H1 locs ht hvm hr14 hB hz1 hk1 hS => ?_)
  obtain ⟨q15, cA16, hP1, hK1, hD1⟩ := hB
  rw [ht] at hP1
  have hK1 := va_K.moved hvm.symm hK1
  obtain ⟨hP, hD⟩ := va_join (wr := [(h0, .inr (7, [.ref q1, .ref q5, .ref q9, .null, .int 0, .int 0, .int 0])), (q1, .inr (2, [.ref q3, .int 0])), (q3, .inl (cA4, 8, .inl (fun _ => 0))), (q5, .inr (2, [.ref q7, .int 0])), (q7, .inl (cA8, 8, .inl (fun _ => 0))), (q9, .inr (2, [.ref q11, .int 0])), (q11, .inl (cA12, 8, .inl (fun _ => 0)))]) (w1 := [(q13, .inr (2, [.ref q15, .int 0])), (q15, .inl (cA16, 8, .inl (fun _ => 0)))]) hP hD [7] [0, 1, 2, 3, 4, 5, 6] rfl rfl (by decide) (by decide) hk1 hFc hP1 hD1
  have hK := hK.app (hK1.sub (tys' := [(cA16, .int)]) [0] rfl)
  have hK : va_K (dC, dI) classes [(cA4, .int), (cA8, .int), (cA12, .int), (cA16, .int)] s := hK
  clear hPc hDc hKc hFc hP1 hD1 hK1 hk1
  generalize H1 = H at hP hS ⊢
  have hP : va_P (dC, dI) classes [(h0, .inr (7, [.ref q1, .ref q5, .ref q9, .null, .int 0, .int 0, .int 0])), (q1, .inr (2, [.ref q3, .int 0])), (q3, .inl (cA4, 8, .inl (fun _ => 0))), (q5, .inr (2, [.ref q7, .int 0])), (q7, .inl (cA8, 8, .inl (fun _ => 0))), (q9, .inr (2, [.ref q11, .int 0])), (q11, .inl (cA12, 8, .inl (fun _ => 0))), (q13, .inr (2, [.ref q15, .int 0])), (q15, .inl (cA16, 8, .inl (fun _ => 0)))] H := hP
  have hD : va_D A [(h0, .inr (7, [.ref q1, .ref q5, .ref q9, .null, .int 0, .int 0, .int 0])), (q1, .inr (2, [.ref q3, .int 0])), (q3, .inl (cA4, 8, .inl (fun _ => 0))), (q5, .inr (2, [.ref q7, .int 0])), (q7, .inl (cA8, 8, .inl (fun _ => 0))), (q9, .inr (2, [.ref q11, .int 0])), (q11, .inl (cA12, 8, .inl (fun _ => 0))), (q13, .inr (2, [.ref q15, .int 0])), (q15, .inl (cA16, 8, .inl (fun _ => 0)))] := hD
  refine W.widen (k := 8) (n := 40) (by omega) (by omega) ?_
  refine va_putF (D := (dC, dI)) (ci := 7) (v := .ref q13) (ty := .object "Leastcode$Code") (C := R_RU) (T := T_RU) (N := 7) hx hb hts in_Rule_init_RU t_RU t_RU_ok n_RU hown hK hP hD hS 0 rfl rfl 3 (by decide) (hts (.fieldLink "Leastcode$Rule" 22 "Leastcode$Rule" "mirroredRight" "LLeastcode$Code;") (List.mem_of_getElem? (i := 24) rfl)) (fun _ h9 => h9) rfl hin rfl (by decide +kernel) rfl rfl (Nat.le_of_ble_eq_true rfl) d_Rule_init_45 (fun H locs hP hD hS => ?_)
  have hP : va_P (dC, dI) classes [(h0, .inr (7, [.ref q1, .ref q5, .ref q9, .ref q13, .int 0, .int 0, .int 0])), (q1, .inr (2, [.ref q3, .int 0])), (q3, .inl (cA4, 8, .inl (fun _ => 0))), (q5, .inr (2, [.ref q7, .int 0])), (q7, .inl (cA8, 8, .inl (fun _ => 0))), (q9, .inr (2, [.ref q11, .int 0])), (q11, .inl (cA12, 8, .inl (fun _ => 0))), (q13, .inr (2, [.ref q15, .int 0])), (q15, .inl (cA16, 8, .inl (fun _ => 0)))] H := hP
  have hD : va_D A [(h0, .inr (7, [.ref q1, .ref q5, .ref q9, .ref q13, .int 0, .int 0, .int 0])), (q1, .inr (2, [.ref q3, .int 0])), (q3, .inl (cA4, 8, .inl (fun _ => 0))), (q5, .inr (2, [.ref q7, .int 0])), (q7, .inl (cA8, 8, .inl (fun _ => 0))), (q9, .inr (2, [.ref q11, .int 0])), (q11, .inl (cA12, 8, .inl (fun _ => 0))), (q13, .inr (2, [.ref q15, .int 0])), (q15, .inl (cA16, 8, .inl (fun _ => 0)))] := hD
  have hP9 : va_P (dC, dI) classes [(h0, .inr (7, [.ref q1, .ref q5, .ref q9, .ref q13, .int 0, .int 0, .int 0]))] H := hP.sub (ws' := [(h0, .inr (7, [.ref q1, .ref q5, .ref q9, .ref q13, .int 0, .int 0, .int 0]))]) [0] rfl
  have hD9 := hD.sub (ws' := [(h0, .inr (7, [.ref q1, .ref q5, .ref q9, .ref q13, .int 0, .int 0, .int 0]))]) [0] (by decide) rfl
  have hK9 := hK.sub (tys' := []) [] rfl
  refine W.widen (k := 8) (n := 40) (by omega) (by omega) ?_
  exact W.vret hx hb hr (fun t ht hW => ⟨⟨(), rfl, trivial, ⟨q1, ⟨q5, ⟨q9, ⟨q13, ⟨by rw [ht]; exact hP9, va_K.moved hW.alike hK9, hD9⟩⟩⟩⟩⟩⟩, hS.F ht⟩) hS.2.2 d_Rule_init_48

abbrev rm_Lots_init : Room := { frames := 1, cells := 0, slots := 0, locals := 12 }
abbrev b_Lots_init : ByteArray := prog_5_method_1_code
def y_Lots_init : MethodName := ⟨"Leastcode$Lots", "<init>", "()V"⟩
def w_Lots_init : List Cond := [.code ⟨"Leastcode$Lots", "<init>", "()V"⟩ prog_5_method_1_code 1 none, .methodLink "Leastcode$Lots" 1 ⟨"java/lang/Object", "<init>", "()V"⟩, .instanceMethod ⟨"java/lang/Object", "<init>", "()V"⟩, .code ⟨"java/lang/Object", "<init>", "()V"⟩ object_method_1_code 1 none, .lays "Leastcode$Lots" "Leastcode$Lots" "z" "I", .fieldLink "Leastcode$Lots" 7 "Leastcode$Lots" "z" "I"]
theorem d_Lots_init_0 : decode b_Lots_init 0 = .ok (.aload_n 0, 1) := by decide +kernel
theorem d_Lots_init_1 : decode b_Lots_init 1 = .ok (.invokespecial 1, 3) := by decide +kernel
theorem d_Lots_init_4 : decode b_Lots_init 4 = .ok (.aload_n 0, 1) := by decide +kernel
theorem d_Lots_init_5 : decode b_Lots_init 5 = .ok (.iconst 1, 1) := by decide +kernel
theorem d_Lots_init_6 : decode b_Lots_init 6 = .ok (.putfield 7, 3) := by decide +kernel
theorem d_Lots_init_9 : decode b_Lots_init 9 = .ok (.return_, 1) := by decide +kernel
theorem in_Lots_init_LO : ∀ v ∈ u_ws R_LO T_LO 1, v ∈ w_Lots_init := by decide +kernel
set_option maxHeartbeats 4000000 in
set_option maxRecDepth 100000 in
theorem c_Lots_init (l : Launch) (dC : Nat → ClassId) (dI : Nat → Nat → Nat) (h0 : Nat) (sz : Nat) : Met l y_Lots_init w_Lots_init rm_Lots_init (va_Pc [.ref h0] (fun U => U.heap.size = sz ∧ va_P (dC, dI) classes [(h0, .inr (4, [.int 0]))] U.heap ∧ va_K (dC, dI) classes [] U ∧ va_D (fun _ => True) [(h0, .inr (4, [.int 0]))])) (va_Qv (fun (_ : Unit) => True) (fun _ t => va_P (dC, dI) classes [(h0, .inr (4, [.int 1]))] t.heap ∧ va_K (dC, dI) classes [] t ∧ va_D (va_A [(h0, .inr (4, [.int 0]))] sz) [(h0, .inr (4, [.int 1]))]) (va_A [(h0, .inr (4, [.int 0]))] sz)) 0 0 (va_A [(h0, .inr (4, [.int 0]))] sz) := by
  refine Met.ofW (cc := b_Lots_init) (maxL := 1) (ret := none) (by decide) rfl ?_
  intro p e s m args below meth c s₁ B hml hv
  obtain ⟨rfl, hsz, hP, hK, hD0⟩ := hv
  have hx := B.exec
  have hb := B.bytes
  have hr := B.returns
  have hts := atoms_spec (ws := w_Lots_init) B.pre
  have hown : s.vm.findClass "Leastcode$Lots" = some m.cls := findClass_of_methodNamed B.named
  have hlocks := B.notSynchronized
  have hin : meth.name = "<init>" := (name_of_methodNamed B.named B.method).1
  subst hsz
  have hD := hD0.self (sz := s.heap.size)
  generalize hAe : va_A [(h0, .inr (4, [.int 0]))] s.heap.size = A at hD ⊢
  have hA : ∀ q : Nat, s.heap.size ≤ q → A q := fun q h => by rw [← hAe]; exact Or.inr h
  have hS : va_S A s.heap s.heap [] := va_S.rf
  have hP : va_P (dC, dI) classes [(h0, .inr (4, [.int 0]))] s.heap := hP
  have hl := lv_entry ([.ref h0]) (n := 1) (Nat.le_of_ble_eq_true rfl)
  rw [lg_entry_eq]
  generalize (lg_sl ([.ref h0]) ++ List.replicate (1 - (lg_sl ([.ref h0])).length) Slot.unset).toArray = ls at hl ⊢
  have hl : lv_has ls 1 [(0, .ref h0)] := hl
  refine lv_aload_n hx hb d_Lots_init_0 rfl (lv_at hl 0 rfl) ?_
  refine W.objInit hx hb hown (hts (.methodLink "Leastcode$Lots" 1 ⟨"java/lang/Object", "<init>", "()V"⟩) (List.mem_of_getElem? (i := 1) rfl)) (hts (.instanceMethod ⟨"java/lang/Object", "<init>", "()V"⟩) (List.mem_of_getElem? (i := 2) rfl)) (hts (.code ⟨"java/lang/Object", "<init>", "()V"⟩ object_method_1_code 1 none) (List.mem_of_getElem? (i := 3) rfl)) rfl (by rw [hml]; exact hl.1) rfl d_Lots_init_1 (Nat.le_of_ble_eq_true rfl) (Nat.le_of_ble_eq_true rfl) ?_
  refine W.eq (g2 := F0 m 4 ls []) rfl ?_
  refine lv_aload_n hx hb d_Lots_init_4 rfl (lv_at hl 0 rfl) ?_
  refine lv_iconst (v := 1) hx hb d_Lots_init_5 (by decide) ?_
  refine va_put (D := (dC, dI)) (ci := 4) (v := .int 1) (ty := .int) (C := R_LO) (T := T_LO) (N := 1) hx hb hts in_Lots_init_LO t_LO t_LO_ok n_LO hown hK hP hD hS 0 rfl rfl 0 (by decide) (hts (.fieldLink "Leastcode$Lots" 7 "Leastcode$Lots" "z" "I") (List.mem_of_getElem? (i := 5) rfl)) (fun _ h9 => h9) rfl (by decide +kernel) rfl rfl (Nat.le_of_ble_eq_true rfl) d_Lots_init_6 (fun H locs hP hD hS => ?_)
  have hP : va_P (dC, dI) classes [(h0, .inr (4, [.int 1]))] H := hP
  have hD : va_D A [(h0, .inr (4, [.int 1]))] := hD
  have hP9 : va_P (dC, dI) classes [(h0, .inr (4, [.int 1]))] H := hP.sub (ws' := [(h0, .inr (4, [.int 1]))]) [0] rfl
  have hD9 := hD.sub (ws' := [(h0, .inr (4, [.int 1]))]) [0] (by decide) rfl
  have hK9 := hK.sub (tys' := []) [] rfl
  refine W.widen (k := 0) (n := 0) (by omega) (by omega) ?_
  exact W.vret hx hb hr (fun t ht hW => ⟨⟨(), rfl, trivial, ⟨by rw [ht]; exact hP9, va_K.moved hW.alike hK9, hD9⟩⟩, hS.F ht⟩) hS.2.2 d_Lots_init_9

abbrev rm_Search_init : Room := { frames := 2, cells := 2, slots := 10, locals := 32 }
abbrev b_Search_init : ByteArray := prog_9_method_1_code
def y_Search_init : MethodName := ⟨"Leastcode$Search", "<init>", "(LLeastcode$Machine;)V"⟩
def w_Search_init : List Cond := [.code ⟨"Leastcode$Search", "<init>", "(LLeastcode$Machine;)V"⟩ prog_9_method_1_code 2 none, .methodLink "Leastcode$Search" 3 ⟨"java/lang/Object", "<init>", "()V"⟩, .instanceMethod ⟨"java/lang/Object", "<init>", "()V"⟩, .code ⟨"java/lang/Object", "<init>", "()V"⟩ object_method_1_code 1 none, .laysFinal "Leastcode$Code" "Leastcode$Code" "numbers" "[I", .lays "Leastcode$Code" "Leastcode$Code" "length" "I", .classLink "Leastcode$Search" 9 "Leastcode$Code", .instantiable "Leastcode$Code" 2, .initialized "Leastcode$Code", .code ⟨"Leastcode$Code", "<init>", "()V"⟩ prog_2_method_1_code 1 none, .methodLink "Leastcode$Code" 3 ⟨"java/lang/Object", "<init>", "()V"⟩, .arrayClass .int, .fieldLink "Leastcode$Code" 9 "Leastcode$Code" "numbers" "[I", .instanceMethod ⟨"Leastcode$Code", "<init>", "()V"⟩, .laysFinal "Leastcode$Search" "Leastcode$Search" "machine" "LLeastcode$Machine;", .laysFinal "Leastcode$Search" "Leastcode$Search" "ahead" "LLeastcode$Code;", .lays "Leastcode$Search" "Leastcode$Search" "refusing" "I", .fieldLink "Leastcode$Search" 12 "Leastcode$Search" "ahead" "LLeastcode$Code;", .fieldLink "Leastcode$Search" 18 "Leastcode$Search" "machine" "LLeastcode$Machine;"]
theorem d_Search_init_0 : decode b_Search_init 0 = .ok (.aload_n 0, 1) := by decide +kernel
theorem d_Search_init_1 : decode b_Search_init 1 = .ok (.invokespecial 3, 3) := by decide +kernel
theorem d_Search_init_4 : decode b_Search_init 4 = .ok (.aload_n 0, 1) := by decide +kernel
theorem d_Search_init_5 : decode b_Search_init 5 = .ok (.new 9, 3) := by decide +kernel
theorem d_Search_init_8 : decode b_Search_init 8 = .ok (.dup, 1) := by decide +kernel
theorem d_Search_init_9 : decode b_Search_init 9 = .ok (.invokespecial 11, 3) := by decide +kernel
theorem d_Search_init_12 : decode b_Search_init 12 = .ok (.putfield 12, 3) := by decide +kernel
theorem d_Search_init_15 : decode b_Search_init 15 = .ok (.aload_n 0, 1) := by decide +kernel
theorem d_Search_init_16 : decode b_Search_init 16 = .ok (.aload_n 1, 1) := by decide +kernel
theorem d_Search_init_17 : decode b_Search_init 17 = .ok (.putfield 18, 3) := by decide +kernel
theorem d_Search_init_20 : decode b_Search_init 20 = .ok (.return_, 1) := by decide +kernel
theorem in_Search_init_CO : ∀ v ∈ u_ws R_CO T_CO 2, v ∈ w_Search_init := by decide +kernel
theorem in_Search_init_SE : ∀ v ∈ u_ws R_SE T_SE 3, v ∈ w_Search_init := by decide +kernel
set_option maxRecDepth 20000 in
theorem g_Search_init_9 : GoodIn w_Search_init (w_Code_init) := goodIn_r _ [9, 10, 2, 3, 11, 4, 5, 12] rfl (by decide +kernel)
set_option maxHeartbeats 4000000 in
set_option maxRecDepth 100000 in
theorem c_Search_init (l : Launch) (dC : Nat → ClassId) (dI : Nat → Nat → Nat) (h0 : Nat) (h1 : Nat) (sz : Nat) : Met l y_Search_init w_Search_init rm_Search_init (va_Pc [.ref h0, .ref h1] (fun U => U.heap.size = sz ∧ va_P (dC, dI) classes [(h0, .inr (5, [.null, .null, .int 0]))] U.heap ∧ va_K (dC, dI) classes [] U ∧ va_D (fun _ => True) [(h0, .inr (5, [.null, .null, .int 0]))] ∧ va_Nw (.methodLinkNest "Leastcode$Search" 11 ⟨"Leastcode$Code", "<init>", "()V"⟩ "Leastcode") U)) (va_Qv (fun (_ : Unit) => True) (fun _ t => ∃ qa : Nat, va_P (dC, dI) classes [(h0, .inr (5, [.ref h1, .ref qa, .int 0]))] t.heap ∧ va_K (dC, dI) classes [] t ∧ va_D (va_A [(h0, .inr (5, [.null, .null, .int 0]))] sz) [(h0, .inr (5, [.ref h1, .ref qa, .int 0]))]) (va_A [(h0, .inr (5, [.null, .null, .int 0]))] sz)) 2 10 (va_A [(h0, .inr (5, [.null, .null, .int 0]))] sz) := by
  refine Met.ofW (cc := b_Search_init) (maxL := 2) (ret := none) (by decide) rfl ?_
  intro p e s m args below meth c s₁ B hml hv
  obtain ⟨rfl, hsz, hP, hK, hD0, hE0⟩ := hv
  have hx := B.exec
  have hb := B.bytes
  have hr := B.returns
  have hts := atoms_spec (ws := w_Search_init) B.pre
  have hown : s.vm.findClass "Leastcode$Search" = some m.cls := findClass_of_methodNamed B.named
  have hlocks := B.notSynchronized
  have hin : meth.name = "<init>" := (name_of_methodNamed B.named B.method).1
  subst hsz
  have hD := hD0.self (sz := s.heap.size)
  generalize hAe : va_A [(h0, .inr (5, [.null, .null, .int 0]))] s.heap.size = A at hD hE0 ⊢
  have hA : ∀ q : Nat, s.heap.size ≤ q → A q := fun q h => by rw [← hAe]; exact Or.inr h
  have hS : va_S A s.heap s.heap [] := va_S.rf
  have hP : va_P (dC, dI) classes [(h0, .inr (5, [.null, .null, .int 0]))] s.heap := hP
  have hl := lv_entry ([.ref h0, .ref h1]) (n := 2) (Nat.le_of_ble_eq_true rfl)
  rw [lg_entry_eq]
  generalize (lg_sl ([.ref h0, .ref h1]) ++ List.replicate (2 - (lg_sl ([.ref h0, .ref h1])).length) Slot.unset).toArray = ls at hl ⊢
  have hl : lv_has ls 2 [(0, .ref h0), (1, .ref h1)] := hl
  refine lv_aload_n hx hb d_Search_init_0 rfl (lv_at hl 0 rfl) ?_
  refine W.objInit hx hb hown (hts (.methodLink "Leastcode$Search" 3 ⟨"java/lang/Object", "<init>", "()V"⟩) (List.mem_of_getElem? (i := 1) rfl)) (hts (.instanceMethod ⟨"java/lang/Object", "<init>", "()V"⟩) (List.mem_of_getElem? (i := 2) rfl)) (hts (.code ⟨"java/lang/Object", "<init>", "()V"⟩ object_method_1_code 1 none) (List.mem_of_getElem? (i := 3) rfl)) rfl (by rw [hml]; exact hl.1) rfl d_Search_init_1 (Nat.le_of_ble_eq_true rfl) (Nat.le_of_ble_eq_true rfl) ?_
  refine W.eq (g2 := F0 m 4 ls []) rfl ?_
  refine lv_aload_n hx hb d_Search_init_4 rfl (lv_at hl 0 rfl) ?_
  refine va_new (D := (dC, dI)) (ci := 2) (fs := [.null, .int 0]) (C := R_CO) (T := T_CO) (N := 2) hx hb hts in_Search_init_CO t_CO t_CO_ok hown (hts (.classLink "Leastcode$Search" 9 "Leastcode$Code") (List.mem_of_getElem? (i := 6) rfl)) (hts (.instantiable "Leastcode$Code" 2) (List.mem_of_getElem? (i := 7) rfl)) (hts (.initialized "Leastcode$Code") (List.mem_of_getElem? (i := 8) rfl)) hK hP hD hS hA rfl (fun j hj => by rcases (show j = 0 ∨ j = 1 by omega) with rfl | rfl <;> rfl) (Nat.le_of_ble_eq_true rfl) (Nat.le_of_ble_eq_true rfl) d_Search_init_5 (fun q1 H hP hD hS => ?_)
  have hP : va_P (dC, dI) classes [(h0, .inr (5, [.null, .null, .int 0])), (q1, .inr (2, [.null, .int 0]))] H := hP
  have hD : va_D A [(h0, .inr (5, [.null, .null, .int 0])), (q1, .inr (2, [.null, .int 0]))] := hD
  refine W.widen (k := 1) (n := 2) (by omega) (by omega) ?_
  refine lv_dup hx hb d_Search_init_8 rfl ?_
  have hPc : va_P (dC, dI) classes [(q1, .inr (2, [.null, .int 0]))] _ := hP.sub (ws' := [(q1, .inr (2, [.null, .int 0]))]) [1] rfl
  have hKc : va_K (dC, dI) classes [] s := hK.sub (tys' := []) [] rfl
  have hDc : va_D _ [(q1, .inr (2, [.null, .int 0]))] := hD.sub (ws' := [(q1, .inr (2, [.null, .int 0]))]) [1] (by decide) rfl
  have hFc := va_free (wc := [(q1, .inr (2, [.null, .int 0]))]) hD hS hA [1] rfl
  refine va_callv (va_runIN (As := []) (rest := [.ref q1, .ref h0]) ⟨hx, hb, hml, hown, hts⟩ (c_Code_init l dC dI q1 H.size) ⟨va_cnB 0 hts g_Search_init_9 rfl rfl rfl hE0 (hts (.initialized "Leastcode$Code") (List.mem_of_getElem? (i := 8) rfl)) (by decide +kernel) ⟨Nat.le_of_ble_eq_true rfl, Nat.le_of_ble_eq_true rfl⟩, rfl, (hts (.instanceMethod ⟨"Leastcode$Code", "<init>", "()V"⟩) (List.mem_of_getElem? (i := 13) rfl))⟩ ⟨fun a U g mk z => by obtain ⟨z0, z1, zP, zK, zD⟩ := z; exact ⟨z0, z1, zP, va_K.moved (u := U) (U := U.calling g mk a) (Vm.Alike.refl U.vm) zK, zD⟩, fun U hU hW => ⟨rfl, by rw [hU], by rw [hU]; exact hPc, va_K.moved hW.alike hKc, hDc.weaken (fun _ _ _ _ => trivial)⟩⟩ rfl rfl hl.1 rfl (lv_room (Nat.le_of_ble_eq_true rfl)) d_Search_init_9 ⟨(Nat.le_of_ble_eq_true rfl), (Nat.le_of_ble_eq_true rfl)⟩) hS (fun q _ h => hFc q h) hFc (fun u t H1 locs ht hvm hr2 hB hz1 hk1 hS => ?_)
  obtain ⟨q3, cA4, hP1, hK1, hD1⟩ := hB
  rw [ht] at hP1
  have hK1 := va_K.moved hvm.symm hK1
  obtain ⟨hP, hD⟩ := va_join (wr := [(h0, .inr (5, [.null, .null, .int 0]))]) (w1 := [(q1, .inr (2, [.ref q3, .int 0])), (q3, .inl (cA4, 8, .inl (fun _ => 0)))]) hP hD [1] [0] rfl rfl (by decide) (by decide) hk1 hFc hP1 hD1
  have hK := hK.app (hK1.sub (tys' := [(cA4, .int)]) [0] rfl)
  have hK : va_K (dC, dI) classes [(cA4, .int)] s := hK
  clear hPc hDc hKc hFc hP1 hD1 hK1 hk1
  generalize H1 = H at hP hS ⊢
  have hP : va_P (dC, dI) classes [(h0, .inr (5, [.null, .null, .int 0])), (q1, .inr (2, [.ref q3, .int 0])), (q3, .inl (cA4, 8, .inl (fun _ => 0)))] H := hP
  have hD : va_D A [(h0, .inr (5, [.null, .null, .int 0])), (q1, .inr (2, [.ref q3, .int 0])), (q3, .inl (cA4, 8, .inl (fun _ => 0)))] := hD
  refine W.widen (k := 2) (n := 10) (by omega) (by omega) ?_
  refine va_putF (D := (dC, dI)) (ci := 5) (v := .ref q1) (ty := .object "Leastcode$Code") (C := R_SE) (T := T_SE) (N := 3) hx hb hts in_Search_init_SE t_SE t_SE_ok n_SE hown hK hP hD hS 0 rfl rfl 1 (by decide) (hts (.fieldLink "Leastcode$Search" 12 "Leastcode$Search" "ahead" "LLeastcode$Code;") (List.mem_of_getElem? (i := 17) rfl)) (fun _ h9 => h9) rfl hin rfl (by decide +kernel) rfl rfl (Nat.le_of_ble_eq_true rfl) d_Search_init_12 (fun H locs hP hD hS => ?_)
  have hP : va_P (dC, dI) classes [(h0, .inr (5, [.null, .ref q1, .int 0])), (q1, .inr (2, [.ref q3, .int 0])), (q3, .inl (cA4, 8, .inl (fun _ => 0)))] H := hP
  have hD : va_D A [(h0, .inr (5, [.null, .ref q1, .int 0])), (q1, .inr (2, [.ref q3, .int 0])), (q3, .inl (cA4, 8, .inl (fun _ => 0)))] := hD
  refine lv_aload_n hx hb d_Search_init_15 rfl (lv_at hl 0 rfl) ?_
  refine lv_aload_n hx hb d_Search_init_16 rfl (lv_at hl 1 rfl) ?_
  refine va_putF (D := (dC, dI)) (ci := 5) (v := .ref h1) (ty := .object "Leastcode$Machine") (C := R_SE) (T := T_SE) (N := 3) hx hb hts in_Search_init_SE t_SE t_SE_ok n_SE hown hK hP hD hS 0 rfl rfl 0 (by decide) (hts (.fieldLink "Leastcode$Search" 18 "Leastcode$Search" "machine" "LLeastcode$Machine;") (List.mem_of_getElem? (i := 18) rfl)) (fun _ h9 => h9) rfl hin rfl (by decide +kernel) rfl rfl (Nat.le_of_ble_eq_true rfl) d_Search_init_17 (fun H locs hP hD hS => ?_)
  have hP : va_P (dC, dI) classes [(h0, .inr (5, [.ref h1, .ref q1, .int 0])), (q1, .inr (2, [.ref q3, .int 0])), (q3, .inl (cA4, 8, .inl (fun _ => 0)))] H := hP
  have hD : va_D A [(h0, .inr (5, [.ref h1, .ref q1, .int 0])), (q1, .inr (2, [.ref q3, .int 0])), (q3, .inl (cA4, 8, .inl (fun _ => 0)))] := hD
  have hP9 : va_P (dC, dI) classes [(h0, .inr (5, [.ref h1, .ref q1, .int 0]))] H := hP.sub (ws' := [(h0, .inr (5, [.ref h1, .ref q1, .int 0]))]) [0] rfl
  have hD9 := hD.sub (ws' := [(h0, .inr (5, [.ref h1, .ref q1, .int 0]))]) [0] (by decide) rfl
  have hK9 := hK.sub (tys' := []) [] rfl
  refine W.widen (k := 2) (n := 10) (by omega) (by omega) ?_
  exact W.vret hx hb hr (fun t ht hW => ⟨⟨(), rfl, trivial, ⟨q1, ⟨by rw [ht]; exact hP9, va_K.moved hW.alike hK9, hD9⟩⟩⟩, hS.F ht⟩) hS.2.2 d_Search_init_20
