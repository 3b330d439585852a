abbrev rm_in_ : Room := { frames := 0, cells := 0, slots := 0, locals := 0 }
abbrev b_in_ : ByteArray := prog_11_method_3_code
def y_in_ : MethodName := ⟨"LeastcodeModel", "in", "(III)Z"⟩
def w_in_ : List Cond := [.code ⟨"LeastcodeModel", "in", "(III)Z"⟩ prog_11_method_3_code 3 (some .boolean)]
theorem d_in__0 : decode b_in_ 0 = .ok (.iload_n 0, 1) := by decide +kernel
theorem d_in__1 : decode b_in_ 1 = .ok (.iload_n 1, 1) := by decide +kernel
theorem d_in__2 : decode b_in_ 2 = .ok (.if_icmp .lt 12, 3) := by decide +kernel
theorem d_in__5 : decode b_in_ 5 = .ok (.iload_n 0, 1) := by decide +kernel
theorem d_in__6 : decode b_in_ 6 = .ok (.iload_n 2, 1) := by decide +kernel
theorem d_in__7 : decode b_in_ 7 = .ok (.if_icmp .gt 7, 3) := by decide +kernel
theorem d_in__10 : decode b_in_ 10 = .ok (.iconst 1, 1) := by decide +kernel
theorem d_in__11 : decode b_in_ 11 = .ok (.goto 4, 3) := by decide +kernel
theorem d_in__15 : decode b_in_ 15 = .ok (.ireturn, 1) := by decide +kernel
set_option maxHeartbeats 4000000 in
set_option maxRecDepth 100000 in
theorem c_in_ (l : Launch) (x : Int32) (y : Int32) (z : Int32) (h1 : ¬ x < y) (h2 : ¬ z < x) : Met l y_in_ w_in_ rm_in_ (va_Pc [.int x, .int y, .int z] (fun U => True)) (vp_Si (fun r => r = 1)) 0 0 (fun _ => False) := by
  refine Met.ofW (cc := b_in_) (maxL := 3) (ret := (some .boolean)) (by decide) rfl ?_
  intro p e s m args below meth c s₁ B hml hv
  obtain ⟨rfl, -⟩ := hv
  have hx := B.exec
  have hb := B.bytes
  have hr := B.returns
  have hts := atoms_spec (ws := w_in_) B.pre
  have hown : s.vm.findClass "LeastcodeModel" = some m.cls := findClass_of_methodNamed B.named
  have hlocks := B.notSynchronized
  have hl := lv_entry ([.int x, .int y, .int z]) (n := 3) (Nat.le_of_ble_eq_true rfl)
  rw [lg_entry_eq]
  generalize (lg_sl ([.int x, .int y, .int z]) ++ List.replicate (3 - (lg_sl ([.int x, .int y, .int z])).length) Slot.unset).toArray = ls at hl ⊢
  have hl : lv_has ls 3 [(0, .int x), (1, .int y), (2, .int z)] := hl
  refine lv_iload_n hx hb d_in__0 rfl (lv_at hl 0 rfl) ?_
  refine lv_iload_n hx hb d_in__1 rfl (lv_at hl 1 rfl) ?_
  refine lv_icmp_lt (tgt := 14) hx hb d_in__2 (by decide) (fun c_2 => ?_) (fun c_2 => ?_)
  · exact absurd c_2 h1
  · skip
    refine lv_iload_n hx hb d_in__5 rfl (lv_at hl 0 rfl) ?_
    refine lv_iload_n hx hb d_in__6 rfl (lv_at hl 2 rfl) ?_
    refine lv_icmp_gt (tgt := 14) hx hb d_in__7 (by decide) (fun c_7 => ?_) (fun c_7 => ?_)
    · exact absurd c_7 h2
    · skip
      refine lv_iconst (v := 1) hx hb d_in__10 (by decide) ?_
      refine lv_goto (tgt := 15) hx hb d_in__11 (by decide) ?_
      exact W.zret hx hb hr rfl (fun t ht hW => ⟨_, rfl, rfl, ht⟩) (fun _ h => by cases h) d_in__15

abbrev rm_isOf : Room := { frames := 1, cells := 0, slots := 0, locals := 22 }
abbrev b_isOf : ByteArray := prog_11_method_7_code
def y_isOf : MethodName := ⟨"LeastcodeModel", "isOf", "(Ljava/util/List;I)Z"⟩
def w_isOf : List Cond := [.code ⟨"LeastcodeModel", "isOf", "(Ljava/util/List;I)Z"⟩ prog_11_method_7_code 2 (some .boolean), .methodLink "LeastcodeModel" 58 ⟨"java/util/List", "size", "()I"⟩, .selects "java/util/ArrayList" ⟨"java/util/List", "size", "()I"⟩ ⟨"java/util/ArrayList", "size", "()I"⟩, .instanceMethod ⟨"java/util/ArrayList", "size", "()I"⟩, .initialized "java/util/ArrayList", .code ⟨"java/util/ArrayList", "size", "()I"⟩ prog_50_method_8_code 1 (some .int), .lays "java/util/ArrayList" "java/util/AbstractList" "modCount" "I", .lays "java/util/ArrayList" "java/util/ArrayList" "elementData" "[Ljava/lang/Object;", .lays "java/util/ArrayList" "java/util/ArrayList" "size" "I", .fieldLink "java/util/ArrayList" 48 "java/util/ArrayList" "size" "I", .methodLink "LeastcodeModel" 63 ⟨"LeastcodeModel", "in", "(III)Z"⟩, .static ⟨"LeastcodeModel", "in", "(III)Z"⟩, .initialized "LeastcodeModel", .code ⟨"LeastcodeModel", "in", "(III)Z"⟩ prog_11_method_3_code 3 (some .boolean)]
theorem d_isOf_0 : decode b_isOf 0 = .ok (.iload_n 1, 1) := by decide +kernel
theorem d_isOf_1 : decode b_isOf 1 = .ok (.iconst 0, 1) := by decide +kernel
theorem d_isOf_2 : decode b_isOf 2 = .ok (.aload_n 0, 1) := by decide +kernel
theorem d_isOf_3 : decode b_isOf 3 = .ok (.invokeinterface 58 1, 5) := by decide +kernel
theorem d_isOf_8 : decode b_isOf 8 = .ok (.iconst 1, 1) := by decide +kernel
theorem d_isOf_9 : decode b_isOf 9 = .ok (.isub, 1) := by decide +kernel
theorem d_isOf_10 : decode b_isOf 10 = .ok (.invokestatic 63, 3) := by decide +kernel
theorem d_isOf_13 : decode b_isOf 13 = .ok (.ireturn, 1) := by decide +kernel
set_option maxRecDepth 20000 in
theorem g_isOf_3 : GoodIn w_isOf (va_wsF "LeastcodeModel" 58 "java/util/ArrayList" ⟨"java/util/List", "size", "()I"⟩ ⟨"java/util/ArrayList", "size", "()I"⟩ w_AL_size) := goodIn_r _ [1, 2, 3, 4, 5, 6, 7, 8, 9] rfl (by decide +kernel)
set_option maxRecDepth 20000 in
theorem g_isOf_10 : GoodIn w_isOf (wsS "LeastcodeModel" 63 ⟨"LeastcodeModel", "in", "(III)Z"⟩ w_in_) := goodIn_r _ [10, 11, 12, 13] rfl (by decide +kernel)
set_option maxHeartbeats 4000000 in
set_option maxRecDepth 100000 in
theorem c_isOf (l : Launch) (dC : Nat → ClassId) (dI : Nat → Nat → Nat) (h0 : Nat) (md : Int32) (ed : Nat) : Met l y_isOf w_isOf rm_isOf (va_Pc [.ref h0, .int 0] (fun U => va_P (dC, dI) classes [(h0, .inr (9, [.int md, .ref ed, .int 1]))] U.heap ∧ va_K (dC, dI) classes [] U ∧ va_Fw "java/util/ArrayList" ⟨"java/util/List", "size", "()I"⟩ ⟨"java/util/ArrayList", "size", "()I"⟩ U)) (vp_Si (fun r => r = 1)) 0 0 (fun _ => False) := by
  refine Met.ofW (cc := b_isOf) (maxL := 2) (ret := (some .boolean)) (by decide) rfl ?_
  intro p e s m args below meth c s₁ B hml hv
  obtain ⟨rfl, hP, hK, hE0⟩ := hv
  have hx := B.exec
  have hb := B.bytes
  have hr := B.returns
  have hts := atoms_spec (ws := w_isOf) B.pre
  have hown : s.vm.findClass "LeastcodeModel" = some m.cls := findClass_of_methodNamed B.named
  have hlocks := B.notSynchronized
  have hP : va_P (dC, dI) classes [(h0, .inr (9, [.int md, .ref ed, .int 1]))] s.heap := hP
  have hl := lv_entry ([.ref h0, .int 0]) (n := 2) (Nat.le_of_ble_eq_true rfl)
  rw [lg_entry_eq]
  generalize (lg_sl ([.ref h0, .int 0]) ++ List.replicate (2 - (lg_sl ([.ref h0, .int 0])).length) Slot.unset).toArray = ls at hl ⊢
  have hl : lv_has ls 2 [(0, .ref h0), (1, .int 0)] := hl
  refine lv_iload_n hx hb d_isOf_0 rfl (lv_at hl 1 rfl) ?_
  refine lv_iconst (v := 0) hx hb d_isOf_1 (by decide) ?_
  refine lv_aload_n hx hb d_isOf_2 rfl (lv_at hl 0 rfl) ?_
  have hPc : va_P (dC, dI) classes [(h0, .inr (9, [.int md, .ref ed, .int 1]))] _ := hP.sub (ws' := [(h0, .inr (9, [.int md, .ref ed, .int 1]))]) [0] rfl
  have hKc : va_K (dC, dI) classes [] s := hK.sub (tys' := []) [] rfl
  refine va_csFi (va_runF (As := []) (rest := [.int 0, .int 0]) (hKc.1 9 _ rfl).2 ⟨hx, hb, hml, hown, hts⟩ (c_AL_size l dC dI h0 md ed 1) (va_cwF 0 hts g_isOf_3 rfl rfl rfl hE0 (by decide +kernel) ⟨Nat.le_of_ble_eq_true rfl, Nat.le_of_ble_eq_true rfl⟩) ⟨fun a U g mk z => by obtain ⟨z0, zP, zK⟩ := z; exact ⟨z0, zP, va_K.moved (u := U) (U := U.calling g mk a) (Vm.Alike.refl U.vm) zK⟩, va_recv hKc hPc (ci := 9) (q0 := 0) rfl rfl, fun U hU hW => ⟨rfl, by rw [hU]; exact hPc, va_K.moved hW.alike hKc⟩⟩ rfl rfl hl.1 rfl (lv_room (Nat.le_of_ble_eq_true rfl)) d_isOf_3 ⟨(Nat.le_of_ble_eq_true rfl), (Nat.le_of_ble_eq_true rfl)⟩) (fun r1 hr1 => ?_)
  replace hr1 := hr1.symm; subst hr1
  refine lv_iconst (v := 1) hx hb d_isOf_8 (by decide) ?_
  refine lv_isub hx hb d_isOf_9 ?_
  refine lv_topi (fun x2 ex2 => ?_)
  obtain rfl : 0 = x2 := Eq.symm (by rw [ex2]; decide)
  refine vp_callSi (W.runS (As := [.int 0, .int 0, .int 0]) (rest := []) ⟨hx, hb, hml, hown, hts⟩ (c_in_ l 0 0 0 (by decide) (by decide)) (cwS 3 hts g_isOf_10 rfl rfl rfl (by decide +kernel) ⟨Nat.le_of_ble_eq_true rfl, Nat.le_of_ble_eq_true rfl⟩) ⟨fun a U g mk z => z, fun U hU hW => ⟨rfl, trivial⟩⟩ rfl rfl hl.1 rfl (lv_room (Nat.le_of_ble_eq_true rfl)) d_isOf_10 ⟨(Nat.le_of_ble_eq_true rfl), (Nat.le_of_ble_eq_true rfl)⟩) (fun r3 hr3 => ?_)
  replace hr3 := hr3.symm; subst hr3
  exact W.zret hx hb hr rfl (fun t ht hW => ⟨_, rfl, rfl, ht⟩) (fun _ h => by cases h) d_isOf_13

abbrev rm_first : Room := { frames := 0, cells := 0, slots := 0, locals := 0 }
abbrev b_first : ByteArray := prog_11_method_9_code
def y_first : MethodName := ⟨"LeastcodeModel", "first", "(I)I"⟩
def w_first : List Cond := [.code ⟨"LeastcodeModel", "first", "(I)I"⟩ prog_11_method_9_code 1 (some .int)]
theorem d_first_0 : decode b_first 0 = .ok (.iload_n 0, 1) := by decide +kernel
theorem d_first_1 : decode b_first 1 = .ok (.bipush 32, 2) := by decide +kernel
theorem d_first_3 : decode b_first 3 = .ok (.if_icmp .ge 11, 3) := by decide +kernel
theorem d_first_14 : decode b_first 14 = .ok (.iload_n 0, 1) := by decide +kernel
theorem d_first_15 : decode b_first 15 = .ok (.bipush 46, 2) := by decide +kernel
theorem d_first_17 : decode b_first 17 = .ok (.if_icmp .ge 9, 3) := by decide +kernel
theorem d_first_26 : decode b_first 26 = .ok (.iconst (-1), 1) := by decide +kernel
theorem d_first_27 : decode b_first 27 = .ok (.ireturn, 1) := by decide +kernel
set_option maxHeartbeats 4000000 in
set_option maxRecDepth 100000 in
theorem c_first (l : Launch)  : Met l y_first w_first rm_first (va_Pc [.int 46] (fun U => True)) (vp_Si (fun r => r = -1)) 0 0 (fun _ => False) := by
  refine Met.ofW (cc := b_first) (maxL := 1) (ret := (some .int)) (by decide) rfl ?_
  intro p e s m args below meth c s₁ B hml hv
  obtain ⟨rfl, -⟩ := hv
  have hx := B.exec
  have hb := B.bytes
  have hr := B.returns
  have hts := atoms_spec (ws := w_first) B.pre
  have hown : s.vm.findClass "LeastcodeModel" = some m.cls := findClass_of_methodNamed B.named
  have hlocks := B.notSynchronized
  have hl := lv_entry ([.int 46]) (n := 1) (Nat.le_of_ble_eq_true rfl)
  rw [lg_entry_eq]
  generalize (lg_sl ([.int 46]) ++ List.replicate (1 - (lg_sl ([.int 46])).length) Slot.unset).toArray = ls at hl ⊢
  have hl : lv_has ls 1 [(0, .int 46)] := hl
  refine lv_iload_n hx hb d_first_0 rfl (lv_at hl 0 rfl) ?_
  refine lv_bipush (v := 32) hx hb d_first_1 (by decide) ?_
  refine lv_icmp_ge (tgt := 14) hx hb d_first_3 (by decide) (fun c_3 => ?_) (fun c_3 => ?_)
  · skip
    refine lv_iload_n hx hb d_first_14 rfl (lv_at hl 0 rfl) ?_
    refine lv_bipush (v := 46) hx hb d_first_15 (by decide) ?_
    refine lv_icmp_ge (tgt := 26) hx hb d_first_17 (by decide) (fun c_17 => ?_) (fun c_17 => ?_)
    · skip
      refine lv_iconst (v := (-1)) hx hb d_first_26 (by decide) ?_
      exact W.iret hx hb hr (fun t ht hW => ⟨_, rfl, rfl, ht⟩) (fun _ h => by cases h) d_first_27
    · exact absurd (by decide) c_17
  · exact absurd (by decide) c_3

abbrev rm_second : Room := { frames := 0, cells := 0, slots := 0, locals := 0 }
abbrev b_second : ByteArray := prog_11_method_10_code
def y_second : MethodName := ⟨"LeastcodeModel", "second", "(I)I"⟩
def w_second : List Cond := [.code ⟨"LeastcodeModel", "second", "(I)I"⟩ prog_11_method_10_code 1 (some .int)]
theorem d_second_0 : decode b_second 0 = .ok (.iload_n 0, 1) := by decide +kernel
theorem d_second_1 : decode b_second 1 = .ok (.bipush 32, 2) := by decide +kernel
theorem d_second_3 : decode b_second 3 = .ok (.if_icmp .ge 9, 3) := by decide +kernel
theorem d_second_12 : decode b_second 12 = .ok (.iconst (-1), 1) := by decide +kernel
theorem d_second_13 : decode b_second 13 = .ok (.ireturn, 1) := by decide +kernel
set_option maxHeartbeats 4000000 in
set_option maxRecDepth 100000 in
theorem c_second (l : Launch)  : Met l y_second w_second rm_second (va_Pc [.int 46] (fun U => True)) (vp_Si (fun r => r = -1)) 0 0 (fun _ => False) := by
  refine Met.ofW (cc := b_second) (maxL := 1) (ret := (some .int)) (by decide) rfl ?_
  intro p e s m args below meth c s₁ B hml hv
  obtain ⟨rfl, -⟩ := hv
  have hx := B.exec
  have hb := B.bytes
  have hr := B.returns
  have hts := atoms_spec (ws := w_second) B.pre
  have hown : s.vm.findClass "LeastcodeModel" = some m.cls := findClass_of_methodNamed B.named
  have hlocks := B.notSynchronized
  have hl := lv_entry ([.int 46]) (n := 1) (Nat.le_of_ble_eq_true rfl)
  rw [lg_entry_eq]
  generalize (lg_sl ([.int 46]) ++ List.replicate (1 - (lg_sl ([.int 46])).length) Slot.unset).toArray = ls at hl ⊢
  have hl : lv_has ls 1 [(0, .int 46)] := hl
  refine lv_iload_n hx hb d_second_0 rfl (lv_at hl 0 rfl) ?_
  refine lv_bipush (v := 32) hx hb d_second_1 (by decide) ?_
  refine lv_icmp_ge (tgt := 12) hx hb d_second_3 (by decide) (fun c_3 => ?_) (fun c_3 => ?_)
  · skip
    refine lv_iconst (v := (-1)) hx hb d_second_12 (by decide) ?_
    exact W.iret hx hb hr (fun t ht hW => ⟨_, rfl, rfl, ht⟩) (fun _ h => by cases h) d_second_13
  · exact absurd (by decide) c_3

abbrev rm_kind : Room := { frames := 0, cells := 0, slots := 0, locals := 0 }
abbrev b_kind : ByteArray := prog_11_method_8_code
def y_kind : MethodName := ⟨"LeastcodeModel", "kind", "(I)C"⟩
def w_kind : List Cond := [.code ⟨"LeastcodeModel", "kind", "(I)C"⟩ prog_11_method_8_code 1 (some .char)]
theorem d_kind_0 : decode b_kind 0 = .ok (.iload_n 0, 1) := by decide +kernel
theorem d_kind_1 : decode b_kind 1 = .ok (.bipush 32, 2) := by decide +kernel
theorem d_kind_3 : decode b_kind 3 = .ok (.if_icmp .ge 14, 3) := by decide +kernel
theorem d_kind_17 : decode b_kind 17 = .ok (.iload_n 0, 1) := by decide +kernel
theorem d_kind_18 : decode b_kind 18 = .ok (.bipush 46, 2) := by decide +kernel
theorem d_kind_20 : decode b_kind 20 = .ok (.if_icmp .ge 17, 3) := by decide +kernel
theorem d_kind_37 : decode b_kind 37 = .ok (.bipush 102, 2) := by decide +kernel
theorem d_kind_39 : decode b_kind 39 = .ok (.ireturn, 1) := by decide +kernel
set_option maxHeartbeats 4000000 in
set_option maxRecDepth 100000 in
theorem c_kind (l : Launch)  : Met l y_kind w_kind rm_kind (va_Pc [.int 46] (fun U => True)) (vp_Si (fun r => r = 102)) 0 0 (fun _ => False) := by
  refine Met.ofW (cc := b_kind) (maxL := 1) (ret := (some .char)) (by decide) rfl ?_
  intro p e s m args below meth c s₁ B hml hv
  obtain ⟨rfl, -⟩ := hv
  have hx := B.exec
  have hb := B.bytes
  have hr := B.returns
  have hts := atoms_spec (ws := w_kind) B.pre
  have hown : s.vm.findClass "LeastcodeModel" = some m.cls := findClass_of_methodNamed B.named
  have hlocks := B.notSynchronized
  have hl := lv_entry ([.int 46]) (n := 1) (Nat.le_of_ble_eq_true rfl)
  rw [lg_entry_eq]
  generalize (lg_sl ([.int 46]) ++ List.replicate (1 - (lg_sl ([.int 46])).length) Slot.unset).toArray = ls at hl ⊢
  have hl : lv_has ls 1 [(0, .int 46)] := hl
  refine lv_iload_n hx hb d_kind_0 rfl (lv_at hl 0 rfl) ?_
  refine lv_bipush (v := 32) hx hb d_kind_1 (by decide) ?_
  refine lv_icmp_ge (tgt := 17) hx hb d_kind_3 (by decide) (fun c_3 => ?_) (fun c_3 => ?_)
  · skip
    refine lv_iload_n hx hb d_kind_17 rfl (lv_at hl 0 rfl) ?_
    refine lv_bipush (v := 46) hx hb d_kind_18 (by decide) ?_
    refine lv_icmp_ge (tgt := 37) hx hb d_kind_20 (by decide) (fun c_20 => ?_) (fun c_20 => ?_)
    · skip
      refine lv_bipush (v := 102) hx hb d_kind_37 (by decide) ?_
      exact W.zret hx hb hr rfl (fun t ht hW => ⟨_, rfl, rfl, ht⟩) (fun _ h => by cases h) d_kind_39
    · exact absurd (by decide) c_20
  · exact absurd (by decide) c_3

abbrev rm_state : Room := { frames := 0, cells := 0, slots := 0, locals := 0 }
abbrev b_state : ByteArray := prog_11_method_12_code
def y_state : MethodName := ⟨"LeastcodeModel", "state", "([II)I"⟩
def w_state : List Cond := [.code ⟨"LeastcodeModel", "state", "([II)I"⟩ prog_11_method_12_code 2 (some .int)]
theorem d_state_0 : decode b_state 0 = .ok (.bipush 16, 2) := by decide +kernel
theorem d_state_2 : decode b_state 2 = .ok (.aload_n 0, 1) := by decide +kernel
theorem d_state_3 : decode b_state 3 = .ok (.iconst 0, 1) := by decide +kernel
theorem d_state_4 : decode b_state 4 = .ok (.iaload, 1) := by decide +kernel
theorem d_state_5 : decode b_state 5 = .ok (.imul, 1) := by decide +kernel
theorem d_state_6 : decode b_state 6 = .ok (.iconst 2, 1) := by decide +kernel
theorem d_state_7 : decode b_state 7 = .ok (.aload_n 0, 1) := by decide +kernel
theorem d_state_8 : decode b_state 8 = .ok (.iconst 1, 1) := by decide +kernel
theorem d_state_9 : decode b_state 9 = .ok (.iaload, 1) := by decide +kernel
theorem d_state_10 : decode b_state 10 = .ok (.imul, 1) := by decide +kernel
theorem d_state_11 : decode b_state 11 = .ok (.iadd, 1) := by decide +kernel
theorem d_state_12 : decode b_state 12 = .ok (.iload_n 1, 1) := by decide +kernel
theorem d_state_13 : decode b_state 13 = .ok (.iadd, 1) := by decide +kernel
theorem d_state_14 : decode b_state 14 = .ok (.ireturn, 1) := by decide +kernel
set_option maxHeartbeats 4000000 in
set_option maxRecDepth 100000 in
theorem c_state (l : Launch) (dC : Nat → ClassId) (dI : Nat → Nat → Nat) (q0 : Nat) (cI : ClassId) (fq : Nat → Int32) (x : Int32) : Met l y_state w_state rm_state (va_Pc [.ref q0, .int x] (fun U => va_P (dC, dI) classes [(q0, .inl (cI, 2, .inl (fq)))] U.heap ∧ va_K (dC, dI) classes [(cI, .int)] U)) (vp_Si (fun r => True)) 0 0 (fun _ => False) := by
  refine Met.ofW (cc := b_state) (maxL := 2) (ret := (some .int)) (by decide) rfl ?_
  intro p e s m args below meth c s₁ B hml hv
  obtain ⟨rfl, hP, hK⟩ := hv
  have hx := B.exec
  have hb := B.bytes
  have hr := B.returns
  have hts := atoms_spec (ws := w_state) B.pre
  have hown : s.vm.findClass "LeastcodeModel" = some m.cls := findClass_of_methodNamed B.named
  have hlocks := B.notSynchronized
  have hP : va_P (dC, dI) classes [(q0, .inl (cI, 2, .inl (fq)))] s.heap := hP
  have hl := lv_entry ([.ref q0, .int x]) (n := 2) (Nat.le_of_ble_eq_true rfl)
  rw [lg_entry_eq]
  generalize (lg_sl ([.ref q0, .int x]) ++ List.replicate (2 - (lg_sl ([.ref q0, .int x])).length) Slot.unset).toArray = ls at hl ⊢
  have hl : lv_has ls 2 [(0, .ref q0), (1, .int x)] := hl
  refine lv_bipush (v := 16) hx hb d_state_0 (by decide) ?_
  refine lv_aload_n hx hb d_state_2 rfl (lv_at hl 0 rfl) ?_
  refine lv_iconst (v := 0) hx hb d_state_3 (by decide) ?_
  refine va_iald hx hb hK hP 0 0 rfl rfl (by unfold vp_in; decide) d_state_4 ?_
  refine lv_topi (fun x1 ex1 => ?_)
  refine lv_imul hx hb d_state_5 ?_
  refine lv_topi (fun x2 ex2 => ?_)
  refine lv_iconst (v := 2) hx hb d_state_6 (by decide) ?_
  refine lv_aload_n hx hb d_state_7 rfl (lv_at hl 0 rfl) ?_
  refine lv_iconst (v := 1) hx hb d_state_8 (by decide) ?_
  refine va_iald hx hb hK hP 0 0 rfl rfl (by unfold vp_in; decide) d_state_9 ?_
  refine lv_topi (fun x3 ex3 => ?_)
  refine lv_imul hx hb d_state_10 ?_
  refine lv_topi (fun x4 ex4 => ?_)
  refine lv_iadd hx hb d_state_11 ?_
  refine lv_topi (fun x5 ex5 => ?_)
  refine lv_iload_n hx hb d_state_12 rfl (lv_at hl 1 rfl) ?_
  refine lv_iadd hx hb d_state_13 ?_
  refine lv_topi (fun x6 ex6 => ?_)
  exact W.iret hx hb hr (fun t ht hW => ⟨_, rfl, trivial, ht⟩) (fun _ h => by cases h) d_state_14

abbrev rm_mstep : Room := { frames := 1, cells := 1, slots := 2, locals := 21 }
abbrev b_mstep : ByteArray := prog_11_method_13_code
def y_mstep : MethodName := ⟨"LeastcodeModel", "step", "(II)I"⟩
def w_mstep : List Cond := [.code ⟨"LeastcodeModel", "step", "(II)I"⟩ prog_11_method_13_code 7 (some .int), .arrayClass .int, .methodLink "LeastcodeModel" 79 ⟨"LeastcodeModel", "first", "(I)I"⟩, .static ⟨"LeastcodeModel", "first", "(I)I"⟩, .initialized "LeastcodeModel", .code ⟨"LeastcodeModel", "first", "(I)I"⟩ prog_11_method_9_code 1 (some .int), .methodLink "LeastcodeModel" 82 ⟨"LeastcodeModel", "second", "(I)I"⟩, .static ⟨"LeastcodeModel", "second", "(I)I"⟩, .code ⟨"LeastcodeModel", "second", "(I)I"⟩ prog_11_method_10_code 1 (some .int), .methodLink "LeastcodeModel" 85 ⟨"LeastcodeModel", "kind", "(I)C"⟩, .static ⟨"LeastcodeModel", "kind", "(I)C"⟩, .code ⟨"LeastcodeModel", "kind", "(I)C"⟩ prog_11_method_8_code 1 (some .char), .methodLink "LeastcodeModel" 94 ⟨"LeastcodeModel", "state", "([II)I"⟩, .static ⟨"LeastcodeModel", "state", "([II)I"⟩, .code ⟨"LeastcodeModel", "state", "([II)I"⟩ prog_11_method_12_code 2 (some .int)]
theorem d_mstep_0 : decode b_mstep 0 = .ok (.iconst 2, 1) := by decide +kernel
theorem d_mstep_1 : decode b_mstep 1 = .ok (.newarray .int, 2) := by decide +kernel
theorem d_mstep_3 : decode b_mstep 3 = .ok (.dup, 1) := by decide +kernel
theorem d_mstep_4 : decode b_mstep 4 = .ok (.iconst 0, 1) := by decide +kernel
theorem d_mstep_5 : decode b_mstep 5 = .ok (.iload_n 0, 1) := by decide +kernel
theorem d_mstep_6 : decode b_mstep 6 = .ok (.bipush 16, 2) := by decide +kernel
theorem d_mstep_8 : decode b_mstep 8 = .ok (.idiv, 1) := by decide +kernel
theorem d_mstep_9 : decode b_mstep 9 = .ok (.iastore, 1) := by decide +kernel
theorem d_mstep_10 : decode b_mstep 10 = .ok (.dup, 1) := by decide +kernel
theorem d_mstep_11 : decode b_mstep 11 = .ok (.iconst 1, 1) := by decide +kernel
theorem d_mstep_12 : decode b_mstep 12 = .ok (.iload_n 0, 1) := by decide +kernel
theorem d_mstep_13 : decode b_mstep 13 = .ok (.iconst 2, 1) := by decide +kernel
theorem d_mstep_14 : decode b_mstep 14 = .ok (.idiv, 1) := by decide +kernel
theorem d_mstep_15 : decode b_mstep 15 = .ok (.bipush 8, 2) := by decide +kernel
theorem d_mstep_17 : decode b_mstep 17 = .ok (.irem, 1) := by decide +kernel
theorem d_mstep_18 : decode b_mstep 18 = .ok (.iastore, 1) := by decide +kernel
theorem d_mstep_19 : decode b_mstep 19 = .ok (.astore_n 2, 1) := by decide +kernel
theorem d_mstep_20 : decode b_mstep 20 = .ok (.iload_n 0, 1) := by decide +kernel
theorem d_mstep_21 : decode b_mstep 21 = .ok (.iconst 2, 1) := by decide +kernel
theorem d_mstep_22 : decode b_mstep 22 = .ok (.irem, 1) := by decide +kernel
theorem d_mstep_23 : decode b_mstep 23 = .ok (.istore_n 3, 1) := by decide +kernel
theorem d_mstep_24 : decode b_mstep 24 = .ok (.iload_n 1, 1) := by decide +kernel
theorem d_mstep_25 : decode b_mstep 25 = .ok (.invokestatic 79, 3) := by decide +kernel
theorem d_mstep_28 : decode b_mstep 28 = .ok (.istore 4, 2) := by decide +kernel
theorem d_mstep_30 : decode b_mstep 30 = .ok (.iload 4, 2) := by decide +kernel
theorem d_mstep_32 : decode b_mstep 32 = .ok (.iconst (-1), 1) := by decide +kernel
theorem d_mstep_33 : decode b_mstep 33 = .ok (.if_icmp .ne 7, 3) := by decide +kernel
theorem d_mstep_36 : decode b_mstep 36 = .ok (.iconst 0, 1) := by decide +kernel
theorem d_mstep_37 : decode b_mstep 37 = .ok (.goto 7, 3) := by decide +kernel
theorem d_mstep_44 : decode b_mstep 44 = .ok (.istore 5, 2) := by decide +kernel
theorem d_mstep_46 : decode b_mstep 46 = .ok (.iload_n 1, 1) := by decide +kernel
theorem d_mstep_47 : decode b_mstep 47 = .ok (.invokestatic 82, 3) := by decide +kernel
theorem d_mstep_50 : decode b_mstep 50 = .ok (.iconst (-1), 1) := by decide +kernel
theorem d_mstep_51 : decode b_mstep 51 = .ok (.if_icmp .ne 7, 3) := by decide +kernel
theorem d_mstep_54 : decode b_mstep 54 = .ok (.iconst 0, 1) := by decide +kernel
theorem d_mstep_55 : decode b_mstep 55 = .ok (.goto 9, 3) := by decide +kernel
theorem d_mstep_64 : decode b_mstep 64 = .ok (.istore 6, 2) := by decide +kernel
theorem d_mstep_66 : decode b_mstep 66 = .ok (.iload_n 1, 1) := by decide +kernel
theorem d_mstep_67 : decode b_mstep 67 = .ok (.invokestatic 85, 3) := by decide +kernel
theorem d_mstep_70 : decode b_mstep 70 = .ok (.tableswitch 364 97 122 #[127, 350, 240, 273, 364, 364, 364, 364, 259, 364, 224, 288, 118, 188, 200, 364, 364, 314, 158, 330, 364, 364, 364, 212, 364, 342], 118) := by decide +kernel
theorem d_mstep_434 : decode b_mstep 434 = .ok (.iconst 1, 1) := by decide +kernel
theorem d_mstep_435 : decode b_mstep 435 = .ok (.iload_n 3, 1) := by decide +kernel
theorem d_mstep_436 : decode b_mstep 436 = .ok (.isub, 1) := by decide +kernel
theorem d_mstep_437 : decode b_mstep 437 = .ok (.istore_n 3, 1) := by decide +kernel
theorem d_mstep_438 : decode b_mstep 438 = .ok (.aload_n 2, 1) := by decide +kernel
theorem d_mstep_439 : decode b_mstep 439 = .ok (.iload_n 3, 1) := by decide +kernel
theorem d_mstep_440 : decode b_mstep 440 = .ok (.invokestatic 94, 3) := by decide +kernel
theorem d_mstep_443 : decode b_mstep 443 = .ok (.ireturn, 1) := by decide +kernel
set_option maxRecDepth 20000 in
theorem g_mstep_25 : GoodIn w_mstep (wsS "LeastcodeModel" 79 ⟨"LeastcodeModel", "first", "(I)I"⟩ w_first) := goodIn_r _ [2, 3, 4, 5] rfl (by decide +kernel)
set_option maxRecDepth 20000 in
theorem g_mstep_47 : GoodIn w_mstep (wsS "LeastcodeModel" 82 ⟨"LeastcodeModel", "second", "(I)I"⟩ w_second) := goodIn_r _ [6, 7, 4, 8] rfl (by decide +kernel)
set_option maxRecDepth 20000 in
theorem g_mstep_67 : GoodIn w_mstep (wsS "LeastcodeModel" 85 ⟨"LeastcodeModel", "kind", "(I)C"⟩ w_kind) := goodIn_r _ [9, 10, 4, 11] rfl (by decide +kernel)
set_option maxRecDepth 20000 in
theorem g_mstep_440 : GoodIn w_mstep (wsS "LeastcodeModel" 94 ⟨"LeastcodeModel", "state", "([II)I"⟩ w_state) := goodIn_r _ [12, 13, 4, 14] rfl (by decide +kernel)
set_option maxHeartbeats 4000000 in
set_option maxRecDepth 100000 in
theorem c_mstep (l : Launch) (dC : Nat → ClassId) (dI : Nat → Nat → Nat) (x : Int32) (sz : Nat) : Met l y_mstep w_mstep rm_mstep (va_Pc [.int x, .int 46] (fun U => U.heap.size = sz ∧ va_P (dC, dI) classes [] U.heap ∧ va_K (dC, dI) classes [] U ∧ va_D (fun _ => True) [])) (va_Qi (fun r (_ : Unit) => True) (fun _ t => va_P (dC, dI) classes [] t.heap ∧ va_K (dC, dI) classes [] t ∧ va_D (va_A [] sz) [] ∧ sz + 1 ≤ t.heap.size) (va_A [] sz)) 1 2 (va_A [] sz) := by
  refine Met.ofW (cc := b_mstep) (maxL := 7) (ret := (some .int)) (by decide) rfl ?_
  intro p e s m args below meth c s₁ B hml hv
  obtain ⟨rfl, hsz, hP, hK, hD0⟩ := hv
  have hx := B.exec
  have hb := B.bytes
  have hr := B.returns
  have hts := atoms_spec (ws := w_mstep) B.pre
  have hown : s.vm.findClass "LeastcodeModel" = some m.cls := findClass_of_methodNamed B.named
  have hlocks := B.notSynchronized
  subst hsz
  have hD := hD0.self (sz := s.heap.size)
  generalize hAe : va_A [] s.heap.size = A at hD ⊢
  have hA : ∀ q : Nat, s.heap.size ≤ q → A q := fun q h => by rw [← hAe]; exact Or.inr h
  have hS : va_S A s.heap s.heap [] := va_S.rf
  have hP : va_P (dC, dI) classes [] s.heap := hP
  have hl := lv_entry ([.int x, .int 46]) (n := 7) (Nat.le_of_ble_eq_true rfl)
  rw [lg_entry_eq]
  generalize (lg_sl ([.int x, .int 46]) ++ List.replicate (7 - (lg_sl ([.int x, .int 46])).length) Slot.unset).toArray = ls at hl ⊢
  have hl : lv_has ls 7 [(0, .int x), (1, .int 46)] := hl
  refine lv_iconst (v := 2) hx hb d_mstep_0 (by decide) ?_
  refine va_newa (D := (dC, dI)) (atype := .int) (a0 := (2, .inl (fun _ => 0))) (ty := .int) (N' := 2) hx hb (hts (.arrayClass .int) (List.mem_of_getElem? (i := 1) rfl)) rfl hK hP hD hS hA (fun cA => rfl) (by decide) (by decide) (Nat.le_of_ble_eq_true rfl) (Nat.le_of_ble_eq_true rfl) (Nat.le_of_ble_eq_true rfl) d_mstep_1 (fun q1 cA2 H hK hP hD hS => ?_)
  have hP : va_P (dC, dI) classes [(q1, .inl (cA2, 2, .inl (fun _ => 0)))] H := hP
  have hK : va_K (dC, dI) classes [(cA2, .int)] s := hK
  have hD : va_D A [(q1, .inl (cA2, 2, .inl (fun _ => 0)))] := hD
  refine W.widen (k := 1) (n := 2) (by omega) (by omega) ?_
  refine lv_dup hx hb d_mstep_3 rfl ?_
  refine lv_iconst (v := 0) hx hb d_mstep_4 (by decide) ?_
  refine lv_iload_n hx hb d_mstep_5 rfl (lv_at hl 0 rfl) ?_
  refine lv_bipush (v := 16) hx hb d_mstep_6 (by decide) ?_
  refine lv_idiv hx hb d_mstep_8 (by decide) ?_
  refine lv_topi (fun x3 ex3 => ?_)
  refine va_iast (D := (dC, dI)) hx hb hK hP hD hS 0 0 rfl rfl (by unfold vp_in; decide) d_mstep_9 (fun H locs hP hD hS => ?_)
  have hP : va_P (dC, dI) classes [(q1, .inl (cA2, 2, .inl (upd (fun _ => 0) (0 : Int32).toNatClampNeg (x3))))] H := hP
  have hD : va_D A [(q1, .inl (cA2, 2, .inl (upd (fun _ => 0) (0 : Int32).toNatClampNeg (x3))))] := hD
  generalize upd (fun _ => 0) (0 : Int32).toNatClampNeg (x3) = f4 at hP hD
  refine lv_dup hx hb d_mstep_10 rfl ?_
  refine lv_iconst (v := 1) hx hb d_mstep_11 (by decide) ?_
  refine lv_iload_n hx hb d_mstep_12 rfl (lv_at hl 0 rfl) ?_
  refine lv_iconst (v := 2) hx hb d_mstep_13 (by decide) ?_
  refine lv_idiv hx hb d_mstep_14 (by decide) ?_
  refine lv_topi (fun x5 ex5 => ?_)
  refine lv_bipush (v := 8) hx hb d_mstep_15 (by decide) ?_
  refine lv_irem hx hb d_mstep_17 (by decide) ?_
  refine lv_topi (fun x6 ex6 => ?_)
  refine va_iast (D := (dC, dI)) hx hb hK hP hD hS 0 0 rfl rfl (by unfold vp_in; decide) d_mstep_18 (fun H locs hP hD hS => ?_)
  have hP : va_P (dC, dI) classes [(q1, .inl (cA2, 2, .inl (upd f4 (1 : Int32).toNatClampNeg (x6))))] H := hP
  have hD : va_D A [(q1, .inl (cA2, 2, .inl (upd f4 (1 : Int32).toNatClampNeg (x6))))] := hD
  generalize upd f4 (1 : Int32).toNatClampNeg (x6) = f7 at hP hD
  refine lv_astore_n (lv' := [(2, .ref q1), (0, .int x), (1, .int 46)]) hx hb d_mstep_19 rfl hl (by decide) rfl (fun ls hl => ?_)
  refine lv_iload_n hx hb d_mstep_20 rfl (lv_at hl 1 rfl) ?_
  refine lv_iconst (v := 2) hx hb d_mstep_21 (by decide) ?_
  refine lv_irem hx hb d_mstep_22 (by decide) ?_
  refine lv_topi (fun x8 ex8 => ?_)
  refine lv_istore_n (lv' := [(3, .int x8), (2, .ref q1), (0, .int x), (1, .int 46)]) hx hb d_mstep_23 rfl hl (by decide) rfl (fun ls hl => ?_)
  refine lv_iload_n hx hb d_mstep_24 rfl (lv_at hl 3 rfl) ?_
  refine vp_callSi (W.runS (As := [.int 46]) (rest := []) ⟨hx, hb, hml, hown, hts⟩ (c_first l ) (cwS 1 hts g_mstep_25 rfl rfl rfl (by decide +kernel) ⟨Nat.le_of_ble_eq_true rfl, Nat.le_of_ble_eq_true rfl⟩) ⟨fun a U g mk z => z, fun U hU hW => ⟨rfl, trivial⟩⟩ rfl rfl hl.1 rfl (lv_room (Nat.le_of_ble_eq_true rfl)) d_mstep_25 ⟨(Nat.le_of_ble_eq_true rfl), (Nat.le_of_ble_eq_true rfl)⟩) (fun r9 hr9 => ?_)
  replace hr9 := hr9.symm; subst hr9
  refine lv_istore (lv' := [(4, .int (-1)), (3, .int x8), (2, .ref q1), (0, .int x), (1, .int 46)]) hx hb d_mstep_28 hl (by decide) rfl (fun ls hl => ?_)
  refine lv_iload hx hb d_mstep_30 (lv_at hl 0 rfl) ?_
  refine lv_iconst (v := (-1)) hx hb d_mstep_32 (by decide) ?_
  refine lv_icmp_ne (tgt := 40) hx hb d_mstep_33 (by decide) (fun c_33 => ?_) (fun c_33 => ?_)
  · exact absurd rfl c_33
  · skip
    refine lv_iconst (v := 0) hx hb d_mstep_36 (by decide) ?_
    refine lv_goto (tgt := 44) hx hb d_mstep_37 (by decide) ?_
    refine lv_istore (lv' := [(5, .int 0), (4, .int (-1)), (3, .int x8), (2, .ref q1), (0, .int x), (1, .int 46)]) hx hb d_mstep_44 hl (by decide) rfl (fun ls hl => ?_)
    refine lv_iload_n hx hb d_mstep_46 rfl (lv_at hl 5 rfl) ?_
    refine vp_callSi (W.runS (As := [.int 46]) (rest := []) ⟨hx, hb, hml, hown, hts⟩ (c_second l ) (cwS 1 hts g_mstep_47 rfl rfl rfl (by decide +kernel) ⟨Nat.le_of_ble_eq_true rfl, Nat.le_of_ble_eq_true rfl⟩) ⟨fun a U g mk z => z, fun U hU hW => ⟨rfl, trivial⟩⟩ rfl rfl hl.1 rfl (lv_room (Nat.le_of_ble_eq_true rfl)) d_mstep_47 ⟨(Nat.le_of_ble_eq_true rfl), (Nat.le_of_ble_eq_true rfl)⟩) (fun r10 hr10 => ?_)
    replace hr10 := hr10.symm; subst hr10
    refine lv_iconst (v := (-1)) hx hb d_mstep_50 (by decide) ?_
    refine lv_icmp_ne (tgt := 58) hx hb d_mstep_51 (by decide) (fun c_51 => ?_) (fun c_51 => ?_)
    · exact absurd rfl c_51
    · skip
      refine lv_iconst (v := 0) hx hb d_mstep_54 (by decide) ?_
      refine lv_goto (tgt := 64) hx hb d_mstep_55 (by decide) ?_
      refine lv_istore (lv' := [(6, .int 0), (5, .int 0), (4, .int (-1)), (3, .int x8), (2, .ref q1), (0, .int x), (1, .int 46)]) hx hb d_mstep_64 hl (by decide) rfl (fun ls hl => ?_)
      refine lv_iload_n hx hb d_mstep_66 rfl (lv_at hl 6 rfl) ?_
      refine vp_callSi (W.runS (As := [.int 46]) (rest := []) ⟨hx, hb, hml, hown, hts⟩ (c_kind l ) (cwS 1 hts g_mstep_67 rfl rfl rfl (by decide +kernel) ⟨Nat.le_of_ble_eq_true rfl, Nat.le_of_ble_eq_true rfl⟩) ⟨fun a U g mk z => z, fun U hU hW => ⟨rfl, trivial⟩⟩ rfl rfl hl.1 rfl (lv_room (Nat.le_of_ble_eq_true rfl)) d_mstep_67 ⟨(Nat.le_of_ble_eq_true rfl), (Nat.le_of_ble_eq_true rfl)⟩) (fun r11 hr11 => ?_)
      replace hr11 := hr11.symm; subst hr11
      refine lv_tableIn (off := 364) (tgt := 434) hx hb d_mstep_70 (by decide) (by decide) (by decide) (by decide) ?_
      refine lv_iconst (v := 1) hx hb d_mstep_434 (by decide) ?_
      refine lv_iload_n hx hb d_mstep_435 rfl (lv_at hl 3 rfl) ?_
      refine lv_isub hx hb d_mstep_436 ?_
      refine lv_topi (fun x12 ex12 => ?_)
      refine lv_istore_n (lv' := [(3, .int x12), (6, .int 0), (5, .int 0), (4, .int (-1)), (2, .ref q1), (0, .int x), (1, .int 46)]) hx hb d_mstep_437 rfl hl (by decide) rfl (fun ls hl => ?_)
      refine lv_aload_n hx hb d_mstep_438 rfl (lv_at hl 4 rfl) ?_
      refine lv_iload_n hx hb d_mstep_439 rfl (lv_at hl 0 rfl) ?_
      have hPc : va_P (dC, dI) classes [(q1, .inl (cA2, 2, .inl (f7)))] _ := hP.sub (ws' := [(q1, .inl (cA2, 2, .inl (f7)))]) [0] rfl
      have hKc : va_K (dC, dI) classes [(cA2, .int)] s := hK.sub (tys' := [(cA2, .int)]) [0] rfl
      refine vp_callSi (W.runS (As := [.ref q1, .int x12]) (rest := []) ⟨hx, hb, hml, hown, hts⟩ (c_state l dC dI q1 cA2 f7 x12) (cwS 2 hts g_mstep_440 rfl rfl rfl (by decide +kernel) ⟨Nat.le_of_ble_eq_true rfl, Nat.le_of_ble_eq_true rfl⟩) ⟨fun a U g mk z => by obtain ⟨z0, zP, zK⟩ := z; exact ⟨z0, zP, va_K.moved (u := U) (U := U.calling g mk a) (Vm.Alike.refl U.vm) zK⟩, fun U hU hW => ⟨rfl, by rw [hU]; exact hPc, va_K.moved hW.alike hKc⟩⟩ rfl rfl hl.1 rfl (lv_room (Nat.le_of_ble_eq_true rfl)) d_mstep_440 ⟨(Nat.le_of_ble_eq_true rfl), (Nat.le_of_ble_eq_true rfl)⟩) (fun r13 hr13 => ?_)
      have hP9 : va_P (dC, dI) classes [] H := hP.sub (ws' := []) [] rfl
      have hD9 := hD.sub (ws' := []) [] (by decide) rfl
      have hK9 := hK.sub (tys' := []) [] rfl
      refine W.widen (k := 1) (n := 2) (by omega) (by omega) ?_
      exact W.iret hx hb hr (fun t ht hW => ⟨⟨_, (), rfl, trivial, ⟨by rw [ht]; exact hP9, va_K.moved hW.alike hK9, hD9, (by rw [ht]; exact ry_grow hAe hP hD 0 rfl (by intro z hz; cases hz))⟩⟩, hS.F ht⟩) hS.2.2 d_mstep_443

abbrev rm_ran : Room := { frames := 3, cells := 9, slots := 20, locals := 53 }
abbrev b_ran : ByteArray := prog_11_method_17_code
def y_ran : MethodName := ⟨"LeastcodeModel", "ran", "(Ljava/util/List;I)I"⟩
def w_ran : List Cond := [.code ⟨"LeastcodeModel", "ran", "(Ljava/util/List;I)I"⟩ prog_11_method_17_code 5 (some .int), .methodLink "LeastcodeModel" 103 ⟨"java/util/List", "iterator", "()Ljava/util/Iterator;"⟩, .selects "java/util/ArrayList" ⟨"java/util/List", "iterator", "()Ljava/util/Iterator;"⟩ ⟨"java/util/ArrayList", "iterator", "()Ljava/util/Iterator;"⟩, .instanceMethod ⟨"java/util/ArrayList", "iterator", "()Ljava/util/Iterator;"⟩, .initialized "java/util/ArrayList", .code ⟨"java/util/ArrayList", "iterator", "()Ljava/util/Iterator;"⟩ prog_50_method_55_code 1 (some (.object "java/util/Iterator")), .lays "java/util/ArrayList$Itr" "java/util/ArrayList$Itr" "cursor" "I", .lays "java/util/ArrayList$Itr" "java/util/ArrayList$Itr" "lastRet" "I", .lays "java/util/ArrayList$Itr" "java/util/ArrayList$Itr" "expectedModCount" "I", .laysFinal "java/util/ArrayList$Itr" "java/util/ArrayList$Itr" "this$0" "Ljava/util/ArrayList;", .classLink "java/util/ArrayList" 267 "java/util/ArrayList$Itr", .instantiable "java/util/ArrayList$Itr" 4, .initialized "java/util/ArrayList$Itr", .code ⟨"java/util/ArrayList$Itr", "<init>", "(Ljava/util/ArrayList;)V"⟩ prog_51_method_1_code 2 none, .fieldLink "java/util/ArrayList$Itr" 1 "java/util/ArrayList$Itr" "this$0" "Ljava/util/ArrayList;", .methodLink "java/util/ArrayList$Itr" 7 ⟨"java/lang/Object", "<init>", "()V"⟩, .instanceMethod ⟨"java/lang/Object", "<init>", "()V"⟩, .code ⟨"java/lang/Object", "<init>", "()V"⟩ object_method_1_code 1 none, .fieldLink "java/util/ArrayList$Itr" 13 "java/util/ArrayList$Itr" "lastRet" "I", .sameField "java/util/ArrayList" "java/util/AbstractList" "modCount" "I", .lays "java/util/ArrayList" "java/util/AbstractList" "modCount" "I", .lays "java/util/ArrayList" "java/util/ArrayList" "elementData" "[Ljava/lang/Object;", .lays "java/util/ArrayList" "java/util/ArrayList" "size" "I", .fieldLink "java/util/ArrayList$Itr" 17 "java/util/ArrayList" "modCount" "I", .fieldLink "java/util/ArrayList$Itr" 22 "java/util/ArrayList$Itr" "expectedModCount" "I", .methodLink "java/util/ArrayList" 269 ⟨"java/util/ArrayList$Itr", "<init>", "(Ljava/util/ArrayList;)V"⟩, .instanceMethod ⟨"java/util/ArrayList$Itr", "<init>", "(Ljava/util/ArrayList;)V"⟩, .methodLink "LeastcodeModel" 107 ⟨"java/util/Iterator", "hasNext", "()Z"⟩, .selects "java/util/ArrayList$Itr" ⟨"java/util/Iterator", "hasNext", "()Z"⟩ ⟨"java/util/ArrayList$Itr", "hasNext", "()Z"⟩, .instanceMethod ⟨"java/util/ArrayList$Itr", "hasNext", "()Z"⟩, .code ⟨"java/util/ArrayList$Itr", "hasNext", "()Z"⟩ prog_51_method_2_code 1 (some .boolean), .fieldLink "java/util/ArrayList$Itr" 25 "java/util/ArrayList$Itr" "cursor" "I", .methodLink "LeastcodeModel" 113 ⟨"java/util/Iterator", "next", "()Ljava/lang/Object;"⟩, .selects "java/util/ArrayList$Itr" ⟨"java/util/Iterator", "next", "()Ljava/lang/Object;"⟩ ⟨"java/util/ArrayList$Itr", "next", "()Ljava/lang/Object;"⟩, .instanceMethod ⟨"java/util/ArrayList$Itr", "next", "()Ljava/lang/Object;"⟩, .code ⟨"java/util/ArrayList$Itr", "next", "()Ljava/lang/Object;"⟩ prog_51_method_3_code 3 (some (.object "java/lang/Object")), .methodLink "java/util/ArrayList$Itr" 31 ⟨"java/util/ArrayList$Itr", "checkForComodification", "()V"⟩, .instanceMethod ⟨"java/util/ArrayList$Itr", "checkForComodification", "()V"⟩, .selects "java/util/ArrayList$Itr" ⟨"java/util/ArrayList$Itr", "checkForComodification", "()V"⟩ ⟨"java/util/ArrayList$Itr", "checkForComodification", "()V"⟩, .code ⟨"java/util/ArrayList$Itr", "checkForComodification", "()V"⟩ prog_51_method_6_code 1 none, .fieldLink "java/util/ArrayList$Itr" 37 "java/util/ArrayList" "elementData" "[Ljava/lang/Object;", .classLink "LeastcodeModel" 117 "java/lang/Integer", .methodLink "LeastcodeModel" 119 ⟨"java/lang/Integer", "intValue", "()I"⟩, .instanceMethod ⟨"java/lang/Integer", "intValue", "()I"⟩, .selects "java/lang/Integer" ⟨"java/lang/Integer", "intValue", "()I"⟩ ⟨"java/lang/Integer", "intValue", "()I"⟩, .initialized "java/lang/Integer", .code ⟨"java/lang/Integer", "intValue", "()I"⟩ prog_27_method_27_code 1 (some .int), .fieldLink "java/lang/Integer" 205 "java/lang/Integer" "value" "I", .methodLink "LeastcodeModel" 122 ⟨"LeastcodeModel", "step", "(II)I"⟩, .static ⟨"LeastcodeModel", "step", "(II)I"⟩, .initialized "LeastcodeModel", .code ⟨"LeastcodeModel", "step", "(II)I"⟩ prog_11_method_13_code 7 (some .int), .arrayClass .int, .methodLink "LeastcodeModel" 79 ⟨"LeastcodeModel", "first", "(I)I"⟩, .static ⟨"LeastcodeModel", "first", "(I)I"⟩, .code ⟨"LeastcodeModel", "first", "(I)I"⟩ prog_11_method_9_code 1 (some .int), .methodLink "LeastcodeModel" 82 ⟨"LeastcodeModel", "second", "(I)I"⟩, .static ⟨"LeastcodeModel", "second", "(I)I"⟩, .code ⟨"LeastcodeModel", "second", "(I)I"⟩ prog_11_method_10_code 1 (some .int), .methodLink "LeastcodeModel" 85 ⟨"LeastcodeModel", "kind", "(I)C"⟩, .static ⟨"LeastcodeModel", "kind", "(I)C"⟩, .code ⟨"LeastcodeModel", "kind", "(I)C"⟩ prog_11_method_8_code 1 (some .char), .methodLink "LeastcodeModel" 94 ⟨"LeastcodeModel", "state", "([II)I"⟩, .static ⟨"LeastcodeModel", "state", "([II)I"⟩, .code ⟨"LeastcodeModel", "state", "([II)I"⟩ prog_11_method_12_code 2 (some .int)]
theorem d_ran_0 : decode b_ran 0 = .ok (.iload_n 1, 1) := by decide +kernel
theorem d_ran_1 : decode b_ran 1 = .ok (.istore_n 2, 1) := by decide +kernel
theorem d_ran_2 : decode b_ran 2 = .ok (.aload_n 0, 1) := by decide +kernel
theorem d_ran_3 : decode b_ran 3 = .ok (.invokeinterface 103 1, 5) := by decide +kernel
theorem d_ran_8 : decode b_ran 8 = .ok (.astore_n 3, 1) := by decide +kernel
theorem d_ran_9 : decode b_ran 9 = .ok (.aload_n 3, 1) := by decide +kernel
theorem d_ran_10 : decode b_ran 10 = .ok (.invokeinterface 107 1, 5) := by decide +kernel
theorem d_ran_15 : decode b_ran 15 = .ok (.ifCond .eq 27, 3) := by decide +kernel
theorem d_ran_18 : decode b_ran 18 = .ok (.aload_n 3, 1) := by decide +kernel
theorem d_ran_19 : decode b_ran 19 = .ok (.invokeinterface 113 1, 5) := by decide +kernel
theorem d_ran_24 : decode b_ran 24 = .ok (.checkcast 117, 3) := by decide +kernel
theorem d_ran_27 : decode b_ran 27 = .ok (.invokevirtual 119, 3) := by decide +kernel
theorem d_ran_30 : decode b_ran 30 = .ok (.istore 4, 2) := by decide +kernel
theorem d_ran_32 : decode b_ran 32 = .ok (.iload_n 2, 1) := by decide +kernel
theorem d_ran_33 : decode b_ran 33 = .ok (.iload 4, 2) := by decide +kernel
theorem d_ran_35 : decode b_ran 35 = .ok (.invokestatic 122, 3) := by decide +kernel
theorem d_ran_38 : decode b_ran 38 = .ok (.istore_n 2, 1) := by decide +kernel
theorem d_ran_39 : decode b_ran 39 = .ok (.goto (-30), 3) := by decide +kernel
theorem d_ran_42 : decode b_ran 42 = .ok (.iload_n 2, 1) := by decide +kernel
theorem d_ran_43 : decode b_ran 43 = .ok (.ireturn, 1) := by decide +kernel
set_option maxRecDepth 20000 in
theorem g_ran_3 : GoodIn w_ran (va_wsF "LeastcodeModel" 103 "java/util/ArrayList" ⟨"java/util/List", "iterator", "()Ljava/util/Iterator;"⟩ ⟨"java/util/ArrayList", "iterator", "()Ljava/util/Iterator;"⟩ w_AL_iterator) := goodIn_r _ [1, 2, 3, 4, 5, 6, 7, 8, 9, 10, 11, 12, 13, 14, 15, 16, 17, 18, 19, 20, 21, 22, 23, 24, 25, 26] rfl (by decide +kernel)
set_option maxRecDepth 20000 in
theorem g_ran_10 : GoodIn w_ran (va_wsF "LeastcodeModel" 107 "java/util/ArrayList$Itr" ⟨"java/util/Iterator", "hasNext", "()Z"⟩ ⟨"java/util/ArrayList$Itr", "hasNext", "()Z"⟩ w_IT_hasNext) := goodIn_r _ [27, 28, 29, 12, 30, 6, 7, 8, 9, 31, 14, 20, 21, 22] rfl (by decide +kernel)
set_option maxRecDepth 20000 in
theorem g_ran_19 : GoodIn w_ran (va_wsF "LeastcodeModel" 113 "java/util/ArrayList$Itr" ⟨"java/util/Iterator", "next", "()Ljava/lang/Object;"⟩ ⟨"java/util/ArrayList$Itr", "next", "()Ljava/lang/Object;"⟩ w_IT_next) := goodIn_r _ [32, 33, 34, 12, 35, 36, 37, 38, 12, 39, 6, 7, 8, 9, 14, 19, 20, 21, 22, 23, 24, 31, 40, 18] rfl (by decide +kernel)
set_option maxRecDepth 20000 in
theorem g_ran_27 : GoodIn w_ran (wsV "LeastcodeModel" 119 "java/lang/Integer" ⟨"java/lang/Integer", "intValue", "()I"⟩ w_IN_intValue) := goodIn_r _ [42, 43, 44, 45, 46, 47] rfl (by decide +kernel)
set_option maxRecDepth 20000 in
theorem g_ran_35 : GoodIn w_ran (wsS "LeastcodeModel" 122 ⟨"LeastcodeModel", "step", "(II)I"⟩ w_mstep) := goodIn_r _ [48, 49, 50, 51, 52, 53, 54, 50, 55, 56, 57, 58, 59, 60, 61, 62, 63, 64] rfl (by decide +kernel)
set_option maxHeartbeats 4000000 in
set_option maxRecDepth 100000 in
theorem c_ran (l : Launch) (dC : Nat → ClassId) (dI : Nat → Nat → Nat) (h0 : Nat) (md : Int32) (ed : Nat) (n : Int32) (cB : ClassId) (f0 : Nat → Option Nat) (e0 : Nat) (x1 : Int32) (hnk : n = nI 8) (hfk : ∀ j, j < 8 → f0 j = some e0) (sz : Nat) : Met l y_ran w_ran rm_ran (va_Pc [.ref h0, .int x1] (fun U => U.heap.size = sz ∧ va_P (dC, dI) classes [(h0, .inr (9, [.int md, .ref ed, .int n])), (ed, .inl (cB, 10, .inr (.inr (.inr (.inr (f0))))))] U.heap ∧ va_K (dC, dI) classes [(cB, .object "java/lang/Object")] U ∧ va_D (fun _ => True) [(h0, .inr (9, [.int md, .ref ed, .int n])), (ed, .inl (cB, 10, .inr (.inr (.inr (.inr (f0))))))] ∧ va_O "java/lang/Integer" e0 (va_A [(h0, .inr (9, [.int md, .ref ed, .int n])), (ed, .inl (cB, 10, .inr (.inr (.inr (.inr (f0))))))] sz) U U.heap ∧ va_OF "java/lang/Integer" "value" "I" (.int 46) e0 (va_A [(h0, .inr (9, [.int md, .ref ed, .int n])), (ed, .inl (cB, 10, .inr (.inr (.inr (.inr (f0))))))] sz) U U.heap ∧ va_Fw "java/util/ArrayList" ⟨"java/util/List", "iterator", "()Ljava/util/Iterator;"⟩ ⟨"java/util/ArrayList", "iterator", "()Ljava/util/Iterator;"⟩ U ∧ va_Fw "java/util/ArrayList$Itr" ⟨"java/util/Iterator", "hasNext", "()Z"⟩ ⟨"java/util/ArrayList$Itr", "hasNext", "()Z"⟩ U ∧ va_Nw (.fieldLinkNest "java/util/ArrayList$Itr" 28 "java/util/ArrayList" "size" "I" "java/util/ArrayList") U ∧ va_Fw "java/util/ArrayList$Itr" ⟨"java/util/Iterator", "next", "()Ljava/lang/Object;"⟩ ⟨"java/util/ArrayList$Itr", "next", "()Ljava/lang/Object;"⟩ U)) (va_Qi (fun r (_ : Unit) => True) (fun _ t => va_P (dC, dI) classes [(h0, .inr (9, [.int md, .ref ed, .int n])), (ed, .inl (cB, 10, .inr (.inr (.inr (.inr (f0))))))] t.heap ∧ va_K (dC, dI) classes [(cB, .object "java/lang/Object")] t ∧ va_D (va_A [(h0, .inr (9, [.int md, .ref ed, .int n])), (ed, .inl (cB, 10, .inr (.inr (.inr (.inr (f0))))))] sz) [(h0, .inr (9, [.int md, .ref ed, .int n])), (ed, .inl (cB, 10, .inr (.inr (.inr (.inr (f0))))))] ∧ sz + 9 ≤ t.heap.size) (va_A [(h0, .inr (9, [.int md, .ref ed, .int n])), (ed, .inl (cB, 10, .inr (.inr (.inr (.inr (f0))))))] sz)) 9 20 (va_A [(h0, .inr (9, [.int md, .ref ed, .int n])), (ed, .inl (cB, 10, .inr (.inr (.inr (.inr (f0))))))] sz) := by
  refine Met.ofW (cc := b_ran) (maxL := 5) (ret := (some .int)) (by decide) rfl ?_
  intro p e s m args below meth c s₁ B hml hv
  obtain ⟨rfl, hsz, hP, hK, hD0, hE0, hE1, hE2, hE3, hE4, hE5⟩ := hv
  have hx := B.exec
  have hb := B.bytes
  have hr := B.returns
  have hts := atoms_spec (ws := w_ran) B.pre
  have hown : s.vm.findClass "LeastcodeModel" = some m.cls := findClass_of_methodNamed B.named
  have hlocks := B.notSynchronized
  subst hsz
  have hD := hD0.self (sz := s.heap.size)
  generalize hAe : va_A [(h0, .inr (9, [.int md, .ref ed, .int n])), (ed, .inl (cB, 10, .inr (.inr (.inr (.inr (f0))))))] s.heap.size = A at hD hE0 hE1 hE2 hE3 hE4 hE5 ⊢
  have hA : ∀ q : Nat, s.heap.size ≤ q → A q := fun q h => by rw [← hAe]; exact Or.inr h
  have hS : va_S A s.heap s.heap [] := va_S.rf
  have hP : va_P (dC, dI) classes [(h0, .inr (9, [.int md, .ref ed, .int n])), (ed, .inl (cB, 10, .inr (.inr (.inr (.inr (f0))))))] s.heap := hP
  have hl := lv_entry ([.ref h0, .int x1]) (n := 5) (Nat.le_of_ble_eq_true rfl)
  rw [lg_entry_eq]
  generalize (lg_sl ([.ref h0, .int x1]) ++ List.replicate (5 - (lg_sl ([.ref h0, .int x1])).length) Slot.unset).toArray = ls at hl ⊢
  have hl : lv_has ls 5 [(0, .ref h0), (1, .int x1)] := hl
  refine lv_iload_n hx hb d_ran_0 rfl (lv_at hl 1 rfl) ?_
  refine lv_istore_n (lv' := [(2, .int x1), (0, .ref h0), (1, .int x1)]) hx hb d_ran_1 rfl hl (by decide) rfl (fun ls hl => ?_)
  refine lv_aload_n hx hb d_ran_2 rfl (lv_at hl 1 rfl) ?_
  have hPc : va_P (dC, dI) classes [(h0, .inr (9, [.int md, .ref ed, .int n]))] _ := hP.sub (ws' := [(h0, .inr (9, [.int md, .ref ed, .int n]))]) [0] rfl
  have hKc : va_K (dC, dI) classes [] s := hK.sub (tys' := []) [] rfl
  have hDc : va_D _ [(h0, .inr (9, [.int md, .ref ed, .int n]))] := hD.sub (ws' := [(h0, .inr (9, [.int md, .ref ed, .int n]))]) [0] (by decide) rfl
  have hFc := va_free (wc := [(h0, .inr (9, [.int md, .ref ed, .int n]))]) hD hS hA [0] rfl
  refine va_callFr (va_runF (As := []) (rest := []) (hKc.1 9 _ rfl).2 ⟨hx, hb, hml, hown, hts⟩ (c_AL_iterator l dC dI h0 md ed n s.heap.size) (va_cwF 0 hts g_ran_3 rfl rfl rfl hE2 (by decide +kernel) ⟨Nat.le_of_ble_eq_true rfl, Nat.le_of_ble_eq_true rfl⟩) ⟨fun a U g mk z => by obtain ⟨z0, z1, zP, zK, zD⟩ := z; exact ⟨z0, z1, zP, va_K.moved (u := U) (U := U.calling g mk a) (Vm.Alike.refl U.vm) zK, zD⟩, va_recv hKc hPc (ci := 9) (q0 := 0) rfl rfl, fun U hU hW => ⟨rfl, by rw [hU], by rw [hU]; exact hPc, va_K.moved hW.alike hKc, hDc.weaken (fun _ _ _ _ => trivial)⟩⟩ rfl rfl hl.1 rfl (lv_room (Nat.le_of_ble_eq_true rfl)) d_ran_3 ⟨(Nat.le_of_ble_eq_true rfl), (Nat.le_of_ble_eq_true rfl)⟩) hS (fun q _ h => hFc q h) hFc (fun u r1 t H1 locs ht hvm hr1 hB hz1 hk1 hS => ?_)
  obtain ⟨hP1, hK1, hD1, hpr1_0⟩ := hB
  rw [ht] at hP1
  have hK1 := va_K.moved hvm.symm hK1
  rw [ht] at hpr1_0
  obtain ⟨hP, hD⟩ := va_join (wr := [(ed, .inl (cB, 10, .inr (.inr (.inr (.inr (f0))))))]) (w1 := [(r1, .inr (10, [.int 0, .int (-1), .int md, .ref h0])), (h0, .inr (9, [.int md, .ref ed, .int n]))]) hP hD [0] [1] rfl rfl (by decide) (by decide) hk1 hFc hP1 hD1
  clear hPc hDc hKc hFc hP1 hD1 hK1 hk1
  have hg : s.heap.size + 1 ≤ H1.size := hpr1_0
  generalize H1 = H at hP hS hg ⊢
  have hP : va_P (dC, dI) classes [(ed, .inl (cB, 10, .inr (.inr (.inr (.inr (f0)))))), (r1, .inr (10, [.int 0, .int (-1), .int md, .ref h0])), (h0, .inr (9, [.int md, .ref ed, .int n]))] H := hP
  have hD : va_D A [(ed, .inl (cB, 10, .inr (.inr (.inr (.inr (f0)))))), (r1, .inr (10, [.int 0, .int (-1), .int md, .ref h0])), (h0, .inr (9, [.int md, .ref ed, .int n]))] := hD
  refine W.widen (k := 1) (n := 4) (by omega) (by omega) ?_
  refine lv_astore_n (lv' := [(3, .ref r1), (2, .int x1), (0, .ref h0), (1, .int x1)]) hx hb d_ran_8 rfl hl (by decide) rfl (fun ls hl => ?_)
  refine ry_abs (fun QQ hQ => ?_)
  have loop : ∀ (k i : Nat), i + k = 8 → ∀ (H : Heap) (locs : List Loc) (st : Int32) (lr : Int32) (ls : Array Slot) (x : Int32), x = nI i → (s.heap.size + 1 + i ≤ H.size) → va_P (dC, dI) classes [(ed, .inl (cB, 10, .inr (.inr (.inr (.inr (f0)))))), (r1, .inr (10, [.int x, .int lr, .int md, .ref h0])), (h0, .inr (9, [.int md, .ref ed, .int n]))] H → va_D A [(ed, .inl (cB, 10, .inr (.inr (.inr (.inr (f0)))))), (r1, .inr (10, [.int x, .int lr, .int md, .ref h0])), (h0, .inr (9, [.int md, .ref ed, .int n]))] → va_S A s.heap H locs → lv_has ls 5 [(3, .ref r1), (2, .int st), (0, .ref h0)] → W p l e (headSpec w_ran rm_ran).room s m ([.ref h0, .int x1] : List Value).toArray below meth c H locs (1 + i) (4 + 2 * i) QQ (F0 m 9 ls []) := by
    intro k
    induction k with
    | zero =>
      intro i hi H locs st lr ls x ex0 hg hP hD hS hl
      obtain rfl : i = 8 := by omega
      refine W.widen (k := 9) (n := 20) (by omega) (by omega) ?_
      refine lv_aload_n hx hb d_ran_9 rfl (lv_at hl 0 rfl) ?_
      have hPc : va_P (dC, dI) classes [(r1, .inr (10, [.int x, .int lr, .int md, .ref h0])), (h0, .inr (9, [.int md, .ref ed, .int n]))] _ := hP.sub (ws' := [(r1, .inr (10, [.int x, .int lr, .int md, .ref h0])), (h0, .inr (9, [.int md, .ref ed, .int n]))]) [1, 2] rfl
      have hKc : va_K (dC, dI) classes [] s := hK.sub (tys' := []) [] rfl
      refine va_csFi (va_runF (As := []) (rest := []) (hKc.1 10 _ rfl).2 ⟨hx, hb, hml, hown, hts⟩ (c_IT_hasNext l dC dI r1 x lr md h0 ed n) (va_cwF 0 hts g_ran_10 rfl rfl rfl hE3 (by decide +kernel) ⟨Nat.le_of_ble_eq_true rfl, Nat.le_of_ble_eq_true rfl⟩) ⟨fun a U g mk z => by obtain ⟨z0, zP, zK, zE0⟩ := z; exact ⟨z0, zP, va_K.moved (u := U) (U := U.calling g mk a) (Vm.Alike.refl U.vm) zK, va_Nw.same rfl (u := U) (U := U.calling g mk a) rfl zE0⟩, va_recv hKc hPc (ci := 10) (q0 := 0) rfl rfl, fun U hU hW => ⟨rfl, by rw [hU]; exact hPc, va_K.moved hW.alike hKc, va_Nw.warmF hW hE4⟩⟩ rfl rfl hl.1 rfl (lv_room (Nat.le_of_ble_eq_true rfl)) d_ran_10 ⟨(Nat.le_of_ble_eq_true rfl), (Nat.le_of_ble_eq_true rfl)⟩) (fun r2 hr2 => ?_)
      refine lv_if_eq (tgt := 42) hx hb d_ran_15 (by decide) (fun c_15 => ?_) (fun c_15 => ?_)
      · skip
        refine lv_iload_n hx hb d_ran_42 rfl (lv_at hl 1 rfl) ?_
        subst hQ
        have hP9 : va_P (dC, dI) classes [(h0, .inr (9, [.int md, .ref ed, .int n])), (ed, .inl (cB, 10, .inr (.inr (.inr (.inr (f0))))))] H := hP.sub (ws' := [(h0, .inr (9, [.int md, .ref ed, .int n])), (ed, .inl (cB, 10, .inr (.inr (.inr (.inr (f0))))))]) [2, 0] rfl
        have hD9 := hD.sub (ws' := [(h0, .inr (9, [.int md, .ref ed, .int n])), (ed, .inl (cB, 10, .inr (.inr (.inr (.inr (f0))))))]) [2, 0] (by decide) rfl
        have hK9 := hK.sub (tys' := [(cB, .object "java/lang/Object")]) [0] rfl
        refine W.widen (k := 9) (n := 20) (by omega) (by omega) ?_
        exact W.iret hx hb hr (fun t ht hW => ⟨⟨_, (), rfl, trivial, ⟨by rw [ht]; exact hP9, va_K.moved hW.alike hK9, hD9, (by rw [ht]; omega)⟩⟩, hS.F ht⟩) hS.2.2 d_ran_43
      · exact absurd (by rw [hr2.1 (by rw [ex0, hnk])]) c_15
    | succ k ih =>
      intro i hi H locs st lr ls x ex0 hg hP hD hS hl
      have hlt : i < 8 := by omega
      refine lv_aload_n hx hb d_ran_9 rfl (lv_at hl 0 rfl) ?_
      have hPc : va_P (dC, dI) classes [(r1, .inr (10, [.int x, .int lr, .int md, .ref h0])), (h0, .inr (9, [.int md, .ref ed, .int n]))] _ := hP.sub (ws' := [(r1, .inr (10, [.int x, .int lr, .int md, .ref h0])), (h0, .inr (9, [.int md, .ref ed, .int n]))]) [1, 2] rfl
      have hKc : va_K (dC, dI) classes [] s := hK.sub (tys' := []) [] rfl
      refine va_csFi (va_runF (As := []) (rest := []) (hKc.1 10 _ rfl).2 ⟨hx, hb, hml, hown, hts⟩ (c_IT_hasNext l dC dI r1 x lr md h0 ed n) (va_cwF 0 hts g_ran_10 rfl rfl rfl hE3 (by decide +kernel) ⟨Nat.le_of_ble_eq_true rfl, Nat.le_of_ble_eq_true rfl⟩) ⟨fun a U g mk z => by obtain ⟨z0, zP, zK, zE0⟩ := z; exact ⟨z0, zP, va_K.moved (u := U) (U := U.calling g mk a) (Vm.Alike.refl U.vm) zK, va_Nw.same rfl (u := U) (U := U.calling g mk a) rfl zE0⟩, va_recv hKc hPc (ci := 10) (q0 := 0) rfl rfl, fun U hU hW => ⟨rfl, by rw [hU]; exact hPc, va_K.moved hW.alike hKc, va_Nw.warmF hW hE4⟩⟩ rfl rfl hl.1 rfl (lv_room (Nat.le_of_ble_eq_true rfl)) d_ran_10 ⟨(show 1 + i + 0 ≤ 9 by omega), (show 4 + 2 * i + 0 ≤ 20 by omega)⟩) (fun r3 hr3 => ?_)
      refine lv_if_eq (tgt := 42) hx hb d_ran_15 (by decide) (fun c_15 => ?_) (fun c_15 => ?_)
      · exact absurd c_15 (by rw [hr3.2 (by rw [ex0, hnk]; exact fun z => absurd ((nI_eq (a := i) (b := 8) (by omega) (by omega)).mp z) (by omega))]; decide)
      · skip
        refine lv_aload_n hx hb d_ran_18 rfl (lv_at hl 0 rfl) ?_
        have hPc : va_P (dC, dI) classes [(r1, .inr (10, [.int x, .int lr, .int md, .ref h0])), (h0, .inr (9, [.int md, .ref ed, .int n])), (ed, .inl (cB, 10, .inr (.inr (.inr (.inr (f0))))))] _ := hP.sub (ws' := [(r1, .inr (10, [.int x, .int lr, .int md, .ref h0])), (h0, .inr (9, [.int md, .ref ed, .int n])), (ed, .inl (cB, 10, .inr (.inr (.inr (.inr (f0))))))]) [1, 2, 0] rfl
        have hKc : va_K (dC, dI) classes [(cB, .object "java/lang/Object")] s := hK.sub (tys' := [(cB, .object "java/lang/Object")]) [0] rfl
        have hDc : va_D _ [(r1, .inr (10, [.int x, .int lr, .int md, .ref h0])), (h0, .inr (9, [.int md, .ref ed, .int n])), (ed, .inl (cB, 10, .inr (.inr (.inr (.inr (f0))))))] := hD.sub (ws' := [(r1, .inr (10, [.int x, .int lr, .int md, .ref h0])), (h0, .inr (9, [.int md, .ref ed, .int n])), (ed, .inl (cB, 10, .inr (.inr (.inr (.inr (f0))))))]) [1, 2, 0] (by decide) rfl
        have hFc := va_free (wc := [(r1, .inr (10, [.int x, .int lr, .int md, .ref h0])), (h0, .inr (9, [.int md, .ref ed, .int n])), (ed, .inl (cB, 10, .inr (.inr (.inr (.inr (f0))))))]) hD hS hA [1, 2, 0] rfl
        refine va_callFr (va_runF (As := []) (rest := []) (hKc.1 10 _ rfl).2 ⟨hx, hb, hml, hown, hts⟩ (c_IT_next l dC dI r1 x lr md h0 ed n cB f0 e0 i 8 ex0 hnk hlt (by omega) (hfk i hlt) H.size) (va_cwF 0 hts g_ran_19 rfl rfl rfl hE5 (by decide +kernel) ⟨Nat.le_of_ble_eq_true rfl, Nat.le_of_ble_eq_true rfl⟩) ⟨fun a U g mk z => by obtain ⟨z0, z1, zP, zK, zD, zE0⟩ := z; exact ⟨z0, z1, zP, va_K.moved (u := U) (U := U.calling g mk a) (Vm.Alike.refl U.vm) zK, zD, va_Nw.same rfl (u := U) (U := U.calling g mk a) rfl zE0⟩, va_recv hKc hPc (ci := 10) (q0 := 0) rfl rfl, fun U hU hW => ⟨rfl, by rw [hU], by rw [hU]; exact hPc, va_K.moved hW.alike hKc, hDc.weaken (fun _ _ _ _ => trivial), va_Nw.warmF hW hE4⟩⟩ rfl rfl hl.1 rfl (lv_room (Nat.le_of_ble_eq_true rfl)) d_ran_19 ⟨(show 1 + i + 0 ≤ 9 by omega), (show 4 + 2 * i + 0 ≤ 20 by omega)⟩) hS (fun q _ h => hFc q h) hFc (fun u r4 t H1 locs ht hvm hr4 hB hz1 hk1 hS => ?_)
        obtain ⟨c5, hP1, hK1, hD1, hpr4_0, hpr4_1⟩ := hB
        rw [ht] at hP1
        have hK1 := va_K.moved hvm.symm hK1
        obtain ⟨hP, hD⟩ := va_join (wr := []) (w1 := [(r1, .inr (10, [.int c5, .int x, .int md, .ref h0])), (h0, .inr (9, [.int md, .ref ed, .int n])), (ed, .inl (cB, 10, .inr (.inr (.inr (.inr (f0))))))]) hP hD [1, 2, 0] [] rfl rfl (by decide) (by decide) hk1 hFc hP1 hD1
        clear hPc hDc hKc hFc hP1 hD1 hK1 hk1
        have hg2 : s.heap.size + 1 + i ≤ H1.size := Nat.le_trans hg hz1
        generalize H1 = H at hP hS hg2 ⊢
        have hP : va_P (dC, dI) classes [(r1, .inr (10, [.int c5, .int x, .int md, .ref h0])), (h0, .inr (9, [.int md, .ref ed, .int n])), (ed, .inl (cB, 10, .inr (.inr (.inr (.inr (f0))))))] H := hP
        have hD : va_D A [(r1, .inr (10, [.int c5, .int x, .int md, .ref h0])), (h0, .inr (9, [.int md, .ref ed, .int n])), (ed, .inl (cB, 10, .inr (.inr (.inr (.inr (f0))))))] := hD
        refine W.widen (k := 1 + i + 0) (n := 4 + 2 * i + 0) (by omega) (by omega) ?_
        obtain rfl : e0 = r4 := Eq.symm (hpr4_0)
        refine va_castE hx hb hown (hts (.classLink "LeastcodeModel" 117 "java/lang/Integer") (List.mem_of_getElem? (i := 41) rfl)) (va_Orecv hE0 hS) d_ran_24 ?_
        refine vp_callSi (W.runV (As := []) (rest := []) ⟨hx, hb, hml, hown, hts⟩ (c_IN_intValue l e0) (cwV 0 hts g_ran_27 rfl rfl rfl (by decide +kernel) ⟨Nat.le_of_ble_eq_true rfl, Nat.le_of_ble_eq_true rfl⟩) ⟨fun a U g mk z => by obtain ⟨z0, zE0⟩ := z; exact ⟨z0, zE0.moved (u := U) (U := U.calling g mk a) (Vm.Alike.refl U.vm)⟩, va_Orecv hE0 hS, fun U hU hW => ⟨rfl, by (try dsimp only); rw [hU]; exact ((hE1.kept (fun a h1 h2 => hS.2.1 a h1 h2)).narrow (B := fun _ => False) (fun _ h => h.elim)).moved hW.alike⟩⟩ rfl rfl hl.1 rfl (lv_room (Nat.le_of_ble_eq_true rfl)) d_ran_27 ⟨(show 1 + i + 0 + 0 ≤ 9 by omega), (show 4 + 2 * i + 0 + 0 ≤ 20 by omega)⟩) (fun r6 hr6 => ?_)
        replace hr6 := hr6.symm; subst hr6
        refine lv_istore (lv' := [(4, .int 46), (3, .ref r1), (2, .int st), (0, .ref h0)]) hx hb d_ran_30 hl (by decide) rfl (fun ls hl => ?_)
        refine lv_iload_n hx hb d_ran_32 rfl (lv_at hl 2 rfl) ?_
        refine lv_iload hx hb d_ran_33 (lv_at hl 0 rfl) ?_
        have hPc : va_P (dC, dI) classes [] _ := hP.sub (ws' := []) [] rfl
        have hKc : va_K (dC, dI) classes [] s := hK.sub (tys' := []) [] rfl
        have hDc : va_D _ [] := hD.sub (ws' := []) [] (by decide) rfl
        have hFc := va_free (wc := []) hD hS hA [] rfl
        refine va_calli (va_runS (As := [.int st, .int 46]) (rest := []) ⟨hx, hb, hml, hown, hts⟩ (c_mstep l dC dI st H.size) (cwS 2 hts g_ran_35 rfl rfl rfl (by decide +kernel) ⟨Nat.le_of_ble_eq_true rfl, Nat.le_of_ble_eq_true rfl⟩) ⟨fun a U g mk z => by obtain ⟨z0, z1, zP, zK, zD⟩ := z; exact ⟨z0, z1, zP, va_K.moved (u := U) (U := U.calling g mk a) (Vm.Alike.refl U.vm) zK, zD⟩, fun U hU hW => ⟨rfl, by rw [hU], by rw [hU]; exact hPc, va_K.moved hW.alike hKc, hDc.weaken (fun _ _ _ _ => trivial)⟩⟩ rfl rfl hl.1 rfl (lv_room (Nat.le_of_ble_eq_true rfl)) d_ran_35 ⟨(show 1 + i + 0 + 1 ≤ 9 by omega), (show 4 + 2 * i + 0 + 2 ≤ 20 by omega)⟩) hS (fun q _ h => hFc q h) hFc (fun r7 u t H1 locs ht hvm hr7 hB hz1 hk1 hS => ?_)
        obtain ⟨hP1, hK1, hD1, hpr7_0⟩ := hB
        rw [ht] at hP1
        have hK1 := va_K.moved hvm.symm hK1
        rw [ht] at hpr7_0
        obtain ⟨hP, hD⟩ := va_join (wr := [(r1, .inr (10, [.int c5, .int x, .int md, .ref h0])), (h0, .inr (9, [.int md, .ref ed, .int n])), (ed, .inl (cB, 10, .inr (.inr (.inr (.inr (f0))))))]) (w1 := []) hP hD [] [0, 1, 2] rfl rfl (by decide) (by decide) hk1 hFc hP1 hD1
        clear hPc hDc hKc hFc hP1 hD1 hK1 hk1
        have hg3 : s.heap.size + 1 + (i + 1) ≤ H1.size := by have := hpr7_0; omega
        generalize H1 = H at hP hS hg3 ⊢
        have hP : va_P (dC, dI) classes [(r1, .inr (10, [.int c5, .int x, .int md, .ref h0])), (h0, .inr (9, [.int md, .ref ed, .int n])), (ed, .inl (cB, 10, .inr (.inr (.inr (.inr (f0))))))] H := hP
        have hD : va_D A [(r1, .inr (10, [.int c5, .int x, .int md, .ref h0])), (h0, .inr (9, [.int md, .ref ed, .int n])), (ed, .inl (cB, 10, .inr (.inr (.inr (.inr (f0))))))] := hD
        refine W.widen (k := 1 + i + 0 + 1) (n := 4 + 2 * i + 0 + 2) (by omega) (by omega) ?_
        refine lv_istore_n (lv' := [(2, .int r7), (4, .int 46), (3, .ref r1), (0, .ref h0)]) hx hb d_ran_38 rfl hl (by decide) rfl (fun ls hl => ?_)
        refine lv_goto (tgt := 9) hx hb d_ran_39 (by decide) ?_
        refine W.widen (k := 1 + (i + 1)) (n := 4 + 2 * (i + 1)) (by omega) (by omega) ?_
        exact ih (i + 1) (by omega) _ _ r7 x _ c5 hpr4_1 hg3 (hP.sub [2, 0, 1] rfl) (hD.sub [2, 0, 1] (by decide) rfl) hS (lv_sub hl [2, 0, 3] rfl)
  refine W.widen (k := 1 + 0) (n := 4 + 2 * 0) (by omega) (by omega) ?_
  exact loop 8 0 rfl _ _ x1 (-1) _ _ nI_0.symm (by omega) hP hD hS (lv_sub hl [0, 1, 2] rfl)

abbrev rm_masked : Room := { frames := 0, cells := 0, slots := 0, locals := 0 }
abbrev b_masked : ByteArray := prog_11_method_18_code
def y_masked : MethodName := ⟨"LeastcodeModel", "masked", "(II)I"⟩
def w_masked : List Cond := [.code ⟨"LeastcodeModel", "masked", "(II)I"⟩ prog_11_method_18_code 2 (some .int)]
theorem d_masked_0 : decode b_masked 0 = .ok (.iload_n 1, 1) := by decide +kernel
theorem d_masked_1 : decode b_masked 1 = .ok (.iconst 1, 1) := by decide +kernel
theorem d_masked_2 : decode b_masked 2 = .ok (.iand, 1) := by decide +kernel
theorem d_masked_3 : decode b_masked 3 = .ok (.iconst 1, 1) := by decide +kernel
theorem d_masked_4 : decode b_masked 4 = .ok (.if_icmp .ne 13, 3) := by decide +kernel
theorem d_masked_17 : decode b_masked 17 = .ok (.iconst 0, 1) := by decide +kernel
theorem d_masked_18 : decode b_masked 18 = .ok (.iload_n 1, 1) := by decide +kernel
theorem d_masked_19 : decode b_masked 19 = .ok (.iconst 2, 1) := by decide +kernel
theorem d_masked_20 : decode b_masked 20 = .ok (.iand, 1) := by decide +kernel
theorem d_masked_21 : decode b_masked 21 = .ok (.iconst 2, 1) := by decide +kernel
theorem d_masked_22 : decode b_masked 22 = .ok (.if_icmp .ne 14, 3) := by decide +kernel
theorem d_masked_36 : decode b_masked 36 = .ok (.iconst 0, 1) := by decide +kernel
theorem d_masked_37 : decode b_masked 37 = .ok (.iadd, 1) := by decide +kernel
theorem d_masked_38 : decode b_masked 38 = .ok (.iload_n 1, 1) := by decide +kernel
theorem d_masked_39 : decode b_masked 39 = .ok (.iconst 4, 1) := by decide +kernel
theorem d_masked_40 : decode b_masked 40 = .ok (.iand, 1) := by decide +kernel
theorem d_masked_41 : decode b_masked 41 = .ok (.iconst 4, 1) := by decide +kernel
theorem d_masked_42 : decode b_masked 42 = .ok (.if_icmp .ne 9, 3) := by decide +kernel
theorem d_masked_51 : decode b_masked 51 = .ok (.iconst 0, 1) := by decide +kernel
theorem d_masked_52 : decode b_masked 52 = .ok (.iadd, 1) := by decide +kernel
theorem d_masked_53 : decode b_masked 53 = .ok (.ireturn, 1) := by decide +kernel
set_option maxHeartbeats 4000000 in
set_option maxRecDepth 100000 in
theorem c_masked (l : Launch) (x : Int32) : Met l y_masked w_masked rm_masked (va_Pc [.int x, .int 0] (fun U => True)) (vp_Si (fun r => r = 0)) 0 0 (fun _ => False) := by
  refine Met.ofW (cc := b_masked) (maxL := 2) (ret := (some .int)) (by decide) rfl ?_
  intro p e s m args below meth c s₁ B hml hv
  obtain ⟨rfl, -⟩ := hv
  have hx := B.exec
  have hb := B.bytes
  have hr := B.returns
  have hts := atoms_spec (ws := w_masked) B.pre
  have hown : s.vm.findClass "LeastcodeModel" = some m.cls := findClass_of_methodNamed B.named
  have hlocks := B.notSynchronized
  have hl := lv_entry ([.int x, .int 0]) (n := 2) (Nat.le_of_ble_eq_true rfl)
  rw [lg_entry_eq]
  generalize (lg_sl ([.int x, .int 0]) ++ List.replicate (2 - (lg_sl ([.int x, .int 0])).length) Slot.unset).toArray = ls at hl ⊢
  have hl : lv_has ls 2 [(0, .int x), (1, .int 0)] := hl
  refine lv_iload_n hx hb d_masked_0 rfl (lv_at hl 1 rfl) ?_
  refine lv_iconst (v := 1) hx hb d_masked_1 (by decide) ?_
  refine lv_iand hx hb d_masked_2 ?_
  refine lv_topi (fun x1 ex1 => ?_)
  refine lv_iconst (v := 1) hx hb d_masked_3 (by decide) ?_
  refine lv_icmp_ne (tgt := 17) hx hb d_masked_4 (by decide) (fun c_4 => ?_) (fun c_4 => ?_)
  · skip
    refine lv_iconst (v := 0) hx hb d_masked_17 (by decide) ?_
    refine lv_iload_n hx hb d_masked_18 rfl (lv_at hl 1 rfl) ?_
    refine lv_iconst (v := 2) hx hb d_masked_19 (by decide) ?_
    refine lv_iand hx hb d_masked_20 ?_
    refine lv_topi (fun x2 ex2 => ?_)
    refine lv_iconst (v := 2) hx hb d_masked_21 (by decide) ?_
    refine lv_icmp_ne (tgt := 36) hx hb d_masked_22 (by decide) (fun c_22 => ?_) (fun c_22 => ?_)
    · skip
      refine lv_iconst (v := 0) hx hb d_masked_36 (by decide) ?_
      refine lv_iadd hx hb d_masked_37 ?_
      refine lv_topi (fun x3 ex3 => ?_)
      refine lv_iload_n hx hb d_masked_38 rfl (lv_at hl 1 rfl) ?_
      refine lv_iconst (v := 4) hx hb d_masked_39 (by decide) ?_
      refine lv_iand hx hb d_masked_40 ?_
      refine lv_topi (fun x4 ex4 => ?_)
      refine lv_iconst (v := 4) hx hb d_masked_41 (by decide) ?_
      refine lv_icmp_ne (tgt := 51) hx hb d_masked_42 (by decide) (fun c_42 => ?_) (fun c_42 => ?_)
      · skip
        refine lv_iconst (v := 0) hx hb d_masked_51 (by decide) ?_
        refine lv_iadd hx hb d_masked_52 ?_
        refine lv_topi (fun x5 ex5 => ?_)
        exact W.iret hx hb hr (fun t ht hW => ⟨_, rfl, (by rw [ex5, ex3]; decide), ht⟩) (fun _ h => by cases h) d_masked_53
      · exact absurd c_42 (by rw [ex4]; decide)
    · exact absurd c_22 (by rw [ex2]; decide)
  · exact absurd c_4 (by rw [ex1]; decide)

abbrev rm_areSame : Room := { frames := 4, cells := 2304, slots := 5120, locals := 77 }
abbrev b_areSame : ByteArray := prog_11_method_19_code
def y_areSame : MethodName := ⟨"LeastcodeModel", "areSame", "(Ljava/util/List;Ljava/util/List;I)Z"⟩
def w_areSame : List Cond := [.code ⟨"LeastcodeModel", "areSame", "(Ljava/util/List;Ljava/util/List;I)Z"⟩ prog_11_method_19_code 4 (some .boolean), .methodLink "LeastcodeModel" 125 ⟨"LeastcodeModel", "ran", "(Ljava/util/List;I)I"⟩, .static ⟨"LeastcodeModel", "ran", "(Ljava/util/List;I)I"⟩, .initialized "LeastcodeModel", .code ⟨"LeastcodeModel", "ran", "(Ljava/util/List;I)I"⟩ prog_11_method_17_code 5 (some .int), .methodLink "LeastcodeModel" 103 ⟨"java/util/List", "iterator", "()Ljava/util/Iterator;"⟩, .selects "java/util/ArrayList" ⟨"java/util/List", "iterator", "()Ljava/util/Iterator;"⟩ ⟨"java/util/ArrayList", "iterator", "()Ljava/util/Iterator;"⟩, .instanceMethod ⟨"java/util/ArrayList", "iterator", "()Ljava/util/Iterator;"⟩, .initialized "java/util/ArrayList", .code ⟨"java/util/ArrayList", "iterator", "()Ljava/util/Iterator;"⟩ prog_50_method_55_code 1 (some (.object "java/util/Iterator")), .lays "java/util/ArrayList$Itr" "java/util/ArrayList$Itr" "cursor" "I", .lays "java/util/ArrayList$Itr" "java/util/ArrayList$Itr" "lastRet" "I", .lays "java/util/ArrayList$Itr" "java/util/ArrayList$Itr" "expectedModCount" "I", .laysFinal "java/util/ArrayList$Itr" "java/util/ArrayList$Itr" "this$0" "Ljava/util/ArrayList;", .classLink "java/util/ArrayList" 267 "java/util/ArrayList$Itr", .instantiable "java/util/ArrayList$Itr" 4, .initialized "java/util/ArrayList$Itr", .code ⟨"java/util/ArrayList$Itr", "<init>", "(Ljava/util/ArrayList;)V"⟩ prog_51_method_1_code 2 none, .fieldLink "java/util/ArrayList$Itr" 1 "java/util/ArrayList$Itr" "this$0" "Ljava/util/ArrayList;", .methodLink "java/util/ArrayList$Itr" 7 ⟨"java/lang/Object", "<init>", "()V"⟩, .instanceMethod ⟨"java/lang/Object", "<init>", "()V"⟩, .code ⟨"java/lang/Object", "<init>", "()V"⟩ object_method_1_code 1 none, .fieldLink "java/util/ArrayList$Itr" 13 "java/util/ArrayList$Itr" "lastRet" "I", .sameField "java/util/ArrayList" "java/util/AbstractList" "modCount" "I", .lays "java/util/ArrayList" "java/util/AbstractList" "modCount" "I", .lays "java/util/ArrayList" "java/util/ArrayList" "elementData" "[Ljava/lang/Object;", .lays "java/util/ArrayList" "java/util/ArrayList" "size" "I", .fieldLink "java/util/ArrayList$Itr" 17 "java/util/ArrayList" "modCount" "I", .fieldLink "java/util/ArrayList$Itr" 22 "java/util/ArrayList$Itr" "expectedModCount" "I", .methodLink "java/util/ArrayList" 269 ⟨"java/util/ArrayList$Itr", "<init>", "(Ljava/util/ArrayList;)V"⟩, .instanceMethod ⟨"java/util/ArrayList$Itr", "<init>", "(Ljava/util/ArrayList;)V"⟩, .methodLink "LeastcodeModel" 107 ⟨"java/util/Iterator", "hasNext", "()Z"⟩, .selects "java/util/ArrayList$Itr" ⟨"java/util/Iterator", "hasNext", "()Z"⟩ ⟨"java/util/ArrayList$Itr", "hasNext", "()Z"⟩, .instanceMethod ⟨"java/util/ArrayList$Itr", "hasNext", "()Z"⟩, .code ⟨"java/util/ArrayList$Itr", "hasNext", "()Z"⟩ prog_51_method_2_code 1 (some .boolean), .fieldLink "java/util/ArrayList$Itr" 25 "java/util/ArrayList$Itr" "cursor" "I", .methodLink "LeastcodeModel" 113 ⟨"java/util/Iterator", "next", "()Ljava/lang/Object;"⟩, .selects "java/util/ArrayList$Itr" ⟨"java/util/Iterator", "next", "()Ljava/lang/Object;"⟩ ⟨"java/util/ArrayList$Itr", "next", "()Ljava/lang/Object;"⟩, .instanceMethod ⟨"java/util/ArrayList$Itr", "next", "()Ljava/lang/Object;"⟩, .code ⟨"java/util/ArrayList$Itr", "next", "()Ljava/lang/Object;"⟩ prog_51_method_3_code 3 (some (.object "java/lang/Object")), .methodLink "java/util/ArrayList$Itr" 31 ⟨"java/util/ArrayList$Itr", "checkForComodification", "()V"⟩, .instanceMethod ⟨"java/util/ArrayList$Itr", "checkForComodification", "()V"⟩, .selects "java/util/ArrayList$Itr" ⟨"java/util/ArrayList$Itr", "checkForComodification", "()V"⟩ ⟨"java/util/ArrayList$Itr", "checkForComodification", "()V"⟩, .code ⟨"java/util/ArrayList$Itr", "checkForComodification", "()V"⟩ prog_51_method_6_code 1 none, .fieldLink "java/util/ArrayList$Itr" 37 "java/util/ArrayList" "elementData" "[Ljava/lang/Object;", .classLink "LeastcodeModel" 117 "java/lang/Integer", .methodLink "LeastcodeModel" 119 ⟨"java/lang/Integer", "intValue", "()I"⟩, .instanceMethod ⟨"java/lang/Integer", "intValue", "()I"⟩, .selects "java/lang/Integer" ⟨"java/lang/Integer", "intValue", "()I"⟩ ⟨"java/lang/Integer", "intValue", "()I"⟩, .initialized "java/lang/Integer", .code ⟨"java/lang/Integer", "intValue", "()I"⟩ prog_27_method_27_code 1 (some .int), .fieldLink "java/lang/Integer" 205 "java/lang/Integer" "value" "I", .methodLink "LeastcodeModel" 122 ⟨"LeastcodeModel", "step", "(II)I"⟩, .static ⟨"LeastcodeModel", "step", "(II)I"⟩, .code ⟨"LeastcodeModel", "step", "(II)I"⟩ prog_11_method_13_code 7 (some .int), .arrayClass .int, .methodLink "LeastcodeModel" 79 ⟨"LeastcodeModel", "first", "(I)I"⟩, .static ⟨"LeastcodeModel", "first", "(I)I"⟩, .code ⟨"LeastcodeModel", "first", "(I)I"⟩ prog_11_method_9_code 1 (some .int), .methodLink "LeastcodeModel" 82 ⟨"LeastcodeModel", "second", "(I)I"⟩, .static ⟨"LeastcodeModel", "second", "(I)I"⟩, .code ⟨"LeastcodeModel", "second", "(I)I"⟩ prog_11_method_10_code 1 (some .int), .methodLink "LeastcodeModel" 85 ⟨"LeastcodeModel", "kind", "(I)C"⟩, .static ⟨"LeastcodeModel", "kind", "(I)C"⟩, .code ⟨"LeastcodeModel", "kind", "(I)C"⟩ prog_11_method_8_code 1 (some .char), .methodLink "LeastcodeModel" 94 ⟨"LeastcodeModel", "state", "([II)I"⟩, .static ⟨"LeastcodeModel", "state", "([II)I"⟩, .code ⟨"LeastcodeModel", "state", "([II)I"⟩ prog_11_method_12_code 2 (some .int), .methodLink "LeastcodeModel" 129 ⟨"LeastcodeModel", "masked", "(II)I"⟩, .static ⟨"LeastcodeModel", "masked", "(II)I"⟩, .code ⟨"LeastcodeModel", "masked", "(II)I"⟩ prog_11_method_18_code 2 (some .int)]
theorem d_areSame_0 : decode b_areSame 0 = .ok (.iconst 0, 1) := by decide +kernel
theorem d_areSame_1 : decode b_areSame 1 = .ok (.istore_n 3, 1) := by decide +kernel
theorem d_areSame_2 : decode b_areSame 2 = .ok (.iload_n 3, 1) := by decide +kernel
theorem d_areSame_3 : decode b_areSame 3 = .ok (.sipush 128, 3) := by decide +kernel
theorem d_areSame_6 : decode b_areSame 6 = .ok (.if_icmp .ge 32, 3) := by decide +kernel
theorem d_areSame_9 : decode b_areSame 9 = .ok (.aload_n 0, 1) := by decide +kernel
theorem d_areSame_10 : decode b_areSame 10 = .ok (.iload_n 3, 1) := by decide +kernel
theorem d_areSame_11 : decode b_areSame 11 = .ok (.invokestatic 125, 3) := by decide +kernel
theorem d_areSame_14 : decode b_areSame 14 = .ok (.iload_n 2, 1) := by decide +kernel
theorem d_areSame_15 : decode b_areSame 15 = .ok (.invokestatic 129, 3) := by decide +kernel
theorem d_areSame_18 : decode b_areSame 18 = .ok (.aload_n 1, 1) := by decide +kernel
theorem d_areSame_19 : decode b_areSame 19 = .ok (.iload_n 3, 1) := by decide +kernel
theorem d_areSame_20 : decode b_areSame 20 = .ok (.invokestatic 125, 3) := by decide +kernel
theorem d_areSame_23 : decode b_areSame 23 = .ok (.iload_n 2, 1) := by decide +kernel
theorem d_areSame_24 : decode b_areSame 24 = .ok (.invokestatic 129, 3) := by decide +kernel
theorem d_areSame_27 : decode b_areSame 27 = .ok (.if_icmp .eq 5, 3) := by decide +kernel
theorem d_areSame_32 : decode b_areSame 32 = .ok (.iinc 3 1, 3) := by decide +kernel
theorem d_areSame_35 : decode b_areSame 35 = .ok (.goto (-33), 3) := by decide +kernel
theorem d_areSame_38 : decode b_areSame 38 = .ok (.iconst 1, 1) := by decide +kernel
theorem d_areSame_39 : decode b_areSame 39 = .ok (.ireturn, 1) := by decide +kernel
set_option maxRecDepth 20000 in
theorem g_areSame_11 : GoodIn w_areSame (wsS "LeastcodeModel" 125 ⟨"LeastcodeModel", "ran", "(Ljava/util/List;I)I"⟩ w_ran) := goodIn_r _ [1, 2, 3, 4, 5, 6, 7, 8, 9, 10, 11, 12, 13, 14, 15, 16, 17, 18, 19, 20, 21, 22, 23, 24, 25, 26, 27, 28, 29, 30, 31, 32, 33, 34, 35, 36, 37, 38, 39, 40, 41, 42, 43, 44, 45, 46, 47, 48, 49, 50, 51, 52, 53, 3, 54, 55, 56, 57, 58, 59, 60, 61, 62, 63, 64, 65, 66, 67] rfl (by decide +kernel)
set_option maxRecDepth 20000 in
theorem g_areSame_15 : GoodIn w_areSame (wsS "LeastcodeModel" 129 ⟨"LeastcodeModel", "masked", "(II)I"⟩ w_masked) := goodIn_r _ [68, 69, 3, 70] rfl (by decide +kernel)
set_option maxRecDepth 20000 in
theorem g_areSame_20 : GoodIn w_areSame (wsS "LeastcodeModel" 125 ⟨"LeastcodeModel", "ran", "(Ljava/util/List;I)I"⟩ w_ran) := goodIn_r _ [1, 2, 3, 4, 5, 6, 7, 8, 9, 10, 11, 12, 13, 14, 15, 16, 17, 18, 19, 20, 21, 22, 23, 24, 25, 26, 27, 28, 29, 30, 31, 32, 33, 34, 35, 36, 37, 38, 39, 40, 41, 42, 43, 44, 45, 46, 47, 48, 49, 50, 51, 52, 53, 3, 54, 55, 56, 57, 58, 59, 60, 61, 62, 63, 64, 65, 66, 67] rfl (by decide +kernel)
set_option maxRecDepth 20000 in
theorem g_areSame_24 : GoodIn w_areSame (wsS "LeastcodeModel" 129 ⟨"LeastcodeModel", "masked", "(II)I"⟩ w_masked) := goodIn_r _ [68, 69, 3, 70] rfl (by decide +kernel)
set_option maxHeartbeats 4000000 in
set_option maxRecDepth 100000 in
theorem c_areSame (l : Launch) (dC : Nat → ClassId) (dI : Nat → Nat → Nat) (h0 : Nat) (md : Int32) (ed : Nat) (n : Int32) (cB : ClassId) (f0 : Nat → Option Nat) (e0 : Nat) (hnk : n = nI 8) (hfk : ∀ j, j < 8 → f0 j = some e0) (sz : Nat) : Met l y_areSame w_areSame rm_areSame (va_Pc [.ref h0, .ref h0, .int 0] (fun U => U.heap.size = sz ∧ va_P (dC, dI) classes [(h0, .inr (9, [.int md, .ref ed, .int n])), (ed, .inl (cB, 10, .inr (.inr (.inr (.inr (f0))))))] U.heap ∧ va_K (dC, dI) classes [(cB, .object "java/lang/Object")] U ∧ va_D (fun _ => True) [(h0, .inr (9, [.int md, .ref ed, .int n])), (ed, .inl (cB, 10, .inr (.inr (.inr (.inr (f0))))))] ∧ va_O "java/lang/Integer" e0 (va_A [(h0, .inr (9, [.int md, .ref ed, .int n])), (ed, .inl (cB, 10, .inr (.inr (.inr (.inr (f0))))))] sz) U U.heap ∧ va_OF "java/lang/Integer" "value" "I" (.int 46) e0 (va_A [(h0, .inr (9, [.int md, .ref ed, .int n])), (ed, .inl (cB, 10, .inr (.inr (.inr (.inr (f0))))))] sz) U U.heap ∧ va_Fw "java/util/ArrayList" ⟨"java/util/List", "iterator", "()Ljava/util/Iterator;"⟩ ⟨"java/util/ArrayList", "iterator", "()Ljava/util/Iterator;"⟩ U ∧ va_Fw "java/util/ArrayList$Itr" ⟨"java/util/Iterator", "hasNext", "()Z"⟩ ⟨"java/util/ArrayList$Itr", "hasNext", "()Z"⟩ U ∧ va_Nw (.fieldLinkNest "java/util/ArrayList$Itr" 28 "java/util/ArrayList" "size" "I" "java/util/ArrayList") U ∧ va_Fw "java/util/ArrayList$Itr" ⟨"java/util/Iterator", "next", "()Ljava/lang/Object;"⟩ ⟨"java/util/ArrayList$Itr", "next", "()Ljava/lang/Object;"⟩ U)) (va_Qi (fun r (_ : Unit) => r = 1) (fun _ t => va_P (dC, dI) classes [(h0, .inr (9, [.int md, .ref ed, .int n])), (ed, .inl (cB, 10, .inr (.inr (.inr (.inr (f0))))))] t.heap ∧ va_K (dC, dI) classes [(cB, .object "java/lang/Object")] t ∧ va_D (va_A [(h0, .inr (9, [.int md, .ref ed, .int n])), (ed, .inl (cB, 10, .inr (.inr (.inr (.inr (f0))))))] sz) [(h0, .inr (9, [.int md, .ref ed, .int n])), (ed, .inl (cB, 10, .inr (.inr (.inr (.inr (f0))))))] ∧ sz + 2304 ≤ t.heap.size) (va_A [(h0, .inr (9, [.int md, .ref ed, .int n])), (ed, .inl (cB, 10, .inr (.inr (.inr (.inr (f0))))))] sz)) 2304 5120 (va_A [(h0, .inr (9, [.int md, .ref ed, .int n])), (ed, .inl (cB, 10, .inr (.inr (.inr (.inr (f0))))))] sz) := by
  refine Met.ofW (cc := b_areSame) (maxL := 4) (ret := (some .boolean)) (by decide) rfl ?_
  intro p e s m args below meth c s₁ B hml hv
  obtain ⟨rfl, hsz, hP, hK, hD0, hE0, hE1, hE2, hE3, hE4, hE5⟩ := hv
  have hx := B.exec
  have hb := B.bytes
  have hr := B.returns
  have hts := atoms_spec (ws := w_areSame) B.pre
  have hown : s.vm.findClass "LeastcodeModel" = some m.cls := findClass_of_methodNamed B.named
  have hlocks := B.notSynchronized
  subst hsz
  have hD := hD0.self (sz := s.heap.size)
  generalize hAe : va_A [(h0, .inr (9, [.int md, .ref ed, .int n])), (ed, .inl (cB, 10, .inr (.inr (.inr (.inr (f0))))))] s.heap.size = A at hD hE0 hE1 hE2 hE3 hE4 hE5 ⊢
  have hA : ∀ q : Nat, s.heap.size ≤ q → A q := fun q h => by rw [← hAe]; exact Or.inr h
  have hS : va_S A s.heap s.heap [] := va_S.rf
  have hP : va_P (dC, dI) classes [(h0, .inr (9, [.int md, .ref ed, .int n])), (ed, .inl (cB, 10, .inr (.inr (.inr (.inr (f0))))))] s.heap := hP
  have hl := lv_entry ([.ref h0, .ref h0, .int 0]) (n := 4) (Nat.le_of_ble_eq_true rfl)
  rw [lg_entry_eq]
  generalize (lg_sl ([.ref h0, .ref h0, .int 0]) ++ List.replicate (4 - (lg_sl ([.ref h0, .ref h0, .int 0])).length) Slot.unset).toArray = ls at hl ⊢
  have hl : lv_has ls 4 [(0, .ref h0), (1, .ref h0), (2, .int 0)] := hl
  refine lv_iconst (v := 0) hx hb d_areSame_0 (by decide) ?_
  refine lv_istore_n (lv' := [(3, .int 0), (0, .ref h0), (1, .ref h0), (2, .int 0)]) hx hb d_areSame_1 rfl hl (by decide) rfl (fun ls hl => ?_)
  refine ry_abs (fun QQ hQ => ?_)
  have loop : ∀ (k i : Nat), i + k = 128 → ∀ (H : Heap) (locs : List Loc) (ls : Array Slot) (x : Int32), x = nI i → (s.heap.size + 18 * i ≤ H.size) → va_P (dC, dI) classes [(h0, .inr (9, [.int md, .ref ed, .int n])), (ed, .inl (cB, 10, .inr (.inr (.inr (.inr (f0))))))] H → va_D A [(h0, .inr (9, [.int md, .ref ed, .int n])), (ed, .inl (cB, 10, .inr (.inr (.inr (.inr (f0))))))] → va_S A s.heap H locs → lv_has ls 4 [(3, .int x), (0, .ref h0), (1, .ref h0), (2, .int 0)] → W p l e (headSpec w_areSame rm_areSame).room s m ([.ref h0, .ref h0, .int 0] : List Value).toArray below meth c H locs (18 * i) (40 * i) QQ (F0 m 2 ls []) := by
    intro k
    induction k with
    | zero =>
      intro i hi H locs ls x ex0 hg hP hD hS hl
      obtain rfl : i = 128 := by omega
      refine W.widen (k := 2304) (n := 5120) (by omega) (by omega) ?_
      refine lv_iload_n hx hb d_areSame_2 rfl (lv_at hl 0 rfl) ?_
      refine lv_sipush (v := 128) hx hb d_areSame_3 (by decide) ?_
      refine lv_icmp_ge (tgt := 38) hx hb d_areSame_6 (by decide) (fun c_6 => ?_) (fun c_6 => ?_)
      · skip
        refine lv_iconst (v := 1) hx hb d_areSame_38 (by decide) ?_
        subst hQ
        have hP9 : va_P (dC, dI) classes [(h0, .inr (9, [.int md, .ref ed, .int n])), (ed, .inl (cB, 10, .inr (.inr (.inr (.inr (f0))))))] H := hP.sub (ws' := [(h0, .inr (9, [.int md, .ref ed, .int n])), (ed, .inl (cB, 10, .inr (.inr (.inr (.inr (f0))))))]) [0, 1] rfl
        have hD9 := hD.sub (ws' := [(h0, .inr (9, [.int md, .ref ed, .int n])), (ed, .inl (cB, 10, .inr (.inr (.inr (.inr (f0))))))]) [0, 1] (by decide) rfl
        have hK9 := hK.sub (tys' := [(cB, .object "java/lang/Object")]) [0] rfl
        refine W.widen (k := 2304) (n := 5120) (by omega) (by omega) ?_
        exact W.zret hx hb hr rfl (fun t ht hW => ⟨⟨_, (), rfl, rfl, ⟨by rw [ht]; exact hP9, va_K.moved hW.alike hK9, hD9, (by rw [ht]; omega)⟩⟩, hS.F ht⟩) hS.2.2 d_areSame_39
      · exact absurd (by rw [ex0]; exact (show nI 128 ≤ nI 128 from nI_le (Nat.le_refl 128) (by omega))) c_6
    | succ k ih =>
      intro i hi H locs ls x ex0 hg hP hD hS hl
      have hlt : i < 128 := by omega
      refine lv_iload_n hx hb d_areSame_2 rfl (lv_at hl 0 rfl) ?_
      refine lv_sipush (v := 128) hx hb d_areSame_3 (by decide) ?_
      refine lv_icmp_ge (tgt := 38) hx hb d_areSame_6 (by decide) (fun c_6 => ?_) (fun c_6 => ?_)
      · exact absurd c_6 (by rw [ex0]; exact (show ¬ nI 128 ≤ nI i from nI_ge hlt (by omega)))
      · skip
        refine lv_aload_n hx hb d_areSame_9 rfl (lv_at hl 1 rfl) ?_
        refine lv_iload_n hx hb d_areSame_10 rfl (lv_at hl 0 rfl) ?_
        have hPc : va_P (dC, dI) classes [(h0, .inr (9, [.int md, .ref ed, .int n])), (ed, .inl (cB, 10, .inr (.inr (.inr (.inr (f0))))))] _ := hP.sub (ws' := [(h0, .inr (9, [.int md, .ref ed, .int n])), (ed, .inl (cB, 10, .inr (.inr (.inr (.inr (f0))))))]) [0, 1] rfl
        have hKc : va_K (dC, dI) classes [(cB, .object "java/lang/Object")] s := hK.sub (tys' := [(cB, .object "java/lang/Object")]) [0] rfl
        have hDc : va_D _ [(h0, .inr (9, [.int md, .ref ed, .int n])), (ed, .inl (cB, 10, .inr (.inr (.inr (.inr (f0))))))] := hD.sub (ws' := [(h0, .inr (9, [.int md, .ref ed, .int n])), (ed, .inl (cB, 10, .inr (.inr (.inr (.inr (f0))))))]) [0, 1] (by decide) rfl
        have hFc := va_free (wc := [(h0, .inr (9, [.int md, .ref ed, .int n])), (ed, .inl (cB, 10, .inr (.inr (.inr (.inr (f0))))))]) hD hS hA [0, 1] rfl
        refine va_calli (va_runS (As := [.ref h0, .int x]) (rest := []) ⟨hx, hb, hml, hown, hts⟩ (c_ran l dC dI h0 md ed n cB f0 e0 x hnk hfk H.size) (cwS 2 hts g_areSame_11 rfl rfl rfl (by decide +kernel) ⟨Nat.le_of_ble_eq_true rfl, Nat.le_of_ble_eq_true rfl⟩) ⟨fun a U g mk z => by obtain ⟨z0, z1, zP, zK, zD, zE0, zE1, zE2, zE3, zE4, zE5⟩ := z; exact ⟨z0, z1, zP, va_K.moved (u := U) (U := U.calling g mk a) (Vm.Alike.refl U.vm) zK, zD, zE0.moved (u := U) (U := U.calling g mk a) (Vm.Alike.refl U.vm), zE1.moved (u := U) (U := U.calling g mk a) (Vm.Alike.refl U.vm), va_Fw.moved (by decide +kernel) (u := U) (U := U.calling g mk a) (Vm.Alike.refl U.vm) zE2, va_Fw.moved (by decide +kernel) (u := U) (U := U.calling g mk a) (Vm.Alike.refl U.vm) zE3, va_Nw.same rfl (u := U) (U := U.calling g mk a) rfl zE4, va_Fw.moved (by decide +kernel) (u := U) (U := U.calling g mk a) (Vm.Alike.refl U.vm) zE5⟩, fun U hU hW => ⟨rfl, by rw [hU], by rw [hU]; exact hPc, va_K.moved hW.alike hKc, hDc.weaken (fun _ _ _ _ => trivial), by (try dsimp only); rw [hU]; exact ((hE0.kept (fun a h1 h2 => hS.2.1 a h1 h2)).narrow hFc).moved hW.alike, by (try dsimp only); rw [hU]; exact ((hE1.kept (fun a h1 h2 => hS.2.1 a h1 h2)).narrow hFc).moved hW.alike, va_Fw.moved (by decide +kernel) hW.alike hE2, va_Fw.moved (by decide +kernel) hW.alike hE3, va_Nw.warmF hW hE4, va_Fw.moved (by decide +kernel) hW.alike hE5⟩⟩ rfl rfl hl.1 rfl (lv_room (Nat.le_of_ble_eq_true rfl)) d_areSame_11 ⟨(show 18 * i + 9 ≤ 2304 by omega), (show 40 * i + 20 ≤ 5120 by omega)⟩) hS (fun q _ h => hFc q h) hFc (fun r1 u t H1 locs ht hvm hr1 hB hz1 hk1 hS => ?_)
        obtain ⟨hP1, hK1, hD1, hpr1_0⟩ := hB
        rw [ht] at hP1
        have hK1 := va_K.moved hvm.symm hK1
        rw [ht] at hpr1_0
        obtain ⟨hP, hD⟩ := va_join (wr := []) (w1 := [(h0, .inr (9, [.int md, .ref ed, .int n])), (ed, .inl (cB, 10, .inr (.inr (.inr (.inr (f0))))))]) hP hD [0, 1] [] rfl rfl (by decide) (by decide) hk1 hFc hP1 hD1
        clear hPc hDc hKc hFc hP1 hD1 hK1 hk1
        have hg2 : s.heap.size + 18 * i + 9 ≤ H1.size := by have := hpr1_0; omega
        generalize H1 = H at hP hS hg2 ⊢
        have hP : va_P (dC, dI) classes [(h0, .inr (9, [.int md, .ref ed, .int n])), (ed, .inl (cB, 10, .inr (.inr (.inr (.inr (f0))))))] H := hP
        have hD : va_D A [(h0, .inr (9, [.int md, .ref ed, .int n])), (ed, .inl (cB, 10, .inr (.inr (.inr (.inr (f0))))))] := hD
        refine W.widen (k := 18 * i + 9) (n := 40 * i + 20) (by omega) (by omega) ?_
        refine lv_iload_n hx hb d_areSame_14 rfl (lv_at hl 3 rfl) ?_
        refine vp_callSi (W.runS (As := [.int r1, .int 0]) (rest := []) ⟨hx, hb, hml, hown, hts⟩ (c_masked l r1) (cwS 2 hts g_areSame_15 rfl rfl rfl (by decide +kernel) ⟨Nat.le_of_ble_eq_true rfl, Nat.le_of_ble_eq_true rfl⟩) ⟨fun a U g mk z => z, fun U hU hW => ⟨rfl, trivial⟩⟩ rfl rfl hl.1 rfl (lv_room (Nat.le_of_ble_eq_true rfl)) d_areSame_15 ⟨(show 18 * i + 9 + 0 ≤ 2304 by omega), (show 40 * i + 20 + 0 ≤ 5120 by omega)⟩) (fun r2 hr2 => ?_)
        replace hr2 := hr2.symm; subst hr2
        refine lv_aload_n hx hb d_areSame_18 rfl (lv_at hl 2 rfl) ?_
        refine lv_iload_n hx hb d_areSame_19 rfl (lv_at hl 0 rfl) ?_
        have hPc : va_P (dC, dI) classes [(h0, .inr (9, [.int md, .ref ed, .int n])), (ed, .inl (cB, 10, .inr (.inr (.inr (.inr (f0))))))] _ := hP.sub (ws' := [(h0, .inr (9, [.int md, .ref ed, .int n])), (ed, .inl (cB, 10, .inr (.inr (.inr (.inr (f0))))))]) [0, 1] rfl
        have hKc : va_K (dC, dI) classes [(cB, .object "java/lang/Object")] s := hK.sub (tys' := [(cB, .object "java/lang/Object")]) [0] rfl
        have hDc : va_D _ [(h0, .inr (9, [.int md, .ref ed, .int n])), (ed, .inl (cB, 10, .inr (.inr (.inr (.inr (f0))))))] := hD.sub (ws' := [(h0, .inr (9, [.int md, .ref ed, .int n])), (ed, .inl (cB, 10, .inr (.inr (.inr (.inr (f0))))))]) [0, 1] (by decide) rfl
        have hFc := va_free (wc := [(h0, .inr (9, [.int md, .ref ed, .int n])), (ed, .inl (cB, 10, .inr (.inr (.inr (.inr (f0))))))]) hD hS hA [0, 1] rfl
        refine va_calli (va_runS (As := [.ref h0, .int x]) (rest := [.int 0]) ⟨hx, hb, hml, hown, hts⟩ (c_ran l dC dI h0 md ed n cB f0 e0 x hnk hfk H.size) (cwS 2 hts g_areSame_20 rfl rfl rfl (by decide +kernel) ⟨Nat.le_of_ble_eq_true rfl, Nat.le_of_ble_eq_true rfl⟩) ⟨fun a U g mk z => by obtain ⟨z0, z1, zP, zK, zD, zE0, zE1, zE2, zE3, zE4, zE5⟩ := z; exact ⟨z0, z1, zP, va_K.moved (u := U) (U := U.calling g mk a) (Vm.Alike.refl U.vm) zK, zD, zE0.moved (u := U) (U := U.calling g mk a) (Vm.Alike.refl U.vm), zE1.moved (u := U) (U := U.calling g mk a) (Vm.Alike.refl U.vm), va_Fw.moved (by decide +kernel) (u := U) (U := U.calling g mk a) (Vm.Alike.refl U.vm) zE2, va_Fw.moved (by decide +kernel) (u := U) (U := U.calling g mk a) (Vm.Alike.refl U.vm) zE3, va_Nw.same rfl (u := U) (U := U.calling g mk a) rfl zE4, va_Fw.moved (by decide +kernel) (u := U) (U := U.calling g mk a) (Vm.Alike.refl U.vm) zE5⟩, fun U hU hW => ⟨rfl, by rw [hU], by rw [hU]; exact hPc, va_K.moved hW.alike hKc, hDc.weaken (fun _ _ _ _ => trivial), by (try dsimp only); rw [hU]; exact ((hE0.kept (fun a h1 h2 => hS.2.1 a h1 h2)).narrow hFc).moved hW.alike, by (try dsimp only); rw [hU]; exact ((hE1.kept (fun a h1 h2 => hS.2.1 a h1 h2)).narrow hFc).moved hW.alike, va_Fw.moved (by decide +kernel) hW.alike hE2, va_Fw.moved (by decide +kernel) hW.alike hE3, va_Nw.warmF hW hE4, va_Fw.moved (by decide +kernel) hW.alike hE5⟩⟩ rfl rfl hl.1 rfl (lv_room (Nat.le_of_ble_eq_true rfl)) d_areSame_20 ⟨(show 18 * i + 9 + 9 ≤ 2304 by omega), (show 40 * i + 20 + 20 ≤ 5120 by omega)⟩) hS (fun q _ h => hFc q h) hFc (fun r3 u t H1 locs ht hvm hr3 hB hz1 hk1 hS => ?_)
        obtain ⟨hP1, hK1, hD1, hpr3_0⟩ := hB
        rw [ht] at hP1
        have hK1 := va_K.moved hvm.symm hK1
        rw [ht] at hpr3_0
        obtain ⟨hP, hD⟩ := va_join (wr := []) (w1 := [(h0, .inr (9, [.int md, .ref ed, .int n])), (ed, .inl (cB, 10, .inr (.inr (.inr (.inr (f0))))))]) hP hD [0, 1] [] rfl rfl (by decide) (by decide) hk1 hFc hP1 hD1
        clear hPc hDc hKc hFc hP1 hD1 hK1 hk1
        have hg3 : s.heap.size + 18 * (i + 1) ≤ H1.size := by have := hpr3_0; omega
        generalize H1 = H at hP hS hg3 ⊢
        have hP : va_P (dC, dI) classes [(h0, .inr (9, [.int md, .ref ed, .int n])), (ed, .inl (cB, 10, .inr (.inr (.inr (.inr (f0))))))] H := hP
        have hD : va_D A [(h0, .inr (9, [.int md, .ref ed, .int n])), (ed, .inl (cB, 10, .inr (.inr (.inr (.inr (f0))))))] := hD
        refine W.widen (k := 18 * i + 9 + 9) (n := 40 * i + 20 + 20) (by omega) (by omega) ?_
        refine lv_iload_n hx hb d_areSame_23 rfl (lv_at hl 3 rfl) ?_
        refine vp_callSi (W.runS (As := [.int r3, .int 0]) (rest := [.int 0]) ⟨hx, hb, hml, hown, hts⟩ (c_masked l r3) (cwS 2 hts g_areSame_24 rfl rfl rfl (by decide +kernel) ⟨Nat.le_of_ble_eq_true rfl, Nat.le_of_ble_eq_true rfl⟩) ⟨fun a U g mk z => z, fun U hU hW => ⟨rfl, trivial⟩⟩ rfl rfl hl.1 rfl (lv_room (Nat.le_of_ble_eq_true rfl)) d_areSame_24 ⟨(show 18 * i + 9 + 9 + 0 ≤ 2304 by omega), (show 40 * i + 20 + 20 + 0 ≤ 5120 by omega)⟩) (fun r4 hr4 => ?_)
        replace hr4 := hr4.symm; subst hr4
        refine lv_icmp_eq (tgt := 32) hx hb d_areSame_27 (by decide) (fun c_27 => ?_) (fun c_27 => ?_)
        · skip
          obtain ⟨x5, ex5⟩ : ∃ y_ : Int32, y_ = x + 1 := ⟨_, rfl⟩
          refine lv_iinc (v := x5) (lv' := [(3, .int x5), (0, .ref h0), (1, .ref h0), (2, .int 0)]) hx hb d_areSame_32 hl (k := 0) rfl (by rw [ex5]; rfl) (by decide) rfl (fun ls hl => ?_)
          refine lv_goto (tgt := 2) hx hb d_areSame_35 (by decide) ?_
          refine W.widen (k := 18 * (i + 1)) (n := 40 * (i + 1)) (by omega) (by omega) ?_
          exact ih (i + 1) (by omega) _ _ _ x5 (by rw [ex5, ex0]; exact nI_1 i) hg3 (hP.sub [0, 1] rfl) (hD.sub [0, 1] (by decide) rfl) hS (lv_sub hl [0, 1, 2, 3] rfl)
        · exact absurd rfl c_27
  refine W.widen (k := 18 * 0) (n := 40 * 0) (by omega) (by omega) ?_
  exact loop 128 0 rfl _ _ _ _ nI_0.symm (by omega) hP hD hS (lv_sub hl [0, 1, 2, 3] rfl)
