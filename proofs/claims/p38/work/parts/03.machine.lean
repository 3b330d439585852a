abbrev rm_kindOf : Room := { frames := 0, cells := 0, slots := 0, locals := 0 }
abbrev b_kindOf : ByteArray := prog_6_method_4_code
def y_kindOf : MethodName := ⟨"Leastcode$Machine", "kindOf", "(I)I"⟩
def w_kindOf : List Cond := [.code ⟨"Leastcode$Machine", "kindOf", "(I)I"⟩ prog_6_method_4_code 1 (some .int)]
theorem d_kindOf_0 : decode b_kindOf 0 = .ok (.iload_n 0, 1) := by decide +kernel
theorem d_kindOf_1 : decode b_kindOf 1 = .ok (.bipush 32, 2) := by decide +kernel
theorem d_kindOf_3 : decode b_kindOf 3 = .ok (.if_icmp .ge 7, 3) := by decide +kernel
theorem d_kindOf_6 : decode b_kindOf 6 = .ok (.iload_n 0, 1) := by decide +kernel
theorem d_kindOf_7 : decode b_kindOf 7 = .ok (.iconst 2, 1) := by decide +kernel
theorem d_kindOf_8 : decode b_kindOf 8 = .ok (.ishr, 1) := by decide +kernel
theorem d_kindOf_9 : decode b_kindOf 9 = .ok (.ireturn, 1) := by decide +kernel
theorem d_kindOf_10 : decode b_kindOf 10 = .ok (.bipush 8, 2) := by decide +kernel
theorem d_kindOf_12 : decode b_kindOf 12 = .ok (.iload_n 0, 1) := by decide +kernel
theorem d_kindOf_13 : decode b_kindOf 13 = .ok (.bipush 32, 2) := by decide +kernel
theorem d_kindOf_15 : decode b_kindOf 15 = .ok (.isub, 1) := by decide +kernel
theorem d_kindOf_16 : decode b_kindOf 16 = .ok (.iconst 1, 1) := by decide +kernel
theorem d_kindOf_17 : decode b_kindOf 17 = .ok (.ishr, 1) := by decide +kernel
theorem d_kindOf_18 : decode b_kindOf 18 = .ok (.iadd, 1) := by decide +kernel
theorem d_kindOf_19 : decode b_kindOf 19 = .ok (.ireturn, 1) := by decide +kernel
set_option maxHeartbeats 4000000 in
set_option maxRecDepth 100000 in
theorem c_kindOf (l : Launch) (x : Int32) : Met l y_kindOf w_kindOf rm_kindOf (va_Pc [.int x] (fun U => True)) (vp_Si (fun r => True)) 0 0 (fun _ => False) := by
  refine Met.ofW (cc := b_kindOf) (maxL := 1) (ret := (some .int)) (by decide) rfl ?_
  intro p e s m args below meth c s₁ B hml hv
  obtain ⟨rfl, -⟩ := hv
  have hx := B.exec
  have hb := B.bytes
  have hr := B.returns
  have hts := atoms_spec (ws := w_kindOf) B.pre
  have hown : s.vm.findClass "Leastcode$Machine" = some m.cls := findClass_of_methodNamed B.named
  have hlocks := B.notSynchronized
  have hl := lv_entry ([.int x]) (n := 1) (Nat.le_of_ble_eq_true rfl)
  rw [lg_entry_eq]
  generalize (lg_sl ([.int x]) ++ List.replicate (1 - (lg_sl ([.int x])).length) Slot.unset).toArray = ls at hl ⊢
  have hl : lv_has ls 1 [(0, .int x)] := hl
  refine lv_iload_n hx hb d_kindOf_0 rfl (lv_at hl 0 rfl) ?_
  refine lv_bipush (v := 32) hx hb d_kindOf_1 (by decide) ?_
  refine lv_icmp_ge (tgt := 10) hx hb d_kindOf_3 (by decide) (fun c_3 => ?_) (fun c_3 => ?_)
  · skip
    refine lv_bipush (v := 8) hx hb d_kindOf_10 (by decide) ?_
    refine lv_iload_n hx hb d_kindOf_12 rfl (lv_at hl 0 rfl) ?_
    refine lv_bipush (v := 32) hx hb d_kindOf_13 (by decide) ?_
    refine lv_isub hx hb d_kindOf_15 ?_
    refine lv_topi (fun x1 ex1 => ?_)
    refine lv_iconst (v := 1) hx hb d_kindOf_16 (by decide) ?_
    refine lv_ishr hx hb d_kindOf_17 ?_
    refine lv_topi (fun x2 ex2 => ?_)
    refine lv_iadd hx hb d_kindOf_18 ?_
    refine lv_topi (fun x3 ex3 => ?_)
    exact W.iret hx hb hr (fun t ht hW => ⟨_, rfl, trivial, ht⟩) (fun _ h => by cases h) d_kindOf_19
  · skip
    refine lv_iload_n hx hb d_kindOf_6 rfl (lv_at hl 0 rfl) ?_
    refine lv_iconst (v := 2) hx hb d_kindOf_7 (by decide) ?_
    refine lv_ishr hx hb d_kindOf_8 ?_
    refine lv_topi (fun x4 ex4 => ?_)
    exact W.iret hx hb hr (fun t ht hW => ⟨_, rfl, trivial, ht⟩) (fun _ h => by cases h) d_kindOf_9

abbrev rm_firstOf : Room := { frames := 0, cells := 0, slots := 0, locals := 0 }
abbrev b_firstOf : ByteArray := prog_6_method_5_code
def y_firstOf : MethodName := ⟨"Leastcode$Machine", "firstOf", "(I)I"⟩
def w_firstOf : List Cond := [.code ⟨"Leastcode$Machine", "firstOf", "(I)I"⟩ prog_6_method_5_code 1 (some .int)]
theorem d_firstOf_0 : decode b_firstOf 0 = .ok (.iload_n 0, 1) := by decide +kernel
theorem d_firstOf_1 : decode b_firstOf 1 = .ok (.bipush 32, 2) := by decide +kernel
theorem d_firstOf_3 : decode b_firstOf 3 = .ok (.if_icmp .ge 11, 3) := by decide +kernel
theorem d_firstOf_6 : decode b_firstOf 6 = .ok (.iload_n 0, 1) := by decide +kernel
theorem d_firstOf_7 : decode b_firstOf 7 = .ok (.iconst 1, 1) := by decide +kernel
theorem d_firstOf_8 : decode b_firstOf 8 = .ok (.ishr, 1) := by decide +kernel
theorem d_firstOf_9 : decode b_firstOf 9 = .ok (.iconst 1, 1) := by decide +kernel
theorem d_firstOf_10 : decode b_firstOf 10 = .ok (.iand, 1) := by decide +kernel
theorem d_firstOf_11 : decode b_firstOf 11 = .ok (.goto 6, 3) := by decide +kernel
theorem d_firstOf_14 : decode b_firstOf 14 = .ok (.iload_n 0, 1) := by decide +kernel
theorem d_firstOf_15 : decode b_firstOf 15 = .ok (.iconst 1, 1) := by decide +kernel
theorem d_firstOf_16 : decode b_firstOf 16 = .ok (.iand, 1) := by decide +kernel
theorem d_firstOf_17 : decode b_firstOf 17 = .ok (.ireturn, 1) := by decide +kernel
set_option maxHeartbeats 4000000 in
set_option maxRecDepth 100000 in
theorem c_firstOf (l : Launch) (x : Int32) : Met l y_firstOf w_firstOf rm_firstOf (va_Pc [.int x] (fun U => True)) (vp_Si (fun r => True)) 0 0 (fun _ => False) := by
  refine Met.ofW (cc := b_firstOf) (maxL := 1) (ret := (some .int)) (by decide) rfl ?_
  intro p e s m args below meth c s₁ B hml hv
  obtain ⟨rfl, -⟩ := hv
  have hx := B.exec
  have hb := B.bytes
  have hr := B.returns
  have hts := atoms_spec (ws := w_firstOf) B.pre
  have hown : s.vm.findClass "Leastcode$Machine" = some m.cls := findClass_of_methodNamed B.named
  have hlocks := B.notSynchronized
  have hl := lv_entry ([.int x]) (n := 1) (Nat.le_of_ble_eq_true rfl)
  rw [lg_entry_eq]
  generalize (lg_sl ([.int x]) ++ List.replicate (1 - (lg_sl ([.int x])).length) Slot.unset).toArray = ls at hl ⊢
  have hl : lv_has ls 1 [(0, .int x)] := hl
  refine lv_iload_n hx hb d_firstOf_0 rfl (lv_at hl 0 rfl) ?_
  refine lv_bipush (v := 32) hx hb d_firstOf_1 (by decide) ?_
  refine lv_icmp_ge (tgt := 14) hx hb d_firstOf_3 (by decide) (fun c_3 => ?_) (fun c_3 => ?_)
  · skip
    refine lv_iload_n hx hb d_firstOf_14 rfl (lv_at hl 0 rfl) ?_
    refine lv_iconst (v := 1) hx hb d_firstOf_15 (by decide) ?_
    refine lv_iand hx hb d_firstOf_16 ?_
    refine lv_topi (fun x1 ex1 => ?_)
    exact W.iret hx hb hr (fun t ht hW => ⟨_, rfl, trivial, ht⟩) (fun _ h => by cases h) d_firstOf_17
  · skip
    refine lv_iload_n hx hb d_firstOf_6 rfl (lv_at hl 0 rfl) ?_
    refine lv_iconst (v := 1) hx hb d_firstOf_7 (by decide) ?_
    refine lv_ishr hx hb d_firstOf_8 ?_
    refine lv_topi (fun x2 ex2 => ?_)
    refine lv_iconst (v := 1) hx hb d_firstOf_9 (by decide) ?_
    refine lv_iand hx hb d_firstOf_10 ?_
    refine lv_topi (fun x3 ex3 => ?_)
    refine lv_goto (tgt := 17) hx hb d_firstOf_11 (by decide) ?_
    exact W.iret hx hb hr (fun t ht hW => ⟨_, rfl, trivial, ht⟩) (fun _ h => by cases h) d_firstOf_17

abbrev rm_secondOf : Room := { frames := 0, cells := 0, slots := 0, locals := 0 }
abbrev b_secondOf : ByteArray := prog_6_method_6_code
def y_secondOf : MethodName := ⟨"Leastcode$Machine", "secondOf", "(I)I"⟩
def w_secondOf : List Cond := [.code ⟨"Leastcode$Machine", "secondOf", "(I)I"⟩ prog_6_method_6_code 1 (some .int)]
theorem d_secondOf_0 : decode b_secondOf 0 = .ok (.iload_n 0, 1) := by decide +kernel
theorem d_secondOf_1 : decode b_secondOf 1 = .ok (.iconst 1, 1) := by decide +kernel
theorem d_secondOf_2 : decode b_secondOf 2 = .ok (.iand, 1) := by decide +kernel
theorem d_secondOf_3 : decode b_secondOf 3 = .ok (.ireturn, 1) := by decide +kernel
set_option maxHeartbeats 4000000 in
set_option maxRecDepth 100000 in
theorem c_secondOf (l : Launch) (x : Int32) : Met l y_secondOf w_secondOf rm_secondOf (va_Pc [.int x] (fun U => True)) (vp_Si (fun r => True)) 0 0 (fun _ => False) := by
  refine Met.ofW (cc := b_secondOf) (maxL := 1) (ret := (some .int)) (by decide) rfl ?_
  intro p e s m args below meth c s₁ B hml hv
  obtain ⟨rfl, -⟩ := hv
  have hx := B.exec
  have hb := B.bytes
  have hr := B.returns
  have hts := atoms_spec (ws := w_secondOf) B.pre
  have hown : s.vm.findClass "Leastcode$Machine" = some m.cls := findClass_of_methodNamed B.named
  have hlocks := B.notSynchronized
  have hl := lv_entry ([.int x]) (n := 1) (Nat.le_of_ble_eq_true rfl)
  rw [lg_entry_eq]
  generalize (lg_sl ([.int x]) ++ List.replicate (1 - (lg_sl ([.int x])).length) Slot.unset).toArray = ls at hl ⊢
  have hl : lv_has ls 1 [(0, .int x)] := hl
  refine lv_iload_n hx hb d_secondOf_0 rfl (lv_at hl 0 rfl) ?_
  refine lv_iconst (v := 1) hx hb d_secondOf_1 (by decide) ?_
  refine lv_iand hx hb d_secondOf_2 ?_
  refine lv_topi (fun x1 ex1 => ?_)
  exact W.iret hx hb hr (fun t ht hW => ⟨_, rfl, trivial, ht⟩) (fun _ h => by cases h) d_secondOf_3

abbrev rm_register : Room := { frames := 0, cells := 0, slots := 0, locals := 0 }
abbrev b_register : ByteArray := prog_6_method_10_code
def y_register : MethodName := ⟨"Leastcode$Machine", "register", "(II)I"⟩
def w_register : List Cond := [.code ⟨"Leastcode$Machine", "register", "(II)I"⟩ prog_6_method_10_code 2 (some .int)]
theorem d_register_0 : decode b_register 0 = .ok (.iload_n 1, 1) := by decide +kernel
theorem d_register_1 : decode b_register 1 = .ok (.ifCond .ne 12, 3) := by decide +kernel
theorem d_register_4 : decode b_register 4 = .ok (.iload_n 0, 1) := by decide +kernel
theorem d_register_5 : decode b_register 5 = .ok (.iconst 4, 1) := by decide +kernel
theorem d_register_6 : decode b_register 6 = .ok (.ishr, 1) := by decide +kernel
theorem d_register_7 : decode b_register 7 = .ok (.bipush 7, 2) := by decide +kernel
theorem d_register_9 : decode b_register 9 = .ok (.iand, 1) := by decide +kernel
theorem d_register_10 : decode b_register 10 = .ok (.goto 9, 3) := by decide +kernel
theorem d_register_13 : decode b_register 13 = .ok (.iload_n 0, 1) := by decide +kernel
theorem d_register_14 : decode b_register 14 = .ok (.iconst 1, 1) := by decide +kernel
theorem d_register_15 : decode b_register 15 = .ok (.ishr, 1) := by decide +kernel
theorem d_register_16 : decode b_register 16 = .ok (.bipush 7, 2) := by decide +kernel
theorem d_register_18 : decode b_register 18 = .ok (.iand, 1) := by decide +kernel
theorem d_register_19 : decode b_register 19 = .ok (.ireturn, 1) := by decide +kernel
set_option maxHeartbeats 4000000 in
set_option maxRecDepth 100000 in
theorem c_register (l : Launch) (x : Int32) (y : Int32) : Met l y_register w_register rm_register (va_Pc [.int x, .int y] (fun U => True)) (vp_Si (fun r => ∃ j : Nat, j < 2 ^ 3 ∧ r = nI j)) 0 0 (fun _ => False) := by
  refine Met.ofW (cc := b_register) (maxL := 2) (ret := (some .int)) (by decide) rfl ?_
  intro p e s m args below meth c s₁ B hml hv
  obtain ⟨rfl, -⟩ := hv
  have hx := B.exec
  have hb := B.bytes
  have hr := B.returns
  have hts := atoms_spec (ws := w_register) B.pre
  have hown : s.vm.findClass "Leastcode$Machine" = some m.cls := findClass_of_methodNamed B.named
  have hlocks := B.notSynchronized
  have hl := lv_entry ([.int x, .int y]) (n := 2) (Nat.le_of_ble_eq_true rfl)
  rw [lg_entry_eq]
  generalize (lg_sl ([.int x, .int y]) ++ List.replicate (2 - (lg_sl ([.int x, .int y])).length) Slot.unset).toArray = ls at hl ⊢
  have hl : lv_has ls 2 [(0, .int x), (1, .int y)] := hl
  refine lv_iload_n hx hb d_register_0 rfl (lv_at hl 1 rfl) ?_
  refine lv_if_ne (tgt := 13) hx hb d_register_1 (by decide) (fun c_1 => ?_) (fun c_1 => ?_)
  · skip
    refine lv_iload_n hx hb d_register_13 rfl (lv_at hl 0 rfl) ?_
    refine lv_iconst (v := 1) hx hb d_register_14 (by decide) ?_
    refine lv_ishr hx hb d_register_15 ?_
    refine lv_topi (fun x1 ex1 => ?_)
    refine lv_bipush (v := 7) hx hb d_register_16 (by decide) ?_
    refine lv_iand hx hb d_register_18 ?_
    refine lv_topi (fun x2 ex2 => ?_)
    exact W.iret hx hb hr (fun t ht hW => ⟨_, rfl, by rw [ex2]; exact pk_andE _ 3 (by decide), ht⟩) (fun _ h => by cases h) d_register_19
  · skip
    refine lv_iload_n hx hb d_register_4 rfl (lv_at hl 0 rfl) ?_
    refine lv_iconst (v := 4) hx hb d_register_5 (by decide) ?_
    refine lv_ishr hx hb d_register_6 ?_
    refine lv_topi (fun x3 ex3 => ?_)
    refine lv_bipush (v := 7) hx hb d_register_7 (by decide) ?_
    refine lv_iand hx hb d_register_9 ?_
    refine lv_topi (fun x4 ex4 => ?_)
    refine lv_goto (tgt := 19) hx hb d_register_10 (by decide) ?_
    exact W.iret hx hb hr (fun t ht hW => ⟨_, rfl, by rw [ex4]; exact pk_andE _ 3 (by decide), ht⟩) (fun _ h => by cases h) d_register_19

abbrev rm_withRegister : Room := { frames := 0, cells := 0, slots := 0, locals := 0 }
abbrev b_withRegister : ByteArray := prog_6_method_11_code
def y_withRegister : MethodName := ⟨"Leastcode$Machine", "withRegister", "(III)I"⟩
def w_withRegister : List Cond := [.code ⟨"Leastcode$Machine", "withRegister", "(III)I"⟩ prog_6_method_11_code 3 (some .int)]
theorem d_withRegister_0 : decode b_withRegister 0 = .ok (.iload_n 1, 1) := by decide +kernel
theorem d_withRegister_1 : decode b_withRegister 1 = .ok (.ifCond .ne 17, 3) := by decide +kernel
theorem d_withRegister_4 : decode b_withRegister 4 = .ok (.iload_n 0, 1) := by decide +kernel
theorem d_withRegister_5 : decode b_withRegister 5 = .ok (.bipush 15, 2) := by decide +kernel
theorem d_withRegister_7 : decode b_withRegister 7 = .ok (.iand, 1) := by decide +kernel
theorem d_withRegister_8 : decode b_withRegister 8 = .ok (.iload_n 2, 1) := by decide +kernel
theorem d_withRegister_9 : decode b_withRegister 9 = .ok (.bipush 7, 2) := by decide +kernel
theorem d_withRegister_11 : decode b_withRegister 11 = .ok (.iand, 1) := by decide +kernel
theorem d_withRegister_12 : decode b_withRegister 12 = .ok (.iconst 4, 1) := by decide +kernel
theorem d_withRegister_13 : decode b_withRegister 13 = .ok (.ishl, 1) := by decide +kernel
theorem d_withRegister_14 : decode b_withRegister 14 = .ok (.ior, 1) := by decide +kernel
theorem d_withRegister_15 : decode b_withRegister 15 = .ok (.goto 14, 3) := by decide +kernel
theorem d_withRegister_18 : decode b_withRegister 18 = .ok (.iload_n 0, 1) := by decide +kernel
theorem d_withRegister_19 : decode b_withRegister 19 = .ok (.bipush 113, 2) := by decide +kernel
theorem d_withRegister_21 : decode b_withRegister 21 = .ok (.iand, 1) := by decide +kernel
theorem d_withRegister_22 : decode b_withRegister 22 = .ok (.iload_n 2, 1) := by decide +kernel
theorem d_withRegister_23 : decode b_withRegister 23 = .ok (.bipush 7, 2) := by decide +kernel
theorem d_withRegister_25 : decode b_withRegister 25 = .ok (.iand, 1) := by decide +kernel
theorem d_withRegister_26 : decode b_withRegister 26 = .ok (.iconst 1, 1) := by decide +kernel
theorem d_withRegister_27 : decode b_withRegister 27 = .ok (.ishl, 1) := by decide +kernel
theorem d_withRegister_28 : decode b_withRegister 28 = .ok (.ior, 1) := by decide +kernel
theorem d_withRegister_29 : decode b_withRegister 29 = .ok (.ireturn, 1) := by decide +kernel
set_option maxHeartbeats 4000000 in
set_option maxRecDepth 100000 in
theorem c_withRegister (l : Launch) (x : Int32) (y : Int32) (z : Int32) : Met l y_withRegister w_withRegister rm_withRegister (va_Pc [.int x, .int y, .int z] (fun U => True)) (vp_Si (fun r => True)) 0 0 (fun _ => False) := by
  refine Met.ofW (cc := b_withRegister) (maxL := 3) (ret := (some .int)) (by decide) rfl ?_
  intro p e s m args below meth c s₁ B hml hv
  obtain ⟨rfl, -⟩ := hv
  have hx := B.exec
  have hb := B.bytes
  have hr := B.returns
  have hts := atoms_spec (ws := w_withRegister) B.pre
  have hown : s.vm.findClass "Leastcode$Machine" = some m.cls := findClass_of_methodNamed B.named
  have hlocks := B.notSynchronized
  have hl := lv_entry ([.int x, .int y, .int z]) (n := 3) (Nat.le_of_ble_eq_true rfl)
  rw [lg_entry_eq]
  generalize (lg_sl ([.int x, .int y, .int z]) ++ List.replicate (3 - (lg_sl ([.int x, .int y, .int z])).length) Slot.unset).toArray = ls at hl ⊢
  have hl : lv_has ls 3 [(0, .int x), (1, .int y), (2, .int z)] := hl
  refine lv_iload_n hx hb d_withRegister_0 rfl (lv_at hl 1 rfl) ?_
  refine lv_if_ne (tgt := 18) hx hb d_withRegister_1 (by decide) (fun c_1 => ?_) (fun c_1 => ?_)
  · skip
    refine lv_iload_n hx hb d_withRegister_18 rfl (lv_at hl 0 rfl) ?_
    refine lv_bipush (v := 113) hx hb d_withRegister_19 (by decide) ?_
    refine lv_iand hx hb d_withRegister_21 ?_
    refine lv_topi (fun x1 ex1 => ?_)
    refine lv_iload_n hx hb d_withRegister_22 rfl (lv_at hl 2 rfl) ?_
    refine lv_bipush (v := 7) hx hb d_withRegister_23 (by decide) ?_
    refine lv_iand hx hb d_withRegister_25 ?_
    refine lv_topi (fun x2 ex2 => ?_)
    refine lv_iconst (v := 1) hx hb d_withRegister_26 (by decide) ?_
    refine lv_ishl hx hb d_withRegister_27 ?_
    refine lv_topi (fun x3 ex3 => ?_)
    refine lv_ior hx hb d_withRegister_28 ?_
    refine lv_topi (fun x4 ex4 => ?_)
    exact W.iret hx hb hr (fun t ht hW => ⟨_, rfl, trivial, ht⟩) (fun _ h => by cases h) d_withRegister_29
  · skip
    refine lv_iload_n hx hb d_withRegister_4 rfl (lv_at hl 0 rfl) ?_
    refine lv_bipush (v := 15) hx hb d_withRegister_5 (by decide) ?_
    refine lv_iand hx hb d_withRegister_7 ?_
    refine lv_topi (fun x5 ex5 => ?_)
    refine lv_iload_n hx hb d_withRegister_8 rfl (lv_at hl 2 rfl) ?_
    refine lv_bipush (v := 7) hx hb d_withRegister_9 (by decide) ?_
    refine lv_iand hx hb d_withRegister_11 ?_
    refine lv_topi (fun x6 ex6 => ?_)
    refine lv_iconst (v := 4) hx hb d_withRegister_12 (by decide) ?_
    refine lv_ishl hx hb d_withRegister_13 ?_
    refine lv_topi (fun x7 ex7 => ?_)
    refine lv_ior hx hb d_withRegister_14 ?_
    refine lv_topi (fun x8 ex8 => ?_)
    refine lv_goto (tgt := 29) hx hb d_withRegister_15 (by decide) ?_
    exact W.iret hx hb hr (fun t ht hW => ⟨_, rfl, trivial, ht⟩) (fun _ h => by cases h) d_withRegister_29

abbrev rm_withFlag : Room := { frames := 0, cells := 0, slots := 0, locals := 0 }
abbrev b_withFlag : ByteArray := prog_6_method_12_code
def y_withFlag : MethodName := ⟨"Leastcode$Machine", "withFlag", "(IZ)I"⟩
def w_withFlag : List Cond := [.code ⟨"Leastcode$Machine", "withFlag", "(IZ)I"⟩ prog_6_method_12_code 2 (some .int)]
theorem d_withFlag_0 : decode b_withFlag 0 = .ok (.iload_n 1, 1) := by decide +kernel
theorem d_withFlag_1 : decode b_withFlag 1 = .ok (.ifCond .eq 9, 3) := by decide +kernel
theorem d_withFlag_4 : decode b_withFlag 4 = .ok (.iload_n 0, 1) := by decide +kernel
theorem d_withFlag_5 : decode b_withFlag 5 = .ok (.iconst 1, 1) := by decide +kernel
theorem d_withFlag_6 : decode b_withFlag 6 = .ok (.ior, 1) := by decide +kernel
theorem d_withFlag_7 : decode b_withFlag 7 = .ok (.goto 7, 3) := by decide +kernel
theorem d_withFlag_10 : decode b_withFlag 10 = .ok (.iload_n 0, 1) := by decide +kernel
theorem d_withFlag_11 : decode b_withFlag 11 = .ok (.bipush 126, 2) := by decide +kernel
theorem d_withFlag_13 : decode b_withFlag 13 = .ok (.iand, 1) := by decide +kernel
theorem d_withFlag_14 : decode b_withFlag 14 = .ok (.ireturn, 1) := by decide +kernel
set_option maxHeartbeats 4000000 in
set_option maxRecDepth 100000 in
theorem c_withFlag (l : Launch) (x : Int32) (y : Int32) : Met l y_withFlag w_withFlag rm_withFlag (va_Pc [.int x, .int y] (fun U => True)) (vp_Si (fun r => True)) 0 0 (fun _ => False) := by
  refine Met.ofW (cc := b_withFlag) (maxL := 2) (ret := (some .int)) (by decide) rfl ?_
  intro p e s m args below meth c s₁ B hml hv
  obtain ⟨rfl, -⟩ := hv
  have hx := B.exec
  have hb := B.bytes
  have hr := B.returns
  have hts := atoms_spec (ws := w_withFlag) B.pre
  have hown : s.vm.findClass "Leastcode$Machine" = some m.cls := findClass_of_methodNamed B.named
  have hlocks := B.notSynchronized
  have hl := lv_entry ([.int x, .int y]) (n := 2) (Nat.le_of_ble_eq_true rfl)
  rw [lg_entry_eq]
  generalize (lg_sl ([.int x, .int y]) ++ List.replicate (2 - (lg_sl ([.int x, .int y])).length) Slot.unset).toArray = ls at hl ⊢
  have hl : lv_has ls 2 [(0, .int x), (1, .int y)] := hl
  refine lv_iload_n hx hb d_withFlag_0 rfl (lv_at hl 1 rfl) ?_
  refine lv_if_eq (tgt := 10) hx hb d_withFlag_1 (by decide) (fun c_1 => ?_) (fun c_1 => ?_)
  · skip
    refine lv_iload_n hx hb d_withFlag_10 rfl (lv_at hl 0 rfl) ?_
    refine lv_bipush (v := 126) hx hb d_withFlag_11 (by decide) ?_
    refine lv_iand hx hb d_withFlag_13 ?_
    refine lv_topi (fun x1 ex1 => ?_)
    exact W.iret hx hb hr (fun t ht hW => ⟨_, rfl, trivial, ht⟩) (fun _ h => by cases h) d_withFlag_14
  · skip
    refine lv_iload_n hx hb d_withFlag_4 rfl (lv_at hl 0 rfl) ?_
    refine lv_iconst (v := 1) hx hb d_withFlag_5 (by decide) ?_
    refine lv_ior hx hb d_withFlag_6 ?_
    refine lv_topi (fun x2 ex2 => ?_)
    refine lv_goto (tgt := 14) hx hb d_withFlag_7 (by decide) ?_
    exact W.iret hx hb hr (fun t ht hW => ⟨_, rfl, trivial, ht⟩) (fun _ h => by cases h) d_withFlag_14

abbrev rm_effect : Room := { frames := 1, cells := 0, slots := 0, locals := 22 }
abbrev b_effect : ByteArray := prog_6_method_9_code
def y_effect : MethodName := ⟨"Leastcode$Machine", "effect", "(CIII)I"⟩
def w_effect : List Cond := [.code ⟨"Leastcode$Machine", "effect", "(CIII)I"⟩ prog_6_method_9_code 7 (some .int), .methodLink "Leastcode$Machine" 63 ⟨"Leastcode$Machine", "register", "(II)I"⟩, .static ⟨"Leastcode$Machine", "register", "(II)I"⟩, .initialized "Leastcode$Machine", .code ⟨"Leastcode$Machine", "register", "(II)I"⟩ prog_6_method_10_code 2 (some .int), .methodLink "Leastcode$Machine" 78 ⟨"Leastcode$Machine", "withRegister", "(III)I"⟩, .static ⟨"Leastcode$Machine", "withRegister", "(III)I"⟩, .code ⟨"Leastcode$Machine", "withRegister", "(III)I"⟩ prog_6_method_11_code 3 (some .int), .methodLink "Leastcode$Machine" 81 ⟨"Leastcode$Machine", "withFlag", "(IZ)I"⟩, .static ⟨"Leastcode$Machine", "withFlag", "(IZ)I"⟩, .code ⟨"Leastcode$Machine", "withFlag", "(IZ)I"⟩ prog_6_method_12_code 2 (some .int)]
theorem d_effect_0 : decode b_effect 0 = .ok (.iload_n 3, 1) := by decide +kernel
theorem d_effect_1 : decode b_effect 1 = .ok (.iload_n 1, 1) := by decide +kernel
theorem d_effect_2 : decode b_effect 2 = .ok (.invokestatic 63, 3) := by decide +kernel
theorem d_effect_5 : decode b_effect 5 = .ok (.istore 4, 2) := by decide +kernel
theorem d_effect_7 : decode b_effect 7 = .ok (.iload_n 3, 1) := by decide +kernel
theorem d_effect_8 : decode b_effect 8 = .ok (.iload_n 2, 1) := by decide +kernel
theorem d_effect_9 : decode b_effect 9 = .ok (.invokestatic 63, 3) := by decide +kernel
theorem d_effect_12 : decode b_effect 12 = .ok (.istore 5, 2) := by decide +kernel
theorem d_effect_14 : decode b_effect 14 = .ok (.iload_n 3, 1) := by decide +kernel
theorem d_effect_15 : decode b_effect 15 = .ok (.iconst 1, 1) := by decide +kernel
theorem d_effect_16 : decode b_effect 16 = .ok (.iand, 1) := by decide +kernel
theorem d_effect_17 : decode b_effect 17 = .ok (.istore 6, 2) := by decide +kernel
theorem d_effect_19 : decode b_effect 19 = .ok (.iload_n 0, 1) := by decide +kernel
theorem d_effect_20 : decode b_effect 20 = .ok (.tableswitch 353 97 122 #[128, 342, 233, 261, 353, 353, 353, 353, 251, 353, 216, 271, 120, 183, 194, 353, 353, 298, 157, 324, 353, 353, 353, 205, 353, 335], 120) := by decide +kernel
theorem d_effect_140 : decode b_effect 140 = .ok (.iload_n 3, 1) := by decide +kernel
theorem d_effect_141 : decode b_effect 141 = .ok (.iload_n 1, 1) := by decide +kernel
theorem d_effect_142 : decode b_effect 142 = .ok (.iload 5, 2) := by decide +kernel
theorem d_effect_144 : decode b_effect 144 = .ok (.invokestatic 78, 3) := by decide +kernel
theorem d_effect_147 : decode b_effect 147 = .ok (.ireturn, 1) := by decide +kernel
theorem d_effect_148 : decode b_effect 148 = .ok (.iload_n 3, 1) := by decide +kernel
theorem d_effect_149 : decode b_effect 149 = .ok (.iload_n 1, 1) := by decide +kernel
theorem d_effect_150 : decode b_effect 150 = .ok (.iload 4, 2) := by decide +kernel
theorem d_effect_152 : decode b_effect 152 = .ok (.iload 5, 2) := by decide +kernel
theorem d_effect_154 : decode b_effect 154 = .ok (.iadd, 1) := by decide +kernel
theorem d_effect_155 : decode b_effect 155 = .ok (.invokestatic 78, 3) := by decide +kernel
theorem d_effect_158 : decode b_effect 158 = .ok (.iload 4, 2) := by decide +kernel
theorem d_effect_160 : decode b_effect 160 = .ok (.iload 5, 2) := by decide +kernel
theorem d_effect_162 : decode b_effect 162 = .ok (.iadd, 1) := by decide +kernel
theorem d_effect_163 : decode b_effect 163 = .ok (.bipush 7, 2) := by decide +kernel
theorem d_effect_165 : decode b_effect 165 = .ok (.if_icmp .le 7, 3) := by decide +kernel
theorem d_effect_168 : decode b_effect 168 = .ok (.iconst 1, 1) := by decide +kernel
theorem d_effect_169 : decode b_effect 169 = .ok (.goto 4, 3) := by decide +kernel
theorem d_effect_172 : decode b_effect 172 = .ok (.iconst 0, 1) := by decide +kernel
theorem d_effect_173 : decode b_effect 173 = .ok (.invokestatic 81, 3) := by decide +kernel
theorem d_effect_176 : decode b_effect 176 = .ok (.ireturn, 1) := by decide +kernel
theorem d_effect_177 : decode b_effect 177 = .ok (.iload_n 3, 1) := by decide +kernel
theorem d_effect_178 : decode b_effect 178 = .ok (.iload_n 1, 1) := by decide +kernel
theorem d_effect_179 : decode b_effect 179 = .ok (.iload 4, 2) := by decide +kernel
theorem d_effect_181 : decode b_effect 181 = .ok (.iload 5, 2) := by decide +kernel
theorem d_effect_183 : decode b_effect 183 = .ok (.isub, 1) := by decide +kernel
theorem d_effect_184 : decode b_effect 184 = .ok (.invokestatic 78, 3) := by decide +kernel
theorem d_effect_187 : decode b_effect 187 = .ok (.iload 4, 2) := by decide +kernel
theorem d_effect_189 : decode b_effect 189 = .ok (.iload 5, 2) := by decide +kernel
theorem d_effect_191 : decode b_effect 191 = .ok (.if_icmp .ge 7, 3) := by decide +kernel
theorem d_effect_194 : decode b_effect 194 = .ok (.iconst 1, 1) := by decide +kernel
theorem d_effect_195 : decode b_effect 195 = .ok (.goto 4, 3) := by decide +kernel
theorem d_effect_198 : decode b_effect 198 = .ok (.iconst 0, 1) := by decide +kernel
theorem d_effect_199 : decode b_effect 199 = .ok (.invokestatic 81, 3) := by decide +kernel
theorem d_effect_202 : decode b_effect 202 = .ok (.ireturn, 1) := by decide +kernel
theorem d_effect_203 : decode b_effect 203 = .ok (.iload_n 3, 1) := by decide +kernel
theorem d_effect_204 : decode b_effect 204 = .ok (.iload_n 1, 1) := by decide +kernel
theorem d_effect_205 : decode b_effect 205 = .ok (.iload 4, 2) := by decide +kernel
theorem d_effect_207 : decode b_effect 207 = .ok (.iload 5, 2) := by decide +kernel
theorem d_effect_209 : decode b_effect 209 = .ok (.iand, 1) := by decide +kernel
theorem d_effect_210 : decode b_effect 210 = .ok (.invokestatic 78, 3) := by decide +kernel
theorem d_effect_213 : decode b_effect 213 = .ok (.ireturn, 1) := by decide +kernel
theorem d_effect_214 : decode b_effect 214 = .ok (.iload_n 3, 1) := by decide +kernel
theorem d_effect_215 : decode b_effect 215 = .ok (.iload_n 1, 1) := by decide +kernel
theorem d_effect_216 : decode b_effect 216 = .ok (.iload 4, 2) := by decide +kernel
theorem d_effect_218 : decode b_effect 218 = .ok (.iload 5, 2) := by decide +kernel
theorem d_effect_220 : decode b_effect 220 = .ok (.ior, 1) := by decide +kernel
theorem d_effect_221 : decode b_effect 221 = .ok (.invokestatic 78, 3) := by decide +kernel
theorem d_effect_224 : decode b_effect 224 = .ok (.ireturn, 1) := by decide +kernel
theorem d_effect_225 : decode b_effect 225 = .ok (.iload_n 3, 1) := by decide +kernel
theorem d_effect_226 : decode b_effect 226 = .ok (.iload_n 1, 1) := by decide +kernel
theorem d_effect_227 : decode b_effect 227 = .ok (.iload 4, 2) := by decide +kernel
theorem d_effect_229 : decode b_effect 229 = .ok (.iload 5, 2) := by decide +kernel
theorem d_effect_231 : decode b_effect 231 = .ok (.ixor, 1) := by decide +kernel
theorem d_effect_232 : decode b_effect 232 = .ok (.invokestatic 78, 3) := by decide +kernel
theorem d_effect_235 : decode b_effect 235 = .ok (.ireturn, 1) := by decide +kernel
theorem d_effect_236 : decode b_effect 236 = .ok (.iload_n 3, 1) := by decide +kernel
theorem d_effect_237 : decode b_effect 237 = .ok (.iload 4, 2) := by decide +kernel
theorem d_effect_239 : decode b_effect 239 = .ok (.iload 5, 2) := by decide +kernel
theorem d_effect_241 : decode b_effect 241 = .ok (.if_icmp .ge 7, 3) := by decide +kernel
theorem d_effect_244 : decode b_effect 244 = .ok (.iconst 1, 1) := by decide +kernel
theorem d_effect_245 : decode b_effect 245 = .ok (.goto 4, 3) := by decide +kernel
theorem d_effect_248 : decode b_effect 248 = .ok (.iconst 0, 1) := by decide +kernel
theorem d_effect_249 : decode b_effect 249 = .ok (.invokestatic 81, 3) := by decide +kernel
theorem d_effect_252 : decode b_effect 252 = .ok (.ireturn, 1) := by decide +kernel
theorem d_effect_253 : decode b_effect 253 = .ok (.iload 6, 2) := by decide +kernel
theorem d_effect_255 : decode b_effect 255 = .ok (.iconst 1, 1) := by decide +kernel
theorem d_effect_256 : decode b_effect 256 = .ok (.if_icmp .ne 13, 3) := by decide +kernel
theorem d_effect_259 : decode b_effect 259 = .ok (.iload_n 3, 1) := by decide +kernel
theorem d_effect_260 : decode b_effect 260 = .ok (.iload_n 1, 1) := by decide +kernel
theorem d_effect_261 : decode b_effect 261 = .ok (.iload 5, 2) := by decide +kernel
theorem d_effect_263 : decode b_effect 263 = .ok (.invokestatic 78, 3) := by decide +kernel
theorem d_effect_266 : decode b_effect 266 = .ok (.goto 4, 3) := by decide +kernel
theorem d_effect_269 : decode b_effect 269 = .ok (.iload_n 3, 1) := by decide +kernel
theorem d_effect_270 : decode b_effect 270 = .ok (.ireturn, 1) := by decide +kernel
theorem d_effect_271 : decode b_effect 271 = .ok (.iload_n 3, 1) := by decide +kernel
theorem d_effect_272 : decode b_effect 272 = .ok (.iload_n 1, 1) := by decide +kernel
theorem d_effect_273 : decode b_effect 273 = .ok (.iload 4, 2) := by decide +kernel
theorem d_effect_275 : decode b_effect 275 = .ok (.iconst 1, 1) := by decide +kernel
theorem d_effect_276 : decode b_effect 276 = .ok (.iadd, 1) := by decide +kernel
theorem d_effect_277 : decode b_effect 277 = .ok (.invokestatic 78, 3) := by decide +kernel
theorem d_effect_280 : decode b_effect 280 = .ok (.ireturn, 1) := by decide +kernel
theorem d_effect_281 : decode b_effect 281 = .ok (.iload_n 3, 1) := by decide +kernel
theorem d_effect_282 : decode b_effect 282 = .ok (.iload_n 1, 1) := by decide +kernel
theorem d_effect_283 : decode b_effect 283 = .ok (.iload 4, 2) := by decide +kernel
theorem d_effect_285 : decode b_effect 285 = .ok (.iconst 1, 1) := by decide +kernel
theorem d_effect_286 : decode b_effect 286 = .ok (.isub, 1) := by decide +kernel
theorem d_effect_287 : decode b_effect 287 = .ok (.invokestatic 78, 3) := by decide +kernel
theorem d_effect_290 : decode b_effect 290 = .ok (.ireturn, 1) := by decide +kernel
theorem d_effect_291 : decode b_effect 291 = .ok (.iload_n 3, 1) := by decide +kernel
theorem d_effect_292 : decode b_effect 292 = .ok (.iload_n 1, 1) := by decide +kernel
theorem d_effect_293 : decode b_effect 293 = .ok (.iconst 2, 1) := by decide +kernel
theorem d_effect_294 : decode b_effect 294 = .ok (.iload 4, 2) := by decide +kernel
theorem d_effect_296 : decode b_effect 296 = .ok (.imul, 1) := by decide +kernel
theorem d_effect_297 : decode b_effect 297 = .ok (.invokestatic 78, 3) := by decide +kernel
theorem d_effect_300 : decode b_effect 300 = .ok (.iconst 2, 1) := by decide +kernel
theorem d_effect_301 : decode b_effect 301 = .ok (.iload 4, 2) := by decide +kernel
theorem d_effect_303 : decode b_effect 303 = .ok (.imul, 1) := by decide +kernel
theorem d_effect_304 : decode b_effect 304 = .ok (.bipush 7, 2) := by decide +kernel
theorem d_effect_306 : decode b_effect 306 = .ok (.if_icmp .le 7, 3) := by decide +kernel
theorem d_effect_309 : decode b_effect 309 = .ok (.iconst 1, 1) := by decide +kernel
theorem d_effect_310 : decode b_effect 310 = .ok (.goto 4, 3) := by decide +kernel
theorem d_effect_313 : decode b_effect 313 = .ok (.iconst 0, 1) := by decide +kernel
theorem d_effect_314 : decode b_effect 314 = .ok (.invokestatic 81, 3) := by decide +kernel
theorem d_effect_317 : decode b_effect 317 = .ok (.ireturn, 1) := by decide +kernel
theorem d_effect_318 : decode b_effect 318 = .ok (.iload_n 3, 1) := by decide +kernel
theorem d_effect_319 : decode b_effect 319 = .ok (.iload_n 1, 1) := by decide +kernel
theorem d_effect_320 : decode b_effect 320 = .ok (.iload 4, 2) := by decide +kernel
theorem d_effect_322 : decode b_effect 322 = .ok (.iconst 1, 1) := by decide +kernel
theorem d_effect_323 : decode b_effect 323 = .ok (.ishr, 1) := by decide +kernel
theorem d_effect_324 : decode b_effect 324 = .ok (.invokestatic 78, 3) := by decide +kernel
theorem d_effect_327 : decode b_effect 327 = .ok (.iload 4, 2) := by decide +kernel
theorem d_effect_329 : decode b_effect 329 = .ok (.iconst 1, 1) := by decide +kernel
theorem d_effect_330 : decode b_effect 330 = .ok (.iand, 1) := by decide +kernel
theorem d_effect_331 : decode b_effect 331 = .ok (.iconst 1, 1) := by decide +kernel
theorem d_effect_332 : decode b_effect 332 = .ok (.if_icmp .ne 7, 3) := by decide +kernel
theorem d_effect_335 : decode b_effect 335 = .ok (.iconst 1, 1) := by decide +kernel
theorem d_effect_336 : decode b_effect 336 = .ok (.goto 4, 3) := by decide +kernel
theorem d_effect_339 : decode b_effect 339 = .ok (.iconst 0, 1) := by decide +kernel
theorem d_effect_340 : decode b_effect 340 = .ok (.invokestatic 81, 3) := by decide +kernel
theorem d_effect_343 : decode b_effect 343 = .ok (.ireturn, 1) := by decide +kernel
theorem d_effect_344 : decode b_effect 344 = .ok (.iload_n 3, 1) := by decide +kernel
theorem d_effect_345 : decode b_effect 345 = .ok (.iload_n 1, 1) := by decide +kernel
theorem d_effect_346 : decode b_effect 346 = .ok (.bipush 7, 2) := by decide +kernel
theorem d_effect_348 : decode b_effect 348 = .ok (.iload 4, 2) := by decide +kernel
theorem d_effect_350 : decode b_effect 350 = .ok (.isub, 1) := by decide +kernel
theorem d_effect_351 : decode b_effect 351 = .ok (.invokestatic 78, 3) := by decide +kernel
theorem d_effect_354 : decode b_effect 354 = .ok (.ireturn, 1) := by decide +kernel
theorem d_effect_355 : decode b_effect 355 = .ok (.iload_n 3, 1) := by decide +kernel
theorem d_effect_356 : decode b_effect 356 = .ok (.iload_n 1, 1) := by decide +kernel
theorem d_effect_357 : decode b_effect 357 = .ok (.iconst 0, 1) := by decide +kernel
theorem d_effect_358 : decode b_effect 358 = .ok (.invokestatic 78, 3) := by decide +kernel
theorem d_effect_361 : decode b_effect 361 = .ok (.ireturn, 1) := by decide +kernel
theorem d_effect_362 : decode b_effect 362 = .ok (.iload_n 3, 1) := by decide +kernel
theorem d_effect_363 : decode b_effect 363 = .ok (.iload_n 1, 1) := by decide +kernel
theorem d_effect_364 : decode b_effect 364 = .ok (.iload 4, 2) := by decide +kernel
theorem d_effect_366 : decode b_effect 366 = .ok (.iload 6, 2) := by decide +kernel
theorem d_effect_368 : decode b_effect 368 = .ok (.iadd, 1) := by decide +kernel
theorem d_effect_369 : decode b_effect 369 = .ok (.invokestatic 78, 3) := by decide +kernel
theorem d_effect_372 : decode b_effect 372 = .ok (.ireturn, 1) := by decide +kernel
theorem d_effect_373 : decode b_effect 373 = .ok (.iload_n 3, 1) := by decide +kernel
theorem d_effect_374 : decode b_effect 374 = .ok (.iload 6, 2) := by decide +kernel
theorem d_effect_376 : decode b_effect 376 = .ok (.ifCond .ne 7, 3) := by decide +kernel
theorem d_effect_379 : decode b_effect 379 = .ok (.iconst 1, 1) := by decide +kernel
theorem d_effect_380 : decode b_effect 380 = .ok (.goto 4, 3) := by decide +kernel
theorem d_effect_383 : decode b_effect 383 = .ok (.iconst 0, 1) := by decide +kernel
theorem d_effect_384 : decode b_effect 384 = .ok (.invokestatic 81, 3) := by decide +kernel
theorem d_effect_387 : decode b_effect 387 = .ok (.ireturn, 1) := by decide +kernel
set_option maxRecDepth 20000 in
theorem g_effect_2 : GoodIn w_effect (wsS "Leastcode$Machine" 63 ⟨"Leastcode$Machine", "register", "(II)I"⟩ w_register) := goodIn_r _ [1, 2, 3, 4] rfl (by decide +kernel)
set_option maxRecDepth 20000 in
theorem g_effect_9 : GoodIn w_effect (wsS "Leastcode$Machine" 63 ⟨"Leastcode$Machine", "register", "(II)I"⟩ w_register) := goodIn_r _ [1, 2, 3, 4] rfl (by decide +kernel)
set_option maxRecDepth 20000 in
theorem g_effect_144 : GoodIn w_effect (wsS "Leastcode$Machine" 78 ⟨"Leastcode$Machine", "withRegister", "(III)I"⟩ w_withRegister) := goodIn_r _ [5, 6, 3, 7] rfl (by decide +kernel)
set_option maxRecDepth 20000 in
theorem g_effect_155 : GoodIn w_effect (wsS "Leastcode$Machine" 78 ⟨"Leastcode$Machine", "withRegister", "(III)I"⟩ w_withRegister) := goodIn_r _ [5, 6, 3, 7] rfl (by decide +kernel)
set_option maxRecDepth 20000 in
theorem g_effect_173 : GoodIn w_effect (wsS "Leastcode$Machine" 81 ⟨"Leastcode$Machine", "withFlag", "(IZ)I"⟩ w_withFlag) := goodIn_r _ [8, 9, 3, 10] rfl (by decide +kernel)
set_option maxRecDepth 20000 in
theorem g_effect_184 : GoodIn w_effect (wsS "Leastcode$Machine" 78 ⟨"Leastcode$Machine", "withRegister", "(III)I"⟩ w_withRegister) := goodIn_r _ [5, 6, 3, 7] rfl (by decide +kernel)
set_option maxRecDepth 20000 in
theorem g_effect_199 : GoodIn w_effect (wsS "Leastcode$Machine" 81 ⟨"Leastcode$Machine", "withFlag", "(IZ)I"⟩ w_withFlag) := goodIn_r _ [8, 9, 3, 10] rfl (by decide +kernel)
set_option maxRecDepth 20000 in
theorem g_effect_210 : GoodIn w_effect (wsS "Leastcode$Machine" 78 ⟨"Leastcode$Machine", "withRegister", "(III)I"⟩ w_withRegister) := goodIn_r _ [5, 6, 3, 7] rfl (by decide +kernel)
set_option maxRecDepth 20000 in
theorem g_effect_221 : GoodIn w_effect (wsS "Leastcode$Machine" 78 ⟨"Leastcode$Machine", "withRegister", "(III)I"⟩ w_withRegister) := goodIn_r _ [5, 6, 3, 7] rfl (by decide +kernel)
set_option maxRecDepth 20000 in
theorem g_effect_232 : GoodIn w_effect (wsS "Leastcode$Machine" 78 ⟨"Leastcode$Machine", "withRegister", "(III)I"⟩ w_withRegister) := goodIn_r _ [5, 6, 3, 7] rfl (by decide +kernel)
set_option maxRecDepth 20000 in
theorem g_effect_249 : GoodIn w_effect (wsS "Leastcode$Machine" 81 ⟨"Leastcode$Machine", "withFlag", "(IZ)I"⟩ w_withFlag) := goodIn_r _ [8, 9, 3, 10] rfl (by decide +kernel)
set_option maxRecDepth 20000 in
theorem g_effect_263 : GoodIn w_effect (wsS "Leastcode$Machine" 78 ⟨"Leastcode$Machine", "withRegister", "(III)I"⟩ w_withRegister) := goodIn_r _ [5, 6, 3, 7] rfl (by decide +kernel)
set_option maxRecDepth 20000 in
theorem g_effect_277 : GoodIn w_effect (wsS "Leastcode$Machine" 78 ⟨"Leastcode$Machine", "withRegister", "(III)I"⟩ w_withRegister) := goodIn_r _ [5, 6, 3, 7] rfl (by decide +kernel)
set_option maxRecDepth 20000 in
theorem g_effect_287 : GoodIn w_effect (wsS "Leastcode$Machine" 78 ⟨"Leastcode$Machine", "withRegister", "(III)I"⟩ w_withRegister) := goodIn_r _ [5, 6, 3, 7] rfl (by decide +kernel)
set_option maxRecDepth 20000 in
theorem g_effect_297 : GoodIn w_effect (wsS "Leastcode$Machine" 78 ⟨"Leastcode$Machine", "withRegister", "(III)I"⟩ w_withRegister) := goodIn_r _ [5, 6, 3, 7] rfl (by decide +kernel)
set_option maxRecDepth 20000 in
theorem g_effect_314 : GoodIn w_effect (wsS "Leastcode$Machine" 81 ⟨"Leastcode$Machine", "withFlag", "(IZ)I"⟩ w_withFlag) := goodIn_r _ [8, 9, 3, 10] rfl (by decide +kernel)
set_option maxRecDepth 20000 in
theorem g_effect_324 : GoodIn w_effect (wsS "Leastcode$Machine" 78 ⟨"Leastcode$Machine", "withRegister", "(III)I"⟩ w_withRegister) := goodIn_r _ [5, 6, 3, 7] rfl (by decide +kernel)
set_option maxRecDepth 20000 in
theorem g_effect_340 : GoodIn w_effect (wsS "Leastcode$Machine" 81 ⟨"Leastcode$Machine", "withFlag", "(IZ)I"⟩ w_withFlag) := goodIn_r _ [8, 9, 3, 10] rfl (by decide +kernel)
set_option maxRecDepth 20000 in
theorem g_effect_351 : GoodIn w_effect (wsS "Leastcode$Machine" 78 ⟨"Leastcode$Machine", "withRegister", "(III)I"⟩ w_withRegister) := goodIn_r _ [5, 6, 3, 7] rfl (by decide +kernel)
set_option maxRecDepth 20000 in
theorem g_effect_358 : GoodIn w_effect (wsS "Leastcode$Machine" 78 ⟨"Leastcode$Machine", "withRegister", "(III)I"⟩ w_withRegister) := goodIn_r _ [5, 6, 3, 7] rfl (by decide +kernel)
set_option maxRecDepth 20000 in
theorem g_effect_369 : GoodIn w_effect (wsS "Leastcode$Machine" 78 ⟨"Leastcode$Machine", "withRegister", "(III)I"⟩ w_withRegister) := goodIn_r _ [5, 6, 3, 7] rfl (by decide +kernel)
set_option maxRecDepth 20000 in
theorem g_effect_384 : GoodIn w_effect (wsS "Leastcode$Machine" 81 ⟨"Leastcode$Machine", "withFlag", "(IZ)I"⟩ w_withFlag) := goodIn_r _ [8, 9, 3, 10] rfl (by decide +kernel)
set_option maxHeartbeats 4000000 in
set_option maxRecDepth 100000 in
theorem c_effect (l : Launch) (x : Int32) (y : Int32) (z : Int32) (u : Int32) : Met l y_effect w_effect rm_effect (va_Pc [.int x, .int y, .int z, .int u] (fun U => True)) (vp_Si (fun r => True)) 0 0 (fun _ => False) := by
  refine Met.ofW (cc := b_effect) (maxL := 7) (ret := (some .int)) (by decide) rfl ?_
  intro p e s m args below meth c s₁ B hml hv
  obtain ⟨rfl, -⟩ := hv
  have hx := B.exec
  have hb := B.bytes
  have hr := B.returns
  have hts := atoms_spec (ws := w_effect) B.pre
  have hown : s.vm.findClass "Leastcode$Machine" = some m.cls := findClass_of_methodNamed B.named
  have hlocks := B.notSynchronized
  have hl := lv_entry ([.int x, .int y, .int z, .int u]) (n := 7) (Nat.le_of_ble_eq_true rfl)
  rw [lg_entry_eq]
  generalize (lg_sl ([.int x, .int y, .int z, .int u]) ++ List.replicate (7 - (lg_sl ([.int x, .int y, .int z, .int u])).length) Slot.unset).toArray = ls at hl ⊢
  have hl : lv_has ls 7 [(0, .int x), (1, .int y), (2, .int z), (3, .int u)] := hl
  refine lv_iload_n hx hb d_effect_0 rfl (lv_at hl 3 rfl) ?_
  refine lv_iload_n hx hb d_effect_1 rfl (lv_at hl 1 rfl) ?_
  refine vp_callSi (W.runS (As := [.int u, .int y]) (rest := []) ⟨hx, hb, hml, hown, hts⟩ (c_register l u y) (cwS 2 hts g_effect_2 rfl rfl rfl (by decide +kernel) ⟨Nat.le_of_ble_eq_true rfl, Nat.le_of_ble_eq_true rfl⟩) ⟨fun a U g mk z => z, fun U hU hW => ⟨rfl, trivial⟩⟩ rfl rfl hl.1 rfl (lv_room (Nat.le_of_ble_eq_true rfl)) d_effect_2 ⟨(Nat.le_of_ble_eq_true rfl), (Nat.le_of_ble_eq_true rfl)⟩) (fun r1 hr1 => ?_)
  refine lv_istore (lv' := [(4, .int r1), (0, .int x), (1, .int y), (2, .int z), (3, .int u)]) hx hb d_effect_5 hl (by decide) rfl (fun ls hl => ?_)
  refine lv_iload_n hx hb d_effect_7 rfl (lv_at hl 4 rfl) ?_
  refine lv_iload_n hx hb d_effect_8 rfl (lv_at hl 3 rfl) ?_
  refine vp_callSi (W.runS (As := [.int u, .int z]) (rest := []) ⟨hx, hb, hml, hown, hts⟩ (c_register l u z) (cwS 2 hts g_effect_9 rfl rfl rfl (by decide +kernel) ⟨Nat.le_of_ble_eq_true rfl, Nat.le_of_ble_eq_true rfl⟩) ⟨fun a U g mk z => z, fun U hU hW => ⟨rfl, trivial⟩⟩ rfl rfl hl.1 rfl (lv_room (Nat.le_of_ble_eq_true rfl)) d_effect_9 ⟨(Nat.le_of_ble_eq_true rfl), (Nat.le_of_ble_eq_true rfl)⟩) (fun r2 hr2 => ?_)
  refine lv_istore (lv' := [(5, .int r2), (4, .int r1), (0, .int x), (1, .int y), (2, .int z), (3, .int u)]) hx hb d_effect_12 hl (by decide) rfl (fun ls hl => ?_)
  refine lv_iload_n hx hb d_effect_14 rfl (lv_at hl 5 rfl) ?_
  refine lv_iconst (v := 1) hx hb d_effect_15 (by decide) ?_
  refine lv_iand hx hb d_effect_16 ?_
  refine lv_topi (fun x3 ex3 => ?_)
  refine lv_istore (lv' := [(6, .int x3), (5, .int r2), (4, .int r1), (0, .int x), (1, .int y), (2, .int z), (3, .int u)]) hx hb d_effect_17 hl (by decide) rfl (fun ls hl => ?_)
  refine lv_iload_n hx hb d_effect_19 rfl (lv_at hl 3 rfl) ?_
  refine ry_table hx hb d_effect_20 [140, 148, 177, 203, 214, 225, 236, 253, 271, 281, 291, 318, 344, 355, 362, 373] (by decide) (by decide +kernel) (by decide) (List.forall_mem_cons.mpr ⟨?_, (List.forall_mem_cons.mpr ⟨?_, (List.forall_mem_cons.mpr ⟨?_, (List.forall_mem_cons.mpr ⟨?_, (List.forall_mem_cons.mpr ⟨?_, (List.forall_mem_cons.mpr ⟨?_, (List.forall_mem_cons.mpr ⟨?_, (List.forall_mem_cons.mpr ⟨?_, (List.forall_mem_cons.mpr ⟨?_, (List.forall_mem_cons.mpr ⟨?_, (List.forall_mem_cons.mpr ⟨?_, (List.forall_mem_cons.mpr ⟨?_, (List.forall_mem_cons.mpr ⟨?_, (List.forall_mem_cons.mpr ⟨?_, (List.forall_mem_cons.mpr ⟨?_, (List.forall_mem_cons.mpr ⟨?_, fun _ h9 => absurd h9 List.not_mem_nil⟩)⟩)⟩)⟩)⟩)⟩)⟩)⟩)⟩)⟩)⟩)⟩)⟩)⟩)⟩)⟩)
  · skip
    refine lv_iload_n hx hb d_effect_140 rfl (lv_at hl 6 rfl) ?_
    refine lv_iload_n hx hb d_effect_141 rfl (lv_at hl 4 rfl) ?_
    refine lv_iload hx hb d_effect_142 (lv_at hl 1 rfl) ?_
    refine vp_callSi (W.runS (As := [.int u, .int y, .int r2]) (rest := []) ⟨hx, hb, hml, hown, hts⟩ (c_withRegister l u y r2) (cwS 3 hts g_effect_144 rfl rfl rfl (by decide +kernel) ⟨Nat.le_of_ble_eq_true rfl, Nat.le_of_ble_eq_true rfl⟩) ⟨fun a U g mk z => z, fun U hU hW => ⟨rfl, trivial⟩⟩ rfl rfl hl.1 rfl (lv_room (Nat.le_of_ble_eq_true rfl)) d_effect_144 ⟨(Nat.le_of_ble_eq_true rfl), (Nat.le_of_ble_eq_true rfl)⟩) (fun r4 hr4 => ?_)
    exact W.iret hx hb hr (fun t ht hW => ⟨_, rfl, trivial, ht⟩) (fun _ h => by cases h) d_effect_147
  · skip
    refine lv_iload_n hx hb d_effect_148 rfl (lv_at hl 6 rfl) ?_
    refine lv_iload_n hx hb d_effect_149 rfl (lv_at hl 4 rfl) ?_
    refine lv_iload hx hb d_effect_150 (lv_at hl 2 rfl) ?_
    refine lv_iload hx hb d_effect_152 (lv_at hl 1 rfl) ?_
    refine lv_iadd hx hb d_effect_154 ?_
    refine lv_topi (fun x5 ex5 => ?_)
    refine vp_callSi (W.runS (As := [.int u, .int y, .int x5]) (rest := []) ⟨hx, hb, hml, hown, hts⟩ (c_withRegister l u y x5) (cwS 3 hts g_effect_155 rfl rfl rfl (by decide +kernel) ⟨Nat.le_of_ble_eq_true rfl, Nat.le_of_ble_eq_true rfl⟩) ⟨fun a U g mk z => z, fun U hU hW => ⟨rfl, trivial⟩⟩ rfl rfl hl.1 rfl (lv_room (Nat.le_of_ble_eq_true rfl)) d_effect_155 ⟨(Nat.le_of_ble_eq_true rfl), (Nat.le_of_ble_eq_true rfl)⟩) (fun r6 hr6 => ?_)
    refine lv_iload hx hb d_effect_158 (lv_at hl 2 rfl) ?_
    refine lv_iload hx hb d_effect_160 (lv_at hl 1 rfl) ?_
    refine lv_iadd hx hb d_effect_162 ?_
    refine lv_topi (fun x7 ex7 => ?_)
    refine lv_bipush (v := 7) hx hb d_effect_163 (by decide) ?_
    refine lv_icmp_le (tgt := 172) hx hb d_effect_165 (by decide) (fun c_165 => ?_) (fun c_165 => ?_)
    · skip
      refine lv_iconst (v := 0) hx hb d_effect_172 (by decide) ?_
      refine vp_callSi (W.runS (As := [.int r6, .int 0]) (rest := []) ⟨hx, hb, hml, hown, hts⟩ (c_withFlag l r6 0) (cwS 2 hts g_effect_173 rfl rfl rfl (by decide +kernel) ⟨Nat.le_of_ble_eq_true rfl, Nat.le_of_ble_eq_true rfl⟩) ⟨fun a U g mk z => z, fun U hU hW => ⟨rfl, trivial⟩⟩ rfl rfl hl.1 rfl (lv_room (Nat.le_of_ble_eq_true rfl)) d_effect_173 ⟨(Nat.le_of_ble_eq_true rfl), (Nat.le_of_ble_eq_true rfl)⟩) (fun r8 hr8 => ?_)
      exact W.iret hx hb hr (fun t ht hW => ⟨_, rfl, trivial, ht⟩) (fun _ h => by cases h) d_effect_176
    · skip
      refine lv_iconst (v := 1) hx hb d_effect_168 (by decide) ?_
      refine lv_goto (tgt := 173) hx hb d_effect_169 (by decide) ?_
      refine vp_callSi (W.runS (As := [.int r6, .int 1]) (rest := []) ⟨hx, hb, hml, hown, hts⟩ (c_withFlag l r6 1) (cwS 2 hts g_effect_173 rfl rfl rfl (by decide +kernel) ⟨Nat.le_of_ble_eq_true rfl, Nat.le_of_ble_eq_true rfl⟩) ⟨fun a U g mk z => z, fun U hU hW => ⟨rfl, trivial⟩⟩ rfl rfl hl.1 rfl (lv_room (Nat.le_of_ble_eq_true rfl)) d_effect_173 ⟨(Nat.le_of_ble_eq_true rfl), (Nat.le_of_ble_eq_true rfl)⟩) (fun r9 hr9 => ?_)
      exact W.iret hx hb hr (fun t ht hW => ⟨_, rfl, trivial, ht⟩) (fun _ h => by cases h) d_effect_176
  · skip
    refine lv_iload_n hx hb d_effect_177 rfl (lv_at hl 6 rfl) ?_
    refine lv_iload_n hx hb d_effect_178 rfl (lv_at hl 4 rfl) ?_
    refine lv_iload hx hb d_effect_179 (lv_at hl 2 rfl) ?_
    refine lv_iload hx hb d_effect_181 (lv_at hl 1 rfl) ?_
    refine lv_isub hx hb d_effect_183 ?_
    refine lv_topi (fun x10 ex10 => ?_)
    refine vp_callSi (W.runS (As := [.int u, .int y, .int x10]) (rest := []) ⟨hx, hb, hml, hown, hts⟩ (c_withRegister l u y x10) (cwS 3 hts g_effect_184 rfl rfl rfl (by decide +kernel) ⟨Nat.le_of_ble_eq_true rfl, Nat.le_of_ble_eq_true rfl⟩) ⟨fun a U g mk z => z, fun U hU hW => ⟨rfl, trivial⟩⟩ rfl rfl hl.1 rfl (lv_room (Nat.le_of_ble_eq_true rfl)) d_effect_184 ⟨(Nat.le_of_ble_eq_true rfl), (Nat.le_of_ble_eq_true rfl)⟩) (fun r11 hr11 => ?_)
    refine lv_iload hx hb d_effect_187 (lv_at hl 2 rfl) ?_
    refine lv_iload hx hb d_effect_189 (lv_at hl 1 rfl) ?_
    refine lv_icmp_ge (tgt := 198) hx hb d_effect_191 (by decide) (fun c_191 => ?_) (fun c_191 => ?_)
    · skip
      refine lv_iconst (v := 0) hx hb d_effect_198 (by decide) ?_
      refine vp_callSi (W.runS (As := [.int r11, .int 0]) (rest := []) ⟨hx, hb, hml, hown, hts⟩ (c_withFlag l r11 0) (cwS 2 hts g_effect_199 rfl rfl rfl (by decide +kernel) ⟨Nat.le_of_ble_eq_true rfl, Nat.le_of_ble_eq_true rfl⟩) ⟨fun a U g mk z => z, fun U hU hW => ⟨rfl, trivial⟩⟩ rfl rfl hl.1 rfl (lv_room (Nat.le_of_ble_eq_true rfl)) d_effect_199 ⟨(Nat.le_of_ble_eq_true rfl), (Nat.le_of_ble_eq_true rfl)⟩) (fun r12 hr12 => ?_)
      exact W.iret hx hb hr (fun t ht hW => ⟨_, rfl, trivial, ht⟩) (fun _ h => by cases h) d_effect_202
    · skip
      refine lv_iconst (v := 1) hx hb d_effect_194 (by decide) ?_
      refine lv_goto (tgt := 199) hx hb d_effect_195 (by decide) ?_
      refine vp_callSi (W.runS (As := [.int r11, .int 1]) (rest := []) ⟨hx, hb, hml, hown, hts⟩ (c_withFlag l r11 1) (cwS 2 hts g_effect_199 rfl rfl rfl (by decide +kernel) ⟨Nat.le_of_ble_eq_true rfl, Nat.le_of_ble_eq_true rfl⟩) ⟨fun a U g mk z => z, fun U hU hW => ⟨rfl, trivial⟩⟩ rfl rfl hl.1 rfl (lv_room (Nat.le_of_ble_eq_true rfl)) d_effect_199 ⟨(Nat.le_of_ble_eq_true rfl), (Nat.le_of_ble_eq_true rfl)⟩) (fun r13 hr13 => ?_)
      exact W.iret hx hb hr (fun t ht hW => ⟨_, rfl, trivial, ht⟩) (fun _ h => by cases h) d_effect_202
  · skip
    refine lv_iload_n hx hb d_effect_203 rfl (lv_at hl 6 rfl) ?_
    refine lv_iload_n hx hb d_effect_204 rfl (lv_at hl 4 rfl) ?_
    refine lv_iload hx hb d_effect_205 (lv_at hl 2 rfl) ?_
    refine lv_iload hx hb d_effect_207 (lv_at hl 1 rfl) ?_
    refine lv_iand hx hb d_effect_209 ?_
    refine lv_topi (fun x14 ex14 => ?_)
    refine vp_callSi (W.runS (As := [.int u, .int y, .int x14]) (rest := []) ⟨hx, hb, hml, hown, hts⟩ (c_withRegister l u y x14) (cwS 3 hts g_effect_210 rfl rfl rfl (by decide +kernel) ⟨Nat.le_of_ble_eq_true rfl, Nat.le_of_ble_eq_true rfl⟩) ⟨fun a U g mk z => z, fun U hU hW => ⟨rfl, trivial⟩⟩ rfl rfl hl.1 rfl (lv_room (Nat.le_of_ble_eq_true rfl)) d_effect_210 ⟨(Nat.le_of_ble_eq_true rfl), (Nat.le_of_ble_eq_true rfl)⟩) (fun r15 hr15 => ?_)
    exact W.iret hx hb hr (fun t ht hW => ⟨_, rfl, trivial, ht⟩) (fun _ h => by cases h) d_effect_213
  · skip
    refine lv_iload_n hx hb d_effect_214 rfl (lv_at hl 6 rfl) ?_
    refine lv_iload_n hx hb d_effect_215 rfl (lv_at hl 4 rfl) ?_
    refine lv_iload hx hb d_effect_216 (lv_at hl 2 rfl) ?_
    refine lv_iload hx hb d_effect_218 (lv_at hl 1 rfl) ?_
    refine lv_ior hx hb d_effect_220 ?_
    refine lv_topi (fun x16 ex16 => ?_)
    refine vp_callSi (W.runS (As := [.int u, .int y, .int x16]) (rest := []) ⟨hx, hb, hml, hown, hts⟩ (c_withRegister l u y x16) (cwS 3 hts g_effect_221 rfl rfl rfl (by decide +kernel) ⟨Nat.le_of_ble_eq_true rfl, Nat.le_of_ble_eq_true rfl⟩) ⟨fun a U g mk z => z, fun U hU hW => ⟨rfl, trivial⟩⟩ rfl rfl hl.1 rfl (lv_room (Nat.le_of_ble_eq_true rfl)) d_effect_221 ⟨(Nat.le_of_ble_eq_true rfl), (Nat.le_of_ble_eq_true rfl)⟩) (fun r17 hr17 => ?_)
    exact W.iret hx hb hr (fun t ht hW => ⟨_, rfl, trivial, ht⟩) (fun _ h => by cases h) d_effect_224
  · skip
    refine lv_iload_n hx hb d_effect_225 rfl (lv_at hl 6 rfl) ?_
    refine lv_iload_n hx hb d_effect_226 rfl (lv_at hl 4 rfl) ?_
    refine lv_iload hx hb d_effect_227 (lv_at hl 2 rfl) ?_
    refine lv_iload hx hb d_effect_229 (lv_at hl 1 rfl) ?_
    refine lv_ixor hx hb d_effect_231 ?_
    refine lv_topi (fun x18 ex18 => ?_)
    refine vp_callSi (W.runS (As := [.int u, .int y, .int x18]) (rest := []) ⟨hx, hb, hml, hown, hts⟩ (c_withRegister l u y x18) (cwS 3 hts g_effect_232 rfl rfl rfl (by decide +kernel) ⟨Nat.le_of_ble_eq_true rfl, Nat.le_of_ble_eq_true rfl⟩) ⟨fun a U g mk z => z, fun U hU hW => ⟨rfl, trivial⟩⟩ rfl rfl hl.1 rfl (lv_room (Nat.le_of_ble_eq_true rfl)) d_effect_232 ⟨(Nat.le_of_ble_eq_true rfl), (Nat.le_of_ble_eq_true rfl)⟩) (fun r19 hr19 => ?_)
    exact W.iret hx hb hr (fun t ht hW => ⟨_, rfl, trivial, ht⟩) (fun _ h => by cases h) d_effect_235
  · skip
    refine lv_iload_n hx hb d_effect_236 rfl (lv_at hl 6 rfl) ?_
    refine lv_iload hx hb d_effect_237 (lv_at hl 2 rfl) ?_
    refine lv_iload hx hb d_effect_239 (lv_at hl 1 rfl) ?_
    refine lv_icmp_ge (tgt := 248) hx hb d_effect_241 (by decide) (fun c_241 => ?_) (fun c_241 => ?_)
    · skip
      refine lv_iconst (v := 0) hx hb d_effect_248 (by decide) ?_
      refine vp_callSi (W.runS (As := [.int u, .int 0]) (rest := []) ⟨hx, hb, hml, hown, hts⟩ (c_withFlag l u 0) (cwS 2 hts g_effect_249 rfl rfl rfl (by decide +kernel) ⟨Nat.le_of_ble_eq_true rfl, Nat.le_of_ble_eq_true rfl⟩) ⟨fun a U g mk z => z, fun U hU hW => ⟨rfl, trivial⟩⟩ rfl rfl hl.1 rfl (lv_room (Nat.le_of_ble_eq_true rfl)) d_effect_249 ⟨(Nat.le_of_ble_eq_true rfl), (Nat.le_of_ble_eq_true rfl)⟩) (fun r20 hr20 => ?_)
      exact W.iret hx hb hr (fun t ht hW => ⟨_, rfl, trivial, ht⟩) (fun _ h => by cases h) d_effect_252
    · skip
      refine lv_iconst (v := 1) hx hb d_effect_244 (by decide) ?_
      refine lv_goto (tgt := 249) hx hb d_effect_245 (by decide) ?_
      refine vp_callSi (W.runS (As := [.int u, .int 1]) (rest := []) ⟨hx, hb, hml, hown, hts⟩ (c_withFlag l u 1) (cwS 2 hts g_effect_249 rfl rfl rfl (by decide +kernel) ⟨Nat.le_of_ble_eq_true rfl, Nat.le_of_ble_eq_true rfl⟩) ⟨fun a U g mk z => z, fun U hU hW => ⟨rfl, trivial⟩⟩ rfl rfl hl.1 rfl (lv_room (Nat.le_of_ble_eq_true rfl)) d_effect_249 ⟨(Nat.le_of_ble_eq_true rfl), (Nat.le_of_ble_eq_true rfl)⟩) (fun r21 hr21 => ?_)
      exact W.iret hx hb hr (fun t ht hW => ⟨_, rfl, trivial, ht⟩) (fun _ h => by cases h) d_effect_252
  · skip
    refine lv_iload hx hb d_effect_253 (lv_at hl 0 rfl) ?_
    refine lv_iconst (v := 1) hx hb d_effect_255 (by decide) ?_
    refine lv_icmp_ne (tgt := 269) hx hb d_effect_256 (by decide) (fun c_256 => ?_) (fun c_256 => ?_)
    · skip
      refine lv_iload_n hx hb d_effect_269 rfl (lv_at hl 6 rfl) ?_
      exact W.iret hx hb hr (fun t ht hW => ⟨_, rfl, trivial, ht⟩) (fun _ h => by cases h) d_effect_270
    · skip
      refine lv_iload_n hx hb d_effect_259 rfl (lv_at hl 6 rfl) ?_
      refine lv_iload_n hx hb d_effect_260 rfl (lv_at hl 4 rfl) ?_
      refine lv_iload hx hb d_effect_261 (lv_at hl 1 rfl) ?_
      refine vp_callSi (W.runS (As := [.int u, .int y, .int r2]) (rest := []) ⟨hx, hb, hml, hown, hts⟩ (c_withRegister l u y r2) (cwS 3 hts g_effect_263 rfl rfl rfl (by decide +kernel) ⟨Nat.le_of_ble_eq_true rfl, Nat.le_of_ble_eq_true rfl⟩) ⟨fun a U g mk z => z, fun U hU hW => ⟨rfl, trivial⟩⟩ rfl rfl hl.1 rfl (lv_room (Nat.le_of_ble_eq_true rfl)) d_effect_263 ⟨(Nat.le_of_ble_eq_true rfl), (Nat.le_of_ble_eq_true rfl)⟩) (fun r22 hr22 => ?_)
      refine lv_goto (tgt := 270) hx hb d_effect_266 (by decide) ?_
      exact W.iret hx hb hr (fun t ht hW => ⟨_, rfl, trivial, ht⟩) (fun _ h => by cases h) d_effect_270
  · skip
    refine lv_iload_n hx hb d_effect_271 rfl (lv_at hl 6 rfl) ?_
    refine lv_iload_n hx hb d_effect_272 rfl (lv_at hl 4 rfl) ?_
    refine lv_iload hx hb d_effect_273 (lv_at hl 2 rfl) ?_
    refine lv_iconst (v := 1) hx hb d_effect_275 (by decide) ?_
    refine lv_iadd hx hb d_effect_276 ?_
    refine lv_topi (fun x23 ex23 => ?_)
    refine vp_callSi (W.runS (As := [.int u, .int y, .int x23]) (rest := []) ⟨hx, hb, hml, hown, hts⟩ (c_withRegister l u y x23) (cwS 3 hts g_effect_277 rfl rfl rfl (by decide +kernel) ⟨Nat.le_of_ble_eq_true rfl, Nat.le_of_ble_eq_true rfl⟩) ⟨fun a U g mk z => z, fun U hU hW => ⟨rfl, trivial⟩⟩ rfl rfl hl.1 rfl (lv_room (Nat.le_of_ble_eq_true rfl)) d_effect_277 ⟨(Nat.le_of_ble_eq_true rfl), (Nat.le_of_ble_eq_true rfl)⟩) (fun r24 hr24 => ?_)
    exact W.iret hx hb hr (fun t ht hW => ⟨_, rfl, trivial, ht⟩) (fun _ h => by cases h) d_effect_280
  · skip
    refine lv_iload_n hx hb d_effect_281 rfl (lv_at hl 6 rfl) ?_
    refine lv_iload_n hx hb d_effect_282 rfl (lv_at hl 4 rfl) ?_
    refine lv_iload hx hb d_effect_283 (lv_at hl 2 rfl) ?_
    refine lv_iconst (v := 1) hx hb d_effect_285 (by decide) ?_
    refine lv_isub hx hb d_effect_286 ?_
    refine lv_topi (fun x25 ex25 => ?_)
    refine vp_callSi (W.runS (As := [.int u, .int y, .int x25]) (rest := []) ⟨hx, hb, hml, hown, hts⟩ (c_withRegister l u y x25) (cwS 3 hts g_effect_287 rfl rfl rfl (by decide +kernel) ⟨Nat.le_of_ble_eq_true rfl, Nat.le_of_ble_eq_true rfl⟩) ⟨fun a U g mk z => z, fun U hU hW => ⟨rfl, trivial⟩⟩ rfl rfl hl.1 rfl (lv_room (Nat.le_of_ble_eq_true rfl)) d_effect_287 ⟨(Nat.le_of_ble_eq_true rfl), (Nat.le_of_ble_eq_true rfl)⟩) (fun r26 hr26 => ?_)
    exact W.iret hx hb hr (fun t ht hW => ⟨_, rfl, trivial, ht⟩) (fun _ h => by cases h) d_effect_290
  · skip
    refine lv_iload_n hx hb d_effect_291 rfl (lv_at hl 6 rfl) ?_
    refine lv_iload_n hx hb d_effect_292 rfl (lv_at hl 4 rfl) ?_
    refine lv_iconst (v := 2) hx hb d_effect_293 (by decide) ?_
    refine lv_iload hx hb d_effect_294 (lv_at hl 2 rfl) ?_
    refine lv_imul hx hb d_effect_296 ?_
    refine lv_topi (fun x27 ex27 => ?_)
    refine vp_callSi (W.runS (As := [.int u, .int y, .int x27]) (rest := []) ⟨hx, hb, hml, hown, hts⟩ (c_withRegister l u y x27) (cwS 3 hts g_effect_297 rfl rfl rfl (by decide +kernel) ⟨Nat.le_of_ble_eq_true rfl, Nat.le_of_ble_eq_true rfl⟩) ⟨fun a U g mk z => z, fun U hU hW => ⟨rfl, trivial⟩⟩ rfl rfl hl.1 rfl (lv_room (Nat.le_of_ble_eq_true rfl)) d_effect_297 ⟨(Nat.le_of_ble_eq_true rfl), (Nat.le_of_ble_eq_true rfl)⟩) (fun r28 hr28 => ?_)
    refine lv_iconst (v := 2) hx hb d_effect_300 (by decide) ?_
    refine lv_iload hx hb d_effect_301 (lv_at hl 2 rfl) ?_
    refine lv_imul hx hb d_effect_303 ?_
    refine lv_topi (fun x29 ex29 => ?_)
    refine lv_bipush (v := 7) hx hb d_effect_304 (by decide) ?_
    refine lv_icmp_le (tgt := 313) hx hb d_effect_306 (by decide) (fun c_306 => ?_) (fun c_306 => ?_)
    · skip
      refine lv_iconst (v := 0) hx hb d_effect_313 (by decide) ?_
      refine vp_callSi (W.runS (As := [.int r28, .int 0]) (rest := []) ⟨hx, hb, hml, hown, hts⟩ (c_withFlag l r28 0) (cwS 2 hts g_effect_314 rfl rfl rfl (by decide +kernel) ⟨Nat.le_of_ble_eq_true rfl, Nat.le_of_ble_eq_true rfl⟩) ⟨fun a U g mk z => z, fun U hU hW => ⟨rfl, trivial⟩⟩ rfl rfl hl.1 rfl (lv_room (Nat.le_of_ble_eq_true rfl)) d_effect_314 ⟨(Nat.le_of_ble_eq_true rfl), (Nat.le_of_ble_eq_true rfl)⟩) (fun r30 hr30 => ?_)
      exact W.iret hx hb hr (fun t ht hW => ⟨_, rfl, trivial, ht⟩) (fun _ h => by cases h) d_effect_317
    · skip
      refine lv_iconst (v := 1) hx hb d_effect_309 (by decide) ?_
      refine lv_goto (tgt := 314) hx hb d_effect_310 (by decide) ?_
      refine vp_callSi (W.runS (As := [.int r28, .int 1]) (rest := []) ⟨hx, hb, hml, hown, hts⟩ (c_withFlag l r28 1) (cwS 2 hts g_effect_314 rfl rfl rfl (by decide +kernel) ⟨Nat.le_of_ble_eq_true rfl, Nat.le_of_ble_eq_true rfl⟩) ⟨fun a U g mk z => z, fun U hU hW => ⟨rfl, trivial⟩⟩ rfl rfl hl.1 rfl (lv_room (Nat.le_of_ble_eq_true rfl)) d_effect_314 ⟨(Nat.le_of_ble_eq_true rfl), (Nat.le_of_ble_eq_true rfl)⟩) (fun r31 hr31 => ?_)
      exact W.iret hx hb hr (fun t ht hW => ⟨_, rfl, trivial, ht⟩) (fun _ h => by cases h) d_effect_317
  · skip
    refine lv_iload_n hx hb d_effect_318 rfl (lv_at hl 6 rfl) ?_
    refine lv_iload_n hx hb d_effect_319 rfl (lv_at hl 4 rfl) ?_
    refine lv_iload hx hb d_effect_320 (lv_at hl 2 rfl) ?_
    refine lv_iconst (v := 1) hx hb d_effect_322 (by decide) ?_
    refine lv_ishr hx hb d_effect_323 ?_
    refine lv_topi (fun x32 ex32 => ?_)
    refine vp_callSi (W.runS (As := [.int u, .int y, .int x32]) (rest := []) ⟨hx, hb, hml, hown, hts⟩ (c_withRegister l u y x32) (cwS 3 hts g_effect_324 rfl rfl rfl (by decide +kernel) ⟨Nat.le_of_ble_eq_true rfl, Nat.le_of_ble_eq_true rfl⟩) ⟨fun a U g mk z => z, fun U hU hW => ⟨rfl, trivial⟩⟩ rfl rfl hl.1 rfl (lv_room (Nat.le_of_ble_eq_true rfl)) d_effect_324 ⟨(Nat.le_of_ble_eq_true rfl), (Nat.le_of_ble_eq_true rfl)⟩) (fun r33 hr33 => ?_)
    refine lv_iload hx hb d_effect_327 (lv_at hl 2 rfl) ?_
    refine lv_iconst (v := 1) hx hb d_effect_329 (by decide) ?_
    refine lv_iand hx hb d_effect_330 ?_
    refine lv_topi (fun x34 ex34 => ?_)
    refine lv_iconst (v := 1) hx hb d_effect_331 (by decide) ?_
    refine lv_icmp_ne (tgt := 339) hx hb d_effect_332 (by decide) (fun c_332 => ?_) (fun c_332 => ?_)
    · skip
      refine lv_iconst (v := 0) hx hb d_effect_339 (by decide) ?_
      refine vp_callSi (W.runS (As := [.int r33, .int 0]) (rest := []) ⟨hx, hb, hml, hown, hts⟩ (c_withFlag l r33 0) (cwS 2 hts g_effect_340 rfl rfl rfl (by decide +kernel) ⟨Nat.le_of_ble_eq_true rfl, Nat.le_of_ble_eq_true rfl⟩) ⟨fun a U g mk z => z, fun U hU hW => ⟨rfl, trivial⟩⟩ rfl rfl hl.1 rfl (lv_room (Nat.le_of_ble_eq_true rfl)) d_effect_340 ⟨(Nat.le_of_ble_eq_true rfl), (Nat.le_of_ble_eq_true rfl)⟩) (fun r35 hr35 => ?_)
      exact W.iret hx hb hr (fun t ht hW => ⟨_, rfl, trivial, ht⟩) (fun _ h => by cases h) d_effect_343
    · skip
      refine lv_iconst (v := 1) hx hb d_effect_335 (by decide) ?_
      refine lv_goto (tgt := 340) hx hb d_effect_336 (by decide) ?_
      refine vp_callSi (W.runS (As := [.int r33, .int 1]) (rest := []) ⟨hx, hb, hml, hown, hts⟩ (c_withFlag l r33 1) (cwS 2 hts g_effect_340 rfl rfl rfl (by decide +kernel) ⟨Nat.le_of_ble_eq_true rfl, Nat.le_of_ble_eq_true rfl⟩) ⟨fun a U g mk z => z, fun U hU hW => ⟨rfl, trivial⟩⟩ rfl rfl hl.1 rfl (lv_room (Nat.le_of_ble_eq_true rfl)) d_effect_340 ⟨(Nat.le_of_ble_eq_true rfl), (Nat.le_of_ble_eq_true rfl)⟩) (fun r36 hr36 => ?_)
      exact W.iret hx hb hr (fun t ht hW => ⟨_, rfl, trivial, ht⟩) (fun _ h => by cases h) d_effect_343
  · skip
    refine lv_iload_n hx hb d_effect_344 rfl (lv_at hl 6 rfl) ?_
    refine lv_iload_n hx hb d_effect_345 rfl (lv_at hl 4 rfl) ?_
    refine lv_bipush (v := 7) hx hb d_effect_346 (by decide) ?_
    refine lv_iload hx hb d_effect_348 (lv_at hl 2 rfl) ?_
    refine lv_isub hx hb d_effect_350 ?_
    refine lv_topi (fun x37 ex37 => ?_)
    refine vp_callSi (W.runS (As := [.int u, .int y, .int x37]) (rest := []) ⟨hx, hb, hml, hown, hts⟩ (c_withRegister l u y x37) (cwS 3 hts g_effect_351 rfl rfl rfl (by decide +kernel) ⟨Nat.le_of_ble_eq_true rfl, Nat.le_of_ble_eq_true rfl⟩) ⟨fun a U g mk z => z, fun U hU hW => ⟨rfl, trivial⟩⟩ rfl rfl hl.1 rfl (lv_room (Nat.le_of_ble_eq_true rfl)) d_effect_351 ⟨(Nat.le_of_ble_eq_true rfl), (Nat.le_of_ble_eq_true rfl)⟩) (fun r38 hr38 => ?_)
    exact W.iret hx hb hr (fun t ht hW => ⟨_, rfl, trivial, ht⟩) (fun _ h => by cases h) d_effect_354
  · skip
    refine lv_iload_n hx hb d_effect_355 rfl (lv_at hl 6 rfl) ?_
    refine lv_iload_n hx hb d_effect_356 rfl (lv_at hl 4 rfl) ?_
    refine lv_iconst (v := 0) hx hb d_effect_357 (by decide) ?_
    refine vp_callSi (W.runS (As := [.int u, .int y, .int 0]) (rest := []) ⟨hx, hb, hml, hown, hts⟩ (c_withRegister l u y 0) (cwS 3 hts g_effect_358 rfl rfl rfl (by decide +kernel) ⟨Nat.le_of_ble_eq_true rfl, Nat.le_of_ble_eq_true rfl⟩) ⟨fun a U g mk z => z, fun U hU hW => ⟨rfl, trivial⟩⟩ rfl rfl hl.1 rfl (lv_room (Nat.le_of_ble_eq_true rfl)) d_effect_358 ⟨(Nat.le_of_ble_eq_true rfl), (Nat.le_of_ble_eq_true rfl)⟩) (fun r39 hr39 => ?_)
    exact W.iret hx hb hr (fun t ht hW => ⟨_, rfl, trivial, ht⟩) (fun _ h => by cases h) d_effect_361
  · skip
    refine lv_iload_n hx hb d_effect_362 rfl (lv_at hl 6 rfl) ?_
    refine lv_iload_n hx hb d_effect_363 rfl (lv_at hl 4 rfl) ?_
    refine lv_iload hx hb d_effect_364 (lv_at hl 2 rfl) ?_
    refine lv_iload hx hb d_effect_366 (lv_at hl 0 rfl) ?_
    refine lv_iadd hx hb d_effect_368 ?_
    refine lv_topi (fun x40 ex40 => ?_)
    refine vp_callSi (W.runS (As := [.int u, .int y, .int x40]) (rest := []) ⟨hx, hb, hml, hown, hts⟩ (c_withRegister l u y x40) (cwS 3 hts g_effect_369 rfl rfl rfl (by decide +kernel) ⟨Nat.le_of_ble_eq_true rfl, Nat.le_of_ble_eq_true rfl⟩) ⟨fun a U g mk z => z, fun U hU hW => ⟨rfl, trivial⟩⟩ rfl rfl hl.1 rfl (lv_room (Nat.le_of_ble_eq_true rfl)) d_effect_369 ⟨(Nat.le_of_ble_eq_true rfl), (Nat.le_of_ble_eq_true rfl)⟩) (fun r41 hr41 => ?_)
    exact W.iret hx hb hr (fun t ht hW => ⟨_, rfl, trivial, ht⟩) (fun _ h => by cases h) d_effect_372
  · skip
    refine lv_iload_n hx hb d_effect_373 rfl (lv_at hl 6 rfl) ?_
    refine lv_iload hx hb d_effect_374 (lv_at hl 0 rfl) ?_
    refine lv_if_ne (tgt := 383) hx hb d_effect_376 (by decide) (fun c_376 => ?_) (fun c_376 => ?_)
    · skip
      refine lv_iconst (v := 0) hx hb d_effect_383 (by decide) ?_
      refine vp_callSi (W.runS (As := [.int u, .int 0]) (rest := []) ⟨hx, hb, hml, hown, hts⟩ (c_withFlag l u 0) (cwS 2 hts g_effect_384 rfl rfl rfl (by decide +kernel) ⟨Nat.le_of_ble_eq_true rfl, Nat.le_of_ble_eq_true rfl⟩) ⟨fun a U g mk z => z, fun U hU hW => ⟨rfl, trivial⟩⟩ rfl rfl hl.1 rfl (lv_room (Nat.le_of_ble_eq_true rfl)) d_effect_384 ⟨(Nat.le_of_ble_eq_true rfl), (Nat.le_of_ble_eq_true rfl)⟩) (fun r42 hr42 => ?_)
      exact W.iret hx hb hr (fun t ht hW => ⟨_, rfl, trivial, ht⟩) (fun _ h => by cases h) d_effect_387
    · skip
      refine lv_iconst (v := 1) hx hb d_effect_379 (by decide) ?_
      refine lv_goto (tgt := 384) hx hb d_effect_380 (by decide) ?_
      refine vp_callSi (W.runS (As := [.int u, .int 1]) (rest := []) ⟨hx, hb, hml, hown, hts⟩ (c_withFlag l u 1) (cwS 2 hts g_effect_384 rfl rfl rfl (by decide +kernel) ⟨Nat.le_of_ble_eq_true rfl, Nat.le_of_ble_eq_true rfl⟩) ⟨fun a U g mk z => z, fun U hU hW => ⟨rfl, trivial⟩⟩ rfl rfl hl.1 rfl (lv_room (Nat.le_of_ble_eq_true rfl)) d_effect_384 ⟨(Nat.le_of_ble_eq_true rfl), (Nat.le_of_ble_eq_true rfl)⟩) (fun r43 hr43 => ?_)
      exact W.iret hx hb hr (fun t ht hW => ⟨_, rfl, trivial, ht⟩) (fun _ h => by cases h) d_effect_387

abbrev rm_partsRead : Room := { frames := 0, cells := 0, slots := 0, locals := 0 }
abbrev b_partsRead : ByteArray := prog_6_method_7_code
def y_partsRead : MethodName := ⟨"Leastcode$Machine", "partsRead", "(CIII)I"⟩
def w_partsRead : List Cond := [.code ⟨"Leastcode$Machine", "partsRead", "(CIII)I"⟩ prog_6_method_7_code 4 (some .int)]
theorem d_partsRead_0 : decode b_partsRead 0 = .ok (.iload_n 0, 1) := by decide +kernel
theorem d_partsRead_1 : decode b_partsRead 1 = .ok (.lookupswitch 75 #[(98, 59), (99, 65), (102, 57), (109, 51), (122, 55)], 51) := by decide +kernel
theorem d_partsRead_52 : decode b_partsRead 52 = .ok (.iconst 1, 1) := by decide +kernel
theorem d_partsRead_53 : decode b_partsRead 53 = .ok (.iload_n 3, 1) := by decide +kernel
theorem d_partsRead_54 : decode b_partsRead 54 = .ok (.ishl, 1) := by decide +kernel
theorem d_partsRead_55 : decode b_partsRead 55 = .ok (.ireturn, 1) := by decide +kernel
theorem d_partsRead_56 : decode b_partsRead 56 = .ok (.iconst 0, 1) := by decide +kernel
theorem d_partsRead_57 : decode b_partsRead 57 = .ok (.ireturn, 1) := by decide +kernel
theorem d_partsRead_58 : decode b_partsRead 58 = .ok (.iconst 4, 1) := by decide +kernel
theorem d_partsRead_59 : decode b_partsRead 59 = .ok (.ireturn, 1) := by decide +kernel
theorem d_partsRead_60 : decode b_partsRead 60 = .ok (.iconst 1, 1) := by decide +kernel
theorem d_partsRead_61 : decode b_partsRead 61 = .ok (.iload_n 2, 1) := by decide +kernel
theorem d_partsRead_62 : decode b_partsRead 62 = .ok (.ishl, 1) := by decide +kernel
theorem d_partsRead_63 : decode b_partsRead 63 = .ok (.iconst 4, 1) := by decide +kernel
theorem d_partsRead_64 : decode b_partsRead 64 = .ok (.ior, 1) := by decide +kernel
theorem d_partsRead_65 : decode b_partsRead 65 = .ok (.ireturn, 1) := by decide +kernel
theorem d_partsRead_66 : decode b_partsRead 66 = .ok (.iconst 1, 1) := by decide +kernel
theorem d_partsRead_67 : decode b_partsRead 67 = .ok (.iload_n 2, 1) := by decide +kernel
theorem d_partsRead_68 : decode b_partsRead 68 = .ok (.ishl, 1) := by decide +kernel
theorem d_partsRead_69 : decode b_partsRead 69 = .ok (.iconst 1, 1) := by decide +kernel
theorem d_partsRead_70 : decode b_partsRead 70 = .ok (.iload_n 3, 1) := by decide +kernel
theorem d_partsRead_71 : decode b_partsRead 71 = .ok (.ishl, 1) := by decide +kernel
theorem d_partsRead_72 : decode b_partsRead 72 = .ok (.ior, 1) := by decide +kernel
theorem d_partsRead_73 : decode b_partsRead 73 = .ok (.iconst 4, 1) := by decide +kernel
theorem d_partsRead_74 : decode b_partsRead 74 = .ok (.ior, 1) := by decide +kernel
theorem d_partsRead_75 : decode b_partsRead 75 = .ok (.ireturn, 1) := by decide +kernel
theorem d_partsRead_76 : decode b_partsRead 76 = .ok (.iload_n 1, 1) := by decide +kernel
theorem d_partsRead_77 : decode b_partsRead 77 = .ok (.bipush 8, 2) := by decide +kernel
theorem d_partsRead_79 : decode b_partsRead 79 = .ok (.if_icmp .ge 13, 3) := by decide +kernel
theorem d_partsRead_82 : decode b_partsRead 82 = .ok (.iconst 1, 1) := by decide +kernel
theorem d_partsRead_83 : decode b_partsRead 83 = .ok (.iload_n 2, 1) := by decide +kernel
theorem d_partsRead_84 : decode b_partsRead 84 = .ok (.ishl, 1) := by decide +kernel
theorem d_partsRead_85 : decode b_partsRead 85 = .ok (.iconst 1, 1) := by decide +kernel
theorem d_partsRead_86 : decode b_partsRead 86 = .ok (.iload_n 3, 1) := by decide +kernel
theorem d_partsRead_87 : decode b_partsRead 87 = .ok (.ishl, 1) := by decide +kernel
theorem d_partsRead_88 : decode b_partsRead 88 = .ok (.ior, 1) := by decide +kernel
theorem d_partsRead_89 : decode b_partsRead 89 = .ok (.goto 6, 3) := by decide +kernel
theorem d_partsRead_92 : decode b_partsRead 92 = .ok (.iconst 1, 1) := by decide +kernel
theorem d_partsRead_93 : decode b_partsRead 93 = .ok (.iload_n 2, 1) := by decide +kernel
theorem d_partsRead_94 : decode b_partsRead 94 = .ok (.ishl, 1) := by decide +kernel
theorem d_partsRead_95 : decode b_partsRead 95 = .ok (.ireturn, 1) := by decide +kernel
set_option maxHeartbeats 4000000 in
set_option maxRecDepth 100000 in
theorem c_partsRead (l : Launch) (x : Int32) (y : Int32) (z : Int32) (u : Int32) : Met l y_partsRead w_partsRead rm_partsRead (va_Pc [.int x, .int y, .int z, .int u] (fun U => True)) (vp_Si (fun r => True)) 0 0 (fun _ => False) := by
  refine Met.ofW (cc := b_partsRead) (maxL := 4) (ret := (some .int)) (by decide) rfl ?_
  intro p e s m args below meth c s₁ B hml hv
  obtain ⟨rfl, -⟩ := hv
  have hx := B.exec
  have hb := B.bytes
  have hr := B.returns
  have hts := atoms_spec (ws := w_partsRead) B.pre
  have hown : s.vm.findClass "Leastcode$Machine" = some m.cls := findClass_of_methodNamed B.named
  have hlocks := B.notSynchronized
  have hl := lv_entry ([.int x, .int y, .int z, .int u]) (n := 4) (Nat.le_of_ble_eq_true rfl)
  rw [lg_entry_eq]
  generalize (lg_sl ([.int x, .int y, .int z, .int u]) ++ List.replicate (4 - (lg_sl ([.int x, .int y, .int z, .int u])).length) Slot.unset).toArray = ls at hl ⊢
  have hl : lv_has ls 4 [(0, .int x), (1, .int y), (2, .int z), (3, .int u)] := hl
  refine lv_iload_n hx hb d_partsRead_0 rfl (lv_at hl 0 rfl) ?_
  refine ry_lookup hx hb d_partsRead_1 (by decide) [52, 56, 58, 60, 66, 76] (by decide) (by decide) (List.forall_mem_cons.mpr ⟨?_, (List.forall_mem_cons.mpr ⟨?_, (List.forall_mem_cons.mpr ⟨?_, (List.forall_mem_cons.mpr ⟨?_, (List.forall_mem_cons.mpr ⟨?_, (List.forall_mem_cons.mpr ⟨?_, fun _ h9 => absurd h9 List.not_mem_nil⟩)⟩)⟩)⟩)⟩)⟩)
  · skip
    refine lv_iconst (v := 1) hx hb d_partsRead_52 (by decide) ?_
    refine lv_iload_n hx hb d_partsRead_53 rfl (lv_at hl 3 rfl) ?_
    refine lv_ishl hx hb d_partsRead_54 ?_
    refine lv_topi (fun x1 ex1 => ?_)
    exact W.iret hx hb hr (fun t ht hW => ⟨_, rfl, trivial, ht⟩) (fun _ h => by cases h) d_partsRead_55
  · skip
    refine lv_iconst (v := 0) hx hb d_partsRead_56 (by decide) ?_
    exact W.iret hx hb hr (fun t ht hW => ⟨_, rfl, trivial, ht⟩) (fun _ h => by cases h) d_partsRead_57
  · skip
    refine lv_iconst (v := 4) hx hb d_partsRead_58 (by decide) ?_
    exact W.iret hx hb hr (fun t ht hW => ⟨_, rfl, trivial, ht⟩) (fun _ h => by cases h) d_partsRead_59
  · skip
    refine lv_iconst (v := 1) hx hb d_partsRead_60 (by decide) ?_
    refine lv_iload_n hx hb d_partsRead_61 rfl (lv_at hl 2 rfl) ?_
    refine lv_ishl hx hb d_partsRead_62 ?_
    refine lv_topi (fun x2 ex2 => ?_)
    refine lv_iconst (v := 4) hx hb d_partsRead_63 (by decide) ?_
    refine lv_ior hx hb d_partsRead_64 ?_
    refine lv_topi (fun x3 ex3 => ?_)
    exact W.iret hx hb hr (fun t ht hW => ⟨_, rfl, trivial, ht⟩) (fun _ h => by cases h) d_partsRead_65
  · skip
    refine lv_iconst (v := 1) hx hb d_partsRead_66 (by decide) ?_
    refine lv_iload_n hx hb d_partsRead_67 rfl (lv_at hl 2 rfl) ?_
    refine lv_ishl hx hb d_partsRead_68 ?_
    refine lv_topi (fun x4 ex4 => ?_)
    refine lv_iconst (v := 1) hx hb d_partsRead_69 (by decide) ?_
    refine lv_iload_n hx hb d_partsRead_70 rfl (lv_at hl 3 rfl) ?_
    refine lv_ishl hx hb d_partsRead_71 ?_
    refine lv_topi (fun x5 ex5 => ?_)
    refine lv_ior hx hb d_partsRead_72 ?_
    refine lv_topi (fun x6 ex6 => ?_)
    refine lv_iconst (v := 4) hx hb d_partsRead_73 (by decide) ?_
    refine lv_ior hx hb d_partsRead_74 ?_
    refine lv_topi (fun x7 ex7 => ?_)
    exact W.iret hx hb hr (fun t ht hW => ⟨_, rfl, trivial, ht⟩) (fun _ h => by cases h) d_partsRead_75
  · skip
    refine lv_iload_n hx hb d_partsRead_76 rfl (lv_at hl 1 rfl) ?_
    refine lv_bipush (v := 8) hx hb d_partsRead_77 (by decide) ?_
    refine lv_icmp_ge (tgt := 92) hx hb d_partsRead_79 (by decide) (fun c_79 => ?_) (fun c_79 => ?_)
    · skip
      refine lv_iconst (v := 1) hx hb d_partsRead_92 (by decide) ?_
      refine lv_iload_n hx hb d_partsRead_93 rfl (lv_at hl 2 rfl) ?_
      refine lv_ishl hx hb d_partsRead_94 ?_
      refine lv_topi (fun x8 ex8 => ?_)
      exact W.iret hx hb hr (fun t ht hW => ⟨_, rfl, trivial, ht⟩) (fun _ h => by cases h) d_partsRead_95
    · skip
      refine lv_iconst (v := 1) hx hb d_partsRead_82 (by decide) ?_
      refine lv_iload_n hx hb d_partsRead_83 rfl (lv_at hl 2 rfl) ?_
      refine lv_ishl hx hb d_partsRead_84 ?_
      refine lv_topi (fun x9 ex9 => ?_)
      refine lv_iconst (v := 1) hx hb d_partsRead_85 (by decide) ?_
      refine lv_iload_n hx hb d_partsRead_86 rfl (lv_at hl 3 rfl) ?_
      refine lv_ishl hx hb d_partsRead_87 ?_
      refine lv_topi (fun x10 ex10 => ?_)
      refine lv_ior hx hb d_partsRead_88 ?_
      refine lv_topi (fun x11 ex11 => ?_)
      refine lv_goto (tgt := 95) hx hb d_partsRead_89 (by decide) ?_
      exact W.iret hx hb hr (fun t ht hW => ⟨_, rfl, trivial, ht⟩) (fun _ h => by cases h) d_partsRead_95

abbrev rm_partsWritten : Room := { frames := 0, cells := 0, slots := 0, locals := 0 }
abbrev b_partsWritten : ByteArray := prog_6_method_8_code
def y_partsWritten : MethodName := ⟨"Leastcode$Machine", "partsWritten", "(CI)I"⟩
def w_partsWritten : List Cond := [.code ⟨"Leastcode$Machine", "partsWritten", "(CI)I"⟩ prog_6_method_8_code 2 (some .int)]
theorem d_partsWritten_0 : decode b_partsWritten 0 = .ok (.iload_n 0, 1) := by decide +kernel
theorem d_partsWritten_1 : decode b_partsWritten 1 = .ok (.tableswitch 99 97 115 #[93, 99, 99, 99, 99, 91, 99, 99, 99, 99, 91, 93, 99, 99, 99, 99, 99, 93, 93], 91) := by decide +kernel
theorem d_partsWritten_92 : decode b_partsWritten 92 = .ok (.iconst 4, 1) := by decide +kernel
theorem d_partsWritten_93 : decode b_partsWritten 93 = .ok (.ireturn, 1) := by decide +kernel
theorem d_partsWritten_94 : decode b_partsWritten 94 = .ok (.iconst 1, 1) := by decide +kernel
theorem d_partsWritten_95 : decode b_partsWritten 95 = .ok (.iload_n 1, 1) := by decide +kernel
theorem d_partsWritten_96 : decode b_partsWritten 96 = .ok (.ishl, 1) := by decide +kernel
theorem d_partsWritten_97 : decode b_partsWritten 97 = .ok (.iconst 4, 1) := by decide +kernel
theorem d_partsWritten_98 : decode b_partsWritten 98 = .ok (.ior, 1) := by decide +kernel
theorem d_partsWritten_99 : decode b_partsWritten 99 = .ok (.ireturn, 1) := by decide +kernel
theorem d_partsWritten_100 : decode b_partsWritten 100 = .ok (.iconst 1, 1) := by decide +kernel
theorem d_partsWritten_101 : decode b_partsWritten 101 = .ok (.iload_n 1, 1) := by decide +kernel
theorem d_partsWritten_102 : decode b_partsWritten 102 = .ok (.ishl, 1) := by decide +kernel
theorem d_partsWritten_103 : decode b_partsWritten 103 = .ok (.ireturn, 1) := by decide +kernel
set_option maxHeartbeats 4000000 in
set_option maxRecDepth 100000 in
theorem c_partsWritten (l : Launch) (x : Int32) (y : Int32) : Met l y_partsWritten w_partsWritten rm_partsWritten (va_Pc [.int x, .int y] (fun U => True)) (vp_Si (fun r => True)) 0 0 (fun _ => False) := by
  refine Met.ofW (cc := b_partsWritten) (maxL := 2) (ret := (some .int)) (by decide) rfl ?_
  intro p e s m args below meth c s₁ B hml hv
  obtain ⟨rfl, -⟩ := hv
  have hx := B.exec
  have hb := B.bytes
  have hr := B.returns
  have hts := atoms_spec (ws := w_partsWritten) B.pre
  have hown : s.vm.findClass "Leastcode$Machine" = some m.cls := findClass_of_methodNamed B.named
  have hlocks := B.notSynchronized
  have hl := lv_entry ([.int x, .int y]) (n := 2) (Nat.le_of_ble_eq_true rfl)
  rw [lg_entry_eq]
  generalize (lg_sl ([.int x, .int y]) ++ List.replicate (2 - (lg_sl ([.int x, .int y])).length) Slot.unset).toArray = ls at hl ⊢
  have hl : lv_has ls 2 [(0, .int x), (1, .int y)] := hl
  refine lv_iload_n hx hb d_partsWritten_0 rfl (lv_at hl 0 rfl) ?_
  refine ry_table hx hb d_partsWritten_1 [92, 94, 100] (by decide) (by decide +kernel) (by decide) (List.forall_mem_cons.mpr ⟨?_, (List.forall_mem_cons.mpr ⟨?_, (List.forall_mem_cons.mpr ⟨?_, fun _ h9 => absurd h9 List.not_mem_nil⟩)⟩)⟩)
  · skip
    refine lv_iconst (v := 4) hx hb d_partsWritten_92 (by decide) ?_
    exact W.iret hx hb hr (fun t ht hW => ⟨_, rfl, trivial, ht⟩) (fun _ h => by cases h) d_partsWritten_93
  · skip
    refine lv_iconst (v := 1) hx hb d_partsWritten_94 (by decide) ?_
    refine lv_iload_n hx hb d_partsWritten_95 rfl (lv_at hl 1 rfl) ?_
    refine lv_ishl hx hb d_partsWritten_96 ?_
    refine lv_topi (fun x1 ex1 => ?_)
    refine lv_iconst (v := 4) hx hb d_partsWritten_97 (by decide) ?_
    refine lv_ior hx hb d_partsWritten_98 ?_
    refine lv_topi (fun x2 ex2 => ?_)
    exact W.iret hx hb hr (fun t ht hW => ⟨_, rfl, trivial, ht⟩) (fun _ h => by cases h) d_partsWritten_99
  · skip
    refine lv_iconst (v := 1) hx hb d_partsWritten_100 (by decide) ?_
    refine lv_iload_n hx hb d_partsWritten_101 rfl (lv_at hl 1 rfl) ?_
    refine lv_ishl hx hb d_partsWritten_102 ?_
    refine lv_topi (fun x3 ex3 => ?_)
    exact W.iret hx hb hr (fun t ht hW => ⟨_, rfl, trivial, ht⟩) (fun _ h => by cases h) d_partsWritten_103

abbrev rm_numberOf : Room := { frames := 0, cells := 0, slots := 0, locals := 0 }
abbrev b_numberOf : ByteArray := prog_6_method_2_code
def y_numberOf : MethodName := ⟨"Leastcode$Machine", "numberOf", "(III)I"⟩
def w_numberOf : List Cond := [.code ⟨"Leastcode$Machine", "numberOf", "(III)I"⟩ prog_6_method_2_code 3 (some .int)]
theorem d_numberOf_0 : decode b_numberOf 0 = .ok (.iload_n 0, 1) := by decide +kernel
theorem d_numberOf_1 : decode b_numberOf 1 = .ok (.bipush 15, 2) := by decide +kernel
theorem d_numberOf_3 : decode b_numberOf 3 = .ok (.if_icmp .lt 6, 3) := by decide +kernel
theorem d_numberOf_6 : decode b_numberOf 6 = .ok (.bipush 46, 2) := by decide +kernel
theorem d_numberOf_8 : decode b_numberOf 8 = .ok (.ireturn, 1) := by decide +kernel
theorem d_numberOf_9 : decode b_numberOf 9 = .ok (.iload_n 1, 1) := by decide +kernel
theorem d_numberOf_10 : decode b_numberOf 10 = .ok (.ifCond .lt 8, 3) := by decide +kernel
theorem d_numberOf_13 : decode b_numberOf 13 = .ok (.iload_n 1, 1) := by decide +kernel
theorem d_numberOf_14 : decode b_numberOf 14 = .ok (.iconst 1, 1) := by decide +kernel
theorem d_numberOf_15 : decode b_numberOf 15 = .ok (.if_icmp .le 5, 3) := by decide +kernel
theorem d_numberOf_18 : decode b_numberOf 18 = .ok (.iconst (-1), 1) := by decide +kernel
theorem d_numberOf_19 : decode b_numberOf 19 = .ok (.ireturn, 1) := by decide +kernel
theorem d_numberOf_20 : decode b_numberOf 20 = .ok (.iload_n 0, 1) := by decide +kernel
theorem d_numberOf_21 : decode b_numberOf 21 = .ok (.bipush 8, 2) := by decide +kernel
theorem d_numberOf_23 : decode b_numberOf 23 = .ok (.if_icmp .lt 15, 3) := by decide +kernel
theorem d_numberOf_26 : decode b_numberOf 26 = .ok (.bipush 32, 2) := by decide +kernel
theorem d_numberOf_28 : decode b_numberOf 28 = .ok (.iconst 2, 1) := by decide +kernel
theorem d_numberOf_29 : decode b_numberOf 29 = .ok (.iload_n 0, 1) := by decide +kernel
theorem d_numberOf_30 : decode b_numberOf 30 = .ok (.bipush 8, 2) := by decide +kernel
theorem d_numberOf_32 : decode b_numberOf 32 = .ok (.isub, 1) := by decide +kernel
theorem d_numberOf_33 : decode b_numberOf 33 = .ok (.imul, 1) := by decide +kernel
theorem d_numberOf_34 : decode b_numberOf 34 = .ok (.iadd, 1) := by decide +kernel
theorem d_numberOf_35 : decode b_numberOf 35 = .ok (.iload_n 1, 1) := by decide +kernel
theorem d_numberOf_36 : decode b_numberOf 36 = .ok (.iadd, 1) := by decide +kernel
theorem d_numberOf_37 : decode b_numberOf 37 = .ok (.ireturn, 1) := by decide +kernel
theorem d_numberOf_38 : decode b_numberOf 38 = .ok (.iload_n 2, 1) := by decide +kernel
theorem d_numberOf_39 : decode b_numberOf 39 = .ok (.ifCond .lt 8, 3) := by decide +kernel
theorem d_numberOf_42 : decode b_numberOf 42 = .ok (.iload_n 2, 1) := by decide +kernel
theorem d_numberOf_43 : decode b_numberOf 43 = .ok (.iconst 1, 1) := by decide +kernel
theorem d_numberOf_44 : decode b_numberOf 44 = .ok (.if_icmp .le 5, 3) := by decide +kernel
theorem d_numberOf_47 : decode b_numberOf 47 = .ok (.iconst (-1), 1) := by decide +kernel
theorem d_numberOf_48 : decode b_numberOf 48 = .ok (.ireturn, 1) := by decide +kernel
theorem d_numberOf_49 : decode b_numberOf 49 = .ok (.iconst 4, 1) := by decide +kernel
theorem d_numberOf_50 : decode b_numberOf 50 = .ok (.iload_n 0, 1) := by decide +kernel
theorem d_numberOf_51 : decode b_numberOf 51 = .ok (.imul, 1) := by decide +kernel
theorem d_numberOf_52 : decode b_numberOf 52 = .ok (.iconst 2, 1) := by decide +kernel
theorem d_numberOf_53 : decode b_numberOf 53 = .ok (.iload_n 1, 1) := by decide +kernel
theorem d_numberOf_54 : decode b_numberOf 54 = .ok (.imul, 1) := by decide +kernel
theorem d_numberOf_55 : decode b_numberOf 55 = .ok (.iadd, 1) := by decide +kernel
theorem d_numberOf_56 : decode b_numberOf 56 = .ok (.iload_n 2, 1) := by decide +kernel
theorem d_numberOf_57 : decode b_numberOf 57 = .ok (.iadd, 1) := by decide +kernel
theorem d_numberOf_58 : decode b_numberOf 58 = .ok (.ireturn, 1) := by decide +kernel
set_option maxHeartbeats 4000000 in
set_option maxRecDepth 100000 in
theorem c_numberOf (l : Launch) (x : Int32) (y : Int32) (z : Int32) : Met l y_numberOf w_numberOf rm_numberOf (va_Pc [.int x, .int y, .int z] (fun U => True)) (vp_Si (fun r => True)) 0 0 (fun _ => False) := by
  refine Met.ofW (cc := b_numberOf) (maxL := 3) (ret := (some .int)) (by decide) rfl ?_
  intro p e s m args below meth c s₁ B hml hv
  obtain ⟨rfl, -⟩ := hv
  have hx := B.exec
  have hb := B.bytes
  have hr := B.returns
  have hts := atoms_spec (ws := w_numberOf) B.pre
  have hown : s.vm.findClass "Leastcode$Machine" = some m.cls := findClass_of_methodNamed B.named
  have hlocks := B.notSynchronized
  have hl := lv_entry ([.int x, .int y, .int z]) (n := 3) (Nat.le_of_ble_eq_true rfl)
  rw [lg_entry_eq]
  generalize (lg_sl ([.int x, .int y, .int z]) ++ List.replicate (3 - (lg_sl ([.int x, .int y, .int z])).length) Slot.unset).toArray = ls at hl ⊢
  have hl : lv_has ls 3 [(0, .int x), (1, .int y), (2, .int z)] := hl
  refine lv_iload_n hx hb d_numberOf_0 rfl (lv_at hl 0 rfl) ?_
  refine lv_bipush (v := 15) hx hb d_numberOf_1 (by decide) ?_
  refine lv_icmp_lt (tgt := 9) hx hb d_numberOf_3 (by decide) (fun c_3 => ?_) (fun c_3 => ?_)
  · skip
    refine lv_iload_n hx hb d_numberOf_9 rfl (lv_at hl 1 rfl) ?_
    refine lv_if_lt (tgt := 18) hx hb d_numberOf_10 (by decide) (fun c_10 => ?_) (fun c_10 => ?_)
    · skip
      refine lv_iconst (v := (-1)) hx hb d_numberOf_18 (by decide) ?_
      exact W.iret hx hb hr (fun t ht hW => ⟨_, rfl, trivial, ht⟩) (fun _ h => by cases h) d_numberOf_19
    · skip
      refine lv_iload_n hx hb d_numberOf_13 rfl (lv_at hl 1 rfl) ?_
      refine lv_iconst (v := 1) hx hb d_numberOf_14 (by decide) ?_
      refine lv_icmp_le (tgt := 20) hx hb d_numberOf_15 (by decide) (fun c_15 => ?_) (fun c_15 => ?_)
      · skip
        refine lv_iload_n hx hb d_numberOf_20 rfl (lv_at hl 0 rfl) ?_
        refine lv_bipush (v := 8) hx hb d_numberOf_21 (by decide) ?_
        refine lv_icmp_lt (tgt := 38) hx hb d_numberOf_23 (by decide) (fun c_23 => ?_) (fun c_23 => ?_)
        · skip
          refine lv_iload_n hx hb d_numberOf_38 rfl (lv_at hl 2 rfl) ?_
          refine lv_if_lt (tgt := 47) hx hb d_numberOf_39 (by decide) (fun c_39 => ?_) (fun c_39 => ?_)
          · skip
            refine lv_iconst (v := (-1)) hx hb d_numberOf_47 (by decide) ?_
            exact W.iret hx hb hr (fun t ht hW => ⟨_, rfl, trivial, ht⟩) (fun _ h => by cases h) d_numberOf_48
          · skip
            refine lv_iload_n hx hb d_numberOf_42 rfl (lv_at hl 2 rfl) ?_
            refine lv_iconst (v := 1) hx hb d_numberOf_43 (by decide) ?_
            refine lv_icmp_le (tgt := 49) hx hb d_numberOf_44 (by decide) (fun c_44 => ?_) (fun c_44 => ?_)
            · skip
              refine lv_iconst (v := 4) hx hb d_numberOf_49 (by decide) ?_
              refine lv_iload_n hx hb d_numberOf_50 rfl (lv_at hl 0 rfl) ?_
              refine lv_imul hx hb d_numberOf_51 ?_
              refine lv_topi (fun x1 ex1 => ?_)
              refine lv_iconst (v := 2) hx hb d_numberOf_52 (by decide) ?_
              refine lv_iload_n hx hb d_numberOf_53 rfl (lv_at hl 1 rfl) ?_
              refine lv_imul hx hb d_numberOf_54 ?_
              refine lv_topi (fun x2 ex2 => ?_)
              refine lv_iadd hx hb d_numberOf_55 ?_
              refine lv_topi (fun x3 ex3 => ?_)
              refine lv_iload_n hx hb d_numberOf_56 rfl (lv_at hl 2 rfl) ?_
              refine lv_iadd hx hb d_numberOf_57 ?_
              refine lv_topi (fun x4 ex4 => ?_)
              exact W.iret hx hb hr (fun t ht hW => ⟨_, rfl, trivial, ht⟩) (fun _ h => by cases h) d_numberOf_58
            · skip
              refine lv_iconst (v := (-1)) hx hb d_numberOf_47 (by decide) ?_
              exact W.iret hx hb hr (fun t ht hW => ⟨_, rfl, trivial, ht⟩) (fun _ h => by cases h) d_numberOf_48
        · skip
          refine lv_bipush (v := 32) hx hb d_numberOf_26 (by decide) ?_
          refine lv_iconst (v := 2) hx hb d_numberOf_28 (by decide) ?_
          refine lv_iload_n hx hb d_numberOf_29 rfl (lv_at hl 0 rfl) ?_
          refine lv_bipush (v := 8) hx hb d_numberOf_30 (by decide) ?_
          refine lv_isub hx hb d_numberOf_32 ?_
          refine lv_topi (fun x5 ex5 => ?_)
          refine lv_imul hx hb d_numberOf_33 ?_
          refine lv_topi (fun x6 ex6 => ?_)
          refine lv_iadd hx hb d_numberOf_34 ?_
          refine lv_topi (fun x7 ex7 => ?_)
          refine lv_iload_n hx hb d_numberOf_35 rfl (lv_at hl 1 rfl) ?_
          refine lv_iadd hx hb d_numberOf_36 ?_
          refine lv_topi (fun x8 ex8 => ?_)
          exact W.iret hx hb hr (fun t ht hW => ⟨_, rfl, trivial, ht⟩) (fun _ h => by cases h) d_numberOf_37
      · skip
        refine lv_iconst (v := (-1)) hx hb d_numberOf_18 (by decide) ?_
        exact W.iret hx hb hr (fun t ht hW => ⟨_, rfl, trivial, ht⟩) (fun _ h => by cases h) d_numberOf_19
  · skip
    refine lv_bipush (v := 46) hx hb d_numberOf_6 (by decide) ?_
    exact W.iret hx hb hr (fun t ht hW => ⟨_, rfl, trivial, ht⟩) (fun _ h => by cases h) d_numberOf_8
