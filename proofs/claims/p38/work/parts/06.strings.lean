/-! Strings: the bytes of "masnoxkcidlrtzbf"; a String constant by ldc_w. -/
def kbs : List Nat := [109, 97, 115, 110, 111, 120, 107, 99, 105, 100, 108, 114, 116, 122, 98, 102]
def kbv (j : Nat) : Int32 := nI (kbs.getD j 0)
def kb (j : Nat) : Value := .int (kbv j)
theorem kb_fix : ∀ k, k < 16 → ((kbv k &&& 255).toUInt32 % 65536).toInt32 = kbv k := by decide +kernel
theorem kb_nar : ∀ k, k < 16 → narrow .char (.int (kbv k)) = .int (kbv k) := fun k h => (pk_charN (q := kbs.getD k 0) ((by decide +kernel : ∀ k, k < 16 → kbs.getD k 0 < 65536) k h)).1
theorem kb_not : ∀ k, k < 15 → ¬ kbv k = 102 := by decide +kernel
theorem kb_last : kbv 15 = 102 := by decide +kernel
theorem nI_within {x : Int32} {n : Nat} (hn : n < 2 ^ 31) (h1 : ¬ x < 0) (h2 : ¬ nI n ≤ x) : ∃ k : Nat, k < n ∧ x = nI k := by
  rcases pk_ix x hn with h | h | h
  · exact absurd h h1
  · exact absurd h h2
  · exact h
section RW6
variable {p : Program} {l : Launch} {e : Env} {R : Room} {s : State} {m : MethodId} {args : Array Value} {below : List Frame} {meth : Method} {c : Code} {H : Heap} {locs : List Loc} {cells slots : Nat} {Q : State → Prop}
theorem va_ldcSW {cc : ByteArray} {pc : Nat} {ls : Array Slot} {rest : List Value} (hexec : p.tables.exec = Jvm.exec) (hb : c.code = cc) {own tx : String} {index q : Nat} (hown : s.vm.findClass own = some m.cls) (hZ : vk_R own index tx q s) (hdg : decode cc pc = .ok (.ldc_w index, 3))
    (k : W p l e R s m args below meth c H locs cells slots Q (F0 m (pc + 3) ls (.ref q :: rest))) : W p l e R s m args below meth c H locs cells slots Q (F0 m pc ls rest) := by
  intro T hT X
  obtain ⟨t, a1, b1⟩ := k T hT X
  exact ⟨t, X.ldcStringW hexec hown (text := tx) (a := q) hZ.1 hZ.2 (g := F0 m pc ls rest) rfl (by rw [hb]; exact hdg) t a1, b1⟩
end RW6

abbrev rm_ST_coder : Room := { frames := 0, cells := 0, slots := 0, locals := 0 }
abbrev b_ST_coder : ByteArray := prog_34_method_152_code
def y_ST_coder : MethodName := ⟨"java/lang/String", "coder", "()B"⟩
def w_ST_coder : List Cond := [.code ⟨"java/lang/String", "coder", "()B"⟩ prog_34_method_152_code 1 (some .byte), .fieldLink "java/lang/String" 38 "java/lang/String" "COMPACT_STRINGS" "Z", .fieldLink "java/lang/String" 15 "java/lang/String" "coder" "B"]
theorem d_ST_coder_0 : decode b_ST_coder 0 = .ok (.getstatic 38, 3) := by decide +kernel
theorem d_ST_coder_3 : decode b_ST_coder 3 = .ok (.ifCond .eq 10, 3) := by decide +kernel
theorem d_ST_coder_6 : decode b_ST_coder 6 = .ok (.aload_n 0, 1) := by decide +kernel
theorem d_ST_coder_7 : decode b_ST_coder 7 = .ok (.getfield 15, 3) := by decide +kernel
theorem d_ST_coder_10 : decode b_ST_coder 10 = .ok (.goto 4, 3) := by decide +kernel
theorem d_ST_coder_14 : decode b_ST_coder 14 = .ok (.ireturn, 1) := by decide +kernel
set_option maxHeartbeats 4000000 in
set_option maxRecDepth 100000 in
theorem c_ST_coder (l : Launch) (sa : Nat) : Met l y_ST_coder w_ST_coder rm_ST_coder (va_Pc [.ref sa] (fun U => va_OF "java/lang/String" "coder" "B" (.int 0) sa (fun _ => False) U U.heap ∧ va_Z "java/lang/String" "COMPACT_STRINGS" "Z" (.int 1) (fun _ => False) U U.heap)) (vp_Si (fun r => r = 0)) 0 0 (fun _ => False) := by
  refine Met.ofW (cc := b_ST_coder) (maxL := 1) (ret := (some .byte)) (by decide) rfl ?_
  intro p e s m args below meth c s₁ B hml hv
  obtain ⟨rfl, hE0, hE1⟩ := hv
  have hx := B.exec
  have hb := B.bytes
  have hr := B.returns
  have hts := atoms_spec (ws := w_ST_coder) B.pre
  have hown : s.vm.findClass "java/lang/String" = some m.cls := findClass_of_methodNamed B.named
  have hlocks := B.notSynchronized
  have hl := lv_entry ([.ref sa]) (n := 1) (Nat.le_of_ble_eq_true rfl)
  rw [lg_entry_eq]
  generalize (lg_sl ([.ref sa]) ++ List.replicate (1 - (lg_sl ([.ref sa])).length) Slot.unset).toArray = ls at hl ⊢
  have hl : lv_has ls 1 [(0, .ref sa)] := hl
  refine va_gets (v := .int 1) hx hb hE1 (va_S.rf (A := fun _ => False)) hown (hts (.fieldLink "java/lang/String" 38 "java/lang/String" "COMPACT_STRINGS" "Z") (List.mem_of_getElem? (i := 1) rfl)) (fun _ h9 => h9) d_ST_coder_0 ?_
  refine lv_if_eq (tgt := 13) hx hb d_ST_coder_3 (by decide) (fun c_3 => ?_) (fun c_3 => ?_)
  · exact absurd c_3 (by decide)
  · skip
    refine lv_aload_n hx hb d_ST_coder_6 rfl (lv_at hl 0 rfl) ?_
    refine vk_getf (v := .int 0) hx hb hE0 (va_S.rf (A := fun _ => False)) hown (hts (.fieldLink "java/lang/String" 15 "java/lang/String" "coder" "B") (List.mem_of_getElem? (i := 2) rfl)) (fun _ h9 => h9) d_ST_coder_7 ?_
    refine lv_goto (tgt := 14) hx hb d_ST_coder_10 (by decide) ?_
    exact W.zret hx hb hr rfl (fun t ht hW => ⟨_, rfl, rfl, ht⟩) (fun _ h => by cases h) d_ST_coder_14

abbrev rm_ST_isLatin1 : Room := { frames := 0, cells := 0, slots := 0, locals := 0 }
abbrev b_ST_isLatin1 : ByteArray := prog_34_method_154_code
def y_ST_isLatin1 : MethodName := ⟨"java/lang/String", "isLatin1", "()Z"⟩
def w_ST_isLatin1 : List Cond := [.code ⟨"java/lang/String", "isLatin1", "()Z"⟩ prog_34_method_154_code 1 (some .boolean), .fieldLink "java/lang/String" 38 "java/lang/String" "COMPACT_STRINGS" "Z", .fieldLink "java/lang/String" 15 "java/lang/String" "coder" "B"]
theorem d_ST_isLatin1_0 : decode b_ST_isLatin1 0 = .ok (.getstatic 38, 3) := by decide +kernel
theorem d_ST_isLatin1_3 : decode b_ST_isLatin1 3 = .ok (.ifCond .eq 14, 3) := by decide +kernel
theorem d_ST_isLatin1_6 : decode b_ST_isLatin1 6 = .ok (.aload_n 0, 1) := by decide +kernel
theorem d_ST_isLatin1_7 : decode b_ST_isLatin1 7 = .ok (.getfield 15, 3) := by decide +kernel
theorem d_ST_isLatin1_10 : decode b_ST_isLatin1 10 = .ok (.ifCond .ne 7, 3) := by decide +kernel
theorem d_ST_isLatin1_13 : decode b_ST_isLatin1 13 = .ok (.iconst 1, 1) := by decide +kernel
theorem d_ST_isLatin1_14 : decode b_ST_isLatin1 14 = .ok (.goto 4, 3) := by decide +kernel
theorem d_ST_isLatin1_18 : decode b_ST_isLatin1 18 = .ok (.ireturn, 1) := by decide +kernel
set_option maxHeartbeats 4000000 in
set_option maxRecDepth 100000 in
theorem c_ST_isLatin1 (l : Launch) (sa : Nat) : Met l y_ST_isLatin1 w_ST_isLatin1 rm_ST_isLatin1 (va_Pc [.ref sa] (fun U => va_OF "java/lang/String" "coder" "B" (.int 0) sa (fun _ => False) U U.heap ∧ va_Z "java/lang/String" "COMPACT_STRINGS" "Z" (.int 1) (fun _ => False) U U.heap)) (vp_Si (fun r => r = 1)) 0 0 (fun _ => False) := by
  refine Met.ofW (cc := b_ST_isLatin1) (maxL := 1) (ret := (some .boolean)) (by decide) rfl ?_
  intro p e s m args below meth c s₁ B hml hv
  obtain ⟨rfl, hE0, hE1⟩ := hv
  have hx := B.exec
  have hb := B.bytes
  have hr := B.returns
  have hts := atoms_spec (ws := w_ST_isLatin1) B.pre
  have hown : s.vm.findClass "java/lang/String" = some m.cls := findClass_of_methodNamed B.named
  have hlocks := B.notSynchronized
  have hl := lv_entry ([.ref sa]) (n := 1) (Nat.le_of_ble_eq_true rfl)
  rw [lg_entry_eq]
  generalize (lg_sl ([.ref sa]) ++ List.replicate (1 - (lg_sl ([.ref sa])).length) Slot.unset).toArray = ls at hl ⊢
  have hl : lv_has ls 1 [(0, .ref sa)] := hl
  refine va_gets (v := .int 1) hx hb hE1 (va_S.rf (A := fun _ => False)) hown (hts (.fieldLink "java/lang/String" 38 "java/lang/String" "COMPACT_STRINGS" "Z") (List.mem_of_getElem? (i := 1) rfl)) (fun _ h9 => h9) d_ST_isLatin1_0 ?_
  refine lv_if_eq (tgt := 17) hx hb d_ST_isLatin1_3 (by decide) (fun c_3 => ?_) (fun c_3 => ?_)
  · exact absurd c_3 (by decide)
  · skip
    refine lv_aload_n hx hb d_ST_isLatin1_6 rfl (lv_at hl 0 rfl) ?_
    refine vk_getf (v := .int 0) hx hb hE0 (va_S.rf (A := fun _ => False)) hown (hts (.fieldLink "java/lang/String" 15 "java/lang/String" "coder" "B") (List.mem_of_getElem? (i := 2) rfl)) (fun _ h9 => h9) d_ST_isLatin1_7 ?_
    refine lv_if_ne (tgt := 17) hx hb d_ST_isLatin1_10 (by decide) (fun c_10 => ?_) (fun c_10 => ?_)
    · exact absurd c_10 (by decide)
    · skip
      refine lv_iconst (v := 1) hx hb d_ST_isLatin1_13 (by decide) ?_
      refine lv_goto (tgt := 18) hx hb d_ST_isLatin1_14 (by decide) ?_
      exact W.zret hx hb hr rfl (fun t ht hW => ⟨_, rfl, rfl, ht⟩) (fun _ h => by cases h) d_ST_isLatin1_18

abbrev rm_ST_length : Room := { frames := 1, cells := 0, slots := 0, locals := 20 }
abbrev b_ST_length : ByteArray := prog_34_method_54_code
def y_ST_length : MethodName := ⟨"java/lang/String", "length", "()I"⟩
def w_ST_length : List Cond := [.code ⟨"java/lang/String", "length", "()I"⟩ prog_34_method_54_code 1 (some .int), .fieldLink "java/lang/String" 9 "java/lang/String" "value" "[B", .methodLink "java/lang/String" 335 ⟨"java/lang/String", "coder", "()B"⟩, .instanceMethod ⟨"java/lang/String", "coder", "()B"⟩, .selects "java/lang/String" ⟨"java/lang/String", "coder", "()B"⟩ ⟨"java/lang/String", "coder", "()B"⟩, .initialized "java/lang/String", .code ⟨"java/lang/String", "coder", "()B"⟩ prog_34_method_152_code 1 (some .byte), .fieldLink "java/lang/String" 38 "java/lang/String" "COMPACT_STRINGS" "Z", .fieldLink "java/lang/String" 15 "java/lang/String" "coder" "B"]
theorem d_ST_length_0 : decode b_ST_length 0 = .ok (.aload_n 0, 1) := by decide +kernel
theorem d_ST_length_1 : decode b_ST_length 1 = .ok (.getfield 9, 3) := by decide +kernel
theorem d_ST_length_4 : decode b_ST_length 4 = .ok (.arraylength, 1) := by decide +kernel
theorem d_ST_length_5 : decode b_ST_length 5 = .ok (.aload_n 0, 1) := by decide +kernel
theorem d_ST_length_6 : decode b_ST_length 6 = .ok (.invokevirtual 335, 3) := by decide +kernel
theorem d_ST_length_9 : decode b_ST_length 9 = .ok (.ishr, 1) := by decide +kernel
theorem d_ST_length_10 : decode b_ST_length 10 = .ok (.ireturn, 1) := by decide +kernel
set_option maxRecDepth 20000 in
theorem g_ST_length_6 : GoodIn w_ST_length (wsV "java/lang/String" 335 "java/lang/String" ⟨"java/lang/String", "coder", "()B"⟩ w_ST_coder) := goodIn_r _ [2, 3, 4, 5, 6, 7, 8] rfl (by decide +kernel)
set_option maxHeartbeats 4000000 in
set_option maxRecDepth 100000 in
theorem c_ST_length (l : Launch) (sa : Nat) (va : Nat) : Met l y_ST_length w_ST_length rm_ST_length (va_Pc [.ref sa] (fun U => va_O "java/lang/String" sa (fun _ => False) U U.heap ∧ va_OF "java/lang/String" "value" "[B" (.ref va) sa (fun _ => False) U U.heap ∧ va_OF "java/lang/String" "coder" "B" (.int 0) sa (fun _ => False) U U.heap ∧ va_T .byte va 16 kb (fun _ => False) U U.heap ∧ va_Z "java/lang/String" "COMPACT_STRINGS" "Z" (.int 1) (fun _ => False) U U.heap)) (vp_Si (fun r => r = 16)) 0 0 (fun _ => False) := by
  refine Met.ofW (cc := b_ST_length) (maxL := 1) (ret := (some .int)) (by decide) rfl ?_
  intro p e s m args below meth c s₁ B hml hv
  obtain ⟨rfl, hE0, hE1, hE2, hE3, hE4⟩ := hv
  have hx := B.exec
  have hb := B.bytes
  have hr := B.returns
  have hts := atoms_spec (ws := w_ST_length) B.pre
  have hown : s.vm.findClass "java/lang/String" = some m.cls := findClass_of_methodNamed B.named
  have hlocks := B.notSynchronized
  have hl := lv_entry ([.ref sa]) (n := 1) (Nat.le_of_ble_eq_true rfl)
  rw [lg_entry_eq]
  generalize (lg_sl ([.ref sa]) ++ List.replicate (1 - (lg_sl ([.ref sa])).length) Slot.unset).toArray = ls at hl ⊢
  have hl : lv_has ls 1 [(0, .ref sa)] := hl
  refine lv_aload_n hx hb d_ST_length_0 rfl (lv_at hl 0 rfl) ?_
  refine vk_getf (v := .ref va) hx hb hE1 (va_S.rf (A := fun _ => False)) hown (hts (.fieldLink "java/lang/String" 9 "java/lang/String" "value" "[B") (List.mem_of_getElem? (i := 1) rfl)) (fun _ h9 => h9) d_ST_length_1 ?_
  refine va_tlen (v := 16) hx hb hE3 (va_S.rf (A := fun _ => False)) (by decide) d_ST_length_4 ?_
  refine lv_aload_n hx hb d_ST_length_5 rfl (lv_at hl 0 rfl) ?_
  refine vp_callSi (W.runV (As := []) (rest := [.int 16]) ⟨hx, hb, hml, hown, hts⟩ (c_ST_coder l sa) (cwV 0 hts g_ST_length_6 rfl rfl rfl (by decide +kernel) ⟨Nat.le_of_ble_eq_true rfl, Nat.le_of_ble_eq_true rfl⟩) ⟨fun a U g mk z => by obtain ⟨z0, zE0, zE1⟩ := z; exact ⟨z0, zE0.moved (u := U) (U := U.calling g mk a) (Vm.Alike.refl U.vm), zE1.moved (u := U) (U := U.calling g mk a) (Vm.Alike.refl U.vm)⟩, va_Orecv hE0 (va_S.rf (A := fun _ => False)), fun U hU hW => ⟨rfl, by have q9 := hE2.moved hW.alike; rw [← hU] at q9; exact q9, by have q9 := hE4.moved hW.alike; rw [← hU] at q9; exact q9⟩⟩ rfl rfl hl.1 rfl (lv_room (Nat.le_of_ble_eq_true rfl)) d_ST_length_6 ⟨(Nat.le_of_ble_eq_true rfl), (Nat.le_of_ble_eq_true rfl)⟩) (fun r1 hr1 => ?_)
  replace hr1 := hr1.symm; subst hr1
  refine lv_ishr hx hb d_ST_length_9 ?_
  refine lv_topi (fun x2 ex2 => ?_)
  exact W.iret hx hb hr (fun t ht hW => ⟨_, rfl, (by rw [ex2]; decide), ht⟩) (fun _ h => by cases h) d_ST_length_10

abbrev rm_PC_checkN : Room := { frames := 0, cells := 0, slots := 0, locals := 0 }
abbrev b_PC_checkN : ByteArray := prog_81_method_11_code
def y_PC_checkN : MethodName := ⟨"jdk/internal/util/Preconditions", "checkIndex", "(IILjava/util/function/BiFunction;)I"⟩
def w_PC_checkN : List Cond := [.code ⟨"jdk/internal/util/Preconditions", "checkIndex", "(IILjava/util/function/BiFunction;)I"⟩ prog_81_method_11_code 3 (some .int)]
theorem d_PC_checkN_0 : decode b_PC_checkN 0 = .ok (.iload_n 0, 1) := by decide +kernel
theorem d_PC_checkN_1 : decode b_PC_checkN 1 = .ok (.ifCond .lt 8, 3) := by decide +kernel
theorem d_PC_checkN_4 : decode b_PC_checkN 4 = .ok (.iload_n 0, 1) := by decide +kernel
theorem d_PC_checkN_5 : decode b_PC_checkN 5 = .ok (.iload_n 1, 1) := by decide +kernel
theorem d_PC_checkN_6 : decode b_PC_checkN 6 = .ok (.if_icmp .lt 10, 3) := by decide +kernel
theorem d_PC_checkN_16 : decode b_PC_checkN 16 = .ok (.iload_n 0, 1) := by decide +kernel
theorem d_PC_checkN_17 : decode b_PC_checkN 17 = .ok (.ireturn, 1) := by decide +kernel
set_option maxHeartbeats 4000000 in
set_option maxRecDepth 100000 in
theorem c_PC_checkN (l : Launch) (x : Int32) (n : Int32) (h1 : ¬ x < 0) (h2 : x < n) : Met l y_PC_checkN w_PC_checkN rm_PC_checkN (va_Pc [.int x, .int n, .null] (fun U => True)) (vp_Si (fun r => r = x)) 0 0 (fun _ => False) := by
  refine Met.ofW (cc := b_PC_checkN) (maxL := 3) (ret := (some .int)) (by decide) rfl ?_
  intro p e s m args below meth c s₁ B hml hv
  obtain ⟨rfl, -⟩ := hv
  have hx := B.exec
  have hb := B.bytes
  have hr := B.returns
  have hts := atoms_spec (ws := w_PC_checkN) B.pre
  have hown : s.vm.findClass "jdk/internal/util/Preconditions" = some m.cls := findClass_of_methodNamed B.named
  have hlocks := B.notSynchronized
  have hl := lv_entry ([.int x, .int n, .null]) (n := 3) (Nat.le_of_ble_eq_true rfl)
  rw [lg_entry_eq]
  generalize (lg_sl ([.int x, .int n, .null]) ++ List.replicate (3 - (lg_sl ([.int x, .int n, .null])).length) Slot.unset).toArray = ls at hl ⊢
  have hl : lv_has ls 3 [(0, .int x), (1, .int n), (2, .null)] := hl
  refine lv_iload_n hx hb d_PC_checkN_0 rfl (lv_at hl 0 rfl) ?_
  refine lv_if_lt (tgt := 9) hx hb d_PC_checkN_1 (by decide) (fun c_1 => ?_) (fun c_1 => ?_)
  · exact absurd c_1 h1
  · skip
    refine lv_iload_n hx hb d_PC_checkN_4 rfl (lv_at hl 0 rfl) ?_
    refine lv_iload_n hx hb d_PC_checkN_5 rfl (lv_at hl 1 rfl) ?_
    refine lv_icmp_lt (tgt := 16) hx hb d_PC_checkN_6 (by decide) (fun c_6 => ?_) (fun c_6 => ?_)
    · skip
      refine lv_iload_n hx hb d_PC_checkN_16 rfl (lv_at hl 0 rfl) ?_
      exact W.iret hx hb hr (fun t ht hW => ⟨_, rfl, rfl, ht⟩) (fun _ h => by cases h) d_PC_checkN_17
    · exact absurd h2 c_6

abbrev rm_PC_checkR : Room := { frames := 0, cells := 0, slots := 0, locals := 0 }
abbrev b_PC_checkR : ByteArray := prog_81_method_11_code
def y_PC_checkR : MethodName := ⟨"jdk/internal/util/Preconditions", "checkIndex", "(IILjava/util/function/BiFunction;)I"⟩
def w_PC_checkR : List Cond := [.code ⟨"jdk/internal/util/Preconditions", "checkIndex", "(IILjava/util/function/BiFunction;)I"⟩ prog_81_method_11_code 3 (some .int)]
theorem d_PC_checkR_0 : decode b_PC_checkR 0 = .ok (.iload_n 0, 1) := by decide +kernel
theorem d_PC_checkR_1 : decode b_PC_checkR 1 = .ok (.ifCond .lt 8, 3) := by decide +kernel
theorem d_PC_checkR_4 : decode b_PC_checkR 4 = .ok (.iload_n 0, 1) := by decide +kernel
theorem d_PC_checkR_5 : decode b_PC_checkR 5 = .ok (.iload_n 1, 1) := by decide +kernel
theorem d_PC_checkR_6 : decode b_PC_checkR 6 = .ok (.if_icmp .lt 10, 3) := by decide +kernel
theorem d_PC_checkR_16 : decode b_PC_checkR 16 = .ok (.iload_n 0, 1) := by decide +kernel
theorem d_PC_checkR_17 : decode b_PC_checkR 17 = .ok (.ireturn, 1) := by decide +kernel
set_option maxHeartbeats 4000000 in
set_option maxRecDepth 100000 in
theorem c_PC_checkR (l : Launch) (x : Int32) (n : Int32) (t0 : Nat) (h1 : ¬ x < 0) (h2 : x < n) : Met l y_PC_checkR w_PC_checkR rm_PC_checkR (va_Pc [.int x, .int n, .ref t0] (fun U => True)) (vp_Si (fun r => r = x)) 0 0 (fun _ => False) := by
  refine Met.ofW (cc := b_PC_checkR) (maxL := 3) (ret := (some .int)) (by decide) rfl ?_
  intro p e s m args below meth c s₁ B hml hv
  obtain ⟨rfl, -⟩ := hv
  have hx := B.exec
  have hb := B.bytes
  have hr := B.returns
  have hts := atoms_spec (ws := w_PC_checkR) B.pre
  have hown : s.vm.findClass "jdk/internal/util/Preconditions" = some m.cls := findClass_of_methodNamed B.named
  have hlocks := B.notSynchronized
  have hl := lv_entry ([.int x, .int n, .ref t0]) (n := 3) (Nat.le_of_ble_eq_true rfl)
  rw [lg_entry_eq]
  generalize (lg_sl ([.int x, .int n, .ref t0]) ++ List.replicate (3 - (lg_sl ([.int x, .int n, .ref t0])).length) Slot.unset).toArray = ls at hl ⊢
  have hl : lv_has ls 3 [(0, .int x), (1, .int n), (2, .ref t0)] := hl
  refine lv_iload_n hx hb d_PC_checkR_0 rfl (lv_at hl 0 rfl) ?_
  refine lv_if_lt (tgt := 9) hx hb d_PC_checkR_1 (by decide) (fun c_1 => ?_) (fun c_1 => ?_)
  · exact absurd c_1 h1
  · skip
    refine lv_iload_n hx hb d_PC_checkR_4 rfl (lv_at hl 0 rfl) ?_
    refine lv_iload_n hx hb d_PC_checkR_5 rfl (lv_at hl 1 rfl) ?_
    refine lv_icmp_lt (tgt := 16) hx hb d_PC_checkR_6 (by decide) (fun c_6 => ?_) (fun c_6 => ?_)
    · skip
      refine lv_iload_n hx hb d_PC_checkR_16 rfl (lv_at hl 0 rfl) ?_
      exact W.iret hx hb hr (fun t ht hW => ⟨_, rfl, rfl, ht⟩) (fun _ h => by cases h) d_PC_checkR_17
    · exact absurd h2 c_6

abbrev rm_ST_checkIndex : Room := { frames := 1, cells := 0, slots := 0, locals := 22 }
abbrev b_ST_checkIndex : ByteArray := prog_34_method_155_code
def y_ST_checkIndex : MethodName := ⟨"java/lang/String", "checkIndex", "(II)V"⟩
def w_ST_checkIndex : List Cond := [.code ⟨"java/lang/String", "checkIndex", "(II)V"⟩ prog_34_method_155_code 2 none, .fieldLink "java/lang/String" 1053 "jdk/internal/util/Preconditions" "SIOOBE_FORMATTER" "Ljava/util/function/BiFunction;", .methodLink "java/lang/String" 1059 ⟨"jdk/internal/util/Preconditions", "checkIndex", "(IILjava/util/function/BiFunction;)I"⟩, .static ⟨"jdk/internal/util/Preconditions", "checkIndex", "(IILjava/util/function/BiFunction;)I"⟩, .initialized "jdk/internal/util/Preconditions", .code ⟨"jdk/internal/util/Preconditions", "checkIndex", "(IILjava/util/function/BiFunction;)I"⟩ prog_81_method_11_code 3 (some .int)]
theorem d_ST_checkIndex_0 : decode b_ST_checkIndex 0 = .ok (.iload_n 0, 1) := by decide +kernel
theorem d_ST_checkIndex_1 : decode b_ST_checkIndex 1 = .ok (.iload_n 1, 1) := by decide +kernel
theorem d_ST_checkIndex_2 : decode b_ST_checkIndex 2 = .ok (.getstatic 1053, 3) := by decide +kernel
theorem d_ST_checkIndex_5 : decode b_ST_checkIndex 5 = .ok (.invokestatic 1059, 3) := by decide +kernel
theorem d_ST_checkIndex_8 : decode b_ST_checkIndex 8 = .ok (.pop, 1) := by decide +kernel
theorem d_ST_checkIndex_9 : decode b_ST_checkIndex 9 = .ok (.return_, 1) := by decide +kernel
set_option maxRecDepth 20000 in
theorem g_ST_checkIndex_5PC_checkN : GoodIn w_ST_checkIndex (va_wsS "java/lang/String" 1059 ⟨"jdk/internal/util/Preconditions", "checkIndex", "(IILjava/util/function/BiFunction;)I"⟩ w_PC_checkN) := goodIn_r _ [2, 3, 4, 5] rfl (by decide +kernel)
set_option maxRecDepth 20000 in
theorem g_ST_checkIndex_5PC_checkR : GoodIn w_ST_checkIndex (va_wsS "java/lang/String" 1059 ⟨"jdk/internal/util/Preconditions", "checkIndex", "(IILjava/util/function/BiFunction;)I"⟩ w_PC_checkR) := goodIn_r _ [2, 3, 4, 5] rfl (by decide +kernel)
set_option maxHeartbeats 4000000 in
set_option maxRecDepth 100000 in
theorem c_ST_checkIndex (l : Launch) (x : Int32) (n : Int32) (h1 : ¬ x < 0) (h2 : x < n) : Met l y_ST_checkIndex w_ST_checkIndex rm_ST_checkIndex (va_Pc [.int x, .int n] (fun U => va_Zq "jdk/internal/util/Preconditions" "SIOOBE_FORMATTER" "Ljava/util/function/BiFunction;" (fun _ => False) U U.heap)) (va_Sv (fun _ => True)) 0 0 (fun _ => False) := by
  refine Met.ofW (cc := b_ST_checkIndex) (maxL := 2) (ret := none) (by decide) rfl ?_
  intro p e s m args below meth c s₁ B hml hv
  obtain ⟨rfl, hE0⟩ := hv
  have hx := B.exec
  have hb := B.bytes
  have hr := B.returns
  have hts := atoms_spec (ws := w_ST_checkIndex) B.pre
  have hown : s.vm.findClass "java/lang/String" = some m.cls := findClass_of_methodNamed B.named
  have hlocks := B.notSynchronized
  have hl := lv_entry ([.int x, .int n]) (n := 2) (Nat.le_of_ble_eq_true rfl)
  rw [lg_entry_eq]
  generalize (lg_sl ([.int x, .int n]) ++ List.replicate (2 - (lg_sl ([.int x, .int n])).length) Slot.unset).toArray = ls at hl ⊢
  have hl : lv_has ls 2 [(0, .int x), (1, .int n)] := hl
  rcases hE0 with hZ | ⟨t0, hZ⟩
  · skip
    refine lv_iload_n hx hb d_ST_checkIndex_0 rfl (lv_at hl 0 rfl) ?_
    refine lv_iload_n hx hb d_ST_checkIndex_1 rfl (lv_at hl 1 rfl) ?_
    refine va_gets (v := .null) hx hb hZ (va_S.rf (A := fun _ => False)) hown (hts (.fieldLink "java/lang/String" 1053 "jdk/internal/util/Preconditions" "SIOOBE_FORMATTER" "Ljava/util/function/BiFunction;") (List.mem_of_getElem? (i := 1) rfl)) (fun _ h9 => h9) d_ST_checkIndex_2 ?_
    refine vp_callSi (W.runS (As := [.int x, .int n, .null]) (rest := []) ⟨hx, hb, hml, hown, hts⟩ (c_PC_checkN l x n h1 h2) (va_cwS 3 hts g_ST_checkIndex_5PC_checkN rfl rfl rfl (by decide +kernel) ⟨Nat.le_of_ble_eq_true rfl, Nat.le_of_ble_eq_true rfl⟩) ⟨fun a U g mk z => z, fun U hU hW => ⟨rfl, trivial⟩⟩ rfl rfl hl.1 rfl (lv_room (Nat.le_of_ble_eq_true rfl)) d_ST_checkIndex_5 ⟨(Nat.le_of_ble_eq_true rfl), (Nat.le_of_ble_eq_true rfl)⟩) (fun r1 hr1 => ?_)
    replace hr1 := hr1.symm; subst hr1
    refine lv_pop hx hb d_ST_checkIndex_8 rfl ?_
    exact W.vret hx hb hr (fun t ht hW => ⟨rfl, trivial, ht⟩) (fun _ h => by cases h) d_ST_checkIndex_9
  · skip
    refine lv_iload_n hx hb d_ST_checkIndex_0 rfl (lv_at hl 0 rfl) ?_
    refine lv_iload_n hx hb d_ST_checkIndex_1 rfl (lv_at hl 1 rfl) ?_
    refine va_gets (v := .ref t0) hx hb hZ (va_S.rf (A := fun _ => False)) hown (hts (.fieldLink "java/lang/String" 1053 "jdk/internal/util/Preconditions" "SIOOBE_FORMATTER" "Ljava/util/function/BiFunction;") (List.mem_of_getElem? (i := 1) rfl)) (fun _ h9 => h9) d_ST_checkIndex_2 ?_
    refine vp_callSi (W.runS (As := [.int x, .int n, .ref t0]) (rest := []) ⟨hx, hb, hml, hown, hts⟩ (c_PC_checkR l x n t0 h1 h2) (va_cwS 3 hts g_ST_checkIndex_5PC_checkR rfl rfl rfl (by decide +kernel) ⟨Nat.le_of_ble_eq_true rfl, Nat.le_of_ble_eq_true rfl⟩) ⟨fun a U g mk z => z, fun U hU hW => ⟨rfl, trivial⟩⟩ rfl rfl hl.1 rfl (lv_room (Nat.le_of_ble_eq_true rfl)) d_ST_checkIndex_5 ⟨(Nat.le_of_ble_eq_true rfl), (Nat.le_of_ble_eq_true rfl)⟩) (fun r2 hr2 => ?_)
    replace hr2 := hr2.symm; subst hr2
    refine lv_pop hx hb d_ST_checkIndex_8 rfl ?_
    exact W.vret hx hb hr (fun t ht hW => ⟨rfl, trivial, ht⟩) (fun _ h => by cases h) d_ST_checkIndex_9

abbrev rm_SL_charAt : Room := { frames := 2, cells := 0, slots := 0, locals := 43 }
abbrev b_SL_charAt : ByteArray := prog_36_method_2_code
def y_SL_charAt : MethodName := ⟨"java/lang/StringLatin1", "charAt", "([BI)C"⟩
def w_SL_charAt : List Cond := [.code ⟨"java/lang/StringLatin1", "charAt", "([BI)C"⟩ prog_36_method_2_code 2 (some .char), .methodLink "java/lang/StringLatin1" 9 ⟨"java/lang/String", "checkIndex", "(II)V"⟩, .static ⟨"java/lang/String", "checkIndex", "(II)V"⟩, .initialized "java/lang/String", .code ⟨"java/lang/String", "checkIndex", "(II)V"⟩ prog_34_method_155_code 2 none, .fieldLink "java/lang/String" 1053 "jdk/internal/util/Preconditions" "SIOOBE_FORMATTER" "Ljava/util/function/BiFunction;", .methodLink "java/lang/String" 1059 ⟨"jdk/internal/util/Preconditions", "checkIndex", "(IILjava/util/function/BiFunction;)I"⟩, .static ⟨"jdk/internal/util/Preconditions", "checkIndex", "(IILjava/util/function/BiFunction;)I"⟩, .initialized "jdk/internal/util/Preconditions", .code ⟨"jdk/internal/util/Preconditions", "checkIndex", "(IILjava/util/function/BiFunction;)I"⟩ prog_81_method_11_code 3 (some .int)]
theorem d_SL_charAt_0 : decode b_SL_charAt 0 = .ok (.iload_n 1, 1) := by decide +kernel
theorem d_SL_charAt_1 : decode b_SL_charAt 1 = .ok (.aload_n 0, 1) := by decide +kernel
theorem d_SL_charAt_2 : decode b_SL_charAt 2 = .ok (.arraylength, 1) := by decide +kernel
theorem d_SL_charAt_3 : decode b_SL_charAt 3 = .ok (.invokestatic 9, 3) := by decide +kernel
theorem d_SL_charAt_6 : decode b_SL_charAt 6 = .ok (.aload_n 0, 1) := by decide +kernel
theorem d_SL_charAt_7 : decode b_SL_charAt 7 = .ok (.iload_n 1, 1) := by decide +kernel
theorem d_SL_charAt_8 : decode b_SL_charAt 8 = .ok (.baload, 1) := by decide +kernel
theorem d_SL_charAt_9 : decode b_SL_charAt 9 = .ok (.sipush 255, 3) := by decide +kernel
theorem d_SL_charAt_12 : decode b_SL_charAt 12 = .ok (.iand, 1) := by decide +kernel
theorem d_SL_charAt_13 : decode b_SL_charAt 13 = .ok (.i2c, 1) := by decide +kernel
theorem d_SL_charAt_14 : decode b_SL_charAt 14 = .ok (.ireturn, 1) := by decide +kernel
set_option maxRecDepth 20000 in
theorem g_SL_charAt_3 : GoodIn w_SL_charAt (va_wsS "java/lang/StringLatin1" 9 ⟨"java/lang/String", "checkIndex", "(II)V"⟩ w_ST_checkIndex) := goodIn_r _ [1, 2, 3, 4, 5, 6, 7, 8, 9] rfl (by decide +kernel)
set_option maxHeartbeats 4000000 in
set_option maxRecDepth 100000 in
theorem c_SL_charAt (l : Launch) (va : Nat) (x : Int32) (k : Nat) (hk : k < 16) (hxk : x = nI k) : Met l y_SL_charAt w_SL_charAt rm_SL_charAt (va_Pc [.ref va, .int x] (fun U => va_T .byte va 16 kb (fun _ => False) U U.heap ∧ va_Zq "jdk/internal/util/Preconditions" "SIOOBE_FORMATTER" "Ljava/util/function/BiFunction;" (fun _ => False) U U.heap)) (vp_Si (fun r => r = kbv k)) 0 0 (fun _ => False) := by
  refine Met.ofW (cc := b_SL_charAt) (maxL := 2) (ret := (some .char)) (by decide) rfl ?_
  intro p e s m args below meth c s₁ B hml hv
  obtain ⟨rfl, hE0, hE1⟩ := hv
  have hx := B.exec
  have hb := B.bytes
  have hr := B.returns
  have hts := atoms_spec (ws := w_SL_charAt) B.pre
  have hown : s.vm.findClass "java/lang/StringLatin1" = some m.cls := findClass_of_methodNamed B.named
  have hlocks := B.notSynchronized
  have hl := lv_entry ([.ref va, .int x]) (n := 2) (Nat.le_of_ble_eq_true rfl)
  rw [lg_entry_eq]
  generalize (lg_sl ([.ref va, .int x]) ++ List.replicate (2 - (lg_sl ([.ref va, .int x])).length) Slot.unset).toArray = ls at hl ⊢
  have hl : lv_has ls 2 [(0, .ref va), (1, .int x)] := hl
  refine lv_iload_n hx hb d_SL_charAt_0 rfl (lv_at hl 1 rfl) ?_
  refine lv_aload_n hx hb d_SL_charAt_1 rfl (lv_at hl 0 rfl) ?_
  refine va_tlen (v := 16) hx hb hE0 (va_S.rf (A := fun _ => False)) (by decide) d_SL_charAt_2 ?_
  refine va_csv (W.runS (As := [.int x, .int 16]) (rest := []) ⟨hx, hb, hml, hown, hts⟩ (c_ST_checkIndex l x 16 (by rw [hxk]; exact nI_pos (by omega)) (by rw [hxk]; exact (show nI k < nI 16 from nI_lt hk (by omega)))) (va_cwS 2 hts g_SL_charAt_3 rfl rfl rfl (by decide +kernel) ⟨Nat.le_of_ble_eq_true rfl, Nat.le_of_ble_eq_true rfl⟩) ⟨fun a U g mk z => by obtain ⟨z0, zE0⟩ := z; exact ⟨z0, zE0.moved (u := U) (U := U.calling g mk a) (Vm.Alike.refl U.vm)⟩, fun U hU hW => ⟨rfl, by have q9 := hE1.moved hW.alike; rw [← hU] at q9; exact q9⟩⟩ rfl rfl hl.1 rfl (lv_room (Nat.le_of_ble_eq_true rfl)) d_SL_charAt_3 ⟨(Nat.le_of_ble_eq_true rfl), (Nat.le_of_ble_eq_true rfl)⟩) (fun hr1 => ?_)
  refine lv_aload_n hx hb d_SL_charAt_6 rfl (lv_at hl 0 rfl) ?_
  refine lv_iload_n hx hb d_SL_charAt_7 rfl (lv_at hl 1 rfl) ?_
  refine va_tb (v := .int (kbv (x).toNatClampNeg)) hx hb hE0 (va_S.rf (A := fun _ => False)) (by rw [hxk]; exact vp_in_nI hk (by omega)) rfl d_SL_charAt_8 ?_
  refine lv_topi (fun x2 ex2 => ?_)
  refine lv_sipush (v := 255) hx hb d_SL_charAt_9 (by decide) ?_
  refine lv_iand hx hb d_SL_charAt_12 ?_
  refine lv_topi (fun x3 ex3 => ?_)
  refine lv_i2c hx hb d_SL_charAt_13 rfl ?_
  refine lv_topi (fun x4 ex4 => ?_)
  have hfin : x4 = kbv k := by rw [ex4, ex3, ex2, hxk, nI_clamp (by omega)]; exact kb_fix k hk
  exact W.zret hx hb hr (by rw [hfin]; exact kb_nar k hk) (fun t ht hW => ⟨_, rfl, hfin, ht⟩) (fun _ h => by cases h) d_SL_charAt_14

abbrev rm_ST_charAt : Room := { frames := 3, cells := 0, slots := 0, locals := 64 }
abbrev b_ST_charAt : ByteArray := prog_34_method_56_code
def y_ST_charAt : MethodName := ⟨"java/lang/String", "charAt", "(I)C"⟩
def w_ST_charAt : List Cond := [.code ⟨"java/lang/String", "charAt", "(I)C"⟩ prog_34_method_56_code 2 (some .char), .methodLink "java/lang/String" 492 ⟨"java/lang/String", "isLatin1", "()Z"⟩, .instanceMethod ⟨"java/lang/String", "isLatin1", "()Z"⟩, .selects "java/lang/String" ⟨"java/lang/String", "isLatin1", "()Z"⟩ ⟨"java/lang/String", "isLatin1", "()Z"⟩, .initialized "java/lang/String", .code ⟨"java/lang/String", "isLatin1", "()Z"⟩ prog_34_method_154_code 1 (some .boolean), .fieldLink "java/lang/String" 38 "java/lang/String" "COMPACT_STRINGS" "Z", .fieldLink "java/lang/String" 15 "java/lang/String" "coder" "B", .fieldLink "java/lang/String" 9 "java/lang/String" "value" "[B", .methodLink "java/lang/String" 495 ⟨"java/lang/StringLatin1", "charAt", "([BI)C"⟩, .static ⟨"java/lang/StringLatin1", "charAt", "([BI)C"⟩, .initialized "java/lang/StringLatin1", .code ⟨"java/lang/StringLatin1", "charAt", "([BI)C"⟩ prog_36_method_2_code 2 (some .char), .methodLink "java/lang/StringLatin1" 9 ⟨"java/lang/String", "checkIndex", "(II)V"⟩, .static ⟨"java/lang/String", "checkIndex", "(II)V"⟩, .code ⟨"java/lang/String", "checkIndex", "(II)V"⟩ prog_34_method_155_code 2 none, .fieldLink "java/lang/String" 1053 "jdk/internal/util/Preconditions" "SIOOBE_FORMATTER" "Ljava/util/function/BiFunction;", .methodLink "java/lang/String" 1059 ⟨"jdk/internal/util/Preconditions", "checkIndex", "(IILjava/util/function/BiFunction;)I"⟩, .static ⟨"jdk/internal/util/Preconditions", "checkIndex", "(IILjava/util/function/BiFunction;)I"⟩, .initialized "jdk/internal/util/Preconditions", .code ⟨"jdk/internal/util/Preconditions", "checkIndex", "(IILjava/util/function/BiFunction;)I"⟩ prog_81_method_11_code 3 (some .int)]
theorem d_ST_charAt_0 : decode b_ST_charAt 0 = .ok (.aload_n 0, 1) := by decide +kernel
theorem d_ST_charAt_1 : decode b_ST_charAt 1 = .ok (.invokevirtual 492, 3) := by decide +kernel
theorem d_ST_charAt_4 : decode b_ST_charAt 4 = .ok (.ifCond .eq 12, 3) := by decide +kernel
theorem d_ST_charAt_7 : decode b_ST_charAt 7 = .ok (.aload_n 0, 1) := by decide +kernel
theorem d_ST_charAt_8 : decode b_ST_charAt 8 = .ok (.getfield 9, 3) := by decide +kernel
theorem d_ST_charAt_11 : decode b_ST_charAt 11 = .ok (.iload_n 1, 1) := by decide +kernel
theorem d_ST_charAt_12 : decode b_ST_charAt 12 = .ok (.invokestatic 495, 3) := by decide +kernel
theorem d_ST_charAt_15 : decode b_ST_charAt 15 = .ok (.ireturn, 1) := by decide +kernel
set_option maxRecDepth 20000 in
theorem g_ST_charAt_1 : GoodIn w_ST_charAt (wsV "java/lang/String" 492 "java/lang/String" ⟨"java/lang/String", "isLatin1", "()Z"⟩ w_ST_isLatin1) := goodIn_r _ [1, 2, 3, 4, 5, 6, 7] rfl (by decide +kernel)
set_option maxRecDepth 20000 in
theorem g_ST_charAt_12 : GoodIn w_ST_charAt (va_wsS "java/lang/String" 495 ⟨"java/lang/StringLatin1", "charAt", "([BI)C"⟩ w_SL_charAt) := goodIn_r _ [9, 10, 11, 12, 13, 14, 4, 15, 16, 17, 18, 19, 20] rfl (by decide +kernel)
set_option maxHeartbeats 4000000 in
set_option maxRecDepth 100000 in
theorem c_ST_charAt (l : Launch) (sa : Nat) (va : Nat) (x : Int32) (k : Nat) (hk : k < 16) (hxk : x = nI k) : Met l y_ST_charAt w_ST_charAt rm_ST_charAt (va_Pc [.ref sa, .int x] (fun U => va_O "java/lang/String" sa (fun _ => False) U U.heap ∧ va_OF "java/lang/String" "value" "[B" (.ref va) sa (fun _ => False) U U.heap ∧ va_OF "java/lang/String" "coder" "B" (.int 0) sa (fun _ => False) U U.heap ∧ va_T .byte va 16 kb (fun _ => False) U U.heap ∧ va_Z "java/lang/String" "COMPACT_STRINGS" "Z" (.int 1) (fun _ => False) U U.heap ∧ va_Zq "jdk/internal/util/Preconditions" "SIOOBE_FORMATTER" "Ljava/util/function/BiFunction;" (fun _ => False) U U.heap)) (vp_Si (fun r => r = kbv k)) 0 0 (fun _ => False) := by
  refine Met.ofW (cc := b_ST_charAt) (maxL := 2) (ret := (some .char)) (by decide) rfl ?_
  intro p e s m args below meth c s₁ B hml hv
  obtain ⟨rfl, hE0, hE1, hE2, hE3, hE4, hE5⟩ := hv
  have hx := B.exec
  have hb := B.bytes
  have hr := B.returns
  have hts := atoms_spec (ws := w_ST_charAt) B.pre
  have hown : s.vm.findClass "java/lang/String" = some m.cls := findClass_of_methodNamed B.named
  have hlocks := B.notSynchronized
  have hl := lv_entry ([.ref sa, .int x]) (n := 2) (Nat.le_of_ble_eq_true rfl)
  rw [lg_entry_eq]
  generalize (lg_sl ([.ref sa, .int x]) ++ List.replicate (2 - (lg_sl ([.ref sa, .int x])).length) Slot.unset).toArray = ls at hl ⊢
  have hl : lv_has ls 2 [(0, .ref sa), (1, .int x)] := hl
  refine lv_aload_n hx hb d_ST_charAt_0 rfl (lv_at hl 0 rfl) ?_
  refine vp_callSi (W.runV (As := []) (rest := []) ⟨hx, hb, hml, hown, hts⟩ (c_ST_isLatin1 l sa) (cwV 0 hts g_ST_charAt_1 rfl rfl rfl (by decide +kernel) ⟨Nat.le_of_ble_eq_true rfl, Nat.le_of_ble_eq_true rfl⟩) ⟨fun a U g mk z => by obtain ⟨z0, zE0, zE1⟩ := z; exact ⟨z0, zE0.moved (u := U) (U := U.calling g mk a) (Vm.Alike.refl U.vm), zE1.moved (u := U) (U := U.calling g mk a) (Vm.Alike.refl U.vm)⟩, va_Orecv hE0 (va_S.rf (A := fun _ => False)), fun U hU hW => ⟨rfl, by have q9 := hE2.moved hW.alike; rw [← hU] at q9; exact q9, by have q9 := hE4.moved hW.alike; rw [← hU] at q9; exact q9⟩⟩ rfl rfl hl.1 rfl (lv_room (Nat.le_of_ble_eq_true rfl)) d_ST_charAt_1 ⟨(Nat.le_of_ble_eq_true rfl), (Nat.le_of_ble_eq_true rfl)⟩) (fun r1 hr1 => ?_)
  replace hr1 := hr1.symm; subst hr1
  refine lv_if_eq (tgt := 16) hx hb d_ST_charAt_4 (by decide) (fun c_4 => ?_) (fun c_4 => ?_)
  · exact absurd c_4 (by decide)
  · skip
    refine lv_aload_n hx hb d_ST_charAt_7 rfl (lv_at hl 0 rfl) ?_
    refine vk_getf (v := .ref va) hx hb hE1 (va_S.rf (A := fun _ => False)) hown (hts (.fieldLink "java/lang/String" 9 "java/lang/String" "value" "[B") (List.mem_of_getElem? (i := 8) rfl)) (fun _ h9 => h9) d_ST_charAt_8 ?_
    refine lv_iload_n hx hb d_ST_charAt_11 rfl (lv_at hl 1 rfl) ?_
    refine vp_callSi (W.runS (As := [.ref va, .int x]) (rest := []) ⟨hx, hb, hml, hown, hts⟩ (c_SL_charAt l va x k hk hxk) (va_cwS 2 hts g_ST_charAt_12 rfl rfl rfl (by decide +kernel) ⟨Nat.le_of_ble_eq_true rfl, Nat.le_of_ble_eq_true rfl⟩) ⟨fun a U g mk z => by obtain ⟨z0, zE0, zE1⟩ := z; exact ⟨z0, zE0.moved (u := U) (U := U.calling g mk a) (Vm.Alike.refl U.vm), zE1.moved (u := U) (U := U.calling g mk a) (Vm.Alike.refl U.vm)⟩, fun U hU hW => ⟨rfl, by have q9 := hE3.moved hW.alike; rw [← hU] at q9; exact q9, by have q9 := hE5.moved hW.alike; rw [← hU] at q9; exact q9⟩⟩ rfl rfl hl.1 rfl (lv_room (Nat.le_of_ble_eq_true rfl)) d_ST_charAt_12 ⟨(Nat.le_of_ble_eq_true rfl), (Nat.le_of_ble_eq_true rfl)⟩) (fun r2 hr2 => ?_)
    replace hr2 := hr2.symm; subst hr2
    exact W.zret hx hb hr (kb_nar k hk) (fun t ht hW => ⟨_, rfl, rfl, ht⟩) (fun _ h => by cases h) d_ST_charAt_15

abbrev rm_letterOf : Room := { frames := 4, cells := 0, slots := 0, locals := 85 }
abbrev b_letterOf : ByteArray := prog_6_method_3_code
def y_letterOf : MethodName := ⟨"Leastcode$Machine", "letterOf", "(I)C"⟩
def w_letterOf : List Cond := [.code ⟨"Leastcode$Machine", "letterOf", "(I)C"⟩ prog_6_method_3_code 1 (some .char), .methodLink "Leastcode$Machine" 69 ⟨"java/lang/String", "length", "()I"⟩, .instanceMethod ⟨"java/lang/String", "length", "()I"⟩, .selects "java/lang/String" ⟨"java/lang/String", "length", "()I"⟩ ⟨"java/lang/String", "length", "()I"⟩, .initialized "java/lang/String", .code ⟨"java/lang/String", "length", "()I"⟩ prog_34_method_54_code 1 (some .int), .fieldLink "java/lang/String" 9 "java/lang/String" "value" "[B", .methodLink "java/lang/String" 335 ⟨"java/lang/String", "coder", "()B"⟩, .instanceMethod ⟨"java/lang/String", "coder", "()B"⟩, .selects "java/lang/String" ⟨"java/lang/String", "coder", "()B"⟩ ⟨"java/lang/String", "coder", "()B"⟩, .code ⟨"java/lang/String", "coder", "()B"⟩ prog_34_method_152_code 1 (some .byte), .fieldLink "java/lang/String" 38 "java/lang/String" "COMPACT_STRINGS" "Z", .fieldLink "java/lang/String" 15 "java/lang/String" "coder" "B", .methodLink "Leastcode$Machine" 75 ⟨"java/lang/String", "charAt", "(I)C"⟩, .instanceMethod ⟨"java/lang/String", "charAt", "(I)C"⟩, .selects "java/lang/String" ⟨"java/lang/String", "charAt", "(I)C"⟩ ⟨"java/lang/String", "charAt", "(I)C"⟩, .code ⟨"java/lang/String", "charAt", "(I)C"⟩ prog_34_method_56_code 2 (some .char), .methodLink "java/lang/String" 492 ⟨"java/lang/String", "isLatin1", "()Z"⟩, .instanceMethod ⟨"java/lang/String", "isLatin1", "()Z"⟩, .selects "java/lang/String" ⟨"java/lang/String", "isLatin1", "()Z"⟩ ⟨"java/lang/String", "isLatin1", "()Z"⟩, .code ⟨"java/lang/String", "isLatin1", "()Z"⟩ prog_34_method_154_code 1 (some .boolean), .methodLink "java/lang/String" 495 ⟨"java/lang/StringLatin1", "charAt", "([BI)C"⟩, .static ⟨"java/lang/StringLatin1", "charAt", "([BI)C"⟩, .initialized "java/lang/StringLatin1", .code ⟨"java/lang/StringLatin1", "charAt", "([BI)C"⟩ prog_36_method_2_code 2 (some .char), .methodLink "java/lang/StringLatin1" 9 ⟨"java/lang/String", "checkIndex", "(II)V"⟩, .static ⟨"java/lang/String", "checkIndex", "(II)V"⟩, .code ⟨"java/lang/String", "checkIndex", "(II)V"⟩ prog_34_method_155_code 2 none, .fieldLink "java/lang/String" 1053 "jdk/internal/util/Preconditions" "SIOOBE_FORMATTER" "Ljava/util/function/BiFunction;", .methodLink "java/lang/String" 1059 ⟨"jdk/internal/util/Preconditions", "checkIndex", "(IILjava/util/function/BiFunction;)I"⟩, .static ⟨"jdk/internal/util/Preconditions", "checkIndex", "(IILjava/util/function/BiFunction;)I"⟩, .initialized "jdk/internal/util/Preconditions", .code ⟨"jdk/internal/util/Preconditions", "checkIndex", "(IILjava/util/function/BiFunction;)I"⟩ prog_81_method_11_code 3 (some .int)]
theorem d_letterOf_0 : decode b_letterOf 0 = .ok (.iload_n 0, 1) := by decide +kernel
theorem d_letterOf_1 : decode b_letterOf 1 = .ok (.ifCond .lt 21, 3) := by decide +kernel
theorem d_letterOf_4 : decode b_letterOf 4 = .ok (.iload_n 0, 1) := by decide +kernel
theorem d_letterOf_5 : decode b_letterOf 5 = .ok (.ldc 67, 2) := by decide +kernel
theorem d_letterOf_7 : decode b_letterOf 7 = .ok (.invokevirtual 69, 3) := by decide +kernel
theorem d_letterOf_10 : decode b_letterOf 10 = .ok (.if_icmp .ge 12, 3) := by decide +kernel
theorem d_letterOf_13 : decode b_letterOf 13 = .ok (.ldc 67, 2) := by decide +kernel
theorem d_letterOf_15 : decode b_letterOf 15 = .ok (.iload_n 0, 1) := by decide +kernel
theorem d_letterOf_16 : decode b_letterOf 16 = .ok (.invokevirtual 75, 3) := by decide +kernel
theorem d_letterOf_19 : decode b_letterOf 19 = .ok (.goto 5, 3) := by decide +kernel
theorem d_letterOf_22 : decode b_letterOf 22 = .ok (.bipush 32, 2) := by decide +kernel
theorem d_letterOf_24 : decode b_letterOf 24 = .ok (.ireturn, 1) := by decide +kernel
set_option maxRecDepth 20000 in
theorem g_letterOf_7 : GoodIn w_letterOf (wsV "Leastcode$Machine" 69 "java/lang/String" ⟨"java/lang/String", "length", "()I"⟩ w_ST_length) := goodIn_r _ [1, 2, 3, 4, 5, 6, 7, 8, 9, 4, 10, 11, 12] rfl (by decide +kernel)
set_option maxRecDepth 20000 in
theorem g_letterOf_16 : GoodIn w_letterOf (wsV "Leastcode$Machine" 75 "java/lang/String" ⟨"java/lang/String", "charAt", "(I)C"⟩ w_ST_charAt) := goodIn_r _ [13, 14, 15, 4, 16, 17, 18, 19, 4, 20, 11, 12, 6, 21, 22, 23, 24, 25, 26, 27, 28, 29, 30, 31, 32] rfl (by decide +kernel)
set_option maxHeartbeats 4000000 in
set_option maxRecDepth 100000 in
theorem c_letterOf (l : Launch) (sa : Nat) (va : Nat) (x : Int32) : Met l y_letterOf w_letterOf rm_letterOf (va_Pc [.int x] (fun U => va_O "java/lang/String" sa (fun _ => False) U U.heap ∧ va_OF "java/lang/String" "value" "[B" (.ref va) sa (fun _ => False) U U.heap ∧ va_OF "java/lang/String" "coder" "B" (.int 0) sa (fun _ => False) U U.heap ∧ va_T .byte va 16 kb (fun _ => False) U U.heap ∧ va_Z "java/lang/String" "COMPACT_STRINGS" "Z" (.int 1) (fun _ => False) U U.heap ∧ va_Zq "jdk/internal/util/Preconditions" "SIOOBE_FORMATTER" "Ljava/util/function/BiFunction;" (fun _ => False) U U.heap ∧ vk_R "Leastcode$Machine" 67 "masnoxkcidlrtzbf" sa U)) (vp_Si (fun r => narrow .char (.int r) = .int r)) 0 0 (fun _ => False) := by
  refine Met.ofW (cc := b_letterOf) (maxL := 1) (ret := (some .char)) (by decide) rfl ?_
  intro p e s m args below meth c s₁ B hml hv
  obtain ⟨rfl, hE0, hE1, hE2, hE3, hE4, hE5, hE6⟩ := hv
  have hx := B.exec
  have hb := B.bytes
  have hr := B.returns
  have hts := atoms_spec (ws := w_letterOf) B.pre
  have hown : s.vm.findClass "Leastcode$Machine" = some m.cls := findClass_of_methodNamed B.named
  have hlocks := B.notSynchronized
  have hl := lv_entry ([.int x]) (n := 1) (Nat.le_of_ble_eq_true rfl)
  rw [lg_entry_eq]
  generalize (lg_sl ([.int x]) ++ List.replicate (1 - (lg_sl ([.int x])).length) Slot.unset).toArray = ls at hl ⊢
  have hl : lv_has ls 1 [(0, .int x)] := hl
  refine lv_iload_n hx hb d_letterOf_0 rfl (lv_at hl 0 rfl) ?_
  refine lv_if_lt (tgt := 22) hx hb d_letterOf_1 (by decide) (fun c_1 => ?_) (fun c_1 => ?_)
  · skip
    refine lv_bipush (v := 32) hx hb d_letterOf_22 (by decide) ?_
    exact W.zret hx hb hr rfl (fun t ht hW => ⟨_, rfl, rfl, ht⟩) (fun _ h => by cases h) d_letterOf_24
  · skip
    refine lv_iload_n hx hb d_letterOf_4 rfl (lv_at hl 0 rfl) ?_
    refine va_ldcS hx hb hown hE6 d_letterOf_5 ?_
    refine vp_callSi (W.runV (As := []) (rest := [.int x]) ⟨hx, hb, hml, hown, hts⟩ (c_ST_length l sa va) (cwV 0 hts g_letterOf_7 rfl rfl rfl (by decide +kernel) ⟨Nat.le_of_ble_eq_true rfl, Nat.le_of_ble_eq_true rfl⟩) ⟨fun a U g mk z => by obtain ⟨z0, zE0, zE1, zE2, zE3, zE4⟩ := z; exact ⟨z0, zE0.moved (u := U) (U := U.calling g mk a) (Vm.Alike.refl U.vm), zE1.moved (u := U) (U := U.calling g mk a) (Vm.Alike.refl U.vm), zE2.moved (u := U) (U := U.calling g mk a) (Vm.Alike.refl U.vm), zE3.moved (u := U) (U := U.calling g mk a) (Vm.Alike.refl U.vm), zE4.moved (u := U) (U := U.calling g mk a) (Vm.Alike.refl U.vm)⟩, va_Orecv hE0 (va_S.rf (A := fun _ => False)), fun U hU hW => ⟨rfl, by have q9 := hE0.moved hW.alike; rw [← hU] at q9; exact q9, by have q9 := hE1.moved hW.alike; rw [← hU] at q9; exact q9, by have q9 := hE2.moved hW.alike; rw [← hU] at q9; exact q9, by have q9 := hE3.moved hW.alike; rw [← hU] at q9; exact q9, by have q9 := hE4.moved hW.alike; rw [← hU] at q9; exact q9⟩⟩ rfl rfl hl.1 rfl (lv_room (Nat.le_of_ble_eq_true rfl)) d_letterOf_7 ⟨(Nat.le_of_ble_eq_true rfl), (Nat.le_of_ble_eq_true rfl)⟩) (fun r1 hr1 => ?_)
    replace hr1 := hr1.symm; subst hr1
    refine lv_icmp_ge (tgt := 22) hx hb d_letterOf_10 (by decide) (fun c_10 => ?_) (fun c_10 => ?_)
    · skip
      refine lv_bipush (v := 32) hx hb d_letterOf_22 (by decide) ?_
      exact W.zret hx hb hr rfl (fun t ht hW => ⟨_, rfl, rfl, ht⟩) (fun _ h => by cases h) d_letterOf_24
    · skip
      obtain ⟨k9, hk9, hxk9⟩ := nI_within (n := 16) (by omega) c_1 c_10
      refine va_ldcS hx hb hown hE6 d_letterOf_13 ?_
      refine lv_iload_n hx hb d_letterOf_15 rfl (lv_at hl 0 rfl) ?_
      refine vp_callSi (W.runV (As := [.int x]) (rest := []) ⟨hx, hb, hml, hown, hts⟩ (c_ST_charAt l sa va x k9 hk9 hxk9) (cwV 1 hts g_letterOf_16 rfl rfl rfl (by decide +kernel) ⟨Nat.le_of_ble_eq_true rfl, Nat.le_of_ble_eq_true rfl⟩) ⟨fun a U g mk z => by obtain ⟨z0, zE0, zE1, zE2, zE3, zE4, zE5⟩ := z; exact ⟨z0, zE0.moved (u := U) (U := U.calling g mk a) (Vm.Alike.refl U.vm), zE1.moved (u := U) (U := U.calling g mk a) (Vm.Alike.refl U.vm), zE2.moved (u := U) (U := U.calling g mk a) (Vm.Alike.refl U.vm), zE3.moved (u := U) (U := U.calling g mk a) (Vm.Alike.refl U.vm), zE4.moved (u := U) (U := U.calling g mk a) (Vm.Alike.refl U.vm), zE5.moved (u := U) (U := U.calling g mk a) (Vm.Alike.refl U.vm)⟩, va_Orecv hE0 (va_S.rf (A := fun _ => False)), fun U hU hW => ⟨rfl, by have q9 := hE0.moved hW.alike; rw [← hU] at q9; exact q9, by have q9 := hE1.moved hW.alike; rw [← hU] at q9; exact q9, by have q9 := hE2.moved hW.alike; rw [← hU] at q9; exact q9, by have q9 := hE3.moved hW.alike; rw [← hU] at q9; exact q9, by have q9 := hE4.moved hW.alike; rw [← hU] at q9; exact q9, by have q9 := hE5.moved hW.alike; rw [← hU] at q9; exact q9⟩⟩ rfl rfl hl.1 rfl (lv_room (Nat.le_of_ble_eq_true rfl)) d_letterOf_16 ⟨(Nat.le_of_ble_eq_true rfl), (Nat.le_of_ble_eq_true rfl)⟩) (fun r2 hr2 => ?_)
      replace hr2 := hr2.symm; subst hr2
      refine lv_goto (tgt := 24) hx hb d_letterOf_19 (by decide) ?_
      exact W.zret hx hb hr (kb_nar k9 hk9) (fun t ht hW => ⟨_, rfl, (kb_nar k9 hk9), ht⟩) (fun _ h => by cases h) d_letterOf_24
