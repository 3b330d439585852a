abbrev rm_MO_init : Room := { frames := 4, cells := 5, slots := 153, locals := 72 }
abbrev b_MO_init : ByteArray := prog_11_method_1_code
def y_MO_init : MethodName := ⟨"LeastcodeModel", "<init>", "()V"⟩
def w_MO_init : List Cond := [.code ⟨"LeastcodeModel", "<init>", "()V"⟩ prog_11_method_1_code 1 none, .methodLink "LeastcodeModel" 1 ⟨"java/lang/Object", "<init>", "()V"⟩, .instanceMethod ⟨"java/lang/Object", "<init>", "()V"⟩, .code ⟨"java/lang/Object", "<init>", "()V"⟩ object_method_1_code 1 none, .lays "java/util/ArrayList" "java/util/AbstractList" "modCount" "I", .lays "java/util/ArrayList" "java/util/ArrayList" "elementData" "[Ljava/lang/Object;", .lays "java/util/ArrayList" "java/util/ArrayList" "size" "I", .classLink "LeastcodeModel" 7 "java/util/ArrayList", .instantiable "java/util/ArrayList" 3, .initialized "java/util/ArrayList", .code ⟨"java/util/ArrayList", "<init>", "()V"⟩ prog_50_method_2_code 1 none, .code ⟨"java/util/AbstractList", "<init>", "()V"⟩ prog_45_method_1_code 1 none, .code ⟨"java/util/AbstractCollection", "<init>", "()V"⟩ prog_44_method_1_code 1 none, .methodLink "java/util/AbstractCollection" 1 ⟨"java/lang/Object", "<init>", "()V"⟩, .initialized "java/util/AbstractCollection", .methodLink "java/util/AbstractList" 1 ⟨"java/util/AbstractCollection", "<init>", "()V"⟩, .instanceMethod ⟨"java/util/AbstractCollection", "<init>", "()V"⟩, .fieldLink "java/util/AbstractList" 7 "java/util/AbstractList" "modCount" "I", .initialized "java/util/AbstractList", .methodLink "java/util/ArrayList" 1 ⟨"java/util/AbstractList", "<init>", "()V"⟩, .instanceMethod ⟨"java/util/AbstractList", "<init>", "()V"⟩, .fieldLink "java/util/ArrayList" 39 "java/util/ArrayList" "DEFAULTCAPACITY_EMPTY_ELEMENTDATA" "[Ljava/lang/Object;", .fieldLink "java/util/ArrayList" 9 "java/util/ArrayList" "elementData" "[Ljava/lang/Object;", .methodLink "LeastcodeModel" 9 ⟨"java/util/ArrayList", "<init>", "()V"⟩, .instanceMethod ⟨"java/util/ArrayList", "<init>", "()V"⟩, .laysFinal "LeastcodeModel" "LeastcodeModel" "programs" "Ljava/util/ArrayList;", .laysFinal "LeastcodeModel" "LeastcodeModel" "goals" "Ljava/util/ArrayList;", .laysFinal "LeastcodeModel" "LeastcodeModel" "rules" "Ljava/util/ArrayList;", .laysFinal "LeastcodeModel" "LeastcodeModel" "prices" "[I", .laysFinal "LeastcodeModel" "LeastcodeModel" "kills" "[I", .lays "LeastcodeModel" "LeastcodeModel" "found" "Ljava/util/List;", .lays "LeastcodeModel" "LeastcodeModel" "wait" "I", .lays "LeastcodeModel" "LeastcodeModel" "thrown" "I", .lays "LeastcodeModel" "LeastcodeModel" "z" "J", .fieldLink "LeastcodeModel" 10 "LeastcodeModel" "programs" "Ljava/util/ArrayList;", .fieldLink "LeastcodeModel" 16 "LeastcodeModel" "goals" "Ljava/util/ArrayList;", .fieldLink "LeastcodeModel" 19 "LeastcodeModel" "rules" "Ljava/util/ArrayList;", .methodLink "LeastcodeModel" 24 ⟨"java/lang/String", "length", "()I"⟩, .instanceMethod ⟨"java/lang/String", "length", "()I"⟩, .selects "java/lang/String" ⟨"java/lang/String", "length", "()I"⟩ ⟨"java/lang/String", "length", "()I"⟩, .initialized "java/lang/String", .code ⟨"java/lang/String", "length", "()I"⟩ prog_34_method_54_code 1 (some .int), .fieldLink "java/lang/String" 9 "java/lang/String" "value" "[B", .methodLink "java/lang/String" 335 ⟨"java/lang/String", "coder", "()B"⟩, .instanceMethod ⟨"java/lang/String", "coder", "()B"⟩, .selects "java/lang/String" ⟨"java/lang/String", "coder", "()B"⟩ ⟨"java/lang/String", "coder", "()B"⟩, .code ⟨"java/lang/String", "coder", "()B"⟩ prog_34_method_152_code 1 (some .byte), .fieldLink "java/lang/String" 38 "java/lang/String" "COMPACT_STRINGS" "Z", .fieldLink "java/lang/String" 15 "java/lang/String" "coder" "B", .arrayClass .int, .fieldLink "LeastcodeModel" 30 "LeastcodeModel" "prices" "[I", .fieldLink "LeastcodeModel" 34 "LeastcodeModel" "kills" "[I", .fieldLink "LeastcodeModel" 37 "LeastcodeModel" "found" "Ljava/util/List;", .fieldLink "LeastcodeModel" 41 "LeastcodeModel" "wait" "I", .fieldLink "LeastcodeModel" 45 "LeastcodeModel" "thrown" "I", .fieldLink "LeastcodeModel" 48 "LeastcodeModel" "z" "J", .methodLink "LeastcodeModel" 52 ⟨"java/util/Arrays", "fill", "([II)V"⟩, .static ⟨"java/util/Arrays", "fill", "([II)V"⟩, .initialized "java/util/Arrays", .code ⟨"java/util/Arrays", "fill", "([II)V"⟩ prog_55_method_103_code 4 none]
theorem d_MO_init_0 : decode b_MO_init 0 = .ok (.aload_n 0, 1) := by decide +kernel
theorem d_MO_init_1 : decode b_MO_init 1 = .ok (.invokespecial 1, 3) := by decide +kernel
theorem d_MO_init_4 : decode b_MO_init 4 = .ok (.aload_n 0, 1) := by decide +kernel
theorem d_MO_init_5 : decode b_MO_init 5 = .ok (.new 7, 3) := by decide +kernel
theorem d_MO_init_8 : decode b_MO_init 8 = .ok (.dup, 1) := by decide +kernel
theorem d_MO_init_9 : decode b_MO_init 9 = .ok (.invokespecial 9, 3) := by decide +kernel
theorem d_MO_init_12 : decode b_MO_init 12 = .ok (.putfield 10, 3) := by decide +kernel
theorem d_MO_init_15 : decode b_MO_init 15 = .ok (.aload_n 0, 1) := by decide +kernel
theorem d_MO_init_16 : decode b_MO_init 16 = .ok (.new 7, 3) := by decide +kernel
theorem d_MO_init_19 : decode b_MO_init 19 = .ok (.dup, 1) := by decide +kernel
theorem d_MO_init_20 : decode b_MO_init 20 = .ok (.invokespecial 9, 3) := by decide +kernel
theorem d_MO_init_23 : decode b_MO_init 23 = .ok (.putfield 16, 3) := by decide +kernel
theorem d_MO_init_26 : decode b_MO_init 26 = .ok (.aload_n 0, 1) := by decide +kernel
theorem d_MO_init_27 : decode b_MO_init 27 = .ok (.new 7, 3) := by decide +kernel
theorem d_MO_init_30 : decode b_MO_init 30 = .ok (.dup, 1) := by decide +kernel
theorem d_MO_init_31 : decode b_MO_init 31 = .ok (.invokespecial 9, 3) := by decide +kernel
theorem d_MO_init_34 : decode b_MO_init 34 = .ok (.putfield 19, 3) := by decide +kernel
theorem d_MO_init_37 : decode b_MO_init 37 = .ok (.aload_n 0, 1) := by decide +kernel
theorem d_MO_init_38 : decode b_MO_init 38 = .ok (.ldc 22, 2) := by decide +kernel
theorem d_MO_init_40 : decode b_MO_init 40 = .ok (.invokevirtual 24, 3) := by decide +kernel
theorem d_MO_init_43 : decode b_MO_init 43 = .ok (.newarray .int, 2) := by decide +kernel
theorem d_MO_init_45 : decode b_MO_init 45 = .ok (.putfield 30, 3) := by decide +kernel
theorem d_MO_init_48 : decode b_MO_init 48 = .ok (.aload_n 0, 1) := by decide +kernel
theorem d_MO_init_49 : decode b_MO_init 49 = .ok (.sipush 128, 3) := by decide +kernel
theorem d_MO_init_52 : decode b_MO_init 52 = .ok (.newarray .int, 2) := by decide +kernel
theorem d_MO_init_54 : decode b_MO_init 54 = .ok (.putfield 34, 3) := by decide +kernel
theorem d_MO_init_57 : decode b_MO_init 57 = .ok (.aload_n 0, 1) := by decide +kernel
theorem d_MO_init_58 : decode b_MO_init 58 = .ok (.aconst_null, 1) := by decide +kernel
theorem d_MO_init_59 : decode b_MO_init 59 = .ok (.putfield 37, 3) := by decide +kernel
theorem d_MO_init_62 : decode b_MO_init 62 = .ok (.aload_n 0, 1) := by decide +kernel
theorem d_MO_init_63 : decode b_MO_init 63 = .ok (.iconst 0, 1) := by decide +kernel
theorem d_MO_init_64 : decode b_MO_init 64 = .ok (.putfield 41, 3) := by decide +kernel
theorem d_MO_init_67 : decode b_MO_init 67 = .ok (.aload_n 0, 1) := by decide +kernel
theorem d_MO_init_68 : decode b_MO_init 68 = .ok (.iconst 0, 1) := by decide +kernel
theorem d_MO_init_69 : decode b_MO_init 69 = .ok (.putfield 45, 3) := by decide +kernel
theorem d_MO_init_72 : decode b_MO_init 72 = .ok (.aload_n 0, 1) := by decide +kernel
theorem d_MO_init_73 : decode b_MO_init 73 = .ok (.lconst 1, 1) := by decide +kernel
theorem d_MO_init_74 : decode b_MO_init 74 = .ok (.putfield 48, 3) := by decide +kernel
theorem d_MO_init_77 : decode b_MO_init 77 = .ok (.aload_n 0, 1) := by decide +kernel
theorem d_MO_init_78 : decode b_MO_init 78 = .ok (.getfield 30, 3) := by decide +kernel
theorem d_MO_init_81 : decode b_MO_init 81 = .ok (.iconst 1, 1) := by decide +kernel
theorem d_MO_init_82 : decode b_MO_init 82 = .ok (.invokestatic 52, 3) := by decide +kernel
theorem d_MO_init_85 : decode b_MO_init 85 = .ok (.return_, 1) := by decide +kernel
theorem in_MO_init_MO : ∀ v ∈ u_ws R_MO T_MO 9, v ∈ w_MO_init := by decide +kernel
theorem in_MO_init_AL : ∀ v ∈ u_ws R_AL T_AL 3, v ∈ w_MO_init := by decide +kernel
set_option maxRecDepth 20000 in
theorem g_MO_init_9 : GoodIn w_MO_init (w_AL_init) := goodIn_r _ [10, 11, 12, 13, 2, 3, 14, 15, 16, 4, 5, 6, 17, 18, 19, 20, 21, 22] rfl (by decide +kernel)
set_option maxRecDepth 20000 in
theorem g_MO_init_20 : GoodIn w_MO_init (w_AL_init) := goodIn_r _ [10, 11, 12, 13, 2, 3, 14, 15, 16, 4, 5, 6, 17, 18, 19, 20, 21, 22] rfl (by decide +kernel)
set_option maxRecDepth 20000 in
theorem g_MO_init_31 : GoodIn w_MO_init (w_AL_init) := goodIn_r _ [10, 11, 12, 13, 2, 3, 14, 15, 16, 4, 5, 6, 17, 18, 19, 20, 21, 22] rfl (by decide +kernel)
set_option maxRecDepth 20000 in
theorem g_MO_init_40 : GoodIn w_MO_init (wsV "LeastcodeModel" 24 "java/lang/String" ⟨"java/lang/String", "length", "()I"⟩ w_ST_length) := goodIn_r _ [37, 38, 39, 40, 41, 42, 43, 44, 45, 40, 46, 47, 48] rfl (by decide +kernel)
set_option maxRecDepth 20000 in
theorem g_MO_init_82 : GoodIn w_MO_init (va_wsS "LeastcodeModel" 52 ⟨"java/util/Arrays", "fill", "([II)V"⟩ w_fill) := goodIn_r _ [56, 57, 58, 59] rfl (by decide +kernel)
set_option maxHeartbeats 4000000 in
set_option maxRecDepth 100000 in
theorem c_MO_init (l : Launch) (dC : Nat → ClassId) (dI : Nat → Nat → Nat) (sa : Nat) (va : Nat) (de : Nat) (m0 : Nat) (sz : Nat) : Met l y_MO_init w_MO_init rm_MO_init (va_Pc [.ref m0] (fun U => U.heap.size = sz ∧ va_P (dC, dI) classes [(m0, .inr (8, [.null, .null, .null, .null, .null, .null, .int 0, .int 0, .long 0]))] U.heap ∧ va_K (dC, dI) classes [] U ∧ va_D (fun _ => True) [(m0, .inr (8, [.null, .null, .null, .null, .null, .null, .int 0, .int 0, .long 0]))] ∧ va_O "java/lang/String" sa (va_A [(m0, .inr (8, [.null, .null, .null, .null, .null, .null, .int 0, .int 0, .long 0]))] sz) U U.heap ∧ va_OF "java/lang/String" "value" "[B" (.ref va) sa (va_A [(m0, .inr (8, [.null, .null, .null, .null, .null, .null, .int 0, .int 0, .long 0]))] sz) U U.heap ∧ va_OF "java/lang/String" "coder" "B" (.int 0) sa (va_A [(m0, .inr (8, [.null, .null, .null, .null, .null, .null, .int 0, .int 0, .long 0]))] sz) U U.heap ∧ va_T .byte va 16 kb (va_A [(m0, .inr (8, [.null, .null, .null, .null, .null, .null, .int 0, .int 0, .long 0]))] sz) U U.heap ∧ va_Z "java/lang/String" "COMPACT_STRINGS" "Z" (.int 1) (va_A [(m0, .inr (8, [.null, .null, .null, .null, .null, .null, .int 0, .int 0, .long 0]))] sz) U U.heap ∧ vk_R "LeastcodeModel" 22 "masnoxkcidlrtzbf" sa U ∧ va_Z "java/util/ArrayList" "DEFAULTCAPACITY_EMPTY_ELEMENTDATA" "[Ljava/lang/Object;" (.ref de) (va_A [(m0, .inr (8, [.null, .null, .null, .null, .null, .null, .int 0, .int 0, .long 0]))] sz) U U.heap)) (va_Qv (fun (_ : Unit) => True) (fun _ t => ∃ qp : Nat, ∃ qg : Nat, ∃ qr : Nat, ∃ qk : Nat, ∃ qs : Nat, va_P (dC, dI) classes [(m0, .inr (8, [.ref qp, .ref qg, .ref qr, .ref qk, .ref qs, .null, .int 0, .int 0, .long 1])), (qp, .inr (9, [.int 0, .ref de, .int 0]))] t.heap ∧ va_K (dC, dI) classes [] t ∧ va_D (va_A [(m0, .inr (8, [.null, .null, .null, .null, .null, .null, .int 0, .int 0, .long 0]))] sz) [(m0, .inr (8, [.ref qp, .ref qg, .ref qr, .ref qk, .ref qs, .null, .int 0, .int 0, .long 1])), (qp, .inr (9, [.int 0, .ref de, .int 0]))]) (va_A [(m0, .inr (8, [.null, .null, .null, .null, .null, .null, .int 0, .int 0, .long 0]))] sz)) 5 153 (va_A [(m0, .inr (8, [.null, .null, .null, .null, .null, .null, .int 0, .int 0, .long 0]))] sz) := by
  refine Met.ofW (cc := b_MO_init) (maxL := 1) (ret := none) (by decide) rfl ?_
  intro p e s m args below meth c s₁ B hml hv
  obtain ⟨rfl, hsz, hP, hK, hD0, hE0, hE1, hE2, hE3, hE4, hE5, hE6⟩ := hv
  have hx := B.exec
  have hb := B.bytes
  have hr := B.returns
  have hts := atoms_spec (ws := w_MO_init) B.pre
  have hown : s.vm.findClass "LeastcodeModel" = some m.cls := findClass_of_methodNamed B.named
  have hlocks := B.notSynchronized
  have hin : meth.name = "<init>" := (name_of_methodNamed B.named B.method).1
  subst hsz
  have hD := hD0.self (sz := s.heap.size)
  generalize hAe : va_A [(m0, .inr (8, [.null, .null, .null, .null, .null, .null, .int 0, .int 0, .long 0]))] s.heap.size = A at hD hE0 hE1 hE2 hE3 hE4 hE5 hE6 ⊢
  have hA : ∀ q : Nat, s.heap.size ≤ q → A q := fun q h => by rw [← hAe]; exact Or.inr h
  have hS : va_S A s.heap s.heap [] := va_S.rf
  have hP : va_P (dC, dI) classes [(m0, .inr (8, [.null, .null, .null, .null, .null, .null, .int 0, .int 0, .long 0]))] s.heap := hP
  have hl := lv_entry ([.ref m0]) (n := 1) (Nat.le_of_ble_eq_true rfl)
  rw [lg_entry_eq]
  generalize (lg_sl ([.ref m0]) ++ List.replicate (1 - (lg_sl ([.ref m0])).length) Slot.unset).toArray = ls at hl ⊢
  have hl : lv_has ls 1 [(0, .ref m0)] := hl
  refine lv_aload_n hx hb d_MO_init_0 rfl (lv_at hl 0 rfl) ?_
  refine W.objInit hx hb hown (hts (.methodLink "LeastcodeModel" 1 ⟨"java/lang/Object", "<init>", "()V"⟩) (List.mem_of_getElem? (i := 1) rfl)) (hts (.instanceMethod ⟨"java/lang/Object", "<init>", "()V"⟩) (List.mem_of_getElem? (i := 2) rfl)) (hts (.code ⟨"java/lang/Object", "<init>", "()V"⟩ object_method_1_code 1 none) (List.mem_of_getElem? (i := 3) rfl)) rfl (by rw [hml]; exact hl.1) rfl d_MO_init_1 (Nat.le_of_ble_eq_true rfl) (Nat.le_of_ble_eq_true rfl) ?_
  refine W.eq (g2 := F0 m 4 ls []) rfl ?_
  refine lv_aload_n hx hb d_MO_init_4 rfl (lv_at hl 0 rfl) ?_
  refine va_new (D := (dC, dI)) (ci := 9) (fs := [.int 0, .null, .int 0]) (C := R_AL) (T := T_AL) (N := 3) hx hb hts in_MO_init_AL t_AL t_AL_ok hown (hts (.classLink "LeastcodeModel" 7 "java/util/ArrayList") (List.mem_of_getElem? (i := 7) rfl)) (hts (.instantiable "java/util/ArrayList" 3) (List.mem_of_getElem? (i := 8) rfl)) (hts (.initialized "java/util/ArrayList") (List.mem_of_getElem? (i := 9) rfl)) hK hP hD hS hA rfl (fun j hj => by rcases (show j = 0 ∨ j = 1 ∨ j = 2 by omega) with rfl | rfl | rfl <;> rfl) (Nat.le_of_ble_eq_true rfl) (Nat.le_of_ble_eq_true rfl) d_MO_init_5 (fun q1 H hP hD hS => ?_)
  have hP : va_P (dC, dI) classes [(m0, .inr (8, [.null, .null, .null, .null, .null, .null, .int 0, .int 0, .long 0])), (q1, .inr (9, [.int 0, .null, .int 0]))] H := hP
  have hD : va_D A [(m0, .inr (8, [.null, .null, .null, .null, .null, .null, .int 0, .int 0, .long 0])), (q1, .inr (9, [.int 0, .null, .int 0]))] := hD
  refine W.widen (k := 1) (n := 3) (by omega) (by omega) ?_
  refine lv_dup hx hb d_MO_init_8 rfl ?_
  have hPc : va_P (dC, dI) classes [(q1, .inr (9, [.int 0, .null, .int 0]))] _ := hP.sub (ws' := [(q1, .inr (9, [.int 0, .null, .int 0]))]) [1] rfl
  have hKc : va_K (dC, dI) classes [] s := hK.sub (tys' := []) [] rfl
  have hDc : va_D _ [(q1, .inr (9, [.int 0, .null, .int 0]))] := hD.sub (ws' := [(q1, .inr (9, [.int 0, .null, .int 0]))]) [1] (by decide) rfl
  have hFc := va_free (wc := [(q1, .inr (9, [.int 0, .null, .int 0]))]) hD hS hA [1] rfl
  refine va_callv (va_runI (As := []) (rest := [.ref q1, .ref m0]) ⟨hx, hb, hml, hown, hts⟩ (c_AL_init l dC dI de q1 H.size) (cwI 0 hts g_MO_init_9 rfl rfl rfl (hts (.initialized "java/util/ArrayList") (List.mem_of_getElem? (i := 9) rfl)) (hts (.methodLink "LeastcodeModel" 9 ⟨"java/util/ArrayList", "<init>", "()V"⟩) (List.mem_of_getElem? (i := 23) rfl)) (hts (.instanceMethod ⟨"java/util/ArrayList", "<init>", "()V"⟩) (List.mem_of_getElem? (i := 24) rfl)) rfl (by decide +kernel) ⟨Nat.le_of_ble_eq_true rfl, Nat.le_of_ble_eq_true rfl⟩) ⟨fun a U g mk z => by obtain ⟨z0, z1, zP, zK, zD, zE0⟩ := z; exact ⟨z0, z1, zP, va_K.moved (u := U) (U := U.calling g mk a) (Vm.Alike.refl U.vm) zK, zD, zE0.moved (u := U) (U := U.calling g mk a) (Vm.Alike.refl U.vm)⟩, fun U hU hW => ⟨rfl, by rw [hU], by rw [hU]; exact hPc, va_K.moved hW.alike hKc, hDc.weaken (fun _ _ _ _ => trivial), by (try dsimp only); rw [hU]; exact ((hE6.kept (fun a h1 h2 => hS.2.1 a h1 h2)).narrow hFc).moved hW.alike⟩⟩ rfl rfl hl.1 rfl (lv_room (Nat.le_of_ble_eq_true rfl)) d_MO_init_9 ⟨(Nat.le_of_ble_eq_true rfl), (Nat.le_of_ble_eq_true rfl)⟩) hS (fun q _ h => hFc q h) hFc (fun u t H1 locs ht hvm hr2 hB hz1 hk1 hS => ?_)
  obtain ⟨hP1, hK1, hD1⟩ := hB
  rw [ht] at hP1
  have hK1 := va_K.moved hvm.symm hK1
  obtain ⟨hP, hD⟩ := va_join (wr := [(m0, .inr (8, [.null, .null, .null, .null, .null, .null, .int 0, .int 0, .long 0]))]) (w1 := [(q1, .inr (9, [.int 0, .ref de, .int 0]))]) hP hD [1] [0] rfl rfl (by decide) (by decide) hk1 hFc hP1 hD1
  clear hPc hDc hKc hFc hP1 hD1 hK1 hk1
  generalize H1 = H at hP hS ⊢
  have hP : va_P (dC, dI) classes [(m0, .inr (8, [.null, .null, .null, .null, .null, .null, .int 0, .int 0, .long 0])), (q1, .inr (9, [.int 0, .ref de, .int 0]))] H := hP
  have hD : va_D A [(m0, .inr (8, [.null, .null, .null, .null, .null, .null, .int 0, .int 0, .long 0])), (q1, .inr (9, [.int 0, .ref de, .int 0]))] := hD
  refine W.widen (k := 1) (n := 3) (by omega) (by omega) ?_
  refine va_putF (D := (dC, dI)) (ci := 8) (v := .ref q1) (ty := .object "java/util/ArrayList") (C := R_MO) (T := T_MO) (N := 9) hx hb hts in_MO_init_MO t_MO t_MO_ok n_MO hown hK hP hD hS 0 rfl rfl 0 (by decide) (hts (.fieldLink "LeastcodeModel" 10 "LeastcodeModel" "programs" "Ljava/util/ArrayList;") (List.mem_of_getElem? (i := 34) rfl)) (fun _ h9 => h9) rfl hin rfl (by decide +kernel) rfl rfl (Nat.le_of_ble_eq_true rfl) d_MO_init_12 (fun H locs hP hD hS => ?_)
  have hP : va_P (dC, dI) classes [(m0, .inr (8, [.ref q1, .null, .null, .null, .null, .null, .int 0, .int 0, .long 0])), (q1, .inr (9, [.int 0, .ref de, .int 0]))] H := hP
  have hD : va_D A [(m0, .inr (8, [.ref q1, .null, .null, .null, .null, .null, .int 0, .int 0, .long 0])), (q1, .inr (9, [.int 0, .ref de, .int 0]))] := hD
  refine lv_aload_n hx hb d_MO_init_15 rfl (lv_at hl 0 rfl) ?_
  refine va_new (D := (dC, dI)) (ci := 9) (fs := [.int 0, .null, .int 0]) (C := R_AL) (T := T_AL) (N := 3) hx hb hts in_MO_init_AL t_AL t_AL_ok hown (hts (.classLink "LeastcodeModel" 7 "java/util/ArrayList") (List.mem_of_getElem? (i := 7) rfl)) (hts (.instantiable "java/util/ArrayList" 3) (List.mem_of_getElem? (i := 8) rfl)) (hts (.initialized "java/util/ArrayList") (List.mem_of_getElem? (i := 9) rfl)) hK hP hD hS hA rfl (fun j hj => by rcases (show j = 0 ∨ j = 1 ∨ j = 2 by omega) with rfl | rfl | rfl <;> rfl) (Nat.le_of_ble_eq_true rfl) (Nat.le_of_ble_eq_true rfl) d_MO_init_16 (fun q3 H hP hD hS => ?_)
  have hP : va_P (dC, dI) classes [(m0, .inr (8, [.ref q1, .null, .null, .null, .null, .null, .int 0, .int 0, .long 0])), (q1, .inr (9, [.int 0, .ref de, .int 0])), (q3, .inr (9, [.int 0, .null, .int 0]))] H := hP
  have hD : va_D A [(m0, .inr (8, [.ref q1, .null, .null, .null, .null, .null, .int 0, .int 0, .long 0])), (q1, .inr (9, [.int 0, .ref de, .int 0])), (q3, .inr (9, [.int 0, .null, .int 0]))] := hD
  refine W.widen (k := 2) (n := 6) (by omega) (by omega) ?_
  refine lv_dup hx hb d_MO_init_19 rfl ?_
  have hPc : va_P (dC, dI) classes [(q3, .inr (9, [.int 0, .null, .int 0]))] _ := hP.sub (ws' := [(q3, .inr (9, [.int 0, .null, .int 0]))]) [2] rfl
  have hKc : va_K (dC, dI) classes [] s := hK.sub (tys' := []) [] rfl
  have hDc : va_D _ [(q3, .inr (9, [.int 0, .null, .int 0]))] := hD.sub (ws' := [(q3, .inr (9, [.int 0, .null, .int 0]))]) [2] (by decide) rfl
  have hFc := va_free (wc := [(q3, .inr (9, [.int 0, .null, .int 0]))]) hD hS hA [2] rfl
  refine va_callv (va_runI (As := []) (rest := [.ref q3, .ref m0]) ⟨hx, hb, hml, hown, hts⟩ (c_AL_init l dC dI de q3 H.size) (cwI 0 hts g_MO_init_20 rfl rfl rfl (hts (.initialized "java/util/ArrayList") (List.mem_of_getElem? (i := 9) rfl)) (hts (.methodLink "LeastcodeModel" 9 ⟨"java/util/ArrayList", "<init>", "()V"⟩) (List.mem_of_getElem? (i := 23) rfl)) (hts (.instanceMethod ⟨"java/util/ArrayList", "<init>", "()V"⟩) (List.mem_of_getElem? (i := 24) rfl)) rfl (by decide +kernel) ⟨Nat.le_of_ble_eq_true rfl, Nat.le_of_ble_eq_true rfl⟩) ⟨fun a U g mk z => by obtain ⟨z0, z1, zP, zK, zD, zE0⟩ := z; exact ⟨z0, z1, zP, va_K.moved (u := U) (U := U.calling g mk a) (Vm.Alike.refl U.vm) zK, zD, zE0.moved (u := U) (U := U.calling g mk a) (Vm.Alike.refl U.vm)⟩, fun U hU hW => ⟨rfl, by rw [hU], by rw [hU]; exact hPc, va_K.moved hW.alike hKc, hDc.weaken (fun _ _ _ _ => trivial), by (try dsimp only); rw [hU]; exact ((hE6.kept (fun a h1 h2 => hS.2.1 a h1 h2)).narrow hFc).moved hW.alike⟩⟩ rfl rfl hl.1 rfl (lv_room (Nat.le_of_ble_eq_true rfl)) d_MO_init_20 ⟨(Nat.le_of_ble_eq_true rfl), (Nat.le_of_ble_eq_true rfl)⟩) hS (fun q _ h => hFc q h) hFc (fun u t H1 locs ht hvm hr4 hB hz1 hk1 hS => ?_)
  obtain ⟨hP1, hK1, hD1⟩ := hB
  rw [ht] at hP1
  have hK1 := va_K.moved hvm.symm hK1
  obtain ⟨hP, hD⟩ := va_join (wr := [(m0, .inr (8, [.ref q1, .null, .null, .null, .null, .null, .int 0, .int 0, .long 0])), (q1, .inr (9, [.int 0, .ref de, .int 0]))]) (w1 := [(q3, .inr (9, [.int 0, .ref de, .int 0]))]) hP hD [2] [0, 1] rfl rfl (by decide) (by decide) hk1 hFc hP1 hD1
  clear hPc hDc hKc hFc hP1 hD1 hK1 hk1
  generalize H1 = H at hP hS ⊢
  have hP : va_P (dC, dI) classes [(m0, .inr (8, [.ref q1, .null, .null, .null, .null, .null, .int 0, .int 0, .long 0])), (q1, .inr (9, [.int 0, .ref de, .int 0])), (q3, .inr (9, [.int 0, .ref de, .int 0]))] H := hP
  have hD : va_D A [(m0, .inr (8, [.ref q1, .null, .null, .null, .null, .null, .int 0, .int 0, .long 0])), (q1, .inr (9, [.int 0, .ref de, .int 0])), (q3, .inr (9, [.int 0, .ref de, .int 0]))] := hD
  refine W.widen (k := 2) (n := 6) (by omega) (by omega) ?_
  refine va_putF (D := (dC, dI)) (ci := 8) (v := .ref q3) (ty := .object "java/util/ArrayList") (C := R_MO) (T := T_MO) (N := 9) hx hb hts in_MO_init_MO t_MO t_MO_ok n_MO hown hK hP hD hS 0 rfl rfl 1 (by decide) (hts (.fieldLink "LeastcodeModel" 16 "LeastcodeModel" "goals" "Ljava/util/ArrayList;") (List.mem_of_getElem? (i := 35) rfl)) (fun _ h9 => h9) rfl hin rfl (by decide +kernel) rfl rfl (Nat.le_of_ble_eq_true rfl) d_MO_init_23 (fun H locs hP hD hS => ?_)
  have hP : va_P (dC, dI) classes [(m0, .inr (8, [.ref q1, .ref q3, .null, .null, .null, .null, .int 0, .int 0, .long 0])), (q1, .inr (9, [.int 0, .ref de, .int 0])), (q3, .inr (9, [.int 0, .ref de, .int 0]))] H := hP
  have hD : va_D A [(m0, .inr (8, [.ref q1, .ref q3, .null, .null, .null, .null, .int 0, .int 0, .long 0])), (q1, .inr (9, [.int 0, .ref de, .int 0])), (q3, .inr (9, [.int 0, .ref de, .int 0]))] := hD
  refine lv_aload_n hx hb d_MO_init_26 rfl (lv_at hl 0 rfl) ?_
  refine va_new (D := (dC, dI)) (ci := 9) (fs := [.int 0, .null, .int 0]) (C := R_AL) (T := T_AL) (N := 3) hx hb hts in_MO_init_AL t_AL t_AL_ok hown (hts (.classLink "LeastcodeModel" 7 "java/util/ArrayList") (List.mem_of_getElem? (i := 7) rfl)) (hts (.instantiable "java/util/ArrayList" 3) (List.mem_of_getElem? (i := 8) rfl)) (hts (.initialized "java/util/ArrayList") (List.mem_of_getElem? (i := 9) rfl)) hK hP hD hS hA rfl (fun j hj => by rcases (show j = 0 ∨ j = 1 ∨ j = 2 by omega) with rfl | rfl | rfl <;> rfl) (Nat.le_of_ble_eq_true rfl) (Nat.le_of_ble_eq_true rfl) d_MO_init_27 (fun q5 H hP hD hS => ?_)
  have hP : va_P (dC, dI) classes [(m0, .inr (8, [.ref q1, .ref q3, .null, .null, .null, .null, .int 0, .int 0, .long 0])), (q1, .inr (9, [.int 0, .ref de, .int 0])), (q3, .inr (9, [.int 0, .ref de, .int 0])), (q5, .inr (9, [.int 0, .null, .int 0]))] H := hP
  have hD : va_D A [(m0, .inr (8, [.ref q1, .ref q3, .null, .null, .null, .null, .int 0, .int 0, .long 0])), (q1, .inr (9, [.int 0, .ref de, .int 0])), (q3, .inr (9, [.int 0, .ref de, .int 0])), (q5, .inr (9, [.int 0, .null, .int 0]))] := hD
  refine W.widen (k := 3) (n := 9) (by omega) (by omega) ?_
  refine lv_dup hx hb d_MO_init_30 rfl ?_
  have hPc : va_P (dC, dI) classes [(q5, .inr (9, [.int 0, .null, .int 0]))] _ := hP.sub (ws' := [(q5, .inr (9, [.int 0, .null, .int 0]))]) [3] rfl
  have hKc : va_K (dC, dI) classes [] s := hK.sub (tys' := []) [] rfl
  have hDc : va_D _ [(q5, .inr (9, [.int 0, .null, .int 0]))] := hD.sub (ws' := [(q5, .inr (9, [.int 0, .null, .int 0]))]) [3] (by decide) rfl
  have hFc := va_free (wc := [(q5, .inr (9, [.int 0, .null, .int 0]))]) hD hS hA [3] rfl
  refine va_callv (va_runI (As := []) (rest := [.ref q5, .ref m0]) ⟨hx, hb, hml, hown, hts⟩ (c_AL_init l dC dI de q5 H.size) (cwI 0 hts g_MO_init_31 rfl rfl rfl (hts (.initialized "java/util/ArrayList") (List.mem_of_getElem? (i := 9) rfl)) (hts (.methodLink "LeastcodeModel" 9 ⟨"java/util/ArrayList", "<init>", "()V"⟩) (List.mem_of_getElem? (i := 23) rfl)) (hts (.instanceMethod ⟨"java/util/ArrayList", "<init>", "()V"⟩) (List.mem_of_getElem? (i := 24) rfl)) rfl (by decide +kernel) ⟨Nat.le_of_ble_eq_true rfl, Nat.le_of_ble_eq_true rfl⟩) ⟨fun a U g mk z => by obtain ⟨z0, z1, zP, zK, zD, zE0⟩ := z; exact ⟨z0, z1, zP, va_K.moved (u := U) (U := U.calling g mk a) (Vm.Alike.refl U.vm) zK, zD, zE0.moved (u := U) (U := U.calling g mk a) (Vm.Alike.refl U.vm)⟩, fun U hU hW => ⟨rfl, by rw [hU], by rw [hU]; exact hPc, va_K.moved hW.alike hKc, hDc.weaken (fun _ _ _ _ => trivial), by (try dsimp only); rw [hU]; exact ((hE6.kept (fun a h1 h2 => hS.2.1 a h1 h2)).narrow hFc).moved hW.alike⟩⟩ rfl rfl hl.1 rfl (lv_room (Nat.le_of_ble_eq_true rfl)) d_MO_init_31 ⟨(Nat.le_of_ble_eq_true rfl), (Nat.le_of_ble_eq_true rfl)⟩) hS (fun q _ h => hFc q h) hFc (fun u t H1 locs ht hvm hr6 hB hz1 hk1 hS => ?_)
  obtain ⟨hP1, hK1, hD1⟩ := hB
  rw [ht] at hP1
  have hK1 := va_K.moved hvm.symm hK1
  obtain ⟨hP, hD⟩ := va_join (wr := [(m0, .inr (8, [.ref q1, .ref q3, .null, .null, .null, .null, .int 0, .int 0, .long 0])), (q1, .inr (9, [.int 0, .ref de, .int 0])), (q3, .inr (9, [.int 0, .ref de, .int 0]))]) (w1 := [(q5, .inr (9, [.int 0, .ref de, .int 0]))]) hP hD [3] [0, 1, 2] rfl rfl (by decide) (by decide) hk1 hFc hP1 hD1
  clear hPc hDc hKc hFc hP1 hD1 hK1 hk1
  generalize H1 = H at hP hS ⊢
  have hP : va_P (dC, dI) classes [(m0, .inr (8, [.ref q1, .ref q3, .null, .null, .null, .null, .int 0, .int 0, .long 0])), (q1, .inr (9, [.int 0, .ref de, .int 0])), (q3, .inr (9, [.int 0, .ref de, .int 0])), (q5, .inr (9, [.int 0, .ref de, .int 0]))] H := hP
  have hD : va_D A [(m0, .inr (8, [.ref q1, .ref q3, .null, .null, .null, .null, .int 0, .int 0, .long 0])), (q1, .inr (9, [.int 0, .ref de, .int 0])), (q3, .inr (9, [.int 0, .ref de, .int 0])), (q5, .inr (9, [.int 0, .ref de, .int 0]))] := hD
  refine W.widen (k := 3) (n := 9) (by omega) (by omega) ?_
  refine va_putF (D := (dC, dI)) (ci := 8) (v := .ref q5) (ty := .object "java/util/ArrayList") (C := R_MO) (T := T_MO) (N := 9) hx hb hts in_MO_init_MO t_MO t_MO_ok n_MO hown hK hP hD hS 0 rfl rfl 2 (by decide) (hts (.fieldLink "LeastcodeModel" 19 "LeastcodeModel" "rules" "Ljava/util/ArrayList;") (List.mem_of_getElem? (i := 36) rfl)) (fun _ h9 => h9) rfl hin rfl (by decide +kernel) rfl rfl (Nat.le_of_ble_eq_true rfl) d_MO_init_34 (fun H locs hP hD hS => ?_)
  have hP : va_P (dC, dI) classes [(m0, .inr (8, [.ref q1, .ref q3, .ref q5, .null, .null, .null, .int 0, .int 0, .long 0])), (q1, .inr (9, [.int 0, .ref de, .int 0])), (q3, .inr (9, [.int 0, .ref de, .int 0])), (q5, .inr (9, [.int 0, .ref de, .int 0]))] H := hP
  have hD : va_D A [(m0, .inr (8, [.ref q1, .ref q3, .ref q5, .null, .null, .null, .int 0, .int 0, .long 0])), (q1, .inr (9, [.int 0, .ref de, .int 0])), (q3, .inr (9, [.int 0, .ref de, .int 0])), (q5, .inr (9, [.int 0, .ref de, .int 0]))] := hD
  refine lv_aload_n hx hb d_MO_init_37 rfl (lv_at hl 0 rfl) ?_
  refine va_ldcS hx hb hown hE5 d_MO_init_38 ?_
  refine vp_callSi (W.runV (As := []) (rest := [.ref m0]) ⟨hx, hb, hml, hown, hts⟩ (c_ST_length l sa va) (cwV 0 hts g_MO_init_40 rfl rfl rfl (by decide +kernel) ⟨Nat.le_of_ble_eq_true rfl, Nat.le_of_ble_eq_true rfl⟩) ⟨fun a U g mk z => by obtain ⟨z0, zE0, zE1, zE2, zE3, zE4⟩ := z; exact ⟨z0, zE0.moved (u := U) (U := U.calling g mk a) (Vm.Alike.refl U.vm), zE1.moved (u := U) (U := U.calling g mk a) (Vm.Alike.refl U.vm), zE2.moved (u := U) (U := U.calling g mk a) (Vm.Alike.refl U.vm), zE3.moved (u := U) (U := U.calling g mk a) (Vm.Alike.refl U.vm), zE4.moved (u := U) (U := U.calling g mk a) (Vm.Alike.refl U.vm)⟩, va_Orecv hE0 hS, fun U hU hW => ⟨rfl, by (try dsimp only); rw [hU]; exact ((hE0.kept (fun a h1 h2 => hS.2.1 a h1 h2)).narrow (B := fun _ => False) (fun _ h => h.elim)).moved hW.alike, by (try dsimp only); rw [hU]; exact ((hE1.kept (fun a h1 h2 => hS.2.1 a h1 h2)).narrow (B := fun _ => False) (fun _ h => h.elim)).moved hW.alike, by (try dsimp only); rw [hU]; exact ((hE2.kept (fun a h1 h2 => hS.2.1 a h1 h2)).narrow (B := fun _ => False) (fun _ h => h.elim)).moved hW.alike, by (try dsimp only); rw [hU]; exact ((hE3.kept (fun a h1 h2 => hS.2.1 a h1 h2)).narrow (B := fun _ => False) (fun _ h => h.elim)).moved hW.alike, by (try dsimp only); rw [hU]; exact ((hE4.kept (fun a h1 h2 => hS.2.1 a h1 h2)).narrow (B := fun _ => False) (fun _ h => h.elim)).moved hW.alike⟩⟩ rfl rfl hl.1 rfl (lv_room (Nat.le_of_ble_eq_true rfl)) d_MO_init_40 ⟨(Nat.le_of_ble_eq_true rfl), (Nat.le_of_ble_eq_true rfl)⟩) (fun r7 hr7 => ?_)
  replace hr7 := hr7.symm; subst hr7
  refine va_newa (D := (dC, dI)) (atype := .int) (a0 := (16, .inl (fun _ => 0))) (ty := .int) (N' := 16) hx hb (hts (.arrayClass .int) (List.mem_of_getElem? (i := 49) rfl)) rfl hK hP hD hS hA (fun cA => rfl) (by decide) (by decide) (Nat.le_of_ble_eq_true rfl) (Nat.le_of_ble_eq_true rfl) (Nat.le_of_ble_eq_true rfl) d_MO_init_43 (fun q8 cA9 H hK hP hD hS => ?_)
  have hP : va_P (dC, dI) classes [(m0, .inr (8, [.ref q1, .ref q3, .ref q5, .null, .null, .null, .int 0, .int 0, .long 0])), (q1, .inr (9, [.int 0, .ref de, .int 0])), (q3, .inr (9, [.int 0, .ref de, .int 0])), (q5, .inr (9, [.int 0, .ref de, .int 0])), (q8, .inl (cA9, 16, .inl (fun _ => 0)))] H := hP
  have hK : va_K (dC, dI) classes [(cA9, .int)] s := hK
  have hD : va_D A [(m0, .inr (8, [.ref q1, .ref q3, .ref q5, .null, .null, .null, .int 0, .int 0, .long 0])), (q1, .inr (9, [.int 0, .ref de, .int 0])), (q3, .inr (9, [.int 0, .ref de, .int 0])), (q5, .inr (9, [.int 0, .ref de, .int 0])), (q8, .inl (cA9, 16, .inl (fun _ => 0)))] := hD
  refine W.widen (k := 4) (n := 25) (by omega) (by omega) ?_
  refine va_putF (D := (dC, dI)) (ci := 8) (v := .ref q8) (ty := .array .int) (C := R_MO) (T := T_MO) (N := 9) hx hb hts in_MO_init_MO t_MO t_MO_ok n_MO hown hK hP hD hS 0 rfl rfl 3 (by decide) (hts (.fieldLink "LeastcodeModel" 30 "LeastcodeModel" "prices" "[I") (List.mem_of_getElem? (i := 50) rfl)) (fun _ h9 => h9) rfl hin rfl (by decide +kernel) rfl rfl (Nat.le_of_ble_eq_true rfl) d_MO_init_45 (fun H locs hP hD hS => ?_)
  have hP : va_P (dC, dI) classes [(m0, .inr (8, [.ref q1, .ref q3, .ref q5, .ref q8, .null, .null, .int 0, .int 0, .long 0])), (q1, .inr (9, [.int 0, .ref de, .int 0])), (q3, .inr (9, [.int 0, .ref de, .int 0])), (q5, .inr (9, [.int 0, .ref de, .int 0])), (q8, .inl (cA9, 16, .inl (fun _ => 0)))] H := hP
  have hD : va_D A [(m0, .inr (8, [.ref q1, .ref q3, .ref q5, .ref q8, .null, .null, .int 0, .int 0, .long 0])), (q1, .inr (9, [.int 0, .ref de, .int 0])), (q3, .inr (9, [.int 0, .ref de, .int 0])), (q5, .inr (9, [.int 0, .ref de, .int 0])), (q8, .inl (cA9, 16, .inl (fun _ => 0)))] := hD
  refine lv_aload_n hx hb d_MO_init_48 rfl (lv_at hl 0 rfl) ?_
  refine lv_sipush (v := 128) hx hb d_MO_init_49 (by decide) ?_
  refine va_newa (D := (dC, dI)) (atype := .int) (a0 := (128, .inl (fun _ => 0))) (ty := .int) (N' := 128) hx hb (hts (.arrayClass .int) (List.mem_of_getElem? (i := 49) rfl)) rfl hK hP hD hS hA (fun cA => rfl) (by decide) (by decide) (Nat.le_of_ble_eq_true rfl) (Nat.le_of_ble_eq_true rfl) (Nat.le_of_ble_eq_true rfl) d_MO_init_52 (fun q10 cA11 H hK hP hD hS => ?_)
  have hP : va_P (dC, dI) classes [(m0, .inr (8, [.ref q1, .ref q3, .ref q5, .ref q8, .null, .null, .int 0, .int 0, .long 0])), (q1, .inr (9, [.int 0, .ref de, .int 0])), (q3, .inr (9, [.int 0, .ref de, .int 0])), (q5, .inr (9, [.int 0, .ref de, .int 0])), (q8, .inl (cA9, 16, .inl (fun _ => 0))), (q10, .inl (cA11, 128, .inl (fun _ => 0)))] H := hP
  have hK : va_K (dC, dI) classes [(cA9, .int), (cA11, .int)] s := hK
  have hD : va_D A [(m0, .inr (8, [.ref q1, .ref q3, .ref q5, .ref q8, .null, .null, .int 0, .int 0, .long 0])), (q1, .inr (9, [.int 0, .ref de, .int 0])), (q3, .inr (9, [.int 0, .ref de, .int 0])), (q5, .inr (9, [.int 0, .ref de, .int 0])), (q8, .inl (cA9, 16, .inl (fun _ => 0))), (q10, .inl (cA11, 128, .inl (fun _ => 0)))] := hD
  refine W.widen (k := 5) (n := 153) (by omega) (by omega) ?_
  refine va_putF (D := (dC, dI)) (ci := 8) (v := .ref q10) (ty := .array .int) (C := R_MO) (T := T_MO) (N := 9) hx hb hts in_MO_init_MO t_MO t_MO_ok n_MO hown hK hP hD hS 0 rfl rfl 4 (by decide) (hts (.fieldLink "LeastcodeModel" 34 "LeastcodeModel" "kills" "[I") (List.mem_of_getElem? (i := 51) rfl)) (fun _ h9 => h9) rfl hin rfl (by decide +kernel) rfl rfl (Nat.le_of_ble_eq_true rfl) d_MO_init_54 (fun H locs hP hD hS => ?_)
  have hP : va_P (dC, dI) classes [(m0, .inr (8, [.ref q1, .ref q3, .ref q5, .ref q8, .ref q10, .null, .int 0, .int 0, .long 0])), (q1, .inr (9, [.int 0, .ref de, .int 0])), (q3, .inr (9, [.int 0, .ref de, .int 0])), (q5, .inr (9, [.int 0, .ref de, .int 0])), (q8, .inl (cA9, 16, .inl (fun _ => 0))), (q10, .inl (cA11, 128, .inl (fun _ => 0)))] H := hP
  have hD : va_D A [(m0, .inr (8, [.ref q1, .ref q3, .ref q5, .ref q8, .ref q10, .null, .int 0, .int 0, .long 0])), (q1, .inr (9, [.int 0, .ref de, .int 0])), (q3, .inr (9, [.int 0, .ref de, .int 0])), (q5, .inr (9, [.int 0, .ref de, .int 0])), (q8, .inl (cA9, 16, .inl (fun _ => 0))), (q10, .inl (cA11, 128, .inl (fun _ => 0)))] := hD
  refine lv_aload_n hx hb d_MO_init_57 rfl (lv_at hl 0 rfl) ?_
  refine lv_null hx hb d_MO_init_58 ?_
  refine va_put (D := (dC, dI)) (ci := 8) (v := .null) (ty := .object "java/util/List") (C := R_MO) (T := T_MO) (N := 9) hx hb hts in_MO_init_MO t_MO t_MO_ok n_MO hown hK hP hD hS 0 rfl rfl 5 (by decide) (hts (.fieldLink "LeastcodeModel" 37 "LeastcodeModel" "found" "Ljava/util/List;") (List.mem_of_getElem? (i := 52) rfl)) (fun _ h9 => h9) rfl (by decide +kernel) rfl rfl (Nat.le_of_ble_eq_true rfl) d_MO_init_59 (fun H locs hP hD hS => ?_)
  have hP : va_P (dC, dI) classes [(m0, .inr (8, [.ref q1, .ref q3, .ref q5, .ref q8, .ref q10, .null, .int 0, .int 0, .long 0])), (q1, .inr (9, [.int 0, .ref de, .int 0])), (q3, .inr (9, [.int 0, .ref de, .int 0])), (q5, .inr (9, [.int 0, .ref de, .int 0])), (q8, .inl (cA9, 16, .inl (fun _ => 0))), (q10, .inl (cA11, 128, .inl (fun _ => 0)))] H := hP
  have hD : va_D A [(m0, .inr (8, [.ref q1, .ref q3, .ref q5, .ref q8, .ref q10, .null, .int 0, .int 0, .long 0])), (q1, .inr (9, [.int 0, .ref de, .int 0])), (q3, .inr (9, [.int 0, .ref de, .int 0])), (q5, .inr (9, [.int 0, .ref de, .int 0])), (q8, .inl (cA9, 16, .inl (fun _ => 0))), (q10, .inl (cA11, 128, .inl (fun _ => 0)))] := hD
  refine lv_aload_n hx hb d_MO_init_62 rfl (lv_at hl 0 rfl) ?_
  refine lv_iconst (v := 0) hx hb d_MO_init_63 (by decide) ?_
  refine va_put (D := (dC, dI)) (ci := 8) (v := .int 0) (ty := .int) (C := R_MO) (T := T_MO) (N := 9) hx hb hts in_MO_init_MO t_MO t_MO_ok n_MO hown hK hP hD hS 0 rfl rfl 6 (by decide) (hts (.fieldLink "LeastcodeModel" 41 "LeastcodeModel" "wait" "I") (List.mem_of_getElem? (i := 53) rfl)) (fun _ h9 => h9) rfl (by decide +kernel) rfl rfl (Nat.le_of_ble_eq_true rfl) d_MO_init_64 (fun H locs hP hD hS => ?_)
  have hP : va_P (dC, dI) classes [(m0, .inr (8, [.ref q1, .ref q3, .ref q5, .ref q8, .ref q10, .null, .int 0, .int 0, .long 0])), (q1, .inr (9, [.int 0, .ref de, .int 0])), (q3, .inr (9, [.int 0, .ref de, .int 0])), (q5, .inr (9, [.int 0, .ref de, .int 0])), (q8, .inl (cA9, 16, .inl (fun _ => 0))), (q10, .inl (cA11, 128, .inl (fun _ => 0)))] H := hP
  have hD : va_D A [(m0, .inr (8, [.ref q1, .ref q3, .ref q5, .ref q8, .ref q10, .null, .int 0, .int 0, .long 0])), (q1, .inr (9, [.int 0, .ref de, .int 0])), (q3, .inr (9, [.int 0, .ref de, .int 0])), (q5, .inr (9, [.int 0, .ref de, .int 0])), (q8, .inl (cA9, 16, .inl (fun _ => 0))), (q10, .inl (cA11, 128, .inl (fun _ => 0)))] := hD
  refine lv_aload_n hx hb d_MO_init_67 rfl (lv_at hl 0 rfl) ?_
  refine lv_iconst (v := 0) hx hb d_MO_init_68 (by decide) ?_
  refine va_put (D := (dC, dI)) (ci := 8) (v := .int 0) (ty := .int) (C := R_MO) (T := T_MO) (N := 9) hx hb hts in_MO_init_MO t_MO t_MO_ok n_MO hown hK hP hD hS 0 rfl rfl 7 (by decide) (hts (.fieldLink "LeastcodeModel" 45 "LeastcodeModel" "thrown" "I") (List.mem_of_getElem? (i := 54) rfl)) (fun _ h9 => h9) rfl (by decide +kernel) rfl rfl (Nat.le_of_ble_eq_true rfl) d_MO_init_69 (fun H locs hP hD hS => ?_)
  have hP : va_P (dC, dI) classes [(m0, .inr (8, [.ref q1, .ref q3, .ref q5, .ref q8, .ref q10, .null, .int 0, .int 0, .long 0])), (q1, .inr (9, [.int 0, .ref de, .int 0])), (q3, .inr (9, [.int 0, .ref de, .int 0])), (q5, .inr (9, [.int 0, .ref de, .int 0])), (q8, .inl (cA9, 16, .inl (fun _ => 0))), (q10, .inl (cA11, 128, .inl (fun _ => 0)))] H := hP
  have hD : va_D A [(m0, .inr (8, [.ref q1, .ref q3, .ref q5, .ref q8, .ref q10, .null, .int 0, .int 0, .long 0])), (q1, .inr (9, [.int 0, .ref de, .int 0])), (q3, .inr (9, [.int 0, .ref de, .int 0])), (q5, .inr (9, [.int 0, .ref de, .int 0])), (q8, .inl (cA9, 16, .inl (fun _ => 0))), (q10, .inl (cA11, 128, .inl (fun _ => 0)))] := hD
  refine lv_aload_n hx hb d_MO_init_72 rfl (lv_at hl 0 rfl) ?_
  refine lv_lconst (v := 1) hx hb d_MO_init_73 (by decide) ?_
  refine va_put (D := (dC, dI)) (ci := 8) (v := .long 1) (ty := .long) (C := R_MO) (T := T_MO) (N := 9) hx hb hts in_MO_init_MO t_MO t_MO_ok n_MO hown hK hP hD hS 0 rfl rfl 8 (by decide) (hts (.fieldLink "LeastcodeModel" 48 "LeastcodeModel" "z" "J") (List.mem_of_getElem? (i := 55) rfl)) (fun _ h9 => h9) rfl (by decide +kernel) rfl rfl (Nat.le_of_ble_eq_true rfl) d_MO_init_74 (fun H locs hP hD hS => ?_)
  have hP : va_P (dC, dI) classes [(m0, .inr (8, [.ref q1, .ref q3, .ref q5, .ref q8, .ref q10, .null, .int 0, .int 0, .long 1])), (q1, .inr (9, [.int 0, .ref de, .int 0])), (q3, .inr (9, [.int 0, .ref de, .int 0])), (q5, .inr (9, [.int 0, .ref de, .int 0])), (q8, .inl (cA9, 16, .inl (fun _ => 0))), (q10, .inl (cA11, 128, .inl (fun _ => 0)))] H := hP
  have hD : va_D A [(m0, .inr (8, [.ref q1, .ref q3, .ref q5, .ref q8, .ref q10, .null, .int 0, .int 0, .long 1])), (q1, .inr (9, [.int 0, .ref de, .int 0])), (q3, .inr (9, [.int 0, .ref de, .int 0])), (q5, .inr (9, [.int 0, .ref de, .int 0])), (q8, .inl (cA9, 16, .inl (fun _ => 0))), (q10, .inl (cA11, 128, .inl (fun _ => 0)))] := hD
  refine lv_aload_n hx hb d_MO_init_77 rfl (lv_at hl 0 rfl) ?_
  refine va_get (D := (dC, dI)) (ci := 8) (v := .ref q8) (C := R_MO) (T := T_MO) (N := 9) hx hb hts in_MO_init_MO hown hK hP 0 rfl rfl 3 (by decide) (hts (.fieldLink "LeastcodeModel" 30 "LeastcodeModel" "prices" "[I") (List.mem_of_getElem? (i := 50) rfl)) (fun _ h9 => h9) rfl d_MO_init_78 ?_
  refine lv_iconst (v := 1) hx hb d_MO_init_81 (by decide) ?_
  have hPc : va_P (dC, dI) classes [(q8, .inl (cA9, 16, .inl (fun _ => 0)))] _ := hP.sub (ws' := [(q8, .inl (cA9, 16, .inl (fun _ => 0)))]) [4] rfl
  have hKc : va_K (dC, dI) classes [(cA9, .int)] s := hK.sub (tys' := [(cA9, .int)]) [0] rfl
  have hDc : va_D _ [(q8, .inl (cA9, 16, .inl (fun _ => 0)))] := hD.sub (ws' := [(q8, .inl (cA9, 16, .inl (fun _ => 0)))]) [4] (by decide) rfl
  have hFc := va_free (wc := [(q8, .inl (cA9, 16, .inl (fun _ => 0)))]) hD hS hA [4] rfl
  refine va_callv (va_runS (As := [.ref q8, .int 1]) (rest := []) ⟨hx, hb, hml, hown, hts⟩ (c_fill l dC dI q8 cA9 (fun _ => 0) 1 H.size) (va_cwS 2 hts g_MO_init_82 rfl rfl rfl (by decide +kernel) ⟨Nat.le_of_ble_eq_true rfl, Nat.le_of_ble_eq_true rfl⟩) ⟨fun a U g mk z => by obtain ⟨z0, z1, zP, zK, zD⟩ := z; exact ⟨z0, z1, zP, va_K.moved (u := U) (U := U.calling g mk a) (Vm.Alike.refl U.vm) zK, zD⟩, fun U hU hW => ⟨rfl, by rw [hU], by rw [hU]; exact hPc, va_K.moved hW.alike hKc, hDc.weaken (fun _ _ _ _ => trivial)⟩⟩ rfl rfl hl.1 rfl (lv_room (Nat.le_of_ble_eq_true rfl)) d_MO_init_82 ⟨(Nat.le_of_ble_eq_true rfl), (Nat.le_of_ble_eq_true rfl)⟩) hS (fun q _ h => hFc q h) hFc (fun u t H1 locs ht hvm hr12 hB hz1 hk1 hS => ?_)
  obtain ⟨f13, hP1, hK1, hD1⟩ := hB
  rw [ht] at hP1
  have hK1 := va_K.moved hvm.symm hK1
  obtain ⟨hP, hD⟩ := va_join (wr := [(m0, .inr (8, [.ref q1, .ref q3, .ref q5, .ref q8, .ref q10, .null, .int 0, .int 0, .long 1])), (q1, .inr (9, [.int 0, .ref de, .int 0])), (q3, .inr (9, [.int 0, .ref de, .int 0])), (q5, .inr (9, [.int 0, .ref de, .int 0])), (q10, .inl (cA11, 128, .inl (fun _ => 0)))]) (w1 := [(q8, .inl (cA9, 16, .inl (f13)))]) hP hD [4] [0, 1, 2, 3, 5] rfl rfl (by decide) (by decide) hk1 hFc hP1 hD1
  clear hPc hDc hKc hFc hP1 hD1 hK1 hk1
  generalize H1 = H at hP hS ⊢
  have hP : va_P (dC, dI) classes [(m0, .inr (8, [.ref q1, .ref q3, .ref q5, .ref q8, .ref q10, .null, .int 0, .int 0, .long 1])), (q1, .inr (9, [.int 0, .ref de, .int 0])), (q3, .inr (9, [.int 0, .ref de, .int 0])), (q5, .inr (9, [.int 0, .ref de, .int 0])), (q10, .inl (cA11, 128, .inl (fun _ => 0))), (q8, .inl (cA9, 16, .inl (f13)))] H := hP
  have hD : va_D A [(m0, .inr (8, [.ref q1, .ref q3, .ref q5, .ref q8, .ref q10, .null, .int 0, .int 0, .long 1])), (q1, .inr (9, [.int 0, .ref de, .int 0])), (q3, .inr (9, [.int 0, .ref de, .int 0])), (q5, .inr (9, [.int 0, .ref de, .int 0])), (q10, .inl (cA11, 128, .inl (fun _ => 0))), (q8, .inl (cA9, 16, .inl (f13)))] := hD
  refine W.widen (k := 5) (n := 153) (by omega) (by omega) ?_
  have hP9 : va_P (dC, dI) classes [(m0, .inr (8, [.ref q1, .ref q3, .ref q5, .ref q8, .ref q10, .null, .int 0, .int 0, .long 1])), (q1, .inr (9, [.int 0, .ref de, .int 0]))] H := hP.sub (ws' := [(m0, .inr (8, [.ref q1, .ref q3, .ref q5, .ref q8, .ref q10, .null, .int 0, .int 0, .long 1])), (q1, .inr (9, [.int 0, .ref de, .int 0]))]) [0, 1] rfl
  have hD9 := hD.sub (ws' := [(m0, .inr (8, [.ref q1, .ref q3, .ref q5, .ref q8, .ref q10, .null, .int 0, .int 0, .long 1])), (q1, .inr (9, [.int 0, .ref de, .int 0]))]) [0, 1] (by decide) rfl
  have hK9 := hK.sub (tys' := []) [] rfl
  refine W.widen (k := 5) (n := 153) (by omega) (by omega) ?_
  exact W.vret hx hb hr (fun t ht hW => ⟨⟨(), rfl, trivial, ⟨q1, ⟨q3, ⟨q5, ⟨q8, ⟨q10, ⟨by rw [ht]; exact hP9, va_K.moved hW.alike hK9, hD9⟩⟩⟩⟩⟩⟩⟩, hS.F ht⟩) hS.2.2 d_MO_init_85

abbrev rm_thrown : Room := { frames := 0, cells := 0, slots := 0, locals := 0 }
abbrev b_thrown : ByteArray := prog_11_method_2_code
def y_thrown : MethodName := ⟨"LeastcodeModel", "thrown", "()I"⟩
def w_thrown : List Cond := [.code ⟨"LeastcodeModel", "thrown", "()I"⟩ prog_11_method_2_code 1 (some .int), .laysFinal "LeastcodeModel" "LeastcodeModel" "programs" "Ljava/util/ArrayList;", .laysFinal "LeastcodeModel" "LeastcodeModel" "goals" "Ljava/util/ArrayList;", .laysFinal "LeastcodeModel" "LeastcodeModel" "rules" "Ljava/util/ArrayList;", .laysFinal "LeastcodeModel" "LeastcodeModel" "prices" "[I", .laysFinal "LeastcodeModel" "LeastcodeModel" "kills" "[I", .lays "LeastcodeModel" "LeastcodeModel" "found" "Ljava/util/List;", .lays "LeastcodeModel" "LeastcodeModel" "wait" "I", .lays "LeastcodeModel" "LeastcodeModel" "thrown" "I", .lays "LeastcodeModel" "LeastcodeModel" "z" "J", .fieldLink "LeastcodeModel" 45 "LeastcodeModel" "thrown" "I"]
theorem d_thrown_0 : decode b_thrown 0 = .ok (.aload_n 0, 1) := by decide +kernel
theorem d_thrown_1 : decode b_thrown 1 = .ok (.getfield 45, 3) := by decide +kernel
theorem d_thrown_4 : decode b_thrown 4 = .ok (.ireturn, 1) := by decide +kernel
theorem in_thrown_MO : ∀ v ∈ u_ws R_MO T_MO 9, v ∈ w_thrown := by decide +kernel
set_option maxHeartbeats 4000000 in
set_option maxRecDepth 100000 in
theorem c_thrown (l : Launch) (dC : Nat → ClassId) (dI : Nat → Nat → Nat) (m0 : Nat) (qp : Nat) (qg : Nat) (qr : Nat) (qk : Nat) (qs : Nat) : Met l y_thrown w_thrown rm_thrown (va_Pc [.ref m0] (fun U => va_P (dC, dI) classes [(m0, .inr (8, [.ref qp, .ref qg, .ref qr, .ref qk, .ref qs, .null, .int 0, .int 0, .long 1]))] U.heap ∧ va_K (dC, dI) classes [] U)) (vp_Si (fun r => r = 0)) 0 0 (fun _ => False) := by
  refine Met.ofW (cc := b_thrown) (maxL := 1) (ret := (some .int)) (by decide) rfl ?_
  intro p e s m args below meth c s₁ B hml hv
  obtain ⟨rfl, hP, hK⟩ := hv
  have hx := B.exec
  have hb := B.bytes
  have hr := B.returns
  have hts := atoms_spec (ws := w_thrown) B.pre
  have hown : s.vm.findClass "LeastcodeModel" = some m.cls := findClass_of_methodNamed B.named
  have hlocks := B.notSynchronized
  have hP : va_P (dC, dI) classes [(m0, .inr (8, [.ref qp, .ref qg, .ref qr, .ref qk, .ref qs, .null, .int 0, .int 0, .long 1]))] s.heap := hP
  have hl := lv_entry ([.ref m0]) (n := 1) (Nat.le_of_ble_eq_true rfl)
  rw [lg_entry_eq]
  generalize (lg_sl ([.ref m0]) ++ List.replicate (1 - (lg_sl ([.ref m0])).length) Slot.unset).toArray = ls at hl ⊢
  have hl : lv_has ls 1 [(0, .ref m0)] := hl
  refine lv_aload_n hx hb d_thrown_0 rfl (lv_at hl 0 rfl) ?_
  refine va_get (D := (dC, dI)) (ci := 8) (v := .int 0) (C := R_MO) (T := T_MO) (N := 9) hx hb hts in_thrown_MO hown hK hP 0 rfl rfl 7 (by decide) (hts (.fieldLink "LeastcodeModel" 45 "LeastcodeModel" "thrown" "I") (List.mem_of_getElem? (i := 10) rfl)) (fun _ h9 => h9) rfl d_thrown_1 ?_
  exact W.iret hx hb hr (fun t ht hW => ⟨_, rfl, rfl, ht⟩) (fun _ h => by cases h) d_thrown_4

abbrev rm_tells : Room := { frames := 0, cells := 0, slots := 0, locals := 0 }
abbrev b_tells : ByteArray := prog_11_method_5_code
def y_tells : MethodName := ⟨"LeastcodeModel", "tells", "(I)I"⟩
def w_tells : List Cond := [.code ⟨"LeastcodeModel", "tells", "(I)I"⟩ prog_11_method_5_code 2 (some .int), .laysFinal "LeastcodeModel" "LeastcodeModel" "programs" "Ljava/util/ArrayList;", .laysFinal "LeastcodeModel" "LeastcodeModel" "goals" "Ljava/util/ArrayList;", .laysFinal "LeastcodeModel" "LeastcodeModel" "rules" "Ljava/util/ArrayList;", .laysFinal "LeastcodeModel" "LeastcodeModel" "prices" "[I", .laysFinal "LeastcodeModel" "LeastcodeModel" "kills" "[I", .lays "LeastcodeModel" "LeastcodeModel" "found" "Ljava/util/List;", .lays "LeastcodeModel" "LeastcodeModel" "wait" "I", .lays "LeastcodeModel" "LeastcodeModel" "thrown" "I", .lays "LeastcodeModel" "LeastcodeModel" "z" "J", .fieldLink "LeastcodeModel" 45 "LeastcodeModel" "thrown" "I"]
theorem d_tells_0 : decode b_tells 0 = .ok (.aload_n 0, 1) := by decide +kernel
theorem d_tells_1 : decode b_tells 1 = .ok (.iconst 0, 1) := by decide +kernel
theorem d_tells_2 : decode b_tells 2 = .ok (.putfield 45, 3) := by decide +kernel
theorem d_tells_5 : decode b_tells 5 = .ok (.iload_n 1, 1) := by decide +kernel
theorem d_tells_6 : decode b_tells 6 = .ok (.ireturn, 1) := by decide +kernel
theorem in_tells_MO : ∀ v ∈ u_ws R_MO T_MO 9, v ∈ w_tells := by decide +kernel
set_option maxHeartbeats 4000000 in
set_option maxRecDepth 100000 in
theorem c_tells (l : Launch) (dC : Nat → ClassId) (dI : Nat → Nat → Nat) (m0 : Nat) (qp : Nat) (qg : Nat) (qr : Nat) (qk : Nat) (qs : Nat) (v : Int32) (sz : Nat) : Met l y_tells w_tells rm_tells (va_Pc [.ref m0, .int v] (fun U => U.heap.size = sz ∧ va_P (dC, dI) classes [(m0, .inr (8, [.ref qp, .ref qg, .ref qr, .ref qk, .ref qs, .null, .int 0, .int 0, .long 1]))] U.heap ∧ va_K (dC, dI) classes [] U ∧ va_D (fun _ => True) [(m0, .inr (8, [.ref qp, .ref qg, .ref qr, .ref qk, .ref qs, .null, .int 0, .int 0, .long 1]))])) (va_Qi (fun r (_ : Unit) => r = v) (fun _ t => va_P (dC, dI) classes [(m0, .inr (8, [.ref qp, .ref qg, .ref qr, .ref qk, .ref qs, .null, .int 0, .int 0, .long 1]))] t.heap ∧ va_K (dC, dI) classes [] t ∧ va_D (va_A [(m0, .inr (8, [.ref qp, .ref qg, .ref qr, .ref qk, .ref qs, .null, .int 0, .int 0, .long 1]))] sz) [(m0, .inr (8, [.ref qp, .ref qg, .ref qr, .ref qk, .ref qs, .null, .int 0, .int 0, .long 1]))]) (va_A [(m0, .inr (8, [.ref qp, .ref qg, .ref qr, .ref qk, .ref qs, .null, .int 0, .int 0, .long 1]))] sz)) 0 0 (va_A [(m0, .inr (8, [.ref qp, .ref qg, .ref qr, .ref qk, .ref qs, .null, .int 0, .int 0, .long 1]))] sz) := by
  refine Met.ofW (cc := b_tells) (maxL := 2) (ret := (some .int)) (by decide) rfl ?_
  intro p e s m args below meth c s₁ B hml hv
  obtain ⟨rfl, hsz, hP, hK, hD0⟩ := hv
  have hx := B.exec
  have hb := B.bytes
  have hr := B.returns
  have hts := atoms_spec (ws := w_tells) B.pre
  have hown : s.vm.findClass "LeastcodeModel" = some m.cls := findClass_of_methodNamed B.named
  have hlocks := B.notSynchronized
  subst hsz
  have hD := hD0.self (sz := s.heap.size)
  generalize hAe : va_A [(m0, .inr (8, [.ref qp, .ref qg, .ref qr, .ref qk, .ref qs, .null, .int 0, .int 0, .long 1]))] s.heap.size = A at hD ⊢
  have hA : ∀ q : Nat, s.heap.size ≤ q → A q := fun q h => by rw [← hAe]; exact Or.inr h
  have hS : va_S A s.heap s.heap [] := va_S.rf
  have hP : va_P (dC, dI) classes [(m0, .inr (8, [.ref qp, .ref qg, .ref qr, .ref qk, .ref qs, .null, .int 0, .int 0, .long 1]))] s.heap := hP
  have hl := lv_entry ([.ref m0, .int v]) (n := 2) (Nat.le_of_ble_eq_true rfl)
  rw [lg_entry_eq]
  generalize (lg_sl ([.ref m0, .int v]) ++ List.replicate (2 - (lg_sl ([.ref m0, .int v])).length) Slot.unset).toArray = ls at hl ⊢
  have hl : lv_has ls 2 [(0, .ref m0), (1, .int v)] := hl
  refine lv_aload_n hx hb d_tells_0 rfl (lv_at hl 0 rfl) ?_
  refine lv_iconst (v := 0) hx hb d_tells_1 (by decide) ?_
  refine va_put (D := (dC, dI)) (ci := 8) (v := .int 0) (ty := .int) (C := R_MO) (T := T_MO) (N := 9) hx hb hts in_tells_MO t_MO t_MO_ok n_MO hown hK hP hD hS 0 rfl rfl 7 (by decide) (hts (.fieldLink "LeastcodeModel" 45 "LeastcodeModel" "thrown" "I") (List.mem_of_getElem? (i := 10) rfl)) (fun _ h9 => h9) rfl (by decide +kernel) rfl rfl (Nat.le_of_ble_eq_true rfl) d_tells_2 (fun H locs hP hD hS => ?_)
  have hP : va_P (dC, dI) classes [(m0, .inr (8, [.ref qp, .ref qg, .ref qr, .ref qk, .ref qs, .null, .int 0, .int 0, .long 1]))] H := hP
  have hD : va_D A [(m0, .inr (8, [.ref qp, .ref qg, .ref qr, .ref qk, .ref qs, .null, .int 0, .int 0, .long 1]))] := hD
  refine lv_iload_n hx hb d_tells_5 rfl (lv_at hl 1 rfl) ?_
  have hP9 : va_P (dC, dI) classes [(m0, .inr (8, [.ref qp, .ref qg, .ref qr, .ref qk, .ref qs, .null, .int 0, .int 0, .long 1]))] H := hP.sub (ws' := [(m0, .inr (8, [.ref qp, .ref qg, .ref qr, .ref qk, .ref qs, .null, .int 0, .int 0, .long 1]))]) [0] rfl
  have hD9 := hD.sub (ws' := [(m0, .inr (8, [.ref qp, .ref qg, .ref qr, .ref qk, .ref qs, .null, .int 0, .int 0, .long 1]))]) [0] (by decide) rfl
  have hK9 := hK.sub (tys' := []) [] rfl
  refine W.widen (k := 0) (n := 0) (by omega) (by omega) ?_
  exact W.iret hx hb hr (fun t ht hW => ⟨⟨_, (), rfl, rfl, ⟨by rw [ht]; exact hP9, va_K.moved hW.alike hK9, hD9⟩⟩, hS.F ht⟩) hS.2.2 d_tells_6

abbrev rm_failsIf : Room := { frames := 0, cells := 0, slots := 0, locals := 0 }
abbrev b_failsIf : ByteArray := prog_11_method_6_code
def y_failsIf : MethodName := ⟨"LeastcodeModel", "failsIf", "(I)Z"⟩
def w_failsIf : List Cond := [.code ⟨"LeastcodeModel", "failsIf", "(I)Z"⟩ prog_11_method_6_code 2 (some .boolean), .laysFinal "LeastcodeModel" "LeastcodeModel" "programs" "Ljava/util/ArrayList;", .laysFinal "LeastcodeModel" "LeastcodeModel" "goals" "Ljava/util/ArrayList;", .laysFinal "LeastcodeModel" "LeastcodeModel" "rules" "Ljava/util/ArrayList;", .laysFinal "LeastcodeModel" "LeastcodeModel" "prices" "[I", .laysFinal "LeastcodeModel" "LeastcodeModel" "kills" "[I", .lays "LeastcodeModel" "LeastcodeModel" "found" "Ljava/util/List;", .lays "LeastcodeModel" "LeastcodeModel" "wait" "I", .lays "LeastcodeModel" "LeastcodeModel" "thrown" "I", .lays "LeastcodeModel" "LeastcodeModel" "z" "J", .fieldLink "LeastcodeModel" 45 "LeastcodeModel" "thrown" "I"]
theorem d_failsIf_0 : decode b_failsIf 0 = .ok (.aload_n 0, 1) := by decide +kernel
theorem d_failsIf_1 : decode b_failsIf 1 = .ok (.iload_n 1, 1) := by decide +kernel
theorem d_failsIf_2 : decode b_failsIf 2 = .ok (.putfield 45, 3) := by decide +kernel
theorem d_failsIf_5 : decode b_failsIf 5 = .ok (.iload_n 1, 1) := by decide +kernel
theorem d_failsIf_6 : decode b_failsIf 6 = .ok (.ifCond .le 7, 3) := by decide +kernel
theorem d_failsIf_13 : decode b_failsIf 13 = .ok (.iconst 0, 1) := by decide +kernel
theorem d_failsIf_14 : decode b_failsIf 14 = .ok (.ireturn, 1) := by decide +kernel
theorem in_failsIf_MO : ∀ v ∈ u_ws R_MO T_MO 9, v ∈ w_failsIf := by decide +kernel
set_option maxHeartbeats 4000000 in
set_option maxRecDepth 100000 in
theorem c_failsIf (l : Launch) (dC : Nat → ClassId) (dI : Nat → Nat → Nat) (m0 : Nat) (qp : Nat) (qg : Nat) (qr : Nat) (qk : Nat) (qs : Nat) (sz : Nat) : Met l y_failsIf w_failsIf rm_failsIf (va_Pc [.ref m0, .int 0] (fun U => U.heap.size = sz ∧ va_P (dC, dI) classes [(m0, .inr (8, [.ref qp, .ref qg, .ref qr, .ref qk, .ref qs, .null, .int 0, .int 0, .long 1]))] U.heap ∧ va_K (dC, dI) classes [] U ∧ va_D (fun _ => True) [(m0, .inr (8, [.ref qp, .ref qg, .ref qr, .ref qk, .ref qs, .null, .int 0, .int 0, .long 1]))])) (va_Qi (fun r (_ : Unit) => r = 0) (fun _ t => va_P (dC, dI) classes [(m0, .inr (8, [.ref qp, .ref qg, .ref qr, .ref qk, .ref qs, .null, .int 0, .int 0, .long 1]))] t.heap ∧ va_K (dC, dI) classes [] t ∧ va_D (va_A [(m0, .inr (8, [.ref qp, .ref qg, .ref qr, .ref qk, .ref qs, .null, .int 0, .int 0, .long 1]))] sz) [(m0, .inr (8, [.ref qp, .ref qg, .ref qr, .ref qk, .ref qs, .null, .int 0, .int 0, .long 1]))]) (va_A [(m0, .inr (8, [.ref qp, .ref qg, .ref qr, .ref qk, .ref qs, .null, .int 0, .int 0, .long 1]))] sz)) 0 0 (va_A [(m0, .inr (8, [.ref qp, .ref qg, .ref qr, .ref qk, .ref qs, .null, .int 0, .int 0, .long 1]))] sz) := by
  refine Met.ofW (cc := b_failsIf) (maxL := 2) (ret := (some .boolean)) (by decide) rfl ?_
  intro p e s m args below meth c s₁ B hml hv
  obtain ⟨rfl, hsz, hP, hK, hD0⟩ := hv
  have hx := B.exec
  have hb := B.bytes
  have hr := B.returns
  have hts := atoms_spec (ws := w_failsIf) B.pre
  have hown : s.vm.findClass "LeastcodeModel" = some m.cls := findClass_of_methodNamed B.named
  have hlocks := B.notSynchronized
  subst hsz
  have hD := hD0.self (sz := s.heap.size)
  generalize hAe : va_A [(m0, .inr (8, [.ref qp, .ref qg, .ref qr, .ref qk, .ref qs, .null, .int 0, .int 0, .long 1]))] s.heap.size = A at hD ⊢
  have hA : ∀ q : Nat, s.heap.size ≤ q → A q := fun q h => by rw [← hAe]; exact Or.inr h
  have hS : va_S A s.heap s.heap [] := va_S.rf
  have hP : va_P (dC, dI) classes [(m0, .inr (8, [.ref qp, .ref qg, .ref qr, .ref qk, .ref qs, .null, .int 0, .int 0, .long 1]))] s.heap := hP
  have hl := lv_entry ([.ref m0, .int 0]) (n := 2) (Nat.le_of_ble_eq_true rfl)
  rw [lg_entry_eq]
  generalize (lg_sl ([.ref m0, .int 0]) ++ List.replicate (2 - (lg_sl ([.ref m0, .int 0])).length) Slot.unset).toArray = ls at hl ⊢
  have hl : lv_has ls 2 [(0, .ref m0), (1, .int 0)] := hl
  refine lv_aload_n hx hb d_failsIf_0 rfl (lv_at hl 0 rfl) ?_
  refine lv_iload_n hx hb d_failsIf_1 rfl (lv_at hl 1 rfl) ?_
  refine va_put (D := (dC, dI)) (ci := 8) (v := .int 0) (ty := .int) (C := R_MO) (T := T_MO) (N := 9) hx hb hts in_failsIf_MO t_MO t_MO_ok n_MO hown hK hP hD hS 0 rfl rfl 7 (by decide) (hts (.fieldLink "LeastcodeModel" 45 "LeastcodeModel" "thrown" "I") (List.mem_of_getElem? (i := 10) rfl)) (fun _ h9 => h9) rfl (by decide +kernel) rfl rfl (Nat.le_of_ble_eq_true rfl) d_failsIf_2 (fun H locs hP hD hS => ?_)
  have hP : va_P (dC, dI) classes [(m0, .inr (8, [.ref qp, .ref qg, .ref qr, .ref qk, .ref qs, .null, .int 0, .int 0, .long 1]))] H := hP
  have hD : va_D A [(m0, .inr (8, [.ref qp, .ref qg, .ref qr, .ref qk, .ref qs, .null, .int 0, .int 0, .long 1]))] := hD
  refine lv_iload_n hx hb d_failsIf_5 rfl (lv_at hl 1 rfl) ?_
  refine lv_if_le (tgt := 13) hx hb d_failsIf_6 (by decide) (fun c_6 => ?_) (fun c_6 => ?_)
  · skip
    refine lv_iconst (v := 0) hx hb d_failsIf_13 (by decide) ?_
    have hP9 : va_P (dC, dI) classes [(m0, .inr (8, [.ref qp, .ref qg, .ref qr, .ref qk, .ref qs, .null, .int 0, .int 0, .long 1]))] H := hP.sub (ws' := [(m0, .inr (8, [.ref qp, .ref qg, .ref qr, .ref qk, .ref qs, .null, .int 0, .int 0, .long 1]))]) [0] rfl
    have hD9 := hD.sub (ws' := [(m0, .inr (8, [.ref qp, .ref qg, .ref qr, .ref qk, .ref qs, .null, .int 0, .int 0, .long 1]))]) [0] (by decide) rfl
    have hK9 := hK.sub (tys' := []) [] rfl
    refine W.widen (k := 0) (n := 0) (by omega) (by omega) ?_
    exact W.zret hx hb hr rfl (fun t ht hW => ⟨⟨_, (), rfl, rfl, ⟨by rw [ht]; exact hP9, va_K.moved hW.alike hK9, hD9⟩⟩, hS.F ht⟩) hS.2.2 d_failsIf_14
  · exact absurd (by decide) c_6

abbrev rm_MO_addProgram : Room := { frames := 5, cells := 2, slots := 13, locals := 101 }
abbrev b_MO_addProgram : ByteArray := prog_11_method_20_code
def y_MO_addProgram : MethodName := ⟨"LeastcodeModel", "addProgram", "()I"⟩
def w_MO_addProgram : List Cond := [.code ⟨"LeastcodeModel", "addProgram", "()I"⟩ prog_11_method_20_code 1 (some .int), .laysFinal "LeastcodeModel" "LeastcodeModel" "programs" "Ljava/util/ArrayList;", .laysFinal "LeastcodeModel" "LeastcodeModel" "goals" "Ljava/util/ArrayList;", .laysFinal "LeastcodeModel" "LeastcodeModel" "rules" "Ljava/util/ArrayList;", .laysFinal "LeastcodeModel" "LeastcodeModel" "prices" "[I", .laysFinal "LeastcodeModel" "LeastcodeModel" "kills" "[I", .lays "LeastcodeModel" "LeastcodeModel" "found" "Ljava/util/List;", .lays "LeastcodeModel" "LeastcodeModel" "wait" "I", .lays "LeastcodeModel" "LeastcodeModel" "thrown" "I", .lays "LeastcodeModel" "LeastcodeModel" "z" "J", .fieldLink "LeastcodeModel" 10 "LeastcodeModel" "programs" "Ljava/util/ArrayList;", .methodLink "LeastcodeModel" 132 ⟨"java/util/ArrayList", "size", "()I"⟩, .instanceMethod ⟨"java/util/ArrayList", "size", "()I"⟩, .selects "java/util/ArrayList" ⟨"java/util/ArrayList", "size", "()I"⟩ ⟨"java/util/ArrayList", "size", "()I"⟩, .initialized "java/util/ArrayList", .code ⟨"java/util/ArrayList", "size", "()I"⟩ prog_50_method_8_code 1 (some .int), .lays "java/util/ArrayList" "java/util/AbstractList" "modCount" "I", .lays "java/util/ArrayList" "java/util/ArrayList" "elementData" "[Ljava/lang/Object;", .lays "java/util/ArrayList" "java/util/ArrayList" "size" "I", .fieldLink "java/util/ArrayList" 48 "java/util/ArrayList" "size" "I", .classLink "LeastcodeModel" 7 "java/util/ArrayList", .instantiable "java/util/ArrayList" 3, .code ⟨"java/util/ArrayList", "<init>", "()V"⟩ prog_50_method_2_code 1 none, .code ⟨"java/util/AbstractList", "<init>", "()V"⟩ prog_45_method_1_code 1 none, .code ⟨"java/util/AbstractCollection", "<init>", "()V"⟩ prog_44_method_1_code 1 none, .methodLink "java/util/AbstractCollection" 1 ⟨"java/lang/Object", "<init>", "()V"⟩, .instanceMethod ⟨"java/lang/Object", "<init>", "()V"⟩, .code ⟨"java/lang/Object", "<init>", "()V"⟩ object_method_1_code 1 none, .initialized "java/util/AbstractCollection", .methodLink "java/util/AbstractList" 1 ⟨"java/util/AbstractCollection", "<init>", "()V"⟩, .instanceMethod ⟨"java/util/AbstractCollection", "<init>", "()V"⟩, .fieldLink "java/util/AbstractList" 7 "java/util/AbstractList" "modCount" "I", .initialized "java/util/AbstractList", .methodLink "java/util/ArrayList" 1 ⟨"java/util/AbstractList", "<init>", "()V"⟩, .instanceMethod ⟨"java/util/AbstractList", "<init>", "()V"⟩, .fieldLink "java/util/ArrayList" 39 "java/util/ArrayList" "DEFAULTCAPACITY_EMPTY_ELEMENTDATA" "[Ljava/lang/Object;", .fieldLink "java/util/ArrayList" 9 "java/util/ArrayList" "elementData" "[Ljava/lang/Object;", .methodLink "LeastcodeModel" 9 ⟨"java/util/ArrayList", "<init>", "()V"⟩, .instanceMethod ⟨"java/util/ArrayList", "<init>", "()V"⟩, .methodLink "LeastcodeModel" 136 ⟨"java/util/ArrayList", "add", "(Ljava/lang/Object;)Z"⟩, .instanceMethod ⟨"java/util/ArrayList", "add", "(Ljava/lang/Object;)Z"⟩, .selects "java/util/ArrayList" ⟨"java/util/ArrayList", "add", "(Ljava/lang/Object;)Z"⟩ ⟨"java/util/ArrayList", "add", "(Ljava/lang/Object;)Z"⟩, .code ⟨"java/util/ArrayList", "add", "(Ljava/lang/Object;)Z"⟩ prog_50_method_25_code 2 (some .boolean), .sameField "java/util/ArrayList" "java/util/AbstractList" "modCount" "I", .fieldLink "java/util/ArrayList" 63 "java/util/ArrayList" "modCount" "I", .methodLink "java/util/ArrayList" 131 ⟨"java/util/ArrayList", "add", "(Ljava/lang/Object;[Ljava/lang/Object;I)V"⟩, .instanceMethod ⟨"java/util/ArrayList", "add", "(Ljava/lang/Object;[Ljava/lang/Object;I)V"⟩, .selects "java/util/ArrayList" ⟨"java/util/ArrayList", "add", "(Ljava/lang/Object;[Ljava/lang/Object;I)V"⟩ ⟨"java/util/ArrayList", "add", "(Ljava/lang/Object;[Ljava/lang/Object;I)V"⟩, .code ⟨"java/util/ArrayList", "add", "(Ljava/lang/Object;[Ljava/lang/Object;I)V"⟩ prog_50_method_24_code 4 none, .methodLink "java/util/ArrayList" 129 ⟨"java/util/ArrayList", "grow", "()[Ljava/lang/Object;"⟩, .instanceMethod ⟨"java/util/ArrayList", "grow", "()[Ljava/lang/Object;"⟩, .selects "java/util/ArrayList" ⟨"java/util/ArrayList", "grow", "()[Ljava/lang/Object;"⟩ ⟨"java/util/ArrayList", "grow", "()[Ljava/lang/Object;"⟩, .code ⟨"java/util/ArrayList", "grow", "()[Ljava/lang/Object;"⟩ prog_50_method_7_code 1 (some (.array (.object "java/lang/Object"))), .methodLink "java/util/ArrayList" 69 ⟨"java/util/ArrayList", "grow", "(I)[Ljava/lang/Object;"⟩, .instanceMethod ⟨"java/util/ArrayList", "grow", "(I)[Ljava/lang/Object;"⟩, .selects "java/util/ArrayList" ⟨"java/util/ArrayList", "grow", "(I)[Ljava/lang/Object;"⟩ ⟨"java/util/ArrayList", "grow", "(I)[Ljava/lang/Object;"⟩, .code ⟨"java/util/ArrayList", "grow", "(I)[Ljava/lang/Object;"⟩ prog_50_method_6_code 4 (some (.array (.object "java/lang/Object"))), .methodLink "java/util/ArrayList" 79 ⟨"java/lang/Math", "max", "(II)I"⟩, .static ⟨"java/lang/Math", "max", "(II)I"⟩, .initialized "java/lang/Math", .code ⟨"java/lang/Math", "max", "(II)I"⟩ prog_31_method_65_code 2 (some .int), .classLink "java/util/ArrayList" 7 "java/lang/Object", .methodLink "LeastcodeModel" 140 ⟨"LeastcodeModel", "tells", "(I)I"⟩, .instanceMethod ⟨"LeastcodeModel", "tells", "(I)I"⟩, .selects "LeastcodeModel" ⟨"LeastcodeModel", "tells", "(I)I"⟩ ⟨"LeastcodeModel", "tells", "(I)I"⟩, .initialized "LeastcodeModel", .code ⟨"LeastcodeModel", "tells", "(I)I"⟩ prog_11_method_5_code 2 (some .int), .fieldLink "LeastcodeModel" 45 "LeastcodeModel" "thrown" "I"]
theorem d_MO_addProgram_0 : decode b_MO_addProgram 0 = .ok (.aload_n 0, 1) := by decide +kernel
theorem d_MO_addProgram_1 : decode b_MO_addProgram 1 = .ok (.getfield 10, 3) := by decide +kernel
theorem d_MO_addProgram_4 : decode b_MO_addProgram 4 = .ok (.invokevirtual 132, 3) := by decide +kernel
theorem d_MO_addProgram_7 : decode b_MO_addProgram 7 = .ok (.bipush 8, 2) := by decide +kernel
theorem d_MO_addProgram_9 : decode b_MO_addProgram 9 = .ok (.if_icmp .ne 9, 3) := by decide +kernel
theorem d_MO_addProgram_18 : decode b_MO_addProgram 18 = .ok (.aload_n 0, 1) := by decide +kernel
theorem d_MO_addProgram_19 : decode b_MO_addProgram 19 = .ok (.getfield 10, 3) := by decide +kernel
theorem d_MO_addProgram_22 : decode b_MO_addProgram 22 = .ok (.new 7, 3) := by decide +kernel
theorem d_MO_addProgram_25 : decode b_MO_addProgram 25 = .ok (.dup, 1) := by decide +kernel
theorem d_MO_addProgram_26 : decode b_MO_addProgram 26 = .ok (.invokespecial 9, 3) := by decide +kernel
theorem d_MO_addProgram_29 : decode b_MO_addProgram 29 = .ok (.invokevirtual 136, 3) := by decide +kernel
theorem d_MO_addProgram_32 : decode b_MO_addProgram 32 = .ok (.pop, 1) := by decide +kernel
theorem d_MO_addProgram_33 : decode b_MO_addProgram 33 = .ok (.aload_n 0, 1) := by decide +kernel
theorem d_MO_addProgram_34 : decode b_MO_addProgram 34 = .ok (.aload_n 0, 1) := by decide +kernel
theorem d_MO_addProgram_35 : decode b_MO_addProgram 35 = .ok (.getfield 10, 3) := by decide +kernel
theorem d_MO_addProgram_38 : decode b_MO_addProgram 38 = .ok (.invokevirtual 132, 3) := by decide +kernel
theorem d_MO_addProgram_41 : decode b_MO_addProgram 41 = .ok (.iconst 1, 1) := by decide +kernel
theorem d_MO_addProgram_42 : decode b_MO_addProgram 42 = .ok (.isub, 1) := by decide +kernel
theorem d_MO_addProgram_43 : decode b_MO_addProgram 43 = .ok (.invokevirtual 140, 3) := by decide +kernel
theorem d_MO_addProgram_46 : decode b_MO_addProgram 46 = .ok (.ireturn, 1) := by decide +kernel
theorem in_MO_addProgram_MO : ∀ v ∈ u_ws R_MO T_MO 9, v ∈ w_MO_addProgram := by decide +kernel
theorem in_MO_addProgram_AL : ∀ v ∈ u_ws R_AL T_AL 3, v ∈ w_MO_addProgram := by decide +kernel
set_option maxRecDepth 20000 in
theorem g_MO_addProgram_4 : GoodIn w_MO_addProgram (wsV "LeastcodeModel" 132 "java/util/ArrayList" ⟨"java/util/ArrayList", "size", "()I"⟩ w_AL_size) := goodIn_r _ [11, 12, 13, 14, 15, 16, 17, 18, 19] rfl (by decide +kernel)
set_option maxRecDepth 20000 in
theorem g_MO_addProgram_26 : GoodIn w_MO_addProgram (w_AL_init) := goodIn_r _ [22, 23, 24, 25, 26, 27, 28, 29, 30, 16, 17, 18, 31, 32, 33, 34, 35, 36] rfl (by decide +kernel)
set_option maxRecDepth 20000 in
theorem g_MO_addProgram_29 : GoodIn w_MO_addProgram (wsV "LeastcodeModel" 136 "java/util/ArrayList" ⟨"java/util/ArrayList", "add", "(Ljava/lang/Object;)Z"⟩ w_AL_addL) := goodIn_r _ [39, 40, 41, 14, 42, 43, 16, 17, 18, 44, 36, 19, 45, 46, 47, 14, 48, 49, 50, 51, 52, 53, 54, 55, 56, 35, 57, 58, 59, 60, 61] rfl (by decide +kernel)
set_option maxRecDepth 20000 in
theorem g_MO_addProgram_38 : GoodIn w_MO_addProgram (wsV "LeastcodeModel" 132 "java/util/ArrayList" ⟨"java/util/ArrayList", "size", "()I"⟩ w_AL_size) := goodIn_r _ [11, 12, 13, 14, 15, 16, 17, 18, 19] rfl (by decide +kernel)
set_option maxRecDepth 20000 in
theorem g_MO_addProgram_43 : GoodIn w_MO_addProgram (wsV "LeastcodeModel" 140 "LeastcodeModel" ⟨"LeastcodeModel", "tells", "(I)I"⟩ w_tells) := goodIn_r _ [62, 63, 64, 65, 66, 1, 2, 3, 4, 5, 6, 7, 8, 9, 67] rfl (by decide +kernel)
set_option maxHeartbeats 4000000 in
set_option maxRecDepth 100000 in
theorem c_MO_addProgram (l : Launch) (dC : Nat → ClassId) (dI : Nat → Nat → Nat) (de : Nat) (fde : Nat → Value) (m0 : Nat) (qp : Nat) (qg : Nat) (qr : Nat) (qk : Nat) (qs : Nat) (mp_ : Int32) (sz : Nat) : Met l y_MO_addProgram w_MO_addProgram rm_MO_addProgram (va_Pc [.ref m0] (fun U => U.heap.size = sz ∧ va_P (dC, dI) classes [(m0, .inr (8, [.ref qp, .ref qg, .ref qr, .ref qk, .ref qs, .null, .int 0, .int 0, .long 1])), (qp, .inr (9, [.int mp_, .ref de, .int 0]))] U.heap ∧ va_K (dC, dI) classes [] U ∧ va_D (fun _ => True) [(m0, .inr (8, [.ref qp, .ref qg, .ref qr, .ref qk, .ref qs, .null, .int 0, .int 0, .long 1])), (qp, .inr (9, [.int mp_, .ref de, .int 0]))] ∧ va_Z "java/util/ArrayList" "DEFAULTCAPACITY_EMPTY_ELEMENTDATA" "[Ljava/lang/Object;" (.ref de) (va_A [(m0, .inr (8, [.ref qp, .ref qg, .ref qr, .ref qk, .ref qs, .null, .int 0, .int 0, .long 1])), (qp, .inr (9, [.int mp_, .ref de, .int 0]))] sz) U U.heap ∧ va_T (.object "java/lang/Object") de 0 fde (va_A [(m0, .inr (8, [.ref qp, .ref qg, .ref qr, .ref qk, .ref qs, .null, .int 0, .int 0, .long 1])), (qp, .inr (9, [.int mp_, .ref de, .int 0]))] sz) U U.heap ∧ va_AO "java/lang/Object" U ∧ va_Nw (.castable "java/util/ArrayList" "java/lang/Object") U)) (va_Qi (fun r (_ : Unit) => r = 0) (fun _ t => ∃ ql : Nat, ∃ m1 : Int32, ∃ ed : Nat, ∃ cB : ClassId, ∃ f1 : Nat → Option Nat, va_P (dC, dI) classes [(m0, .inr (8, [.ref qp, .ref qg, .ref qr, .ref qk, .ref qs, .null, .int 0, .int 0, .long 1])), (qp, .inr (9, [.int m1, .ref ed, .int 1])), (ed, .inl (cB, 10, .inr (.inr (.inr (.inr (f1)))))), (ql, .inr (9, [.int 0, .ref de, .int 0]))] t.heap ∧ va_K (dC, dI) classes [(cB, .object "java/lang/Object")] t ∧ va_D (va_A [(m0, .inr (8, [.ref qp, .ref qg, .ref qr, .ref qk, .ref qs, .null, .int 0, .int 0, .long 1])), (qp, .inr (9, [.int mp_, .ref de, .int 0]))] sz) [(m0, .inr (8, [.ref qp, .ref qg, .ref qr, .ref qk, .ref qs, .null, .int 0, .int 0, .long 1])), (qp, .inr (9, [.int m1, .ref ed, .int 1])), (ed, .inl (cB, 10, .inr (.inr (.inr (.inr (f1)))))), (ql, .inr (9, [.int 0, .ref de, .int 0]))] ∧ f1 0 = some ql) (va_A [(m0, .inr (8, [.ref qp, .ref qg, .ref qr, .ref qk, .ref qs, .null, .int 0, .int 0, .long 1])), (qp, .inr (9, [.int mp_, .ref de, .int 0]))] sz)) 2 13 (va_A [(m0, .inr (8, [.ref qp, .ref qg, .ref qr, .ref qk, .ref qs, .null, .int 0, .int 0, .long 1])), (qp, .inr (9, [.int mp_, .ref de, .int 0]))] sz) := by
  refine Met.ofW (cc := b_MO_addProgram) (maxL := 1) (ret := (some .int)) (by decide) rfl ?_
  intro p e s m args below meth c s₁ B hml hv
  obtain ⟨rfl, hsz, hP, hK, hD0, hE0, hE1, hE2, hE3⟩ := hv
  have hx := B.exec
  have hb := B.bytes
  have hr := B.returns
  have hts := atoms_spec (ws := w_MO_addProgram) B.pre
  have hown : s.vm.findClass "LeastcodeModel" = some m.cls := findClass_of_methodNamed B.named
  have hlocks := B.notSynchronized
  subst hsz
  have hD := hD0.self (sz := s.heap.size)
  generalize hAe : va_A [(m0, .inr (8, [.ref qp, .ref qg, .ref qr, .ref qk, .ref qs, .null, .int 0, .int 0, .long 1])), (qp, .inr (9, [.int mp_, .ref de, .int 0]))] s.heap.size = A at hD hE0 hE1 hE2 hE3 ⊢
  have hA : ∀ q : Nat, s.heap.size ≤ q → A q := fun q h => by rw [← hAe]; exact Or.inr h
  have hS : va_S A s.heap s.heap [] := va_S.rf
  have hP : va_P (dC, dI) classes [(m0, .inr (8, [.ref qp, .ref qg, .ref qr, .ref qk, .ref qs, .null, .int 0, .int 0, .long 1])), (qp, .inr (9, [.int mp_, .ref de, .int 0]))] s.heap := hP
  have hl := lv_entry ([.ref m0]) (n := 1) (Nat.le_of_ble_eq_true rfl)
  rw [lg_entry_eq]
  generalize (lg_sl ([.ref m0]) ++ List.replicate (1 - (lg_sl ([.ref m0])).length) Slot.unset).toArray = ls at hl ⊢
  have hl : lv_has ls 1 [(0, .ref m0)] := hl
  refine lv_aload_n hx hb d_MO_addProgram_0 rfl (lv_at hl 0 rfl) ?_
  refine va_get (D := (dC, dI)) (ci := 8) (v := .ref qp) (C := R_MO) (T := T_MO) (N := 9) hx hb hts in_MO_addProgram_MO hown hK hP 0 rfl rfl 0 (by decide) (hts (.fieldLink "LeastcodeModel" 10 "LeastcodeModel" "programs" "Ljava/util/ArrayList;") (List.mem_of_getElem? (i := 10) rfl)) (fun _ h9 => h9) rfl d_MO_addProgram_1 ?_
  have hPc : va_P (dC, dI) classes [(qp, .inr (9, [.int mp_, .ref de, .int 0]))] _ := hP.sub (ws' := [(qp, .inr (9, [.int mp_, .ref de, .int 0]))]) [1] rfl
  have hKc : va_K (dC, dI) classes [] s := hK.sub (tys' := []) [] rfl
  refine vp_callSi (W.runV (As := []) (rest := []) ⟨hx, hb, hml, hown, hts⟩ (c_AL_size l dC dI qp mp_ de 0) (cwV 0 hts g_MO_addProgram_4 rfl rfl rfl (by decide +kernel) ⟨Nat.le_of_ble_eq_true rfl, Nat.le_of_ble_eq_true rfl⟩) ⟨fun a U g mk z => by obtain ⟨z0, zP, zK⟩ := z; exact ⟨z0, zP, va_K.moved (u := U) (U := U.calling g mk a) (Vm.Alike.refl U.vm) zK⟩, va_recv hKc hPc (ci := 9) (q0 := 0) rfl rfl, fun U hU hW => ⟨rfl, by rw [hU]; exact hPc, va_K.moved hW.alike hKc⟩⟩ rfl rfl hl.1 rfl (lv_room (Nat.le_of_ble_eq_true rfl)) d_MO_addProgram_4 ⟨(Nat.le_of_ble_eq_true rfl), (Nat.le_of_ble_eq_true rfl)⟩) (fun r1 hr1 => ?_)
  replace hr1 := hr1.symm; subst hr1
  refine lv_bipush (v := 8) hx hb d_MO_addProgram_7 (by decide) ?_
  refine lv_icmp_ne (tgt := 18) hx hb d_MO_addProgram_9 (by decide) (fun c_9 => ?_) (fun c_9 => ?_)
  · skip
    refine lv_aload_n hx hb d_MO_addProgram_18 rfl (lv_at hl 0 rfl) ?_
    refine va_get (D := (dC, dI)) (ci := 8) (v := .ref qp) (C := R_MO) (T := T_MO) (N := 9) hx hb hts in_MO_addProgram_MO hown hK hP 0 rfl rfl 0 (by decide) (hts (.fieldLink "LeastcodeModel" 10 "LeastcodeModel" "programs" "Ljava/util/ArrayList;") (List.mem_of_getElem? (i := 10) rfl)) (fun _ h9 => h9) rfl d_MO_addProgram_19 ?_
    refine va_new (D := (dC, dI)) (ci := 9) (fs := [.int 0, .null, .int 0]) (C := R_AL) (T := T_AL) (N := 3) hx hb hts in_MO_addProgram_AL t_AL t_AL_ok hown (hts (.classLink "LeastcodeModel" 7 "java/util/ArrayList") (List.mem_of_getElem? (i := 20) rfl)) (hts (.instantiable "java/util/ArrayList" 3) (List.mem_of_getElem? (i := 21) rfl)) (hts (.initialized "java/util/ArrayList") (List.mem_of_getElem? (i := 14) rfl)) hK hP hD hS hA rfl (fun j hj => by rcases (show j = 0 ∨ j = 1 ∨ j = 2 by omega) with rfl | rfl | rfl <;> rfl) (Nat.le_of_ble_eq_true rfl) (Nat.le_of_ble_eq_true rfl) d_MO_addProgram_22 (fun q2 H hP hD hS => ?_)
    have hP : va_P (dC, dI) classes [(m0, .inr (8, [.ref qp, .ref qg, .ref qr, .ref qk, .ref qs, .null, .int 0, .int 0, .long 1])), (qp, .inr (9, [.int mp_, .ref de, .int 0])), (q2, .inr (9, [.int 0, .null, .int 0]))] H := hP
    have hD : va_D A [(m0, .inr (8, [.ref qp, .ref qg, .ref qr, .ref qk, .ref qs, .null, .int 0, .int 0, .long 1])), (qp, .inr (9, [.int mp_, .ref de, .int 0])), (q2, .inr (9, [.int 0, .null, .int 0]))] := hD
    refine W.widen (k := 1) (n := 3) (by omega) (by omega) ?_
    refine lv_dup hx hb d_MO_addProgram_25 rfl ?_
    have hPc : va_P (dC, dI) classes [(q2, .inr (9, [.int 0, .null, .int 0]))] _ := hP.sub (ws' := [(q2, .inr (9, [.int 0, .null, .int 0]))]) [2] rfl
    have hKc : va_K (dC, dI) classes [] s := hK.sub (tys' := []) [] rfl
    have hDc : va_D _ [(q2, .inr (9, [.int 0, .null, .int 0]))] := hD.sub (ws' := [(q2, .inr (9, [.int 0, .null, .int 0]))]) [2] (by decide) rfl
    have hFc := va_free (wc := [(q2, .inr (9, [.int 0, .null, .int 0]))]) hD hS hA [2] rfl
    refine va_callv (va_runI (As := []) (rest := [.ref q2, .ref qp]) ⟨hx, hb, hml, hown, hts⟩ (c_AL_init l dC dI de q2 H.size) (cwI 0 hts g_MO_addProgram_26 rfl rfl rfl (hts (.initialized "java/util/ArrayList") (List.mem_of_getElem? (i := 14) rfl)) (hts (.methodLink "LeastcodeModel" 9 ⟨"java/util/ArrayList", "<init>", "()V"⟩) (List.mem_of_getElem? (i := 37) rfl)) (hts (.instanceMethod ⟨"java/util/ArrayList", "<init>", "()V"⟩) (List.mem_of_getElem? (i := 38) rfl)) rfl (by decide +kernel) ⟨Nat.le_of_ble_eq_true rfl, Nat.le_of_ble_eq_true rfl⟩) ⟨fun a U g mk z => by obtain ⟨z0, z1, zP, zK, zD, zE0⟩ := z; exact ⟨z0, z1, zP, va_K.moved (u := U) (U := U.calling g mk a) (Vm.Alike.refl U.vm) zK, zD, zE0.moved (u := U) (U := U.calling g mk a) (Vm.Alike.refl U.vm)⟩, fun U hU hW => ⟨rfl, by rw [hU], by rw [hU]; exact hPc, va_K.moved hW.alike hKc, hDc.weaken (fun _ _ _ _ => trivial), by (try dsimp only); rw [hU]; exact ((hE0.kept (fun a h1 h2 => hS.2.1 a h1 h2)).narrow hFc).moved hW.alike⟩⟩ rfl rfl hl.1 rfl (lv_room (Nat.le_of_ble_eq_true rfl)) d_MO_addProgram_26 ⟨(Nat.le_of_ble_eq_true rfl), (Nat.le_of_ble_eq_true rfl)⟩) hS (fun q _ h => hFc q h) hFc (fun u t H1 locs ht hvm hr3 hB hz1 hk1 hS => ?_)
    obtain ⟨hP1, hK1, hD1⟩ := hB
    rw [ht] at hP1
    have hK1 := va_K.moved hvm.symm hK1
    obtain ⟨hP, hD⟩ := va_join (wr := [(m0, .inr (8, [.ref qp, .ref qg, .ref qr, .ref qk, .ref qs, .null, .int 0, .int 0, .long 1])), (qp, .inr (9, [.int mp_, .ref de, .int 0]))]) (w1 := [(q2, .inr (9, [.int 0, .ref de, .int 0]))]) hP hD [2] [0, 1] rfl rfl (by decide) (by decide) hk1 hFc hP1 hD1
    clear hPc hDc hKc hFc hP1 hD1 hK1 hk1
    generalize H1 = H at hP hS ⊢
    have hP : va_P (dC, dI) classes [(m0, .inr (8, [.ref qp, .ref qg, .ref qr, .ref qk, .ref qs, .null, .int 0, .int 0, .long 1])), (qp, .inr (9, [.int mp_, .ref de, .int 0])), (q2, .inr (9, [.int 0, .ref de, .int 0]))] H := hP
    have hD : va_D A [(m0, .inr (8, [.ref qp, .ref qg, .ref qr, .ref qk, .ref qs, .null, .int 0, .int 0, .long 1])), (qp, .inr (9, [.int mp_, .ref de, .int 0])), (q2, .inr (9, [.int 0, .ref de, .int 0]))] := hD
    refine W.widen (k := 1) (n := 3) (by omega) (by omega) ?_
    have hPc : va_P (dC, dI) classes [(qp, .inr (9, [.int mp_, .ref de, .int 0])), (q2, .inr (9, [.int 0, .ref de, .int 0]))] _ := hP.sub (ws' := [(qp, .inr (9, [.int mp_, .ref de, .int 0])), (q2, .inr (9, [.int 0, .ref de, .int 0]))]) [1, 2] rfl
    have hKc : va_K (dC, dI) classes [] s := hK.sub (tys' := []) [] rfl
    have hDc : va_D _ [(qp, .inr (9, [.int mp_, .ref de, .int 0])), (q2, .inr (9, [.int 0, .ref de, .int 0]))] := hD.sub (ws' := [(qp, .inr (9, [.int mp_, .ref de, .int 0])), (q2, .inr (9, [.int 0, .ref de, .int 0]))]) [1, 2] (by decide) rfl
    have hFc := va_free (wc := [(qp, .inr (9, [.int mp_, .ref de, .int 0])), (q2, .inr (9, [.int 0, .ref de, .int 0]))]) hD hS hA [1, 2] rfl
    refine va_calli (va_runV (As := [.ref q2]) (rest := []) ⟨hx, hb, hml, hown, hts⟩ (c_AL_addL l dC dI de fde qp mp_ q2 0 de 0 H.size) (cwV 1 hts g_MO_addProgram_29 rfl rfl rfl (by decide +kernel) ⟨Nat.le_of_ble_eq_true rfl, Nat.le_of_ble_eq_true rfl⟩) ⟨fun a U g mk z => by obtain ⟨z0, z1, zP, zK, zD, zE0, zE1, zE2, zE3⟩ := z; exact ⟨z0, z1, zP, va_K.moved (u := U) (U := U.calling g mk a) (Vm.Alike.refl U.vm) zK, zD, zE0.moved (u := U) (U := U.calling g mk a) (Vm.Alike.refl U.vm), zE1.moved (u := U) (U := U.calling g mk a) (Vm.Alike.refl U.vm), va_AO.moved (u := U) (U := U.calling g mk a) (Vm.Alike.refl U.vm) zE2, va_Nw.same rfl (u := U) (U := U.calling g mk a) rfl zE3⟩, va_recv hKc hPc (ci := 9) (q0 := 0) rfl rfl, fun U hU hW => ⟨rfl, by rw [hU], by rw [hU]; exact hPc, va_K.moved hW.alike hKc, hDc.weaken (fun _ _ _ _ => trivial), by (try dsimp only); rw [hU]; exact ((hE0.kept (fun a h1 h2 => hS.2.1 a h1 h2)).narrow hFc).moved hW.alike, by (try dsimp only); rw [hU]; exact ((hE1.kept (fun a h1 h2 => hS.2.1 a h1 h2)).narrow hFc).moved hW.alike, va_AO.moved hW.alike hE2, va_Nw.warmC hW hE3⟩⟩ rfl rfl hl.1 rfl (lv_room (Nat.le_of_ble_eq_true rfl)) d_MO_addProgram_29 ⟨(Nat.le_of_ble_eq_true rfl), (Nat.le_of_ble_eq_true rfl)⟩) hS (fun q _ h => hFc q h) hFc (fun r4 u t H1 locs ht hvm hr4 hB hz1 hk1 hS => ?_)
    obtain ⟨m5, ed6, cB7, f8, hP1, hK1, hD1, hpr4_0⟩ := hB
    rw [ht] at hP1
    have hK1 := va_K.moved hvm.symm hK1
    obtain ⟨hP, hD⟩ := va_join (wr := [(m0, .inr (8, [.ref qp, .ref qg, .ref qr, .ref qk, .ref qs, .null, .int 0, .int 0, .long 1]))]) (w1 := [(qp, .inr (9, [.int m5, .ref ed6, .int 1])), (ed6, .inl (cB7, 10, .inr (.inr (.inr (.inr (f8)))))), (q2, .inr (9, [.int 0, .ref de, .int 0]))]) hP hD [1, 2] [0] rfl rfl (by decide) (by decide) hk1 hFc hP1 hD1
    have hK := hK.app (hK1.sub (tys' := [(cB7, .object "java/lang/Object")]) [0] rfl)
    have hK : va_K (dC, dI) classes [(cB7, .object "java/lang/Object")] s := hK
    clear hPc hDc hKc hFc hP1 hD1 hK1 hk1
    generalize H1 = H at hP hS ⊢
    have hP : va_P (dC, dI) classes [(m0, .inr (8, [.ref qp, .ref qg, .ref qr, .ref qk, .ref qs, .null, .int 0, .int 0, .long 1])), (qp, .inr (9, [.int m5, .ref ed6, .int 1])), (ed6, .inl (cB7, 10, .inr (.inr (.inr (.inr (f8)))))), (q2, .inr (9, [.int 0, .ref de, .int 0]))] H := hP
    have hD : va_D A [(m0, .inr (8, [.ref qp, .ref qg, .ref qr, .ref qk, .ref qs, .null, .int 0, .int 0, .long 1])), (qp, .inr (9, [.int m5, .ref ed6, .int 1])), (ed6, .inl (cB7, 10, .inr (.inr (.inr (.inr (f8)))))), (q2, .inr (9, [.int 0, .ref de, .int 0]))] := hD
    refine W.widen (k := 2) (n := 13) (by omega) (by omega) ?_
    replace hr4 := hr4.symm; subst hr4
    refine lv_pop hx hb d_MO_addProgram_32 rfl ?_
    refine lv_aload_n hx hb d_MO_addProgram_33 rfl (lv_at hl 0 rfl) ?_
    refine lv_aload_n hx hb d_MO_addProgram_34 rfl (lv_at hl 0 rfl) ?_
    refine va_get (D := (dC, dI)) (ci := 8) (v := .ref qp) (C := R_MO) (T := T_MO) (N := 9) hx hb hts in_MO_addProgram_MO hown hK hP 0 rfl rfl 0 (by decide) (hts (.fieldLink "LeastcodeModel" 10 "LeastcodeModel" "programs" "Ljava/util/ArrayList;") (List.mem_of_getElem? (i := 10) rfl)) (fun _ h9 => h9) rfl d_MO_addProgram_35 ?_
    have hPc : va_P (dC, dI) classes [(qp, .inr (9, [.int m5, .ref ed6, .int 1]))] _ := hP.sub (ws' := [(qp, .inr (9, [.int m5, .ref ed6, .int 1]))]) [1] rfl
    have hKc : va_K (dC, dI) classes [] s := hK.sub (tys' := []) [] rfl
    refine vp_callSi (W.runV (As := []) (rest := [.ref m0]) ⟨hx, hb, hml, hown, hts⟩ (c_AL_size l dC dI qp m5 ed6 1) (cwV 0 hts g_MO_addProgram_38 rfl rfl rfl (by decide +kernel) ⟨Nat.le_of_ble_eq_true rfl, Nat.le_of_ble_eq_true rfl⟩) ⟨fun a U g mk z => by obtain ⟨z0, zP, zK⟩ := z; exact ⟨z0, zP, va_K.moved (u := U) (U := U.calling g mk a) (Vm.Alike.refl U.vm) zK⟩, va_recv hKc hPc (ci := 9) (q0 := 0) rfl rfl, fun U hU hW => ⟨rfl, by rw [hU]; exact hPc, va_K.moved hW.alike hKc⟩⟩ rfl rfl hl.1 rfl (lv_room (Nat.le_of_ble_eq_true rfl)) d_MO_addProgram_38 ⟨(Nat.le_of_ble_eq_true rfl), (Nat.le_of_ble_eq_true rfl)⟩) (fun r9 hr9 => ?_)
    replace hr9 := hr9.symm; subst hr9
    refine lv_iconst (v := 1) hx hb d_MO_addProgram_41 (by decide) ?_
    refine lv_isub hx hb d_MO_addProgram_42 ?_
    refine lv_topi (fun x10 ex10 => ?_)
    obtain rfl : 0 = x10 := Eq.symm (by rw [ex10]; decide)
    have hPc : va_P (dC, dI) classes [(m0, .inr (8, [.ref qp, .ref qg, .ref qr, .ref qk, .ref qs, .null, .int 0, .int 0, .long 1]))] _ := hP.sub (ws' := [(m0, .inr (8, [.ref qp, .ref qg, .ref qr, .ref qk, .ref qs, .null, .int 0, .int 0, .long 1]))]) [0] rfl
    have hKc : va_K (dC, dI) classes [] s := hK.sub (tys' := []) [] rfl
    have hDc : va_D _ [(m0, .inr (8, [.ref qp, .ref qg, .ref qr, .ref qk, .ref qs, .null, .int 0, .int 0, .long 1]))] := hD.sub (ws' := [(m0, .inr (8, [.ref qp, .ref qg, .ref qr, .ref qk, .ref qs, .null, .int 0, .int 0, .long 1]))]) [0] (by decide) rfl
    have hFc := va_free (wc := [(m0, .inr (8, [.ref qp, .ref qg, .ref qr, .ref qk, .ref qs, .null, .int 0, .int 0, .long 1]))]) hD hS hA [0] rfl
    refine va_calli (va_runV (As := [.int 0]) (rest := []) ⟨hx, hb, hml, hown, hts⟩ (c_tells l dC dI m0 qp qg qr qk qs 0 H.size) (cwV 1 hts g_MO_addProgram_43 rfl rfl rfl (by decide +kernel) ⟨Nat.le_of_ble_eq_true rfl, Nat.le_of_ble_eq_true rfl⟩) ⟨fun a U g mk z => by obtain ⟨z0, z1, zP, zK, zD⟩ := z; exact ⟨z0, z1, zP, va_K.moved (u := U) (U := U.calling g mk a) (Vm.Alike.refl U.vm) zK, zD⟩, va_recv hKc hPc (ci := 8) (q0 := 0) rfl rfl, fun U hU hW => ⟨rfl, by rw [hU], by rw [hU]; exact hPc, va_K.moved hW.alike hKc, hDc.weaken (fun _ _ _ _ => trivial)⟩⟩ rfl rfl hl.1 rfl (lv_room (Nat.le_of_ble_eq_true rfl)) d_MO_addProgram_43 ⟨(Nat.le_of_ble_eq_true rfl), (Nat.le_of_ble_eq_true rfl)⟩) hS (fun q _ h => hFc q h) hFc (fun r11 u t H1 locs ht hvm hr11 hB hz1 hk1 hS => ?_)
    obtain ⟨hP1, hK1, hD1⟩ := hB
    rw [ht] at hP1
    have hK1 := va_K.moved hvm.symm hK1
    obtain ⟨hP, hD⟩ := va_join (wr := [(qp, .inr (9, [.int m5, .ref ed6, .int 1])), (ed6, .inl (cB7, 10, .inr (.inr (.inr (.inr (f8)))))), (q2, .inr (9, [.int 0, .ref de, .int 0]))]) (w1 := [(m0, .inr (8, [.ref qp, .ref qg, .ref qr, .ref qk, .ref qs, .null, .int 0, .int 0, .long 1]))]) hP hD [0] [1, 2, 3] rfl rfl (by decide) (by decide) hk1 hFc hP1 hD1
    clear hPc hDc hKc hFc hP1 hD1 hK1 hk1
    generalize H1 = H at hP hS ⊢
    have hP : va_P (dC, dI) classes [(qp, .inr (9, [.int m5, .ref ed6, .int 1])), (ed6, .inl (cB7, 10, .inr (.inr (.inr (.inr (f8)))))), (q2, .inr (9, [.int 0, .ref de, .int 0])), (m0, .inr (8, [.ref qp, .ref qg, .ref qr, .ref qk, .ref qs, .null, .int 0, .int 0, .long 1]))] H := hP
    have hD : va_D A [(qp, .inr (9, [.int m5, .ref ed6, .int 1])), (ed6, .inl (cB7, 10, .inr (.inr (.inr (.inr (f8)))))), (q2, .inr (9, [.int 0, .ref de, .int 0])), (m0, .inr (8, [.ref qp, .ref qg, .ref qr, .ref qk, .ref qs, .null, .int 0, .int 0, .long 1]))] := hD
    refine W.widen (k := 2) (n := 13) (by omega) (by omega) ?_
    replace hr11 := hr11.symm; subst hr11
    have hP9 : va_P (dC, dI) classes [(m0, .inr (8, [.ref qp, .ref qg, .ref qr, .ref qk, .ref qs, .null, .int 0, .int 0, .long 1])), (qp, .inr (9, [.int m5, .ref ed6, .int 1])), (ed6, .inl (cB7, 10, .inr (.inr (.inr (.inr (f8)))))), (q2, .inr (9, [.int 0, .ref de, .int 0]))] H := hP.sub (ws' := [(m0, .inr (8, [.ref qp, .ref qg, .ref qr, .ref qk, .ref qs, .null, .int 0, .int 0, .long 1])), (qp, .inr (9, [.int m5, .ref ed6, .int 1])), (ed6, .inl (cB7, 10, .inr (.inr (.inr (.inr (f8)))))), (q2, .inr (9, [.int 0, .ref de, .int 0]))]) [3, 0, 1, 2] rfl
    have hD9 := hD.sub (ws' := [(m0, .inr (8, [.ref qp, .ref qg, .ref qr, .ref qk, .ref qs, .null, .int 0, .int 0, .long 1])), (qp, .inr (9, [.int m5, .ref ed6, .int 1])), (ed6, .inl (cB7, 10, .inr (.inr (.inr (.inr (f8)))))), (q2, .inr (9, [.int 0, .ref de, .int 0]))]) [3, 0, 1, 2] (by decide) rfl
    have hK9 := hK.sub (tys' := [(cB7, .object "java/lang/Object")]) [0] rfl
    refine W.widen (k := 2) (n := 13) (by omega) (by omega) ?_
    exact W.iret hx hb hr (fun t ht hW => ⟨⟨_, (), rfl, rfl, ⟨q2, ⟨m5, ⟨ed6, ⟨cB7, ⟨f8, ⟨by rw [ht]; exact hP9, va_K.moved hW.alike hK9, hD9, hpr4_0⟩⟩⟩⟩⟩⟩⟩, hS.F ht⟩) hS.2.2 d_MO_addProgram_46
  · exact absurd c_9 (by decide)

abbrev rm_number : Room := { frames := 0, cells := 0, slots := 0, locals := 0 }
abbrev b_number : ByteArray := prog_11_method_11_code
def y_number : MethodName := ⟨"LeastcodeModel", "number", "(CII)I"⟩
def w_number : List Cond := [.code ⟨"LeastcodeModel", "number", "(CII)I"⟩ prog_11_method_11_code 3 (some .int)]
theorem d_number_0 : decode b_number 0 = .ok (.iload_n 0, 1) := by decide +kernel
theorem d_number_1 : decode b_number 1 = .ok (.bipush 102, 2) := by decide +kernel
theorem d_number_3 : decode b_number 3 = .ok (.if_icmp .ne 6, 3) := by decide +kernel
theorem d_number_6 : decode b_number 6 = .ok (.bipush 46, 2) := by decide +kernel
theorem d_number_8 : decode b_number 8 = .ok (.ireturn, 1) := by decide +kernel
set_option maxHeartbeats 4000000 in
set_option maxRecDepth 100000 in
theorem c_number (l : Launch)  : Met l y_number w_number rm_number (va_Pc [.int 102, .int 0, .int 0] (fun U => True)) (vp_Si (fun r => r = 46)) 0 0 (fun _ => False) := by
  refine Met.ofW (cc := b_number) (maxL := 3) (ret := (some .int)) (by decide) rfl ?_
  intro p e s m args below meth c s₁ B hml hv
  obtain ⟨rfl, -⟩ := hv
  have hx := B.exec
  have hb := B.bytes
  have hr := B.returns
  have hts := atoms_spec (ws := w_number) B.pre
  have hown : s.vm.findClass "LeastcodeModel" = some m.cls := findClass_of_methodNamed B.named
  have hlocks := B.notSynchronized
  have hl := lv_entry ([.int 102, .int 0, .int 0]) (n := 3) (Nat.le_of_ble_eq_true rfl)
  rw [lg_entry_eq]
  generalize (lg_sl ([.int 102, .int 0, .int 0]) ++ List.replicate (3 - (lg_sl ([.int 102, .int 0, .int 0])).length) Slot.unset).toArray = ls at hl ⊢
  have hl : lv_has ls 3 [(0, .int 102), (1, .int 0), (2, .int 0)] := hl
  refine lv_iload_n hx hb d_number_0 rfl (lv_at hl 0 rfl) ?_
  refine lv_bipush (v := 102) hx hb d_number_1 (by decide) ?_
  refine lv_icmp_ne (tgt := 9) hx hb d_number_3 (by decide) (fun c_3 => ?_) (fun c_3 => ?_)
  · exact absurd rfl c_3
  · skip
    refine lv_bipush (v := 46) hx hb d_number_6 (by decide) ?_
    exact W.iret hx hb hr (fun t ht hW => ⟨_, rfl, rfl, ht⟩) (fun _ h => by cases h) d_number_8

abbrev rm_MO_addB : Room := { frames := 5, cells := 1, slots := 10, locals := 101 }
abbrev b_MO_addB : ByteArray := prog_11_method_21_code
def y_MO_addB : MethodName := ⟨"LeastcodeModel", "add", "(ICII)I"⟩
def w_MO_addB : List Cond := [.code ⟨"LeastcodeModel", "add", "(ICII)I"⟩ prog_11_method_21_code 6 (some .int), .laysFinal "LeastcodeModel" "LeastcodeModel" "programs" "Ljava/util/ArrayList;", .laysFinal "LeastcodeModel" "LeastcodeModel" "goals" "Ljava/util/ArrayList;", .laysFinal "LeastcodeModel" "LeastcodeModel" "rules" "Ljava/util/ArrayList;", .laysFinal "LeastcodeModel" "LeastcodeModel" "prices" "[I", .laysFinal "LeastcodeModel" "LeastcodeModel" "kills" "[I", .lays "LeastcodeModel" "LeastcodeModel" "found" "Ljava/util/List;", .lays "LeastcodeModel" "LeastcodeModel" "wait" "I", .lays "LeastcodeModel" "LeastcodeModel" "thrown" "I", .lays "LeastcodeModel" "LeastcodeModel" "z" "J", .fieldLink "LeastcodeModel" 10 "LeastcodeModel" "programs" "Ljava/util/ArrayList;", .methodLink "LeastcodeModel" 143 ⟨"LeastcodeModel", "isOf", "(Ljava/util/List;I)Z"⟩, .static ⟨"LeastcodeModel", "isOf", "(Ljava/util/List;I)Z"⟩, .initialized "LeastcodeModel", .code ⟨"LeastcodeModel", "isOf", "(Ljava/util/List;I)Z"⟩ prog_11_method_7_code 2 (some .boolean), .methodLink "LeastcodeModel" 58 ⟨"java/util/List", "size", "()I"⟩, .selects "java/util/ArrayList" ⟨"java/util/List", "size", "()I"⟩ ⟨"java/util/ArrayList", "size", "()I"⟩, .instanceMethod ⟨"java/util/ArrayList", "size", "()I"⟩, .initialized "java/util/ArrayList", .code ⟨"java/util/ArrayList", "size", "()I"⟩ prog_50_method_8_code 1 (some .int), .lays "java/util/ArrayList" "java/util/AbstractList" "modCount" "I", .lays "java/util/ArrayList" "java/util/ArrayList" "elementData" "[Ljava/lang/Object;", .lays "java/util/ArrayList" "java/util/ArrayList" "size" "I", .fieldLink "java/util/ArrayList" 48 "java/util/ArrayList" "size" "I", .methodLink "LeastcodeModel" 63 ⟨"LeastcodeModel", "in", "(III)Z"⟩, .static ⟨"LeastcodeModel", "in", "(III)Z"⟩, .code ⟨"LeastcodeModel", "in", "(III)Z"⟩ prog_11_method_3_code 3 (some .boolean), .methodLink "LeastcodeModel" 147 ⟨"LeastcodeModel", "number", "(CII)I"⟩, .static ⟨"LeastcodeModel", "number", "(CII)I"⟩, .code ⟨"LeastcodeModel", "number", "(CII)I"⟩ prog_11_method_11_code 3 (some .int), .methodLink "LeastcodeModel" 151 ⟨"java/util/ArrayList", "get", "(I)Ljava/lang/Object;"⟩, .instanceMethod ⟨"java/util/ArrayList", "get", "(I)Ljava/lang/Object;"⟩, .selects "java/util/ArrayList" ⟨"java/util/ArrayList", "get", "(I)Ljava/lang/Object;"⟩ ⟨"java/util/ArrayList", "get", "(I)Ljava/lang/Object;"⟩, .code ⟨"java/util/ArrayList", "get", "(I)Ljava/lang/Object;"⟩ prog_50_method_20_code 2 (some (.object "java/lang/Object")), .methodLink "java/util/ArrayList" 118 ⟨"java/util/Objects", "checkIndex", "(II)I"⟩, .static ⟨"java/util/Objects", "checkIndex", "(II)I"⟩, .initialized "java/util/Objects", .code ⟨"java/util/Objects", "checkIndex", "(II)I"⟩ prog_73_method_17_code 2 (some .int), .methodLink "java/util/Objects" 105 ⟨"jdk/internal/util/Preconditions", "checkIndex", "(IILjava/util/function/BiFunction;)I"⟩, .static ⟨"jdk/internal/util/Preconditions", "checkIndex", "(IILjava/util/function/BiFunction;)I"⟩, .initialized "jdk/internal/util/Preconditions", .code ⟨"jdk/internal/util/Preconditions", "checkIndex", "(IILjava/util/function/BiFunction;)I"⟩ prog_81_method_11_code 3 (some .int), .methodLink "java/util/ArrayList" 123 ⟨"java/util/ArrayList", "elementData", "(I)Ljava/lang/Object;"⟩, .instanceMethod ⟨"java/util/ArrayList", "elementData", "(I)Ljava/lang/Object;"⟩, .selects "java/util/ArrayList" ⟨"java/util/ArrayList", "elementData", "(I)Ljava/lang/Object;"⟩ ⟨"java/util/ArrayList", "elementData", "(I)Ljava/lang/Object;"⟩, .code ⟨"java/util/ArrayList", "elementData", "(I)Ljava/lang/Object;"⟩ prog_50_method_18_code 2 (some (.object "java/lang/Object")), .fieldLink "java/util/ArrayList" 9 "java/util/ArrayList" "elementData" "[Ljava/lang/Object;", .classLink "LeastcodeModel" 7 "java/util/ArrayList", .methodLink "LeastcodeModel" 132 ⟨"java/util/ArrayList", "size", "()I"⟩, .selects "java/util/ArrayList" ⟨"java/util/ArrayList", "size", "()I"⟩ ⟨"java/util/ArrayList", "size", "()I"⟩, .methodLink "LeastcodeModel" 155 ⟨"java/lang/Integer", "valueOf", "(I)Ljava/lang/Integer;"⟩, .static ⟨"java/lang/Integer", "valueOf", "(I)Ljava/lang/Integer;"⟩, .initialized "java/lang/Integer", .code ⟨"java/lang/Integer", "valueOf", "(I)Ljava/lang/Integer;"⟩ prog_27_method_22_code 1 (some (.object "java/lang/Integer")), .fieldLink "java/lang/Integer" 191 "java/lang/Integer$IntegerCache" "high" "I", .fieldLink "java/lang/Integer" 195 "java/lang/Integer$IntegerCache" "cache" "[Ljava/lang/Integer;", .methodLink "LeastcodeModel" 136 ⟨"java/util/ArrayList", "add", "(Ljava/lang/Object;)Z"⟩, .instanceMethod ⟨"java/util/ArrayList", "add", "(Ljava/lang/Object;)Z"⟩, .selects "java/util/ArrayList" ⟨"java/util/ArrayList", "add", "(Ljava/lang/Object;)Z"⟩ ⟨"java/util/ArrayList", "add", "(Ljava/lang/Object;)Z"⟩, .code ⟨"java/util/ArrayList", "add", "(Ljava/lang/Object;)Z"⟩ prog_50_method_25_code 2 (some .boolean), .sameField "java/util/ArrayList" "java/util/AbstractList" "modCount" "I", .fieldLink "java/util/ArrayList" 63 "java/util/ArrayList" "modCount" "I", .methodLink "java/util/ArrayList" 131 ⟨"java/util/ArrayList", "add", "(Ljava/lang/Object;[Ljava/lang/Object;I)V"⟩, .instanceMethod ⟨"java/util/ArrayList", "add", "(Ljava/lang/Object;[Ljava/lang/Object;I)V"⟩, .selects "java/util/ArrayList" ⟨"java/util/ArrayList", "add", "(Ljava/lang/Object;[Ljava/lang/Object;I)V"⟩ ⟨"java/util/ArrayList", "add", "(Ljava/lang/Object;[Ljava/lang/Object;I)V"⟩, .code ⟨"java/util/ArrayList", "add", "(Ljava/lang/Object;[Ljava/lang/Object;I)V"⟩ prog_50_method_24_code 4 none, .methodLink "java/util/ArrayList" 129 ⟨"java/util/ArrayList", "grow", "()[Ljava/lang/Object;"⟩, .instanceMethod ⟨"java/util/ArrayList", "grow", "()[Ljava/lang/Object;"⟩, .selects "java/util/ArrayList" ⟨"java/util/ArrayList", "grow", "()[Ljava/lang/Object;"⟩ ⟨"java/util/ArrayList", "grow", "()[Ljava/lang/Object;"⟩, .code ⟨"java/util/ArrayList", "grow", "()[Ljava/lang/Object;"⟩ prog_50_method_7_code 1 (some (.array (.object "java/lang/Object"))), .methodLink "java/util/ArrayList" 69 ⟨"java/util/ArrayList", "grow", "(I)[Ljava/lang/Object;"⟩, .instanceMethod ⟨"java/util/ArrayList", "grow", "(I)[Ljava/lang/Object;"⟩, .selects "java/util/ArrayList" ⟨"java/util/ArrayList", "grow", "(I)[Ljava/lang/Object;"⟩ ⟨"java/util/ArrayList", "grow", "(I)[Ljava/lang/Object;"⟩, .code ⟨"java/util/ArrayList", "grow", "(I)[Ljava/lang/Object;"⟩ prog_50_method_6_code 4 (some (.array (.object "java/lang/Object"))), .fieldLink "java/util/ArrayList" 39 "java/util/ArrayList" "DEFAULTCAPACITY_EMPTY_ELEMENTDATA" "[Ljava/lang/Object;", .methodLink "java/util/ArrayList" 79 ⟨"java/lang/Math", "max", "(II)I"⟩, .static ⟨"java/lang/Math", "max", "(II)I"⟩, .initialized "java/lang/Math", .code ⟨"java/lang/Math", "max", "(II)I"⟩ prog_31_method_65_code 2 (some .int), .classLink "java/util/ArrayList" 7 "java/lang/Object", .methodLink "LeastcodeModel" 140 ⟨"LeastcodeModel", "tells", "(I)I"⟩, .instanceMethod ⟨"LeastcodeModel", "tells", "(I)I"⟩, .selects "LeastcodeModel" ⟨"LeastcodeModel", "tells", "(I)I"⟩ ⟨"LeastcodeModel", "tells", "(I)I"⟩, .code ⟨"LeastcodeModel", "tells", "(I)I"⟩ prog_11_method_5_code 2 (some .int), .fieldLink "LeastcodeModel" 45 "LeastcodeModel" "thrown" "I"]
theorem d_MO_addB_0 : decode b_MO_addB 0 = .ok (.aload_n 0, 1) := by decide +kernel
theorem d_MO_addB_1 : decode b_MO_addB 1 = .ok (.getfield 10, 3) := by decide +kernel
theorem d_MO_addB_4 : decode b_MO_addB 4 = .ok (.iload_n 1, 1) := by decide +kernel
theorem d_MO_addB_5 : decode b_MO_addB 5 = .ok (.invokestatic 143, 3) := by decide +kernel
theorem d_MO_addB_8 : decode b_MO_addB 8 = .ok (.ifCond .ne 9, 3) := by decide +kernel
theorem d_MO_addB_17 : decode b_MO_addB 17 = .ok (.iload_n 2, 1) := by decide +kernel
theorem d_MO_addB_18 : decode b_MO_addB 18 = .ok (.iload_n 3, 1) := by decide +kernel
theorem d_MO_addB_19 : decode b_MO_addB 19 = .ok (.iload 4, 2) := by decide +kernel
theorem d_MO_addB_21 : decode b_MO_addB 21 = .ok (.invokestatic 147, 3) := by decide +kernel
theorem d_MO_addB_24 : decode b_MO_addB 24 = .ok (.istore 5, 2) := by decide +kernel
theorem d_MO_addB_26 : decode b_MO_addB 26 = .ok (.iload 5, 2) := by decide +kernel
theorem d_MO_addB_28 : decode b_MO_addB 28 = .ok (.iconst (-1), 1) := by decide +kernel
theorem d_MO_addB_29 : decode b_MO_addB 29 = .ok (.if_icmp .ne 9, 3) := by decide +kernel
theorem d_MO_addB_38 : decode b_MO_addB 38 = .ok (.aload_n 0, 1) := by decide +kernel
theorem d_MO_addB_39 : decode b_MO_addB 39 = .ok (.getfield 10, 3) := by decide +kernel
theorem d_MO_addB_42 : decode b_MO_addB 42 = .ok (.iload_n 1, 1) := by decide +kernel
theorem d_MO_addB_43 : decode b_MO_addB 43 = .ok (.invokevirtual 151, 3) := by decide +kernel
theorem d_MO_addB_46 : decode b_MO_addB 46 = .ok (.checkcast 7, 3) := by decide +kernel
theorem d_MO_addB_49 : decode b_MO_addB 49 = .ok (.invokevirtual 132, 3) := by decide +kernel
theorem d_MO_addB_52 : decode b_MO_addB 52 = .ok (.bipush 8, 2) := by decide +kernel
theorem d_MO_addB_54 : decode b_MO_addB 54 = .ok (.if_icmp .ne 9, 3) := by decide +kernel
theorem d_MO_addB_63 : decode b_MO_addB 63 = .ok (.aload_n 0, 1) := by decide +kernel
theorem d_MO_addB_64 : decode b_MO_addB 64 = .ok (.getfield 10, 3) := by decide +kernel
theorem d_MO_addB_67 : decode b_MO_addB 67 = .ok (.iload_n 1, 1) := by decide +kernel
theorem d_MO_addB_68 : decode b_MO_addB 68 = .ok (.invokevirtual 151, 3) := by decide +kernel
theorem d_MO_addB_71 : decode b_MO_addB 71 = .ok (.checkcast 7, 3) := by decide +kernel
theorem d_MO_addB_74 : decode b_MO_addB 74 = .ok (.iload 5, 2) := by decide +kernel
theorem d_MO_addB_76 : decode b_MO_addB 76 = .ok (.invokestatic 155, 3) := by decide +kernel
theorem d_MO_addB_79 : decode b_MO_addB 79 = .ok (.invokevirtual 136, 3) := by decide +kernel
theorem d_MO_addB_82 : decode b_MO_addB 82 = .ok (.pop, 1) := by decide +kernel
theorem d_MO_addB_83 : decode b_MO_addB 83 = .ok (.aload_n 0, 1) := by decide +kernel
theorem d_MO_addB_84 : decode b_MO_addB 84 = .ok (.aload_n 0, 1) := by decide +kernel
theorem d_MO_addB_85 : decode b_MO_addB 85 = .ok (.getfield 10, 3) := by decide +kernel
theorem d_MO_addB_88 : decode b_MO_addB 88 = .ok (.iload_n 1, 1) := by decide +kernel
theorem d_MO_addB_89 : decode b_MO_addB 89 = .ok (.invokevirtual 151, 3) := by decide +kernel
theorem d_MO_addB_92 : decode b_MO_addB 92 = .ok (.checkcast 7, 3) := by decide +kernel
theorem d_MO_addB_95 : decode b_MO_addB 95 = .ok (.invokevirtual 132, 3) := by decide +kernel
theorem d_MO_addB_98 : decode b_MO_addB 98 = .ok (.invokevirtual 140, 3) := by decide +kernel
theorem d_MO_addB_101 : decode b_MO_addB 101 = .ok (.ireturn, 1) := by decide +kernel
theorem in_MO_addB_MO : ∀ v ∈ u_ws R_MO T_MO 9, v ∈ w_MO_addB := by decide +kernel
set_option maxRecDepth 20000 in
theorem g_MO_addB_5 : GoodIn w_MO_addB (wsS "LeastcodeModel" 143 ⟨"LeastcodeModel", "isOf", "(Ljava/util/List;I)Z"⟩ w_isOf) := goodIn_r _ [11, 12, 13, 14, 15, 16, 17, 18, 19, 20, 21, 22, 23, 24, 25, 13, 26] rfl (by decide +kernel)
set_option maxRecDepth 20000 in
theorem g_MO_addB_21 : GoodIn w_MO_addB (wsS "LeastcodeModel" 147 ⟨"LeastcodeModel", "number", "(CII)I"⟩ w_number) := goodIn_r _ [27, 28, 13, 29] rfl (by decide +kernel)
set_option maxRecDepth 20000 in
theorem g_MO_addB_43 : GoodIn w_MO_addB (wsV "LeastcodeModel" 151 "java/util/ArrayList" ⟨"java/util/ArrayList", "get", "(I)Ljava/lang/Object;"⟩ w_AL_get) := goodIn_r _ [30, 31, 32, 18, 33, 20, 21, 22, 23, 34, 35, 36, 37, 38, 39, 40, 41, 42, 43, 44, 18, 45, 46] rfl (by decide +kernel)
set_option maxRecDepth 20000 in
theorem g_MO_addB_49 : GoodIn w_MO_addB (wsV "LeastcodeModel" 132 "java/util/ArrayList" ⟨"java/util/ArrayList", "size", "()I"⟩ w_AL_size) := goodIn_r _ [48, 17, 49, 18, 19, 20, 21, 22, 23] rfl (by decide +kernel)
set_option maxRecDepth 20000 in
theorem g_MO_addB_68 : GoodIn w_MO_addB (wsV "LeastcodeModel" 151 "java/util/ArrayList" ⟨"java/util/ArrayList", "get", "(I)Ljava/lang/Object;"⟩ w_AL_get) := goodIn_r _ [30, 31, 32, 18, 33, 20, 21, 22, 23, 34, 35, 36, 37, 38, 39, 40, 41, 42, 43, 44, 18, 45, 46] rfl (by decide +kernel)
set_option maxRecDepth 20000 in
theorem g_MO_addB_76 : GoodIn w_MO_addB (va_wsS "LeastcodeModel" 155 ⟨"java/lang/Integer", "valueOf", "(I)Ljava/lang/Integer;"⟩ w_IN_valueOf) := goodIn_r _ [50, 51, 52, 53, 54, 55] rfl (by decide +kernel)
set_option maxRecDepth 20000 in
theorem g_MO_addB_79 : GoodIn w_MO_addB (wsV "LeastcodeModel" 136 "java/util/ArrayList" ⟨"java/util/ArrayList", "add", "(Ljava/lang/Object;)Z"⟩ w_AL_addB) := goodIn_r _ [56, 57, 58, 18, 59, 60, 20, 21, 22, 61, 46, 23, 62, 63, 64, 18, 65, 66, 67, 68, 69, 70, 71, 72, 73, 74, 75, 76, 77, 78, 79] rfl (by decide +kernel)
set_option maxRecDepth 20000 in
theorem g_MO_addB_89 : GoodIn w_MO_addB (wsV "LeastcodeModel" 151 "java/util/ArrayList" ⟨"java/util/ArrayList", "get", "(I)Ljava/lang/Object;"⟩ w_AL_get) := goodIn_r _ [30, 31, 32, 18, 33, 20, 21, 22, 23, 34, 35, 36, 37, 38, 39, 40, 41, 42, 43, 44, 18, 45, 46] rfl (by decide +kernel)
set_option maxRecDepth 20000 in
theorem g_MO_addB_95 : GoodIn w_MO_addB (wsV "LeastcodeModel" 132 "java/util/ArrayList" ⟨"java/util/ArrayList", "size", "()I"⟩ w_AL_size) := goodIn_r _ [48, 17, 49, 18, 19, 20, 21, 22, 23] rfl (by decide +kernel)
set_option maxRecDepth 20000 in
theorem g_MO_addB_98 : GoodIn w_MO_addB (wsV "LeastcodeModel" 140 "LeastcodeModel" ⟨"LeastcodeModel", "tells", "(I)I"⟩ w_tells) := goodIn_r _ [80, 81, 82, 13, 83, 1, 2, 3, 4, 5, 6, 7, 8, 9, 84] rfl (by decide +kernel)
set_option maxHeartbeats 4000000 in
set_option maxRecDepth 100000 in
theorem c_MO_addB (l : Launch) (dC : Nat → ClassId) (dI : Nat → Nat → Nat) (de : Nat) (fde : Nat → Value) (ca : Nat) (fca : Nat → Value) (e0 : Nat) (m0 : Nat) (qp : Nat) (qg : Nat) (qr : Nat) (qk : Nat) (qs : Nat) (mp_ : Int32) (ep : Nat) (cP : ClassId) (fp : Nat → Option Nat) (ql : Nat) (ml : Int32) (hfp : fp 0 = some ql) (hca : fca 174 = .ref e0) (sz : Nat) : Met l y_MO_addB w_MO_addB rm_MO_addB (va_Pc [.ref m0, .int 0, .int 102, .int 0, .int 0] (fun U => U.heap.size = sz ∧ va_P (dC, dI) classes [(m0, .inr (8, [.ref qp, .ref qg, .ref qr, .ref qk, .ref qs, .null, .int 0, .int 0, .long 1])), (qp, .inr (9, [.int mp_, .ref ep, .int 1])), (ep, .inl (cP, 10, .inr (.inr (.inr (.inr (fp)))))), (ql, .inr (9, [.int ml, .ref de, .int 0]))] U.heap ∧ va_K (dC, dI) classes [(cP, .object "java/lang/Object")] U ∧ va_D (fun _ => True) [(m0, .inr (8, [.ref qp, .ref qg, .ref qr, .ref qk, .ref qs, .null, .int 0, .int 0, .long 1])), (qp, .inr (9, [.int mp_, .ref ep, .int 1])), (ep, .inl (cP, 10, .inr (.inr (.inr (.inr (fp)))))), (ql, .inr (9, [.int ml, .ref de, .int 0]))] ∧ va_Z "java/util/ArrayList" "DEFAULTCAPACITY_EMPTY_ELEMENTDATA" "[Ljava/lang/Object;" (.ref de) (va_A [(m0, .inr (8, [.ref qp, .ref qg, .ref qr, .ref qk, .ref qs, .null, .int 0, .int 0, .long 1])), (qp, .inr (9, [.int mp_, .ref ep, .int 1])), (ep, .inl (cP, 10, .inr (.inr (.inr (.inr (fp)))))), (ql, .inr (9, [.int ml, .ref de, .int 0]))] sz) U U.heap ∧ va_T (.object "java/lang/Object") de 0 fde (va_A [(m0, .inr (8, [.ref qp, .ref qg, .ref qr, .ref qk, .ref qs, .null, .int 0, .int 0, .long 1])), (qp, .inr (9, [.int mp_, .ref ep, .int 1])), (ep, .inl (cP, 10, .inr (.inr (.inr (.inr (fp)))))), (ql, .inr (9, [.int ml, .ref de, .int 0]))] sz) U U.heap ∧ va_Z "java/lang/Integer$IntegerCache" "high" "I" (.int 127) (va_A [(m0, .inr (8, [.ref qp, .ref qg, .ref qr, .ref qk, .ref qs, .null, .int 0, .int 0, .long 1])), (qp, .inr (9, [.int mp_, .ref ep, .int 1])), (ep, .inl (cP, 10, .inr (.inr (.inr (.inr (fp)))))), (ql, .inr (9, [.int ml, .ref de, .int 0]))] sz) U U.heap ∧ va_Z "java/lang/Integer$IntegerCache" "cache" "[Ljava/lang/Integer;" (.ref ca) (va_A [(m0, .inr (8, [.ref qp, .ref qg, .ref qr, .ref qk, .ref qs, .null, .int 0, .int 0, .long 1])), (qp, .inr (9, [.int mp_, .ref ep, .int 1])), (ep, .inl (cP, 10, .inr (.inr (.inr (.inr (fp)))))), (ql, .inr (9, [.int ml, .ref de, .int 0]))] sz) U U.heap ∧ va_T (.object "java/lang/Integer") ca 256 fca (va_A [(m0, .inr (8, [.ref qp, .ref qg, .ref qr, .ref qk, .ref qs, .null, .int 0, .int 0, .long 1])), (qp, .inr (9, [.int mp_, .ref ep, .int 1])), (ep, .inl (cP, 10, .inr (.inr (.inr (.inr (fp)))))), (ql, .inr (9, [.int ml, .ref de, .int 0]))] sz) U U.heap ∧ va_O "java/lang/Integer" e0 (va_A [(m0, .inr (8, [.ref qp, .ref qg, .ref qr, .ref qk, .ref qs, .null, .int 0, .int 0, .long 1])), (qp, .inr (9, [.int mp_, .ref ep, .int 1])), (ep, .inl (cP, 10, .inr (.inr (.inr (.inr (fp)))))), (ql, .inr (9, [.int ml, .ref de, .int 0]))] sz) U U.heap ∧ va_Fw "java/util/ArrayList" ⟨"java/util/List", "size", "()I"⟩ ⟨"java/util/ArrayList", "size", "()I"⟩ U ∧ va_Nw (.castable "java/lang/Integer" "java/lang/Object") U ∧ va_AO "java/lang/Object" U)) (va_Qi (fun r (_ : Unit) => r = 1) (fun _ t => ∃ m1 : Int32, ∃ ed : Nat, ∃ cB : ClassId, ∃ f1 : Nat → Option Nat, va_P (dC, dI) classes [(m0, .inr (8, [.ref qp, .ref qg, .ref qr, .ref qk, .ref qs, .null, .int 0, .int 0, .long 1])), (qp, .inr (9, [.int mp_, .ref ep, .int 1])), (ep, .inl (cP, 10, .inr (.inr (.inr (.inr (fp)))))), (ql, .inr (9, [.int m1, .ref ed, .int 1])), (ed, .inl (cB, 10, .inr (.inr (.inr (.inr (f1))))))] t.heap ∧ va_K (dC, dI) classes [(cP, .object "java/lang/Object"), (cB, .object "java/lang/Object")] t ∧ va_D (va_A [(m0, .inr (8, [.ref qp, .ref qg, .ref qr, .ref qk, .ref qs, .null, .int 0, .int 0, .long 1])), (qp, .inr (9, [.int mp_, .ref ep, .int 1])), (ep, .inl (cP, 10, .inr (.inr (.inr (.inr (fp)))))), (ql, .inr (9, [.int ml, .ref de, .int 0]))] sz) [(m0, .inr (8, [.ref qp, .ref qg, .ref qr, .ref qk, .ref qs, .null, .int 0, .int 0, .long 1])), (qp, .inr (9, [.int mp_, .ref ep, .int 1])), (ep, .inl (cP, 10, .inr (.inr (.inr (.inr (fp)))))), (ql, .inr (9, [.int m1, .ref ed, .int 1])), (ed, .inl (cB, 10, .inr (.inr (.inr (.inr (f1))))))] ∧ f1 0 = some e0) (va_A [(m0, .inr (8, [.ref qp, .ref qg, .ref qr, .ref qk, .ref qs, .null, .int 0, .int 0, .long 1])), (qp, .inr (9, [.int mp_, .ref ep, .int 1])), (ep, .inl (cP, 10, .inr (.inr (.inr (.inr (fp)))))), (ql, .inr (9, [.int ml, .ref de, .int 0]))] sz)) 1 10 (va_A [(m0, .inr (8, [.ref qp, .ref qg, .ref qr, .ref qk, .ref qs, .null, .int 0, .int 0, .long 1])), (qp, .inr (9, [.int mp_, .ref ep, .int 1])), (ep, .inl (cP, 10, .inr (.inr (.inr (.inr (fp)))))), (ql, .inr (9, [.int ml, .ref de, .int 0]))] sz) := by
  refine Met.ofW (cc := b_MO_addB) (maxL := 6) (ret := (some .int)) (by decide) rfl ?_
  intro p e s m args below meth c s₁ B hml hv
  obtain ⟨rfl, hsz, hP, hK, hD0, hE0, hE1, hE2, hE3, hE4, hE5, hE6, hE7, hE8⟩ := hv
  have hx := B.exec
  have hb := B.bytes
  have hr := B.returns
  have hts := atoms_spec (ws := w_MO_addB) B.pre
  have hown : s.vm.findClass "LeastcodeModel" = some m.cls := findClass_of_methodNamed B.named
  have hlocks := B.notSynchronized
  subst hsz
  have hD := hD0.self (sz := s.heap.size)
  generalize hAe : va_A [(m0, .inr (8, [.ref qp, .ref qg, .ref qr, .ref qk, .ref qs, .null, .int 0, .int 0, .long 1])), (qp, .inr (9, [.int mp_, .ref ep, .int 1])), (ep, .inl (cP, 10, .inr (.inr (.inr (.inr (fp)))))), (ql, .inr (9, [.int ml, .ref de, .int 0]))] s.heap.size = A at hD hE0 hE1 hE2 hE3 hE4 hE5 hE6 hE7 hE8 ⊢
  have hA : ∀ q : Nat, s.heap.size ≤ q → A q := fun q h => by rw [← hAe]; exact Or.inr h
  have hS : va_S A s.heap s.heap [] := va_S.rf
  have hP : va_P (dC, dI) classes [(m0, .inr (8, [.ref qp, .ref qg, .ref qr, .ref qk, .ref qs, .null, .int 0, .int 0, .long 1])), (qp, .inr (9, [.int mp_, .ref ep, .int 1])), (ep, .inl (cP, 10, .inr (.inr (.inr (.inr (fp)))))), (ql, .inr (9, [.int ml, .ref de, .int 0]))] s.heap := hP
  have hl := lv_entry ([.ref m0, .int 0, .int 102, .int 0, .int 0]) (n := 6) (Nat.le_of_ble_eq_true rfl)
  rw [lg_entry_eq]
  generalize (lg_sl ([.ref m0, .int 0, .int 102, .int 0, .int 0]) ++ List.replicate (6 - (lg_sl ([.ref m0, .int 0, .int 102, .int 0, .int 0])).length) Slot.unset).toArray = ls at hl ⊢
  have hl : lv_has ls 6 [(0, .ref m0), (1, .int 0), (2, .int 102), (3, .int 0), (4, .int 0)] := hl
  refine lv_aload_n hx hb d_MO_addB_0 rfl (lv_at hl 0 rfl) ?_
  refine va_get (D := (dC, dI)) (ci := 8) (v := .ref qp) (C := R_MO) (T := T_MO) (N := 9) hx hb hts in_MO_addB_MO hown hK hP 0 rfl rfl 0 (by decide) (hts (.fieldLink "LeastcodeModel" 10 "LeastcodeModel" "programs" "Ljava/util/ArrayList;") (List.mem_of_getElem? (i := 10) rfl)) (fun _ h9 => h9) rfl d_MO_addB_1 ?_
  refine lv_iload_n hx hb d_MO_addB_4 rfl (lv_at hl 1 rfl) ?_
  have hPc : va_P (dC, dI) classes [(qp, .inr (9, [.int mp_, .ref ep, .int 1]))] _ := hP.sub (ws' := [(qp, .inr (9, [.int mp_, .ref ep, .int 1]))]) [1] rfl
  have hKc : va_K (dC, dI) classes [] s := hK.sub (tys' := []) [] rfl
  refine vp_callSi (W.runS (As := [.ref qp, .int 0]) (rest := []) ⟨hx, hb, hml, hown, hts⟩ (c_isOf l dC dI qp mp_ ep) (cwS 2 hts g_MO_addB_5 rfl rfl rfl (by decide +kernel) ⟨Nat.le_of_ble_eq_true rfl, Nat.le_of_ble_eq_true rfl⟩) ⟨fun a U g mk z => by obtain ⟨z0, zP, zK, zE0⟩ := z; exact ⟨z0, zP, va_K.moved (u := U) (U := U.calling g mk a) (Vm.Alike.refl U.vm) zK, va_Fw.moved (by decide +kernel) (u := U) (U := U.calling g mk a) (Vm.Alike.refl U.vm) zE0⟩, fun U hU hW => ⟨rfl, by rw [hU]; exact hPc, va_K.moved hW.alike hKc, va_Fw.moved (by decide +kernel) hW.alike hE6⟩⟩ rfl rfl hl.1 rfl (lv_room (Nat.le_of_ble_eq_true rfl)) d_MO_addB_5 ⟨(Nat.le_of_ble_eq_true rfl), (Nat.le_of_ble_eq_true rfl)⟩) (fun r1 hr1 => ?_)
  replace hr1 := hr1.symm; subst hr1
  refine lv_if_ne (tgt := 17) hx hb d_MO_addB_8 (by decide) (fun c_8 => ?_) (fun c_8 => ?_)
  · skip
    refine lv_iload_n hx hb d_MO_addB_17 rfl (lv_at hl 2 rfl) ?_
    refine lv_iload_n hx hb d_MO_addB_18 rfl (lv_at hl 3 rfl) ?_
    refine lv_iload hx hb d_MO_addB_19 (lv_at hl 4 rfl) ?_
    refine vp_callSi (W.runS (As := [.int 102, .int 0, .int 0]) (rest := []) ⟨hx, hb, hml, hown, hts⟩ (c_number l ) (cwS 3 hts g_MO_addB_21 rfl rfl rfl (by decide +kernel) ⟨Nat.le_of_ble_eq_true rfl, Nat.le_of_ble_eq_true rfl⟩) ⟨fun a U g mk z => z, fun U hU hW => ⟨rfl, trivial⟩⟩ rfl rfl hl.1 rfl (lv_room (Nat.le_of_ble_eq_true rfl)) d_MO_addB_21 ⟨(Nat.le_of_ble_eq_true rfl), (Nat.le_of_ble_eq_true rfl)⟩) (fun r2 hr2 => ?_)
    replace hr2 := hr2.symm; subst hr2
    refine lv_istore (lv' := [(5, .int 46), (0, .ref m0), (1, .int 0), (2, .int 102), (3, .int 0), (4, .int 0)]) hx hb d_MO_addB_24 hl (by decide) rfl (fun ls hl => ?_)
    refine lv_iload hx hb d_MO_addB_26 (lv_at hl 0 rfl) ?_
    refine lv_iconst (v := (-1)) hx hb d_MO_addB_28 (by decide) ?_
    refine lv_icmp_ne (tgt := 38) hx hb d_MO_addB_29 (by decide) (fun c_29 => ?_) (fun c_29 => ?_)
    · skip
      refine lv_aload_n hx hb d_MO_addB_38 rfl (lv_at hl 1 rfl) ?_
      refine va_get (D := (dC, dI)) (ci := 8) (v := .ref qp) (C := R_MO) (T := T_MO) (N := 9) hx hb hts in_MO_addB_MO hown hK hP 0 rfl rfl 0 (by decide) (hts (.fieldLink "LeastcodeModel" 10 "LeastcodeModel" "programs" "Ljava/util/ArrayList;") (List.mem_of_getElem? (i := 10) rfl)) (fun _ h9 => h9) rfl d_MO_addB_39 ?_
      refine lv_iload_n hx hb d_MO_addB_42 rfl (lv_at hl 2 rfl) ?_
      have hPc : va_P (dC, dI) classes [(qp, .inr (9, [.int mp_, .ref ep, .int 1])), (ep, .inl (cP, 10, .inr (.inr (.inr (.inr (fp))))))] _ := hP.sub (ws' := [(qp, .inr (9, [.int mp_, .ref ep, .int 1])), (ep, .inl (cP, 10, .inr (.inr (.inr (.inr (fp))))))]) [1, 2] rfl
      have hKc : va_K (dC, dI) classes [(cP, .object "java/lang/Object")] s := hK.sub (tys' := [(cP, .object "java/lang/Object")]) [0] rfl
      refine va_csr (W.runV (As := [.int 0]) (rest := []) ⟨hx, hb, hml, hown, hts⟩ (c_AL_get l dC dI qp mp_ ep cP fp ql hfp) (cwV 1 hts g_MO_addB_43 rfl rfl rfl (by decide +kernel) ⟨Nat.le_of_ble_eq_true rfl, Nat.le_of_ble_eq_true rfl⟩) ⟨fun a U g mk z => by obtain ⟨z0, zP, zK⟩ := z; exact ⟨z0, zP, va_K.moved (u := U) (U := U.calling g mk a) (Vm.Alike.refl U.vm) zK⟩, va_recv hKc hPc (ci := 9) (q0 := 0) rfl rfl, fun U hU hW => ⟨rfl, by rw [hU]; exact hPc, va_K.moved hW.alike hKc⟩⟩ rfl rfl hl.1 rfl (lv_room (Nat.le_of_ble_eq_true rfl)) d_MO_addB_43 ⟨(Nat.le_of_ble_eq_true rfl), (Nat.le_of_ble_eq_true rfl)⟩) (fun r3 hr3 => ?_)
      replace hr3 := hr3.symm; subst hr3
      refine va_castS hx hb hown (hts (.classLink "LeastcodeModel" 7 "java/util/ArrayList") (List.mem_of_getElem? (i := 47) rfl)) (hK.1 9 _ rfl).2 (va_recv hK hP (ci := 9) (q0 := 3) rfl rfl) d_MO_addB_46 ?_
      have hPc : va_P (dC, dI) classes [(ql, .inr (9, [.int ml, .ref de, .int 0]))] _ := hP.sub (ws' := [(ql, .inr (9, [.int ml, .ref de, .int 0]))]) [3] rfl
      have hKc : va_K (dC, dI) classes [] s := hK.sub (tys' := []) [] rfl
      refine vp_callSi (W.runV (As := []) (rest := []) ⟨hx, hb, hml, hown, hts⟩ (c_AL_size l dC dI ql ml de 0) (cwV 0 hts g_MO_addB_49 rfl rfl rfl (by decide +kernel) ⟨Nat.le_of_ble_eq_true rfl, Nat.le_of_ble_eq_true rfl⟩) ⟨fun a U g mk z => by obtain ⟨z0, zP, zK⟩ := z; exact ⟨z0, zP, va_K.moved (u := U) (U := U.calling g mk a) (Vm.Alike.refl U.vm) zK⟩, va_recv hKc hPc (ci := 9) (q0 := 0) rfl rfl, fun U hU hW => ⟨rfl, by rw [hU]; exact hPc, va_K.moved hW.alike hKc⟩⟩ rfl rfl hl.1 rfl (lv_room (Nat.le_of_ble_eq_true rfl)) d_MO_addB_49 ⟨(Nat.le_of_ble_eq_true rfl), (Nat.le_of_ble_eq_true rfl)⟩) (fun r4 hr4 => ?_)
      replace hr4 := hr4.symm; subst hr4
      refine lv_bipush (v := 8) hx hb d_MO_addB_52 (by decide) ?_
      refine lv_icmp_ne (tgt := 63) hx hb d_MO_addB_54 (by decide) (fun c_54 => ?_) (fun c_54 => ?_)
      · skip
        refine lv_aload_n hx hb d_MO_addB_63 rfl (lv_at hl 1 rfl) ?_
        refine va_get (D := (dC, dI)) (ci := 8) (v := .ref qp) (C := R_MO) (T := T_MO) (N := 9) hx hb hts in_MO_addB_MO hown hK hP 0 rfl rfl 0 (by decide) (hts (.fieldLink "LeastcodeModel" 10 "LeastcodeModel" "programs" "Ljava/util/ArrayList;") (List.mem_of_getElem? (i := 10) rfl)) (fun _ h9 => h9) rfl d_MO_addB_64 ?_
        refine lv_iload_n hx hb d_MO_addB_67 rfl (lv_at hl 2 rfl) ?_
        have hPc : va_P (dC, dI) classes [(qp, .inr (9, [.int mp_, .ref ep, .int 1])), (ep, .inl (cP, 10, .inr (.inr (.inr (.inr (fp))))))] _ := hP.sub (ws' := [(qp, .inr (9, [.int mp_, .ref ep, .int 1])), (ep, .inl (cP, 10, .inr (.inr (.inr (.inr (fp))))))]) [1, 2] rfl
        have hKc : va_K (dC, dI) classes [(cP, .object "java/lang/Object")] s := hK.sub (tys' := [(cP, .object "java/lang/Object")]) [0] rfl
        refine va_csr (W.runV (As := [.int 0]) (rest := []) ⟨hx, hb, hml, hown, hts⟩ (c_AL_get l dC dI qp mp_ ep cP fp ql hfp) (cwV 1 hts g_MO_addB_68 rfl rfl rfl (by decide +kernel) ⟨Nat.le_of_ble_eq_true rfl, Nat.le_of_ble_eq_true rfl⟩) ⟨fun a U g mk z => by obtain ⟨z0, zP, zK⟩ := z; exact ⟨z0, zP, va_K.moved (u := U) (U := U.calling g mk a) (Vm.Alike.refl U.vm) zK⟩, va_recv hKc hPc (ci := 9) (q0 := 0) rfl rfl, fun U hU hW => ⟨rfl, by rw [hU]; exact hPc, va_K.moved hW.alike hKc⟩⟩ rfl rfl hl.1 rfl (lv_room (Nat.le_of_ble_eq_true rfl)) d_MO_addB_68 ⟨(Nat.le_of_ble_eq_true rfl), (Nat.le_of_ble_eq_true rfl)⟩) (fun r5 hr5 => ?_)
        replace hr5 := hr5.symm; subst hr5
        refine va_castS hx hb hown (hts (.classLink "LeastcodeModel" 7 "java/util/ArrayList") (List.mem_of_getElem? (i := 47) rfl)) (hK.1 9 _ rfl).2 (va_recv hK hP (ci := 9) (q0 := 3) rfl rfl) d_MO_addB_71 ?_
        refine lv_iload hx hb d_MO_addB_74 (lv_at hl 0 rfl) ?_
        refine va_csr (W.runS (As := [.int 46]) (rest := [.ref ql]) ⟨hx, hb, hml, hown, hts⟩ (c_IN_valueOf l ca fca e0 hca) (va_cwS 1 hts g_MO_addB_76 rfl rfl rfl (by decide +kernel) ⟨Nat.le_of_ble_eq_true rfl, Nat.le_of_ble_eq_true rfl⟩) ⟨fun a U g mk z => by obtain ⟨z0, zE0, zE1, zE2⟩ := z; exact ⟨z0, zE0.moved (u := U) (U := U.calling g mk a) (Vm.Alike.refl U.vm), zE1.moved (u := U) (U := U.calling g mk a) (Vm.Alike.refl U.vm), zE2.moved (u := U) (U := U.calling g mk a) (Vm.Alike.refl U.vm)⟩, fun U hU hW => ⟨rfl, by (try dsimp only); rw [hU]; exact ((hE2.kept (fun a h1 h2 => hS.2.1 a h1 h2)).narrow (B := fun _ => False) (fun _ h => h.elim)).moved hW.alike, by (try dsimp only); rw [hU]; exact ((hE3.kept (fun a h1 h2 => hS.2.1 a h1 h2)).narrow (B := fun _ => False) (fun _ h => h.elim)).moved hW.alike, by (try dsimp only); rw [hU]; exact ((hE4.kept (fun a h1 h2 => hS.2.1 a h1 h2)).narrow (B := fun _ => False) (fun _ h => h.elim)).moved hW.alike⟩⟩ rfl rfl hl.1 rfl (lv_room (Nat.le_of_ble_eq_true rfl)) d_MO_addB_76 ⟨(Nat.le_of_ble_eq_true rfl), (Nat.le_of_ble_eq_true rfl)⟩) (fun r6 hr6 => ?_)
        replace hr6 := hr6.symm; subst hr6
        have hPc : va_P (dC, dI) classes [(ql, .inr (9, [.int ml, .ref de, .int 0]))] _ := hP.sub (ws' := [(ql, .inr (9, [.int ml, .ref de, .int 0]))]) [3] rfl
        have hKc : va_K (dC, dI) classes [] s := hK.sub (tys' := []) [] rfl
        have hDc : va_D _ [(ql, .inr (9, [.int ml, .ref de, .int 0]))] := hD.sub (ws' := [(ql, .inr (9, [.int ml, .ref de, .int 0]))]) [3] (by decide) rfl
        have hFc := va_free (wc := [(ql, .inr (9, [.int ml, .ref de, .int 0]))]) hD hS hA [3] rfl
        refine va_calli (va_runV (As := [.ref e0]) (rest := []) ⟨hx, hb, hml, hown, hts⟩ (c_AL_addB l dC dI de fde ql ml e0 s.heap.size) (cwV 1 hts g_MO_addB_79 rfl rfl rfl (by decide +kernel) ⟨Nat.le_of_ble_eq_true rfl, Nat.le_of_ble_eq_true rfl⟩) ⟨fun a U g mk z => by obtain ⟨z0, z1, zP, zK, zD, zE0, zE1, zE2, zE3, zE4⟩ := z; exact ⟨z0, z1, zP, va_K.moved (u := U) (U := U.calling g mk a) (Vm.Alike.refl U.vm) zK, zD, zE0.moved (u := U) (U := U.calling g mk a) (Vm.Alike.refl U.vm), zE1.moved (u := U) (U := U.calling g mk a) (Vm.Alike.refl U.vm), zE2.moved (u := U) (U := U.calling g mk a) (Vm.Alike.refl U.vm), va_Nw.same rfl (u := U) (U := U.calling g mk a) rfl zE3, va_AO.moved (u := U) (U := U.calling g mk a) (Vm.Alike.refl U.vm) zE4⟩, va_recv hKc hPc (ci := 9) (q0 := 0) rfl rfl, fun U hU hW => ⟨rfl, by rw [hU], by rw [hU]; exact hPc, va_K.moved hW.alike hKc, hDc.weaken (fun _ _ _ _ => trivial), by (try dsimp only); rw [hU]; exact ((hE0.kept (fun a h1 h2 => hS.2.1 a h1 h2)).narrow hFc).moved hW.alike, by (try dsimp only); rw [hU]; exact ((hE1.kept (fun a h1 h2 => hS.2.1 a h1 h2)).narrow hFc).moved hW.alike, by (try dsimp only); rw [hU]; exact ((hE5.kept (fun a h1 h2 => hS.2.1 a h1 h2)).narrow hFc).moved hW.alike, va_Nw.warmC hW hE7, va_AO.moved hW.alike hE8⟩⟩ rfl rfl hl.1 rfl (lv_room (Nat.le_of_ble_eq_true rfl)) d_MO_addB_79 ⟨(Nat.le_of_ble_eq_true rfl), (Nat.le_of_ble_eq_true rfl)⟩) hS (fun q _ h => hFc q h) hFc (fun r7 u t H1 locs ht hvm hr7 hB hz1 hk1 hS => ?_)
        obtain ⟨m8, ed9, cB10, f11, hP1, hK1, hD1, hpr7_0⟩ := hB
        rw [ht] at hP1
        have hK1 := va_K.moved hvm.symm hK1
        obtain ⟨hP, hD⟩ := va_join (wr := [(m0, .inr (8, [.ref qp, .ref qg, .ref qr, .ref qk, .ref qs, .null, .int 0, .int 0, .long 1])), (qp, .inr (9, [.int mp_, .ref ep, .int 1])), (ep, .inl (cP, 10, .inr (.inr (.inr (.inr (fp))))))]) (w1 := [(ql, .inr (9, [.int m8, .ref ed9, .int 1])), (ed9, .inl (cB10, 10, .inr (.inr (.inr (.inr (f11))))))]) hP hD [3] [0, 1, 2] rfl rfl (by decide) (by decide) hk1 hFc hP1 hD1
        have hK := hK.app (hK1.sub (tys' := [(cB10, .object "java/lang/Object")]) [0] rfl)
        have hK : va_K (dC, dI) classes [(cP, .object "java/lang/Object"), (cB10, .object "java/lang/Object")] s := hK
        clear hPc hDc hKc hFc hP1 hD1 hK1 hk1
        generalize H1 = H at hP hS ⊢
        have hP : va_P (dC, dI) classes [(m0, .inr (8, [.ref qp, .ref qg, .ref qr, .ref qk, .ref qs, .null, .int 0, .int 0, .long 1])), (qp, .inr (9, [.int mp_, .ref ep, .int 1])), (ep, .inl (cP, 10, .inr (.inr (.inr (.inr (fp)))))), (ql, .inr (9, [.int m8, .ref ed9, .int 1])), (ed9, .inl (cB10, 10, .inr (.inr (.inr (.inr (f11))))))] H := hP
        have hD : va_D A [(m0, .inr (8, [.ref qp, .ref qg, .ref qr, .ref qk, .ref qs, .null, .int 0, .int 0, .long 1])), (qp, .inr (9, [.int mp_, .ref ep, .int 1])), (ep, .inl (cP, 10, .inr (.inr (.inr (.inr (fp)))))), (ql, .inr (9, [.int m8, .ref ed9, .int 1])), (ed9, .inl (cB10, 10, .inr (.inr (.inr (.inr (f11))))))] := hD
        refine W.widen (k := 1) (n := 10) (by omega) (by omega) ?_
        replace hr7 := hr7.symm; subst hr7
        refine lv_pop hx hb d_MO_addB_82 rfl ?_
        refine lv_aload_n hx hb d_MO_addB_83 rfl (lv_at hl 1 rfl) ?_
        refine lv_aload_n hx hb d_MO_addB_84 rfl (lv_at hl 1 rfl) ?_
        refine va_get (D := (dC, dI)) (ci := 8) (v := .ref qp) (C := R_MO) (T := T_MO) (N := 9) hx hb hts in_MO_addB_MO hown hK hP 0 rfl rfl 0 (by decide) (hts (.fieldLink "LeastcodeModel" 10 "LeastcodeModel" "programs" "Ljava/util/ArrayList;") (List.mem_of_getElem? (i := 10) rfl)) (fun _ h9 => h9) rfl d_MO_addB_85 ?_
        refine lv_iload_n hx hb d_MO_addB_88 rfl (lv_at hl 2 rfl) ?_
        have hPc : va_P (dC, dI) classes [(qp, .inr (9, [.int mp_, .ref ep, .int 1])), (ep, .inl (cP, 10, .inr (.inr (.inr (.inr (fp))))))] _ := hP.sub (ws' := [(qp, .inr (9, [.int mp_, .ref ep, .int 1])), (ep, .inl (cP, 10, .inr (.inr (.inr (.inr (fp))))))]) [1, 2] rfl
        have hKc : va_K (dC, dI) classes [(cP, .object "java/lang/Object")] s := hK.sub (tys' := [(cP, .object "java/lang/Object")]) [0] rfl
        refine va_csr (W.runV (As := [.int 0]) (rest := [.ref m0]) ⟨hx, hb, hml, hown, hts⟩ (c_AL_get l dC dI qp mp_ ep cP fp ql hfp) (cwV 1 hts g_MO_addB_89 rfl rfl rfl (by decide +kernel) ⟨Nat.le_of_ble_eq_true rfl, Nat.le_of_ble_eq_true rfl⟩) ⟨fun a U g mk z => by obtain ⟨z0, zP, zK⟩ := z; exact ⟨z0, zP, va_K.moved (u := U) (U := U.calling g mk a) (Vm.Alike.refl U.vm) zK⟩, va_recv hKc hPc (ci := 9) (q0 := 0) rfl rfl, fun U hU hW => ⟨rfl, by rw [hU]; exact hPc, va_K.moved hW.alike hKc⟩⟩ rfl rfl hl.1 rfl (lv_room (Nat.le_of_ble_eq_true rfl)) d_MO_addB_89 ⟨(Nat.le_of_ble_eq_true rfl), (Nat.le_of_ble_eq_true rfl)⟩) (fun r12 hr12 => ?_)
        replace hr12 := hr12.symm; subst hr12
        refine va_castS hx hb hown (hts (.classLink "LeastcodeModel" 7 "java/util/ArrayList") (List.mem_of_getElem? (i := 47) rfl)) (hK.1 9 _ rfl).2 (va_recv hK hP (ci := 9) (q0 := 3) rfl rfl) d_MO_addB_92 ?_
        have hPc : va_P (dC, dI) classes [(ql, .inr (9, [.int m8, .ref ed9, .int 1]))] _ := hP.sub (ws' := [(ql, .inr (9, [.int m8, .ref ed9, .int 1]))]) [3] rfl
        have hKc : va_K (dC, dI) classes [] s := hK.sub (tys' := []) [] rfl
        refine vp_callSi (W.runV (As := []) (rest := [.ref m0]) ⟨hx, hb, hml, hown, hts⟩ (c_AL_size l dC dI ql m8 ed9 1) (cwV 0 hts g_MO_addB_95 rfl rfl rfl (by decide +kernel) ⟨Nat.le_of_ble_eq_true rfl, Nat.le_of_ble_eq_true rfl⟩) ⟨fun a U g mk z => by obtain ⟨z0, zP, zK⟩ := z; exact ⟨z0, zP, va_K.moved (u := U) (U := U.calling g mk a) (Vm.Alike.refl U.vm) zK⟩, va_recv hKc hPc (ci := 9) (q0 := 0) rfl rfl, fun U hU hW => ⟨rfl, by rw [hU]; exact hPc, va_K.moved hW.alike hKc⟩⟩ rfl rfl hl.1 rfl (lv_room (Nat.le_of_ble_eq_true rfl)) d_MO_addB_95 ⟨(Nat.le_of_ble_eq_true rfl), (Nat.le_of_ble_eq_true rfl)⟩) (fun r13 hr13 => ?_)
        replace hr13 := hr13.symm; subst hr13
        have hPc : va_P (dC, dI) classes [(m0, .inr (8, [.ref qp, .ref qg, .ref qr, .ref qk, .ref qs, .null, .int 0, .int 0, .long 1]))] _ := hP.sub (ws' := [(m0, .inr (8, [.ref qp, .ref qg, .ref qr, .ref qk, .ref qs, .null, .int 0, .int 0, .long 1]))]) [0] rfl
        have hKc : va_K (dC, dI) classes [] s := hK.sub (tys' := []) [] rfl
        have hDc : va_D _ [(m0, .inr (8, [.ref qp, .ref qg, .ref qr, .ref qk, .ref qs, .null, .int 0, .int 0, .long 1]))] := hD.sub (ws' := [(m0, .inr (8, [.ref qp, .ref qg, .ref qr, .ref qk, .ref qs, .null, .int 0, .int 0, .long 1]))]) [0] (by decide) rfl
        have hFc := va_free (wc := [(m0, .inr (8, [.ref qp, .ref qg, .ref qr, .ref qk, .ref qs, .null, .int 0, .int 0, .long 1]))]) hD hS hA [0] rfl
        refine va_calli (va_runV (As := [.int 1]) (rest := []) ⟨hx, hb, hml, hown, hts⟩ (c_tells l dC dI m0 qp qg qr qk qs 1 H.size) (cwV 1 hts g_MO_addB_98 rfl rfl rfl (by decide +kernel) ⟨Nat.le_of_ble_eq_true rfl, Nat.le_of_ble_eq_true rfl⟩) ⟨fun a U g mk z => by obtain ⟨z0, z1, zP, zK, zD⟩ := z; exact ⟨z0, z1, zP, va_K.moved (u := U) (U := U.calling g mk a) (Vm.Alike.refl U.vm) zK, zD⟩, va_recv hKc hPc (ci := 8) (q0 := 0) rfl rfl, fun U hU hW => ⟨rfl, by rw [hU], by rw [hU]; exact hPc, va_K.moved hW.alike hKc, hDc.weaken (fun _ _ _ _ => trivial)⟩⟩ rfl rfl hl.1 rfl (lv_room (Nat.le_of_ble_eq_true rfl)) d_MO_addB_98 ⟨(Nat.le_of_ble_eq_true rfl), (Nat.le_of_ble_eq_true rfl)⟩) hS (fun q _ h => hFc q h) hFc (fun r14 u t H1 locs ht hvm hr14 hB hz1 hk1 hS => ?_)
        obtain ⟨hP1, hK1, hD1⟩ := hB
        rw [ht] at hP1
        have hK1 := va_K.moved hvm.symm hK1
        obtain ⟨hP, hD⟩ := va_join (wr := [(qp, .inr (9, [.int mp_, .ref ep, .int 1])), (ep, .inl (cP, 10, .inr (.inr (.inr (.inr (fp)))))), (ql, .inr (9, [.int m8, .ref ed9, .int 1])), (ed9, .inl (cB10, 10, .inr (.inr (.inr (.inr (f11))))))]) (w1 := [(m0, .inr (8, [.ref qp, .ref qg, .ref qr, .ref qk, .ref qs, .null, .int 0, .int 0, .long 1]))]) hP hD [0] [1, 2, 3, 4] rfl rfl (by decide) (by decide) hk1 hFc hP1 hD1
        clear hPc hDc hKc hFc hP1 hD1 hK1 hk1
        generalize H1 = H at hP hS ⊢
        have hP : va_P (dC, dI) classes [(qp, .inr (9, [.int mp_, .ref ep, .int 1])), (ep, .inl (cP, 10, .inr (.inr (.inr (.inr (fp)))))), (ql, .inr (9, [.int m8, .ref ed9, .int 1])), (ed9, .inl (cB10, 10, .inr (.inr (.inr (.inr (f11)))))), (m0, .inr (8, [.ref qp, .ref qg, .ref qr, .ref qk, .ref qs, .null, .int 0, .int 0, .long 1]))] H := hP
        have hD : va_D A [(qp, .inr (9, [.int mp_, .ref ep, .int 1])), (ep, .inl (cP, 10, .inr (.inr (.inr (.inr (fp)))))), (ql, .inr (9, [.int m8, .ref ed9, .int 1])), (ed9, .inl (cB10, 10, .inr (.inr (.inr (.inr (f11)))))), (m0, .inr (8, [.ref qp, .ref qg, .ref qr, .ref qk, .ref qs, .null, .int 0, .int 0, .long 1]))] := hD
        refine W.widen (k := 1) (n := 10) (by omega) (by omega) ?_
        replace hr14 := hr14.symm; subst hr14
        have hP9 : va_P (dC, dI) classes [(m0, .inr (8, [.ref qp, .ref qg, .ref qr, .ref qk, .ref qs, .null, .int 0, .int 0, .long 1])), (qp, .inr (9, [.int mp_, .ref ep, .int 1])), (ep, .inl (cP, 10, .inr (.inr (.inr (.inr (fp)))))), (ql, .inr (9, [.int m8, .ref ed9, .int 1])), (ed9, .inl (cB10, 10, .inr (.inr (.inr (.inr (f11))))))] H := hP.sub (ws' := [(m0, .inr (8, [.ref qp, .ref qg, .ref qr, .ref qk, .ref qs, .null, .int 0, .int 0, .long 1])), (qp, .inr (9, [.int mp_, .ref ep, .int 1])), (ep, .inl (cP, 10, .inr (.inr (.inr (.inr (fp)))))), (ql, .inr (9, [.int m8, .ref ed9, .int 1])), (ed9, .inl (cB10, 10, .inr (.inr (.inr (.inr (f11))))))]) [4, 0, 1, 2, 3] rfl
        have hD9 := hD.sub (ws' := [(m0, .inr (8, [.ref qp, .ref qg, .ref qr, .ref qk, .ref qs, .null, .int 0, .int 0, .long 1])), (qp, .inr (9, [.int mp_, .ref ep, .int 1])), (ep, .inl (cP, 10, .inr (.inr (.inr (.inr (fp)))))), (ql, .inr (9, [.int m8, .ref ed9, .int 1])), (ed9, .inl (cB10, 10, .inr (.inr (.inr (.inr (f11))))))]) [4, 0, 1, 2, 3] (by decide) rfl
        have hK9 := hK.sub (tys' := [(cP, .object "java/lang/Object"), (cB10, .object "java/lang/Object")]) [0, 1] rfl
        refine W.widen (k := 1) (n := 10) (by omega) (by omega) ?_
        exact W.iret hx hb hr (fun t ht hW => ⟨⟨_, (), rfl, rfl, ⟨m8, ⟨ed9, ⟨cB10, ⟨f11, ⟨by rw [ht]; exact hP9, va_K.moved hW.alike hK9, hD9, hpr7_0⟩⟩⟩⟩⟩⟩, hS.F ht⟩) hS.2.2 d_MO_addB_101
      · exact absurd c_54 (by decide)
    · exact absurd c_29 (by decide)
  · exact absurd c_8 (by decide)

abbrev rm_MO_addK : Room := { frames := 3, cells := 0, slots := 0, locals := 64 }
abbrev b_MO_addK : ByteArray := prog_11_method_21_code
def y_MO_addK : MethodName := ⟨"LeastcodeModel", "add", "(ICII)I"⟩
def w_MO_addK : List Cond := [.code ⟨"LeastcodeModel", "add", "(ICII)I"⟩ prog_11_method_21_code 6 (some .int), .laysFinal "LeastcodeModel" "LeastcodeModel" "programs" "Ljava/util/ArrayList;", .laysFinal "LeastcodeModel" "LeastcodeModel" "goals" "Ljava/util/ArrayList;", .laysFinal "LeastcodeModel" "LeastcodeModel" "rules" "Ljava/util/ArrayList;", .laysFinal "LeastcodeModel" "LeastcodeModel" "prices" "[I", .laysFinal "LeastcodeModel" "LeastcodeModel" "kills" "[I", .lays "LeastcodeModel" "LeastcodeModel" "found" "Ljava/util/List;", .lays "LeastcodeModel" "LeastcodeModel" "wait" "I", .lays "LeastcodeModel" "LeastcodeModel" "thrown" "I", .lays "LeastcodeModel" "LeastcodeModel" "z" "J", .fieldLink "LeastcodeModel" 10 "LeastcodeModel" "programs" "Ljava/util/ArrayList;", .methodLink "LeastcodeModel" 143 ⟨"LeastcodeModel", "isOf", "(Ljava/util/List;I)Z"⟩, .static ⟨"LeastcodeModel", "isOf", "(Ljava/util/List;I)Z"⟩, .initialized "LeastcodeModel", .code ⟨"LeastcodeModel", "isOf", "(Ljava/util/List;I)Z"⟩ prog_11_method_7_code 2 (some .boolean), .methodLink "LeastcodeModel" 58 ⟨"java/util/List", "size", "()I"⟩, .selects "java/util/ArrayList" ⟨"java/util/List", "size", "()I"⟩ ⟨"java/util/ArrayList", "size", "()I"⟩, .instanceMethod ⟨"java/util/ArrayList", "size", "()I"⟩, .initialized "java/util/ArrayList", .code ⟨"java/util/ArrayList", "size", "()I"⟩ prog_50_method_8_code 1 (some .int), .lays "java/util/ArrayList" "java/util/AbstractList" "modCount" "I", .lays "java/util/ArrayList" "java/util/ArrayList" "elementData" "[Ljava/lang/Object;", .lays "java/util/ArrayList" "java/util/ArrayList" "size" "I", .fieldLink "java/util/ArrayList" 48 "java/util/ArrayList" "size" "I", .methodLink "LeastcodeModel" 63 ⟨"LeastcodeModel", "in", "(III)Z"⟩, .static ⟨"LeastcodeModel", "in", "(III)Z"⟩, .code ⟨"LeastcodeModel", "in", "(III)Z"⟩ prog_11_method_3_code 3 (some .boolean), .methodLink "LeastcodeModel" 147 ⟨"LeastcodeModel", "number", "(CII)I"⟩, .static ⟨"LeastcodeModel", "number", "(CII)I"⟩, .code ⟨"LeastcodeModel", "number", "(CII)I"⟩ prog_11_method_11_code 3 (some .int), .methodLink "LeastcodeModel" 151 ⟨"java/util/ArrayList", "get", "(I)Ljava/lang/Object;"⟩, .instanceMethod ⟨"java/util/ArrayList", "get", "(I)Ljava/lang/Object;"⟩, .selects "java/util/ArrayList" ⟨"java/util/ArrayList", "get", "(I)Ljava/lang/Object;"⟩ ⟨"java/util/ArrayList", "get", "(I)Ljava/lang/Object;"⟩, .code ⟨"java/util/ArrayList", "get", "(I)Ljava/lang/Object;"⟩ prog_50_method_20_code 2 (some (.object "java/lang/Object")), .methodLink "java/util/ArrayList" 118 ⟨"java/util/Objects", "checkIndex", "(II)I"⟩, .static ⟨"java/util/Objects", "checkIndex", "(II)I"⟩, .initialized "java/util/Objects", .code ⟨"java/util/Objects", "checkIndex", "(II)I"⟩ prog_73_method_17_code 2 (some .int), .methodLink "java/util/Objects" 105 ⟨"jdk/internal/util/Preconditions", "checkIndex", "(IILjava/util/function/BiFunction;)I"⟩, .static ⟨"jdk/internal/util/Preconditions", "checkIndex", "(IILjava/util/function/BiFunction;)I"⟩, .initialized "jdk/internal/util/Preconditions", .code ⟨"jdk/internal/util/Preconditions", "checkIndex", "(IILjava/util/function/BiFunction;)I"⟩ prog_81_method_11_code 3 (some .int), .methodLink "java/util/ArrayList" 123 ⟨"java/util/ArrayList", "elementData", "(I)Ljava/lang/Object;"⟩, .instanceMethod ⟨"java/util/ArrayList", "elementData", "(I)Ljava/lang/Object;"⟩, .selects "java/util/ArrayList" ⟨"java/util/ArrayList", "elementData", "(I)Ljava/lang/Object;"⟩ ⟨"java/util/ArrayList", "elementData", "(I)Ljava/lang/Object;"⟩, .code ⟨"java/util/ArrayList", "elementData", "(I)Ljava/lang/Object;"⟩ prog_50_method_18_code 2 (some (.object "java/lang/Object")), .fieldLink "java/util/ArrayList" 9 "java/util/ArrayList" "elementData" "[Ljava/lang/Object;", .classLink "LeastcodeModel" 7 "java/util/ArrayList", .methodLink "LeastcodeModel" 132 ⟨"java/util/ArrayList", "size", "()I"⟩, .selects "java/util/ArrayList" ⟨"java/util/ArrayList", "size", "()I"⟩ ⟨"java/util/ArrayList", "size", "()I"⟩, .methodLink "LeastcodeModel" 155 ⟨"java/lang/Integer", "valueOf", "(I)Ljava/lang/Integer;"⟩, .static ⟨"java/lang/Integer", "valueOf", "(I)Ljava/lang/Integer;"⟩, .initialized "java/lang/Integer", .code ⟨"java/lang/Integer", "valueOf", "(I)Ljava/lang/Integer;"⟩ prog_27_method_22_code 1 (some (.object "java/lang/Integer")), .fieldLink "java/lang/Integer" 191 "java/lang/Integer$IntegerCache" "high" "I", .fieldLink "java/lang/Integer" 195 "java/lang/Integer$IntegerCache" "cache" "[Ljava/lang/Integer;", .methodLink "LeastcodeModel" 136 ⟨"java/util/ArrayList", "add", "(Ljava/lang/Object;)Z"⟩, .instanceMethod ⟨"java/util/ArrayList", "add", "(Ljava/lang/Object;)Z"⟩, .selects "java/util/ArrayList" ⟨"java/util/ArrayList", "add", "(Ljava/lang/Object;)Z"⟩ ⟨"java/util/ArrayList", "add", "(Ljava/lang/Object;)Z"⟩, .code ⟨"java/util/ArrayList", "add", "(Ljava/lang/Object;)Z"⟩ prog_50_method_25_code 2 (some .boolean), .sameField "java/util/ArrayList" "java/util/AbstractList" "modCount" "I", .fieldLink "java/util/ArrayList" 63 "java/util/ArrayList" "modCount" "I", .methodLink "java/util/ArrayList" 131 ⟨"java/util/ArrayList", "add", "(Ljava/lang/Object;[Ljava/lang/Object;I)V"⟩, .instanceMethod ⟨"java/util/ArrayList", "add", "(Ljava/lang/Object;[Ljava/lang/Object;I)V"⟩, .selects "java/util/ArrayList" ⟨"java/util/ArrayList", "add", "(Ljava/lang/Object;[Ljava/lang/Object;I)V"⟩ ⟨"java/util/ArrayList", "add", "(Ljava/lang/Object;[Ljava/lang/Object;I)V"⟩, .code ⟨"java/util/ArrayList", "add", "(Ljava/lang/Object;[Ljava/lang/Object;I)V"⟩ prog_50_method_24_code 4 none, .methodLink "LeastcodeModel" 140 ⟨"LeastcodeModel", "tells", "(I)I"⟩, .instanceMethod ⟨"LeastcodeModel", "tells", "(I)I"⟩, .selects "LeastcodeModel" ⟨"LeastcodeModel", "tells", "(I)I"⟩ ⟨"LeastcodeModel", "tells", "(I)I"⟩, .code ⟨"LeastcodeModel", "tells", "(I)I"⟩ prog_11_method_5_code 2 (some .int), .fieldLink "LeastcodeModel" 45 "LeastcodeModel" "thrown" "I"]
theorem d_MO_addK_0 : decode b_MO_addK 0 = .ok (.aload_n 0, 1) := by decide +kernel
theorem d_MO_addK_1 : decode b_MO_addK 1 = .ok (.getfield 10, 3) := by decide +kernel
theorem d_MO_addK_4 : decode b_MO_addK 4 = .ok (.iload_n 1, 1) := by decide +kernel
theorem d_MO_addK_5 : decode b_MO_addK 5 = .ok (.invokestatic 143, 3) := by decide +kernel
theorem d_MO_addK_8 : decode b_MO_addK 8 = .ok (.ifCond .ne 9, 3) := by decide +kernel
theorem d_MO_addK_17 : decode b_MO_addK 17 = .ok (.iload_n 2, 1) := by decide +kernel
theorem d_MO_addK_18 : decode b_MO_addK 18 = .ok (.iload_n 3, 1) := by decide +kernel
theorem d_MO_addK_19 : decode b_MO_addK 19 = .ok (.iload 4, 2) := by decide +kernel
theorem d_MO_addK_21 : decode b_MO_addK 21 = .ok (.invokestatic 147, 3) := by decide +kernel
theorem d_MO_addK_24 : decode b_MO_addK 24 = .ok (.istore 5, 2) := by decide +kernel
theorem d_MO_addK_26 : decode b_MO_addK 26 = .ok (.iload 5, 2) := by decide +kernel
theorem d_MO_addK_28 : decode b_MO_addK 28 = .ok (.iconst (-1), 1) := by decide +kernel
theorem d_MO_addK_29 : decode b_MO_addK 29 = .ok (.if_icmp .ne 9, 3) := by decide +kernel
theorem d_MO_addK_38 : decode b_MO_addK 38 = .ok (.aload_n 0, 1) := by decide +kernel
theorem d_MO_addK_39 : decode b_MO_addK 39 = .ok (.getfield 10, 3) := by decide +kernel
theorem d_MO_addK_42 : decode b_MO_addK 42 = .ok (.iload_n 1, 1) := by decide +kernel
theorem d_MO_addK_43 : decode b_MO_addK 43 = .ok (.invokevirtual 151, 3) := by decide +kernel
theorem d_MO_addK_46 : decode b_MO_addK 46 = .ok (.checkcast 7, 3) := by decide +kernel
theorem d_MO_addK_49 : decode b_MO_addK 49 = .ok (.invokevirtual 132, 3) := by decide +kernel
theorem d_MO_addK_52 : decode b_MO_addK 52 = .ok (.bipush 8, 2) := by decide +kernel
theorem d_MO_addK_54 : decode b_MO_addK 54 = .ok (.if_icmp .ne 9, 3) := by decide +kernel
theorem d_MO_addK_63 : decode b_MO_addK 63 = .ok (.aload_n 0, 1) := by decide +kernel
theorem d_MO_addK_64 : decode b_MO_addK 64 = .ok (.getfield 10, 3) := by decide +kernel
theorem d_MO_addK_67 : decode b_MO_addK 67 = .ok (.iload_n 1, 1) := by decide +kernel
theorem d_MO_addK_68 : decode b_MO_addK 68 = .ok (.invokevirtual 151, 3) := by decide +kernel
theorem d_MO_addK_71 : decode b_MO_addK 71 = .ok (.checkcast 7, 3) := by decide +kernel
theorem d_MO_addK_74 : decode b_MO_addK 74 = .ok (.iload 5, 2) := by decide +kernel
theorem d_MO_addK_76 : decode b_MO_addK 76 = .ok (.invokestatic 155, 3) := by decide +kernel
theorem d_MO_addK_79 : decode b_MO_addK 79 = .ok (.invokevirtual 136, 3) := by decide +kernel
theorem d_MO_addK_82 : decode b_MO_addK 82 = .ok (.pop, 1) := by decide +kernel
theorem d_MO_addK_83 : decode b_MO_addK 83 = .ok (.aload_n 0, 1) := by decide +kernel
theorem d_MO_addK_84 : decode b_MO_addK 84 = .ok (.aload_n 0, 1) := by decide +kernel
theorem d_MO_addK_85 : decode b_MO_addK 85 = .ok (.getfield 10, 3) := by decide +kernel
theorem d_MO_addK_88 : decode b_MO_addK 88 = .ok (.iload_n 1, 1) := by decide +kernel
theorem d_MO_addK_89 : decode b_MO_addK 89 = .ok (.invokevirtual 151, 3) := by decide +kernel
theorem d_MO_addK_92 : decode b_MO_addK 92 = .ok (.checkcast 7, 3) := by decide +kernel
theorem d_MO_addK_95 : decode b_MO_addK 95 = .ok (.invokevirtual 132, 3) := by decide +kernel
theorem d_MO_addK_98 : decode b_MO_addK 98 = .ok (.invokevirtual 140, 3) := by decide +kernel
theorem d_MO_addK_101 : decode b_MO_addK 101 = .ok (.ireturn, 1) := by decide +kernel
theorem in_MO_addK_MO : ∀ v ∈ u_ws R_MO T_MO 9, v ∈ w_MO_addK := by decide +kernel
set_option maxRecDepth 20000 in
theorem g_MO_addK_5 : GoodIn w_MO_addK (wsS "LeastcodeModel" 143 ⟨"LeastcodeModel", "isOf", "(Ljava/util/List;I)Z"⟩ w_isOf) := goodIn_r _ [11, 12, 13, 14, 15, 16, 17, 18, 19, 20, 21, 22, 23, 24, 25, 13, 26] rfl (by decide +kernel)
set_option maxRecDepth 20000 in
theorem g_MO_addK_21 : GoodIn w_MO_addK (wsS "LeastcodeModel" 147 ⟨"LeastcodeModel", "number", "(CII)I"⟩ w_number) := goodIn_r _ [27, 28, 13, 29] rfl (by decide +kernel)
set_option maxRecDepth 20000 in
theorem g_MO_addK_43 : GoodIn w_MO_addK (wsV "LeastcodeModel" 151 "java/util/ArrayList" ⟨"java/util/ArrayList", "get", "(I)Ljava/lang/Object;"⟩ w_AL_get) := goodIn_r _ [30, 31, 32, 18, 33, 20, 21, 22, 23, 34, 35, 36, 37, 38, 39, 40, 41, 42, 43, 44, 18, 45, 46] rfl (by decide +kernel)
set_option maxRecDepth 20000 in
theorem g_MO_addK_49 : GoodIn w_MO_addK (wsV "LeastcodeModel" 132 "java/util/ArrayList" ⟨"java/util/ArrayList", "size", "()I"⟩ w_AL_size) := goodIn_r _ [48, 17, 49, 18, 19, 20, 21, 22, 23] rfl (by decide +kernel)
set_option maxRecDepth 20000 in
theorem g_MO_addK_68 : GoodIn w_MO_addK (wsV "LeastcodeModel" 151 "java/util/ArrayList" ⟨"java/util/ArrayList", "get", "(I)Ljava/lang/Object;"⟩ w_AL_get) := goodIn_r _ [30, 31, 32, 18, 33, 20, 21, 22, 23, 34, 35, 36, 37, 38, 39, 40, 41, 42, 43, 44, 18, 45, 46] rfl (by decide +kernel)
set_option maxRecDepth 20000 in
theorem g_MO_addK_76 : GoodIn w_MO_addK (va_wsS "LeastcodeModel" 155 ⟨"java/lang/Integer", "valueOf", "(I)Ljava/lang/Integer;"⟩ w_IN_valueOf) := goodIn_r _ [50, 51, 52, 53, 54, 55] rfl (by decide +kernel)
set_option maxRecDepth 20000 in
theorem g_MO_addK_79 : GoodIn w_MO_addK (wsV "LeastcodeModel" 136 "java/util/ArrayList" ⟨"java/util/ArrayList", "add", "(Ljava/lang/Object;)Z"⟩ w_AL_addK) := goodIn_r _ [56, 57, 58, 18, 59, 60, 20, 21, 22, 61, 46, 23, 62, 63, 64, 18, 65] rfl (by decide +kernel)
set_option maxRecDepth 20000 in
theorem g_MO_addK_89 : GoodIn w_MO_addK (wsV "LeastcodeModel" 151 "java/util/ArrayList" ⟨"java/util/ArrayList", "get", "(I)Ljava/lang/Object;"⟩ w_AL_get) := goodIn_r _ [30, 31, 32, 18, 33, 20, 21, 22, 23, 34, 35, 36, 37, 38, 39, 40, 41, 42, 43, 44, 18, 45, 46] rfl (by decide +kernel)
set_option maxRecDepth 20000 in
theorem g_MO_addK_95 : GoodIn w_MO_addK (wsV "LeastcodeModel" 132 "java/util/ArrayList" ⟨"java/util/ArrayList", "size", "()I"⟩ w_AL_size) := goodIn_r _ [48, 17, 49, 18, 19, 20, 21, 22, 23] rfl (by decide +kernel)
set_option maxRecDepth 20000 in
theorem g_MO_addK_98 : GoodIn w_MO_addK (wsV "LeastcodeModel" 140 "LeastcodeModel" ⟨"LeastcodeModel", "tells", "(I)I"⟩ w_tells) := goodIn_r _ [66, 67, 68, 13, 69, 1, 2, 3, 4, 5, 6, 7, 8, 9, 70] rfl (by decide +kernel)
set_option maxHeartbeats 4000000 in
set_option maxRecDepth 100000 in
theorem c_MO_addK (l : Launch) (dC : Nat → ClassId) (dI : Nat → Nat → Nat) (ca : Nat) (fca : Nat → Value) (e0 : Nat) (m0 : Nat) (qp : Nat) (qg : Nat) (qr : Nat) (qk : Nat) (qs : Nat) (mp_ : Int32) (ep : Nat) (cP : ClassId) (fp : Nat → Option Nat) (ql : Nat) (ml : Int32) (ed : Nat) (n : Int32) (cB : ClassId) (f0 : Nat → Option Nat) (k : Nat) (hfp : fp 0 = some ql) (hca : fca 174 = .ref e0) (hk : k < 8) (hnk : n = nI k) (hfk : ∀ j, j < k → f0 j = some e0) (sz : Nat) : Met l y_MO_addK w_MO_addK rm_MO_addK (va_Pc [.ref m0, .int 0, .int 102, .int 0, .int 0] (fun U => U.heap.size = sz ∧ va_P (dC, dI) classes [(m0, .inr (8, [.ref qp, .ref qg, .ref qr, .ref qk, .ref qs, .null, .int 0, .int 0, .long 1])), (qp, .inr (9, [.int mp_, .ref ep, .int 1])), (ep, .inl (cP, 10, .inr (.inr (.inr (.inr (fp)))))), (ql, .inr (9, [.int ml, .ref ed, .int n])), (ed, .inl (cB, 10, .inr (.inr (.inr (.inr (f0))))))] U.heap ∧ va_K (dC, dI) classes [(cP, .object "java/lang/Object"), (cB, .object "java/lang/Object")] U ∧ va_D (fun _ => True) [(m0, .inr (8, [.ref qp, .ref qg, .ref qr, .ref qk, .ref qs, .null, .int 0, .int 0, .long 1])), (qp, .inr (9, [.int mp_, .ref ep, .int 1])), (ep, .inl (cP, 10, .inr (.inr (.inr (.inr (fp)))))), (ql, .inr (9, [.int ml, .ref ed, .int n])), (ed, .inl (cB, 10, .inr (.inr (.inr (.inr (f0))))))] ∧ va_Z "java/lang/Integer$IntegerCache" "high" "I" (.int 127) (va_A [(m0, .inr (8, [.ref qp, .ref qg, .ref qr, .ref qk, .ref qs, .null, .int 0, .int 0, .long 1])), (qp, .inr (9, [.int mp_, .ref ep, .int 1])), (ep, .inl (cP, 10, .inr (.inr (.inr (.inr (fp)))))), (ql, .inr (9, [.int ml, .ref ed, .int n])), (ed, .inl (cB, 10, .inr (.inr (.inr (.inr (f0))))))] sz) U U.heap ∧ va_Z "java/lang/Integer$IntegerCache" "cache" "[Ljava/lang/Integer;" (.ref ca) (va_A [(m0, .inr (8, [.ref qp, .ref qg, .ref qr, .ref qk, .ref qs, .null, .int 0, .int 0, .long 1])), (qp, .inr (9, [.int mp_, .ref ep, .int 1])), (ep, .inl (cP, 10, .inr (.inr (.inr (.inr (fp)))))), (ql, .inr (9, [.int ml, .ref ed, .int n])), (ed, .inl (cB, 10, .inr (.inr (.inr (.inr (f0))))))] sz) U U.heap ∧ va_T (.object "java/lang/Integer") ca 256 fca (va_A [(m0, .inr (8, [.ref qp, .ref qg, .ref qr, .ref qk, .ref qs, .null, .int 0, .int 0, .long 1])), (qp, .inr (9, [.int mp_, .ref ep, .int 1])), (ep, .inl (cP, 10, .inr (.inr (.inr (.inr (fp)))))), (ql, .inr (9, [.int ml, .ref ed, .int n])), (ed, .inl (cB, 10, .inr (.inr (.inr (.inr (f0))))))] sz) U U.heap ∧ va_O "java/lang/Integer" e0 (va_A [(m0, .inr (8, [.ref qp, .ref qg, .ref qr, .ref qk, .ref qs, .null, .int 0, .int 0, .long 1])), (qp, .inr (9, [.int mp_, .ref ep, .int 1])), (ep, .inl (cP, 10, .inr (.inr (.inr (.inr (fp)))))), (ql, .inr (9, [.int ml, .ref ed, .int n])), (ed, .inl (cB, 10, .inr (.inr (.inr (.inr (f0))))))] sz) U U.heap ∧ va_Fw "java/util/ArrayList" ⟨"java/util/List", "size", "()I"⟩ ⟨"java/util/ArrayList", "size", "()I"⟩ U ∧ va_Nw (.castable "java/lang/Integer" "java/lang/Object") U)) (va_Qi (fun r (_ : Unit) => r = nI (k + 1)) (fun _ t => ∃ m1 : Int32, ∃ n1 : Int32, ∃ f1 : Nat → Option Nat, va_P (dC, dI) classes [(m0, .inr (8, [.ref qp, .ref qg, .ref qr, .ref qk, .ref qs, .null, .int 0, .int 0, .long 1])), (qp, .inr (9, [.int mp_, .ref ep, .int 1])), (ep, .inl (cP, 10, .inr (.inr (.inr (.inr (fp)))))), (ql, .inr (9, [.int m1, .ref ed, .int n1])), (ed, .inl (cB, 10, .inr (.inr (.inr (.inr (f1))))))] t.heap ∧ va_K (dC, dI) classes [(cP, .object "java/lang/Object"), (cB, .object "java/lang/Object")] t ∧ va_D (va_A [(m0, .inr (8, [.ref qp, .ref qg, .ref qr, .ref qk, .ref qs, .null, .int 0, .int 0, .long 1])), (qp, .inr (9, [.int mp_, .ref ep, .int 1])), (ep, .inl (cP, 10, .inr (.inr (.inr (.inr (fp)))))), (ql, .inr (9, [.int ml, .ref ed, .int n])), (ed, .inl (cB, 10, .inr (.inr (.inr (.inr (f0))))))] sz) [(m0, .inr (8, [.ref qp, .ref qg, .ref qr, .ref qk, .ref qs, .null, .int 0, .int 0, .long 1])), (qp, .inr (9, [.int mp_, .ref ep, .int 1])), (ep, .inl (cP, 10, .inr (.inr (.inr (.inr (fp)))))), (ql, .inr (9, [.int m1, .ref ed, .int n1])), (ed, .inl (cB, 10, .inr (.inr (.inr (.inr (f1))))))] ∧ (∀ j, j < k + 1 → f1 j = some e0) ∧ n1 = nI (k + 1)) (va_A [(m0, .inr (8, [.ref qp, .ref qg, .ref qr, .ref qk, .ref qs, .null, .int 0, .int 0, .long 1])), (qp, .inr (9, [.int mp_, .ref ep, .int 1])), (ep, .inl (cP, 10, .inr (.inr (.inr (.inr (fp)))))), (ql, .inr (9, [.int ml, .ref ed, .int n])), (ed, .inl (cB, 10, .inr (.inr (.inr (.inr (f0))))))] sz)) 0 0 (va_A [(m0, .inr (8, [.ref qp, .ref qg, .ref qr, .ref qk, .ref qs, .null, .int 0, .int 0, .long 1])), (qp, .inr (9, [.int mp_, .ref ep, .int 1])), (ep, .inl (cP, 10, .inr (.inr (.inr (.inr (fp)))))), (ql, .inr (9, [.int ml, .ref ed, .int n])), (ed, .inl (cB, 10, .inr (.inr (.inr (.inr (f0))))))] sz) := by
  refine Met.ofW (cc := b_MO_addK) (maxL := 6) (ret := (some .int)) (by decide) rfl ?_
  intro p e s m args below meth c s₁ B hml hv
  obtain ⟨rfl, hsz, hP, hK, hD0, hE0, hE1, hE2, hE3, hE4, hE5⟩ := hv
  have hx := B.exec
  have hb := B.bytes
  have hr := B.returns
  have hts := atoms_spec (ws := w_MO_addK) B.pre
  have hown : s.vm.findClass "LeastcodeModel" = some m.cls := findClass_of_methodNamed B.named
  have hlocks := B.notSynchronized
  subst hsz
  have hD := hD0.self (sz := s.heap.size)
  generalize hAe : va_A [(m0, .inr (8, [.ref qp, .ref qg, .ref qr, .ref qk, .ref qs, .null, .int 0, .int 0, .long 1])), (qp, .inr (9, [.int mp_, .ref ep, .int 1])), (ep, .inl (cP, 10, .inr (.inr (.inr (.inr (fp)))))), (ql, .inr (9, [.int ml, .ref ed, .int n])), (ed, .inl (cB, 10, .inr (.inr (.inr (.inr (f0))))))] s.heap.size = A at hD hE0 hE1 hE2 hE3 hE4 hE5 ⊢
  have hA : ∀ q : Nat, s.heap.size ≤ q → A q := fun q h => by rw [← hAe]; exact Or.inr h
  have hS : va_S A s.heap s.heap [] := va_S.rf
  have hP : va_P (dC, dI) classes [(m0, .inr (8, [.ref qp, .ref qg, .ref qr, .ref qk, .ref qs, .null, .int 0, .int 0, .long 1])), (qp, .inr (9, [.int mp_, .ref ep, .int 1])), (ep, .inl (cP, 10, .inr (.inr (.inr (.inr (fp)))))), (ql, .inr (9, [.int ml, .ref ed, .int n])), (ed, .inl (cB, 10, .inr (.inr (.inr (.inr (f0))))))] s.heap := hP
  have hl := lv_entry ([.ref m0, .int 0, .int 102, .int 0, .int 0]) (n := 6) (Nat.le_of_ble_eq_true rfl)
  rw [lg_entry_eq]
  generalize (lg_sl ([.ref m0, .int 0, .int 102, .int 0, .int 0]) ++ List.replicate (6 - (lg_sl ([.ref m0, .int 0, .int 102, .int 0, .int 0])).length) Slot.unset).toArray = ls at hl ⊢
  have hl : lv_has ls 6 [(0, .ref m0), (1, .int 0), (2, .int 102), (3, .int 0), (4, .int 0)] := hl
  refine lv_aload_n hx hb d_MO_addK_0 rfl (lv_at hl 0 rfl) ?_
  refine va_get (D := (dC, dI)) (ci := 8) (v := .ref qp) (C := R_MO) (T := T_MO) (N := 9) hx hb hts in_MO_addK_MO hown hK hP 0 rfl rfl 0 (by decide) (hts (.fieldLink "LeastcodeModel" 10 "LeastcodeModel" "programs" "Ljava/util/ArrayList;") (List.mem_of_getElem? (i := 10) rfl)) (fun _ h9 => h9) rfl d_MO_addK_1 ?_
  refine lv_iload_n hx hb d_MO_addK_4 rfl (lv_at hl 1 rfl) ?_
  have hPc : va_P (dC, dI) classes [(qp, .inr (9, [.int mp_, .ref ep, .int 1]))] _ := hP.sub (ws' := [(qp, .inr (9, [.int mp_, .ref ep, .int 1]))]) [1] rfl
  have hKc : va_K (dC, dI) classes [] s := hK.sub (tys' := []) [] rfl
  refine vp_callSi (W.runS (As := [.ref qp, .int 0]) (rest := []) ⟨hx, hb, hml, hown, hts⟩ (c_isOf l dC dI qp mp_ ep) (cwS 2 hts g_MO_addK_5 rfl rfl rfl (by decide +kernel) ⟨Nat.le_of_ble_eq_true rfl, Nat.le_of_ble_eq_true rfl⟩) ⟨fun a U g mk z => by obtain ⟨z0, zP, zK, zE0⟩ := z; exact ⟨z0, zP, va_K.moved (u := U) (U := U.calling g mk a) (Vm.Alike.refl U.vm) zK, va_Fw.moved (by decide +kernel) (u := U) (U := U.calling g mk a) (Vm.Alike.refl U.vm) zE0⟩, fun U hU hW => ⟨rfl, by rw [hU]; exact hPc, va_K.moved hW.alike hKc, va_Fw.moved (by decide +kernel) hW.alike hE4⟩⟩ rfl rfl hl.1 rfl (lv_room (Nat.le_of_ble_eq_true rfl)) d_MO_addK_5 ⟨(Nat.le_of_ble_eq_true rfl), (Nat.le_of_ble_eq_true rfl)⟩) (fun r1 hr1 => ?_)
  replace hr1 := hr1.symm; subst hr1
  refine lv_if_ne (tgt := 17) hx hb d_MO_addK_8 (by decide) (fun c_8 => ?_) (fun c_8 => ?_)
  · skip
    refine lv_iload_n hx hb d_MO_addK_17 rfl (lv_at hl 2 rfl) ?_
    refine lv_iload_n hx hb d_MO_addK_18 rfl (lv_at hl 3 rfl) ?_
    refine lv_iload hx hb d_MO_addK_19 (lv_at hl 4 rfl) ?_
    refine vp_callSi (W.runS (As := [.int 102, .int 0, .int 0]) (rest := []) ⟨hx, hb, hml, hown, hts⟩ (c_number l ) (cwS 3 hts g_MO_addK_21 rfl rfl rfl (by decide +kernel) ⟨Nat.le_of_ble_eq_true rfl, Nat.le_of_ble_eq_true rfl⟩) ⟨fun a U g mk z => z, fun U hU hW => ⟨rfl, trivial⟩⟩ rfl rfl hl.1 rfl (lv_room (Nat.le_of_ble_eq_true rfl)) d_MO_addK_21 ⟨(Nat.le_of_ble_eq_true rfl), (Nat.le_of_ble_eq_true rfl)⟩) (fun r2 hr2 => ?_)
    replace hr2 := hr2.symm; subst hr2
    refine lv_istore (lv' := [(5, .int 46), (0, .ref m0), (1, .int 0), (2, .int 102), (3, .int 0), (4, .int 0)]) hx hb d_MO_addK_24 hl (by decide) rfl (fun ls hl => ?_)
    refine lv_iload hx hb d_MO_addK_26 (lv_at hl 0 rfl) ?_
    refine lv_iconst (v := (-1)) hx hb d_MO_addK_28 (by decide) ?_
    refine lv_icmp_ne (tgt := 38) hx hb d_MO_addK_29 (by decide) (fun c_29 => ?_) (fun c_29 => ?_)
    · skip
      refine lv_aload_n hx hb d_MO_addK_38 rfl (lv_at hl 1 rfl) ?_
      refine va_get (D := (dC, dI)) (ci := 8) (v := .ref qp) (C := R_MO) (T := T_MO) (N := 9) hx hb hts in_MO_addK_MO hown hK hP 0 rfl rfl 0 (by decide) (hts (.fieldLink "LeastcodeModel" 10 "LeastcodeModel" "programs" "Ljava/util/ArrayList;") (List.mem_of_getElem? (i := 10) rfl)) (fun _ h9 => h9) rfl d_MO_addK_39 ?_
      refine lv_iload_n hx hb d_MO_addK_42 rfl (lv_at hl 2 rfl) ?_
      have hPc : va_P (dC, dI) classes [(qp, .inr (9, [.int mp_, .ref ep, .int 1])), (ep, .inl (cP, 10, .inr (.inr (.inr (.inr (fp))))))] _ := hP.sub (ws' := [(qp, .inr (9, [.int mp_, .ref ep, .int 1])), (ep, .inl (cP, 10, .inr (.inr (.inr (.inr (fp))))))]) [1, 2] rfl
      have hKc : va_K (dC, dI) classes [(cP, .object "java/lang/Object")] s := hK.sub (tys' := [(cP, .object "java/lang/Object")]) [0] rfl
      refine va_csr (W.runV (As := [.int 0]) (rest := []) ⟨hx, hb, hml, hown, hts⟩ (c_AL_get l dC dI qp mp_ ep cP fp ql hfp) (cwV 1 hts g_MO_addK_43 rfl rfl rfl (by decide +kernel) ⟨Nat.le_of_ble_eq_true rfl, Nat.le_of_ble_eq_true rfl⟩) ⟨fun a U g mk z => by obtain ⟨z0, zP, zK⟩ := z; exact ⟨z0, zP, va_K.moved (u := U) (U := U.calling g mk a) (Vm.Alike.refl U.vm) zK⟩, va_recv hKc hPc (ci := 9) (q0 := 0) rfl rfl, fun U hU hW => ⟨rfl, by rw [hU]; exact hPc, va_K.moved hW.alike hKc⟩⟩ rfl rfl hl.1 rfl (lv_room (Nat.le_of_ble_eq_true rfl)) d_MO_addK_43 ⟨(Nat.le_of_ble_eq_true rfl), (Nat.le_of_ble_eq_true rfl)⟩) (fun r3 hr3 => ?_)
      replace hr3 := hr3.symm; subst hr3
      refine va_castS hx hb hown (hts (.classLink "LeastcodeModel" 7 "java/util/ArrayList") (List.mem_of_getElem? (i := 47) rfl)) (hK.1 9 _ rfl).2 (va_recv hK hP (ci := 9) (q0 := 3) rfl rfl) d_MO_addK_46 ?_
      have hPc : va_P (dC, dI) classes [(ql, .inr (9, [.int ml, .ref ed, .int n]))] _ := hP.sub (ws' := [(ql, .inr (9, [.int ml, .ref ed, .int n]))]) [3] rfl
      have hKc : va_K (dC, dI) classes [] s := hK.sub (tys' := []) [] rfl
      refine vp_callSi (W.runV (As := []) (rest := []) ⟨hx, hb, hml, hown, hts⟩ (c_AL_size l dC dI ql ml ed n) (cwV 0 hts g_MO_addK_49 rfl rfl rfl (by decide +kernel) ⟨Nat.le_of_ble_eq_true rfl, Nat.le_of_ble_eq_true rfl⟩) ⟨fun a U g mk z => by obtain ⟨z0, zP, zK⟩ := z; exact ⟨z0, zP, va_K.moved (u := U) (U := U.calling g mk a) (Vm.Alike.refl U.vm) zK⟩, va_recv hKc hPc (ci := 9) (q0 := 0) rfl rfl, fun U hU hW => ⟨rfl, by rw [hU]; exact hPc, va_K.moved hW.alike hKc⟩⟩ rfl rfl hl.1 rfl (lv_room (Nat.le_of_ble_eq_true rfl)) d_MO_addK_49 ⟨(Nat.le_of_ble_eq_true rfl), (Nat.le_of_ble_eq_true rfl)⟩) (fun r4 hr4 => ?_)
      replace hr4 := hr4.symm; subst hr4
      refine lv_bipush (v := 8) hx hb d_MO_addK_52 (by decide) ?_
      refine lv_icmp_ne (tgt := 63) hx hb d_MO_addK_54 (by decide) (fun c_54 => ?_) (fun c_54 => ?_)
      · skip
        refine lv_aload_n hx hb d_MO_addK_63 rfl (lv_at hl 1 rfl) ?_
        refine va_get (D := (dC, dI)) (ci := 8) (v := .ref qp) (C := R_MO) (T := T_MO) (N := 9) hx hb hts in_MO_addK_MO hown hK hP 0 rfl rfl 0 (by decide) (hts (.fieldLink "LeastcodeModel" 10 "LeastcodeModel" "programs" "Ljava/util/ArrayList;") (List.mem_of_getElem? (i := 10) rfl)) (fun _ h9 => h9) rfl d_MO_addK_64 ?_
        refine lv_iload_n hx hb d_MO_addK_67 rfl (lv_at hl 2 rfl) ?_
        have hPc : va_P (dC, dI) classes [(qp, .inr (9, [.int mp_, .ref ep, .int 1])), (ep, .inl (cP, 10, .inr (.inr (.inr (.inr (fp))))))] _ := hP.sub (ws' := [(qp, .inr (9, [.int mp_, .ref ep, .int 1])), (ep, .inl (cP, 10, .inr (.inr (.inr (.inr (fp))))))]) [1, 2] rfl
        have hKc : va_K (dC, dI) classes [(cP, .object "java/lang/Object")] s := hK.sub (tys' := [(cP, .object "java/lang/Object")]) [0] rfl
        refine va_csr (W.runV (As := [.int 0]) (rest := []) ⟨hx, hb, hml, hown, hts⟩ (c_AL_get l dC dI qp mp_ ep cP fp ql hfp) (cwV 1 hts g_MO_addK_68 rfl rfl rfl (by decide +kernel) ⟨Nat.le_of_ble_eq_true rfl, Nat.le_of_ble_eq_true rfl⟩) ⟨fun a U g mk z => by obtain ⟨z0, zP, zK⟩ := z; exact ⟨z0, zP, va_K.moved (u := U) (U := U.calling g mk a) (Vm.Alike.refl U.vm) zK⟩, va_recv hKc hPc (ci := 9) (q0 := 0) rfl rfl, fun U hU hW => ⟨rfl, by rw [hU]; exact hPc, va_K.moved hW.alike hKc⟩⟩ rfl rfl hl.1 rfl (lv_room (Nat.le_of_ble_eq_true rfl)) d_MO_addK_68 ⟨(Nat.le_of_ble_eq_true rfl), (Nat.le_of_ble_eq_true rfl)⟩) (fun r5 hr5 => ?_)
        replace hr5 := hr5.symm; subst hr5
        refine va_castS hx hb hown (hts (.classLink "LeastcodeModel" 7 "java/util/ArrayList") (List.mem_of_getElem? (i := 47) rfl)) (hK.1 9 _ rfl).2 (va_recv hK hP (ci := 9) (q0 := 3) rfl rfl) d_MO_addK_71 ?_
        refine lv_iload hx hb d_MO_addK_74 (lv_at hl 0 rfl) ?_
        refine va_csr (W.runS (As := [.int 46]) (rest := [.ref ql]) ⟨hx, hb, hml, hown, hts⟩ (c_IN_valueOf l ca fca e0 hca) (va_cwS 1 hts g_MO_addK_76 rfl rfl rfl (by decide +kernel) ⟨Nat.le_of_ble_eq_true rfl, Nat.le_of_ble_eq_true rfl⟩) ⟨fun a U g mk z => by obtain ⟨z0, zE0, zE1, zE2⟩ := z; exact ⟨z0, zE0.moved (u := U) (U := U.calling g mk a) (Vm.Alike.refl U.vm), zE1.moved (u := U) (U := U.calling g mk a) (Vm.Alike.refl U.vm), zE2.moved (u := U) (U := U.calling g mk a) (Vm.Alike.refl U.vm)⟩, fun U hU hW => ⟨rfl, by (try dsimp only); rw [hU]; exact ((hE0.kept (fun a h1 h2 => hS.2.1 a h1 h2)).narrow (B := fun _ => False) (fun _ h => h.elim)).moved hW.alike, by (try dsimp only); rw [hU]; exact ((hE1.kept (fun a h1 h2 => hS.2.1 a h1 h2)).narrow (B := fun _ => False) (fun _ h => h.elim)).moved hW.alike, by (try dsimp only); rw [hU]; exact ((hE2.kept (fun a h1 h2 => hS.2.1 a h1 h2)).narrow (B := fun _ => False) (fun _ h => h.elim)).moved hW.alike⟩⟩ rfl rfl hl.1 rfl (lv_room (Nat.le_of_ble_eq_true rfl)) d_MO_addK_76 ⟨(Nat.le_of_ble_eq_true rfl), (Nat.le_of_ble_eq_true rfl)⟩) (fun r6 hr6 => ?_)
        replace hr6 := hr6.symm; subst hr6
        have hPc : va_P (dC, dI) classes [(ql, .inr (9, [.int ml, .ref ed, .int n])), (ed, .inl (cB, 10, .inr (.inr (.inr (.inr (f0))))))] _ := hP.sub (ws' := [(ql, .inr (9, [.int ml, .ref ed, .int n])), (ed, .inl (cB, 10, .inr (.inr (.inr (.inr (f0))))))]) [3, 4] rfl
        have hKc : va_K (dC, dI) classes [(cB, .object "java/lang/Object")] s := hK.sub (tys' := [(cB, .object "java/lang/Object")]) [1] rfl
        have hDc : va_D _ [(ql, .inr (9, [.int ml, .ref ed, .int n])), (ed, .inl (cB, 10, .inr (.inr (.inr (.inr (f0))))))] := hD.sub (ws' := [(ql, .inr (9, [.int ml, .ref ed, .int n])), (ed, .inl (cB, 10, .inr (.inr (.inr (.inr (f0))))))]) [3, 4] (by decide) rfl
        have hFc := va_free (wc := [(ql, .inr (9, [.int ml, .ref ed, .int n])), (ed, .inl (cB, 10, .inr (.inr (.inr (.inr (f0))))))]) hD hS hA [3, 4] rfl
        refine va_calli (va_runV (As := [.ref e0]) (rest := []) ⟨hx, hb, hml, hown, hts⟩ (c_AL_addK l dC dI ql ml ed n cB f0 e0 k hk hnk hfk s.heap.size) (cwV 1 hts g_MO_addK_79 rfl rfl rfl (by decide +kernel) ⟨Nat.le_of_ble_eq_true rfl, Nat.le_of_ble_eq_true rfl⟩) ⟨fun a U g mk z => by obtain ⟨z0, z1, zP, zK, zD, zE0, zE1⟩ := z; exact ⟨z0, z1, zP, va_K.moved (u := U) (U := U.calling g mk a) (Vm.Alike.refl U.vm) zK, zD, zE0.moved (u := U) (U := U.calling g mk a) (Vm.Alike.refl U.vm), va_Nw.same rfl (u := U) (U := U.calling g mk a) rfl zE1⟩, va_recv hKc hPc (ci := 9) (q0 := 0) rfl rfl, fun U hU hW => ⟨rfl, by rw [hU], by rw [hU]; exact hPc, va_K.moved hW.alike hKc, hDc.weaken (fun _ _ _ _ => trivial), by (try dsimp only); rw [hU]; exact ((hE3.kept (fun a h1 h2 => hS.2.1 a h1 h2)).narrow hFc).moved hW.alike, va_Nw.warmC hW hE5⟩⟩ rfl rfl hl.1 rfl (lv_room (Nat.le_of_ble_eq_true rfl)) d_MO_addK_79 ⟨(Nat.le_of_ble_eq_true rfl), (Nat.le_of_ble_eq_true rfl)⟩) hS (fun q _ h => hFc q h) hFc (fun r7 u t H1 locs ht hvm hr7 hB hz1 hk1 hS => ?_)
        obtain ⟨m8, n9, f10, hP1, hK1, hD1, hpr7_0, hpr7_1⟩ := hB
        rw [ht] at hP1
        have hK1 := va_K.moved hvm.symm hK1
        obtain ⟨hP, hD⟩ := va_join (wr := [(m0, .inr (8, [.ref qp, .ref qg, .ref qr, .ref qk, .ref qs, .null, .int 0, .int 0, .long 1])), (qp, .inr (9, [.int mp_, .ref ep, .int 1])), (ep, .inl (cP, 10, .inr (.inr (.inr (.inr (fp))))))]) (w1 := [(ql, .inr (9, [.int m8, .ref ed, .int n9])), (ed, .inl (cB, 10, .inr (.inr (.inr (.inr (f10))))))]) hP hD [3, 4] [0, 1, 2] rfl rfl (by decide) (by decide) hk1 hFc hP1 hD1
        clear hPc hDc hKc hFc hP1 hD1 hK1 hk1
        generalize H1 = H at hP hS ⊢
        have hP : va_P (dC, dI) classes [(m0, .inr (8, [.ref qp, .ref qg, .ref qr, .ref qk, .ref qs, .null, .int 0, .int 0, .long 1])), (qp, .inr (9, [.int mp_, .ref ep, .int 1])), (ep, .inl (cP, 10, .inr (.inr (.inr (.inr (fp)))))), (ql, .inr (9, [.int m8, .ref ed, .int n9])), (ed, .inl (cB, 10, .inr (.inr (.inr (.inr (f10))))))] H := hP
        have hD : va_D A [(m0, .inr (8, [.ref qp, .ref qg, .ref qr, .ref qk, .ref qs, .null, .int 0, .int 0, .long 1])), (qp, .inr (9, [.int mp_, .ref ep, .int 1])), (ep, .inl (cP, 10, .inr (.inr (.inr (.inr (fp)))))), (ql, .inr (9, [.int m8, .ref ed, .int n9])), (ed, .inl (cB, 10, .inr (.inr (.inr (.inr (f10))))))] := hD
        refine W.widen (k := 0) (n := 0) (by omega) (by omega) ?_
        replace hr7 := hr7.symm; subst hr7
        refine lv_pop hx hb d_MO_addK_82 rfl ?_
        refine lv_aload_n hx hb d_MO_addK_83 rfl (lv_at hl 1 rfl) ?_
        refine lv_aload_n hx hb d_MO_addK_84 rfl (lv_at hl 1 rfl) ?_
        refine va_get (D := (dC, dI)) (ci := 8) (v := .ref qp) (C := R_MO) (T := T_MO) (N := 9) hx hb hts in_MO_addK_MO hown hK hP 0 rfl rfl 0 (by decide) (hts (.fieldLink "LeastcodeModel" 10 "LeastcodeModel" "programs" "Ljava/util/ArrayList;") (List.mem_of_getElem? (i := 10) rfl)) (fun _ h9 => h9) rfl d_MO_addK_85 ?_
        refine lv_iload_n hx hb d_MO_addK_88 rfl (lv_at hl 2 rfl) ?_
        have hPc : va_P (dC, dI) classes [(qp, .inr (9, [.int mp_, .ref ep, .int 1])), (ep, .inl (cP, 10, .inr (.inr (.inr (.inr (fp))))))] _ := hP.sub (ws' := [(qp, .inr (9, [.int mp_, .ref ep, .int 1])), (ep, .inl (cP, 10, .inr (.inr (.inr (.inr (fp))))))]) [1, 2] rfl
        have hKc : va_K (dC, dI) classes [(cP, .object "java/lang/Object")] s := hK.sub (tys' := [(cP, .object "java/lang/Object")]) [0] rfl
        refine va_csr (W.runV (As := [.int 0]) (rest := [.ref m0]) ⟨hx, hb, hml, hown, hts⟩ (c_AL_get l dC dI qp mp_ ep cP fp ql hfp) (cwV 1 hts g_MO_addK_89 rfl rfl rfl (by decide +kernel) ⟨Nat.le_of_ble_eq_true rfl, Nat.le_of_ble_eq_true rfl⟩) ⟨fun a U g mk z => by obtain ⟨z0, zP, zK⟩ := z; exact ⟨z0, zP, va_K.moved (u := U) (U := U.calling g mk a) (Vm.Alike.refl U.vm) zK⟩, va_recv hKc hPc (ci := 9) (q0 := 0) rfl rfl, fun U hU hW => ⟨rfl, by rw [hU]; exact hPc, va_K.moved hW.alike hKc⟩⟩ rfl rfl hl.1 rfl (lv_room (Nat.le_of_ble_eq_true rfl)) d_MO_addK_89 ⟨(Nat.le_of_ble_eq_true rfl), (Nat.le_of_ble_eq_true rfl)⟩) (fun r11 hr11 => ?_)
        replace hr11 := hr11.symm; subst hr11
        refine va_castS hx hb hown (hts (.classLink "LeastcodeModel" 7 "java/util/ArrayList") (List.mem_of_getElem? (i := 47) rfl)) (hK.1 9 _ rfl).2 (va_recv hK hP (ci := 9) (q0 := 3) rfl rfl) d_MO_addK_92 ?_
        have hPc : va_P (dC, dI) classes [(ql, .inr (9, [.int m8, .ref ed, .int n9]))] _ := hP.sub (ws' := [(ql, .inr (9, [.int m8, .ref ed, .int n9]))]) [3] rfl
        have hKc : va_K (dC, dI) classes [] s := hK.sub (tys' := []) [] rfl
        refine vp_callSi (W.runV (As := []) (rest := [.ref m0]) ⟨hx, hb, hml, hown, hts⟩ (c_AL_size l dC dI ql m8 ed n9) (cwV 0 hts g_MO_addK_95 rfl rfl rfl (by decide +kernel) ⟨Nat.le_of_ble_eq_true rfl, Nat.le_of_ble_eq_true rfl⟩) ⟨fun a U g mk z => by obtain ⟨z0, zP, zK⟩ := z; exact ⟨z0, zP, va_K.moved (u := U) (U := U.calling g mk a) (Vm.Alike.refl U.vm) zK⟩, va_recv hKc hPc (ci := 9) (q0 := 0) rfl rfl, fun U hU hW => ⟨rfl, by rw [hU]; exact hPc, va_K.moved hW.alike hKc⟩⟩ rfl rfl hl.1 rfl (lv_room (Nat.le_of_ble_eq_true rfl)) d_MO_addK_95 ⟨(Nat.le_of_ble_eq_true rfl), (Nat.le_of_ble_eq_true rfl)⟩) (fun r12 hr12 => ?_)
        replace hr12 := hr12.symm; subst hr12
        have hPc : va_P (dC, dI) classes [(m0, .inr (8, [.ref qp, .ref qg, .ref qr, .ref qk, .ref qs, .null, .int 0, .int 0, .long 1]))] _ := hP.sub (ws' := [(m0, .inr (8, [.ref qp, .ref qg, .ref qr, .ref qk, .ref qs, .null, .int 0, .int 0, .long 1]))]) [0] rfl
        have hKc : va_K (dC, dI) classes [] s := hK.sub (tys' := []) [] rfl
        have hDc : va_D _ [(m0, .inr (8, [.ref qp, .ref qg, .ref qr, .ref qk, .ref qs, .null, .int 0, .int 0, .long 1]))] := hD.sub (ws' := [(m0, .inr (8, [.ref qp, .ref qg, .ref qr, .ref qk, .ref qs, .null, .int 0, .int 0, .long 1]))]) [0] (by decide) rfl
        have hFc := va_free (wc := [(m0, .inr (8, [.ref qp, .ref qg, .ref qr, .ref qk, .ref qs, .null, .int 0, .int 0, .long 1]))]) hD hS hA [0] rfl
        refine va_calli (va_runV (As := [.int n9]) (rest := []) ⟨hx, hb, hml, hown, hts⟩ (c_tells l dC dI m0 qp qg qr qk qs n9 H.size) (cwV 1 hts g_MO_addK_98 rfl rfl rfl (by decide +kernel) ⟨Nat.le_of_ble_eq_true rfl, Nat.le_of_ble_eq_true rfl⟩) ⟨fun a U g mk z => by obtain ⟨z0, z1, zP, zK, zD⟩ := z; exact ⟨z0, z1, zP, va_K.moved (u := U) (U := U.calling g mk a) (Vm.Alike.refl U.vm) zK, zD⟩, va_recv hKc hPc (ci := 8) (q0 := 0) rfl rfl, fun U hU hW => ⟨rfl, by rw [hU], by rw [hU]; exact hPc, va_K.moved hW.alike hKc, hDc.weaken (fun _ _ _ _ => trivial)⟩⟩ rfl rfl hl.1 rfl (lv_room (Nat.le_of_ble_eq_true rfl)) d_MO_addK_98 ⟨(Nat.le_of_ble_eq_true rfl), (Nat.le_of_ble_eq_true rfl)⟩) hS (fun q _ h => hFc q h) hFc (fun r13 u t H1 locs ht hvm hr13 hB hz1 hk1 hS => ?_)
        obtain ⟨hP1, hK1, hD1⟩ := hB
        rw [ht] at hP1
        have hK1 := va_K.moved hvm.symm hK1
        obtain ⟨hP, hD⟩ := va_join (wr := [(qp, .inr (9, [.int mp_, .ref ep, .int 1])), (ep, .inl (cP, 10, .inr (.inr (.inr (.inr (fp)))))), (ql, .inr (9, [.int m8, .ref ed, .int n9])), (ed, .inl (cB, 10, .inr (.inr (.inr (.inr (f10))))))]) (w1 := [(m0, .inr (8, [.ref qp, .ref qg, .ref qr, .ref qk, .ref qs, .null, .int 0, .int 0, .long 1]))]) hP hD [0] [1, 2, 3, 4] rfl rfl (by decide) (by decide) hk1 hFc hP1 hD1
        clear hPc hDc hKc hFc hP1 hD1 hK1 hk1
        generalize H1 = H at hP hS ⊢
        have hP : va_P (dC, dI) classes [(qp, .inr (9, [.int mp_, .ref ep, .int 1])), (ep, .inl (cP, 10, .inr (.inr (.inr (.inr (fp)))))), (ql, .inr (9, [.int m8, .ref ed, .int n9])), (ed, .inl (cB, 10, .inr (.inr (.inr (.inr (f10)))))), (m0, .inr (8, [.ref qp, .ref qg, .ref qr, .ref qk, .ref qs, .null, .int 0, .int 0, .long 1]))] H := hP
        have hD : va_D A [(qp, .inr (9, [.int mp_, .ref ep, .int 1])), (ep, .inl (cP, 10, .inr (.inr (.inr (.inr (fp)))))), (ql, .inr (9, [.int m8, .ref ed, .int n9])), (ed, .inl (cB, 10, .inr (.inr (.inr (.inr (f10)))))), (m0, .inr (8, [.ref qp, .ref qg, .ref qr, .ref qk, .ref qs, .null, .int 0, .int 0, .long 1]))] := hD
        refine W.widen (k := 0) (n := 0) (by omega) (by omega) ?_
        replace hr13 := hr13.symm; subst hr13
        have hP9 : va_P (dC, dI) classes [(m0, .inr (8, [.ref qp, .ref qg, .ref qr, .ref qk, .ref qs, .null, .int 0, .int 0, .long 1])), (qp, .inr (9, [.int mp_, .ref ep, .int 1])), (ep, .inl (cP, 10, .inr (.inr (.inr (.inr (fp)))))), (ql, .inr (9, [.int m8, .ref ed, .int n9])), (ed, .inl (cB, 10, .inr (.inr (.inr (.inr (f10))))))] H := hP.sub (ws' := [(m0, .inr (8, [.ref qp, .ref qg, .ref qr, .ref qk, .ref qs, .null, .int 0, .int 0, .long 1])), (qp, .inr (9, [.int mp_, .ref ep, .int 1])), (ep, .inl (cP, 10, .inr (.inr (.inr (.inr (fp)))))), (ql, .inr (9, [.int m8, .ref ed, .int n9])), (ed, .inl (cB, 10, .inr (.inr (.inr (.inr (f10))))))]) [4, 0, 1, 2, 3] rfl
        have hD9 := hD.sub (ws' := [(m0, .inr (8, [.ref qp, .ref qg, .ref qr, .ref qk, .ref qs, .null, .int 0, .int 0, .long 1])), (qp, .inr (9, [.int mp_, .ref ep, .int 1])), (ep, .inl (cP, 10, .inr (.inr (.inr (.inr (fp)))))), (ql, .inr (9, [.int m8, .ref ed, .int n9])), (ed, .inl (cB, 10, .inr (.inr (.inr (.inr (f10))))))]) [4, 0, 1, 2, 3] (by decide) rfl
        have hK9 := hK.sub (tys' := [(cP, .object "java/lang/Object"), (cB, .object "java/lang/Object")]) [0, 1] rfl
        refine W.widen (k := 0) (n := 0) (by omega) (by omega) ?_
        exact W.iret hx hb hr (fun t ht hW => ⟨⟨_, (), rfl, hpr7_1, ⟨m8, ⟨n9, ⟨f10, ⟨by rw [ht]; exact hP9, va_K.moved hW.alike hK9, hD9, hpr7_0, hpr7_1⟩⟩⟩⟩⟩, hS.F ht⟩) hS.2.2 d_MO_addK_101
      · exact absurd c_54 (by rw [hnk]; exact fun z => absurd ((nI_eq (a := k) (b := 8) (by omega) (by omega)).mp z) (by omega))
    · exact absurd c_29 (by decide)
  · exact absurd c_8 (by decide)

abbrev rm_MO_isSame : Room := { frames := 5, cells := 2304, slots := 5120, locals := 100 }
abbrev b_MO_isSame : ByteArray := prog_11_method_40_code
def y_MO_isSame : MethodName := ⟨"LeastcodeModel", "isSame", "(III)Z"⟩
def w_MO_isSame : List Cond := [.code ⟨"LeastcodeModel", "isSame", "(III)Z"⟩ prog_11_method_40_code 4 (some .boolean), .laysFinal "LeastcodeModel" "LeastcodeModel" "programs" "Ljava/util/ArrayList;", .laysFinal "LeastcodeModel" "LeastcodeModel" "goals" "Ljava/util/ArrayList;", .laysFinal "LeastcodeModel" "LeastcodeModel" "rules" "Ljava/util/ArrayList;", .laysFinal "LeastcodeModel" "LeastcodeModel" "prices" "[I", .laysFinal "LeastcodeModel" "LeastcodeModel" "kills" "[I", .lays "LeastcodeModel" "LeastcodeModel" "found" "Ljava/util/List;", .lays "LeastcodeModel" "LeastcodeModel" "wait" "I", .lays "LeastcodeModel" "LeastcodeModel" "thrown" "I", .lays "LeastcodeModel" "LeastcodeModel" "z" "J", .fieldLink "LeastcodeModel" 10 "LeastcodeModel" "programs" "Ljava/util/ArrayList;", .methodLink "LeastcodeModel" 143 ⟨"LeastcodeModel", "isOf", "(Ljava/util/List;I)Z"⟩, .static ⟨"LeastcodeModel", "isOf", "(Ljava/util/List;I)Z"⟩, .initialized "LeastcodeModel", .code ⟨"LeastcodeModel", "isOf", "(Ljava/util/List;I)Z"⟩ prog_11_method_7_code 2 (some .boolean), .methodLink "LeastcodeModel" 58 ⟨"java/util/List", "size", "()I"⟩, .selects "java/util/ArrayList" ⟨"java/util/List", "size", "()I"⟩ ⟨"java/util/ArrayList", "size", "()I"⟩, .instanceMethod ⟨"java/util/ArrayList", "size", "()I"⟩, .initialized "java/util/ArrayList", .code ⟨"java/util/ArrayList", "size", "()I"⟩ prog_50_method_8_code 1 (some .int), .lays "java/util/ArrayList" "java/util/AbstractList" "modCount" "I", .lays "java/util/ArrayList" "java/util/ArrayList" "elementData" "[Ljava/lang/Object;", .lays "java/util/ArrayList" "java/util/ArrayList" "size" "I", .fieldLink "java/util/ArrayList" 48 "java/util/ArrayList" "size" "I", .methodLink "LeastcodeModel" 63 ⟨"LeastcodeModel", "in", "(III)Z"⟩, .static ⟨"LeastcodeModel", "in", "(III)Z"⟩, .code ⟨"LeastcodeModel", "in", "(III)Z"⟩ prog_11_method_3_code 3 (some .boolean), .methodLink "LeastcodeModel" 189 ⟨"LeastcodeModel", "failsIf", "(I)Z"⟩, .instanceMethod ⟨"LeastcodeModel", "failsIf", "(I)Z"⟩, .selects "LeastcodeModel" ⟨"LeastcodeModel", "failsIf", "(I)Z"⟩ ⟨"LeastcodeModel", "failsIf", "(I)Z"⟩, .code ⟨"LeastcodeModel", "failsIf", "(I)Z"⟩ prog_11_method_6_code 2 (some .boolean), .fieldLink "LeastcodeModel" 45 "LeastcodeModel" "thrown" "I", .methodLink "LeastcodeModel" 151 ⟨"java/util/ArrayList", "get", "(I)Ljava/lang/Object;"⟩, .instanceMethod ⟨"java/util/ArrayList", "get", "(I)Ljava/lang/Object;"⟩, .selects "java/util/ArrayList" ⟨"java/util/ArrayList", "get", "(I)Ljava/lang/Object;"⟩ ⟨"java/util/ArrayList", "get", "(I)Ljava/lang/Object;"⟩, .code ⟨"java/util/ArrayList", "get", "(I)Ljava/lang/Object;"⟩ prog_50_method_20_code 2 (some (.object "java/lang/Object")), .methodLink "java/util/ArrayList" 118 ⟨"java/util/Objects", "checkIndex", "(II)I"⟩, .static ⟨"java/util/Objects", "checkIndex", "(II)I"⟩, .initialized "java/util/Objects", .code ⟨"java/util/Objects", "checkIndex", "(II)I"⟩ prog_73_method_17_code 2 (some .int), .methodLink "java/util/Objects" 105 ⟨"jdk/internal/util/Preconditions", "checkIndex", "(IILjava/util/function/BiFunction;)I"⟩, .static ⟨"jdk/internal/util/Preconditions", "checkIndex", "(IILjava/util/function/BiFunction;)I"⟩, .initialized "jdk/internal/util/Preconditions", .code ⟨"jdk/internal/util/Preconditions", "checkIndex", "(IILjava/util/function/BiFunction;)I"⟩ prog_81_method_11_code 3 (some .int), .methodLink "java/util/ArrayList" 123 ⟨"java/util/ArrayList", "elementData", "(I)Ljava/lang/Object;"⟩, .instanceMethod ⟨"java/util/ArrayList", "elementData", "(I)Ljava/lang/Object;"⟩, .selects "java/util/ArrayList" ⟨"java/util/ArrayList", "elementData", "(I)Ljava/lang/Object;"⟩ ⟨"java/util/ArrayList", "elementData", "(I)Ljava/lang/Object;"⟩, .code ⟨"java/util/ArrayList", "elementData", "(I)Ljava/lang/Object;"⟩ prog_50_method_18_code 2 (some (.object "java/lang/Object")), .fieldLink "java/util/ArrayList" 9 "java/util/ArrayList" "elementData" "[Ljava/lang/Object;", .classLink "LeastcodeModel" 59 "java/util/List", .methodLink "LeastcodeModel" 202 ⟨"LeastcodeModel", "areSame", "(Ljava/util/List;Ljava/util/List;I)Z"⟩, .static ⟨"LeastcodeModel", "areSame", "(Ljava/util/List;Ljava/util/List;I)Z"⟩, .code ⟨"LeastcodeModel", "areSame", "(Ljava/util/List;Ljava/util/List;I)Z"⟩ prog_11_method_19_code 4 (some .boolean), .methodLink "LeastcodeModel" 125 ⟨"LeastcodeModel", "ran", "(Ljava/util/List;I)I"⟩, .static ⟨"LeastcodeModel", "ran", "(Ljava/util/List;I)I"⟩, .code ⟨"LeastcodeModel", "ran", "(Ljava/util/List;I)I"⟩ prog_11_method_17_code 5 (some .int), .methodLink "LeastcodeModel" 103 ⟨"java/util/List", "iterator", "()Ljava/util/Iterator;"⟩, .selects "java/util/ArrayList" ⟨"java/util/List", "iterator", "()Ljava/util/Iterator;"⟩ ⟨"java/util/ArrayList", "iterator", "()Ljava/util/Iterator;"⟩, .instanceMethod ⟨"java/util/ArrayList", "iterator", "()Ljava/util/Iterator;"⟩, .code ⟨"java/util/ArrayList", "iterator", "()Ljava/util/Iterator;"⟩ prog_50_method_55_code 1 (some (.object "java/util/Iterator")), .lays "java/util/ArrayList$Itr" "java/util/ArrayList$Itr" "cursor" "I", .lays "java/util/ArrayList$Itr" "java/util/ArrayList$Itr" "lastRet" "I", .lays "java/util/ArrayList$Itr" "java/util/ArrayList$Itr" "expectedModCount" "I", .laysFinal "java/util/ArrayList$Itr" "java/util/ArrayList$Itr" "this$0" "Ljava/util/ArrayList;", .classLink "java/util/ArrayList" 267 "java/util/ArrayList$Itr", .instantiable "java/util/ArrayList$Itr" 4, .initialized "java/util/ArrayList$Itr", .code ⟨"java/util/ArrayList$Itr", "<init>", "(Ljava/util/ArrayList;)V"⟩ prog_51_method_1_code 2 none, .fieldLink "java/util/ArrayList$Itr" 1 "java/util/ArrayList$Itr" "this$0" "Ljava/util/ArrayList;", .methodLink "java/util/ArrayList$Itr" 7 ⟨"java/lang/Object", "<init>", "()V"⟩, .instanceMethod ⟨"java/lang/Object", "<init>", "()V"⟩, .code ⟨"java/lang/Object", "<init>", "()V"⟩ object_method_1_code 1 none, .fieldLink "java/util/ArrayList$Itr" 13 "java/util/ArrayList$Itr" "lastRet" "I", .sameField "java/util/ArrayList" "java/util/AbstractList" "modCount" "I", .fieldLink "java/util/ArrayList$Itr" 17 "java/util/ArrayList" "modCount" "I", .fieldLink "java/util/ArrayList$Itr" 22 "java/util/ArrayList$Itr" "expectedModCount" "I", .methodLink "java/util/ArrayList" 269 ⟨"java/util/ArrayList$Itr", "<init>", "(Ljava/util/ArrayList;)V"⟩, .instanceMethod ⟨"java/util/ArrayList$Itr", "<init>", "(Ljava/util/ArrayList;)V"⟩, .methodLink "LeastcodeModel" 107 ⟨"java/util/Iterator", "hasNext", "()Z"⟩, .selects "java/util/ArrayList$Itr" ⟨"java/util/Iterator", "hasNext", "()Z"⟩ ⟨"java/util/ArrayList$Itr", "hasNext", "()Z"⟩, .instanceMethod ⟨"java/util/ArrayList$Itr", "hasNext", "()Z"⟩, .code ⟨"java/util/ArrayList$Itr", "hasNext", "()Z"⟩ prog_51_method_2_code 1 (some .boolean), .fieldLink "java/util/ArrayList$Itr" 25 "java/util/ArrayList$Itr" "cursor" "I", .methodLink "LeastcodeModel" 113 ⟨"java/util/Iterator", "next", "()Ljava/lang/Object;"⟩, .selects "java/util/ArrayList$Itr" ⟨"java/util/Iterator", "next", "()Ljava/lang/Object;"⟩ ⟨"java/util/ArrayList$Itr", "next", "()Ljava/lang/Object;"⟩, .instanceMethod ⟨"java/util/ArrayList$Itr", "next", "()Ljava/lang/Object;"⟩, .code ⟨"java/util/ArrayList$Itr", "next", "()Ljava/lang/Object;"⟩ prog_51_method_3_code 3 (some (.object "java/lang/Object")), .methodLink "java/util/ArrayList$Itr" 31 ⟨"java/util/ArrayList$Itr", "checkForComodification", "()V"⟩, .instanceMethod ⟨"java/util/ArrayList$Itr", "checkForComodification", "()V"⟩, .selects "java/util/ArrayList$Itr" ⟨"java/util/ArrayList$Itr", "checkForComodification", "()V"⟩ ⟨"java/util/ArrayList$Itr", "checkForComodification", "()V"⟩, .code ⟨"java/util/ArrayList$Itr", "checkForComodification", "()V"⟩ prog_51_method_6_code 1 none, .fieldLink "java/util/ArrayList$Itr" 37 "java/util/ArrayList" "elementData" "[Ljava/lang/Object;", .classLink "LeastcodeModel" 117 "java/lang/Integer", .methodLink "LeastcodeModel" 119 ⟨"java/lang/Integer", "intValue", "()I"⟩, .instanceMethod ⟨"java/lang/Integer", "intValue", "()I"⟩, .selects "java/lang/Integer" ⟨"java/lang/Integer", "intValue", "()I"⟩ ⟨"java/lang/Integer", "intValue", "()I"⟩, .initialized "java/lang/Integer", .code ⟨"java/lang/Integer", "intValue", "()I"⟩ prog_27_method_27_code 1 (some .int), .fieldLink "java/lang/Integer" 205 "java/lang/Integer" "value" "I", .methodLink "LeastcodeModel" 122 ⟨"LeastcodeModel", "step", "(II)I"⟩, .static ⟨"LeastcodeModel", "step", "(II)I"⟩, .code ⟨"LeastcodeModel", "step", "(II)I"⟩ prog_11_method_13_code 7 (some .int), .arrayClass .int, .methodLink "LeastcodeModel" 79 ⟨"LeastcodeModel", "first", "(I)I"⟩, .static ⟨"LeastcodeModel", "first", "(I)I"⟩, .code ⟨"LeastcodeModel", "first", "(I)I"⟩ prog_11_method_9_code 1 (some .int), .methodLink "LeastcodeModel" 82 ⟨"LeastcodeModel", "second", "(I)I"⟩, .static ⟨"LeastcodeModel", "second", "(I)I"⟩, .code ⟨"LeastcodeModel", "second", "(I)I"⟩ prog_11_method_10_code 1 (some .int), .methodLink "LeastcodeModel" 85 ⟨"LeastcodeModel", "kind", "(I)C"⟩, .static ⟨"LeastcodeModel", "kind", "(I)C"⟩, .code ⟨"LeastcodeModel", "kind", "(I)C"⟩ prog_11_method_8_code 1 (some .char), .methodLink "LeastcodeModel" 94 ⟨"LeastcodeModel", "state", "([II)I"⟩, .static ⟨"LeastcodeModel", "state", "([II)I"⟩, .code ⟨"LeastcodeModel", "state", "([II)I"⟩ prog_11_method_12_code 2 (some .int), .methodLink "LeastcodeModel" 129 ⟨"LeastcodeModel", "masked", "(II)I"⟩, .static ⟨"LeastcodeModel", "masked", "(II)I"⟩, .code ⟨"LeastcodeModel", "masked", "(II)I"⟩ prog_11_method_18_code 2 (some .int)]
theorem d_MO_isSame_0 : decode b_MO_isSame 0 = .ok (.aload_n 0, 1) := by decide +kernel
theorem d_MO_isSame_1 : decode b_MO_isSame 1 = .ok (.aload_n 0, 1) := by decide +kernel
theorem d_MO_isSame_2 : decode b_MO_isSame 2 = .ok (.getfield 10, 3) := by decide +kernel
theorem d_MO_isSame_5 : decode b_MO_isSame 5 = .ok (.iload_n 1, 1) := by decide +kernel
theorem d_MO_isSame_6 : decode b_MO_isSame 6 = .ok (.invokestatic 143, 3) := by decide +kernel
theorem d_MO_isSame_9 : decode b_MO_isSame 9 = .ok (.ifCond .eq 14, 3) := by decide +kernel
theorem d_MO_isSame_12 : decode b_MO_isSame 12 = .ok (.aload_n 0, 1) := by decide +kernel
theorem d_MO_isSame_13 : decode b_MO_isSame 13 = .ok (.getfield 10, 3) := by decide +kernel
theorem d_MO_isSame_16 : decode b_MO_isSame 16 = .ok (.iload_n 2, 1) := by decide +kernel
theorem d_MO_isSame_17 : decode b_MO_isSame 17 = .ok (.invokestatic 143, 3) := by decide +kernel
theorem d_MO_isSame_20 : decode b_MO_isSame 20 = .ok (.ifCond .ne 7, 3) := by decide +kernel
theorem d_MO_isSame_27 : decode b_MO_isSame 27 = .ok (.iload_n 3, 1) := by decide +kernel
theorem d_MO_isSame_28 : decode b_MO_isSame 28 = .ok (.iconst 0, 1) := by decide +kernel
theorem d_MO_isSame_29 : decode b_MO_isSame 29 = .ok (.bipush 7, 2) := by decide +kernel
theorem d_MO_isSame_31 : decode b_MO_isSame 31 = .ok (.invokestatic 63, 3) := by decide +kernel
theorem d_MO_isSame_34 : decode b_MO_isSame 34 = .ok (.ifCond .eq 7, 3) := by decide +kernel
theorem d_MO_isSame_37 : decode b_MO_isSame 37 = .ok (.iconst 0, 1) := by decide +kernel
theorem d_MO_isSame_38 : decode b_MO_isSame 38 = .ok (.goto 4, 3) := by decide +kernel
theorem d_MO_isSame_42 : decode b_MO_isSame 42 = .ok (.invokevirtual 189, 3) := by decide +kernel
theorem d_MO_isSame_45 : decode b_MO_isSame 45 = .ok (.ifCond .eq 5, 3) := by decide +kernel
theorem d_MO_isSame_50 : decode b_MO_isSame 50 = .ok (.aload_n 0, 1) := by decide +kernel
theorem d_MO_isSame_51 : decode b_MO_isSame 51 = .ok (.getfield 10, 3) := by decide +kernel
theorem d_MO_isSame_54 : decode b_MO_isSame 54 = .ok (.iload_n 1, 1) := by decide +kernel
theorem d_MO_isSame_55 : decode b_MO_isSame 55 = .ok (.invokevirtual 151, 3) := by decide +kernel
theorem d_MO_isSame_58 : decode b_MO_isSame 58 = .ok (.checkcast 59, 3) := by decide +kernel
theorem d_MO_isSame_61 : decode b_MO_isSame 61 = .ok (.aload_n 0, 1) := by decide +kernel
theorem d_MO_isSame_62 : decode b_MO_isSame 62 = .ok (.getfield 10, 3) := by decide +kernel
theorem d_MO_isSame_65 : decode b_MO_isSame 65 = .ok (.iload_n 2, 1) := by decide +kernel
theorem d_MO_isSame_66 : decode b_MO_isSame 66 = .ok (.invokevirtual 151, 3) := by decide +kernel
theorem d_MO_isSame_69 : decode b_MO_isSame 69 = .ok (.checkcast 59, 3) := by decide +kernel
theorem d_MO_isSame_72 : decode b_MO_isSame 72 = .ok (.iload_n 3, 1) := by decide +kernel
theorem d_MO_isSame_73 : decode b_MO_isSame 73 = .ok (.invokestatic 202, 3) := by decide +kernel
theorem d_MO_isSame_76 : decode b_MO_isSame 76 = .ok (.ireturn, 1) := by decide +kernel
theorem in_MO_isSame_MO : ∀ v ∈ u_ws R_MO T_MO 9, v ∈ w_MO_isSame := by decide +kernel
set_option maxRecDepth 20000 in
theorem g_MO_isSame_6 : GoodIn w_MO_isSame (wsS "LeastcodeModel" 143 ⟨"LeastcodeModel", "isOf", "(Ljava/util/List;I)Z"⟩ w_isOf) := goodIn_r _ [11, 12, 13, 14, 15, 16, 17, 18, 19, 20, 21, 22, 23, 24, 25, 13, 26] rfl (by decide +kernel)
set_option maxRecDepth 20000 in
theorem g_MO_isSame_17 : GoodIn w_MO_isSame (wsS "LeastcodeModel" 143 ⟨"LeastcodeModel", "isOf", "(Ljava/util/List;I)Z"⟩ w_isOf) := goodIn_r _ [11, 12, 13, 14, 15, 16, 17, 18, 19, 20, 21, 22, 23, 24, 25, 13, 26] rfl (by decide +kernel)
set_option maxRecDepth 20000 in
theorem g_MO_isSame_31 : GoodIn w_MO_isSame (wsS "LeastcodeModel" 63 ⟨"LeastcodeModel", "in", "(III)Z"⟩ w_in_) := goodIn_r _ [24, 25, 13, 26] rfl (by decide +kernel)
set_option maxRecDepth 20000 in
theorem g_MO_isSame_42 : GoodIn w_MO_isSame (wsV "LeastcodeModel" 189 "LeastcodeModel" ⟨"LeastcodeModel", "failsIf", "(I)Z"⟩ w_failsIf) := goodIn_r _ [27, 28, 29, 13, 30, 1, 2, 3, 4, 5, 6, 7, 8, 9, 31] rfl (by decide +kernel)
set_option maxRecDepth 20000 in
theorem g_MO_isSame_55 : GoodIn w_MO_isSame (wsV "LeastcodeModel" 151 "java/util/ArrayList" ⟨"java/util/ArrayList", "get", "(I)Ljava/lang/Object;"⟩ w_AL_get) := goodIn_r _ [32, 33, 34, 18, 35, 20, 21, 22, 23, 36, 37, 38, 39, 40, 41, 42, 43, 44, 45, 46, 18, 47, 48] rfl (by decide +kernel)
set_option maxRecDepth 20000 in
theorem g_MO_isSame_66 : GoodIn w_MO_isSame (wsV "LeastcodeModel" 151 "java/util/ArrayList" ⟨"java/util/ArrayList", "get", "(I)Ljava/lang/Object;"⟩ w_AL_get) := goodIn_r _ [32, 33, 34, 18, 35, 20, 21, 22, 23, 36, 37, 38, 39, 40, 41, 42, 43, 44, 45, 46, 18, 47, 48] rfl (by decide +kernel)
set_option maxRecDepth 20000 in
theorem g_MO_isSame_73 : GoodIn w_MO_isSame (wsS "LeastcodeModel" 202 ⟨"LeastcodeModel", "areSame", "(Ljava/util/List;Ljava/util/List;I)Z"⟩ w_areSame) := goodIn_r _ [50, 51, 13, 52, 53, 54, 13, 55, 56, 57, 58, 18, 59, 60, 61, 62, 63, 64, 65, 66, 67, 68, 69, 70, 71, 72, 73, 20, 21, 22, 74, 75, 76, 77, 78, 79, 80, 81, 82, 83, 84, 85, 86, 87, 88, 89, 90, 91, 92, 93, 94, 95, 96, 97, 98, 99, 100, 101, 102, 103, 104, 105, 106, 107, 108, 109, 110, 111, 112, 113, 114, 115, 116, 117] rfl (by decide +kernel)
set_option maxHeartbeats 4000000 in
set_option maxRecDepth 100000 in
theorem c_MO_isSame (l : Launch) (dC : Nat → ClassId) (dI : Nat → Nat → Nat) (m0 : Nat) (qp : Nat) (qg : Nat) (qr : Nat) (qk : Nat) (qs : Nat) (mp_ : Int32) (ep : Nat) (cP : ClassId) (fp : Nat → Option Nat) (ql : Nat) (ml : Int32) (ed : Nat) (n : Int32) (cB : ClassId) (f0 : Nat → Option Nat) (e0 : Nat) (hfp : fp 0 = some ql) (hnk : n = nI 8) (hfk : ∀ j, j < 8 → f0 j = some e0) (sz : Nat) : Met l y_MO_isSame w_MO_isSame rm_MO_isSame (va_Pc [.ref m0, .int 0, .int 0, .int 0] (fun U => U.heap.size = sz ∧ va_P (dC, dI) classes [(m0, .inr (8, [.ref qp, .ref qg, .ref qr, .ref qk, .ref qs, .null, .int 0, .int 0, .long 1])), (qp, .inr (9, [.int mp_, .ref ep, .int 1])), (ep, .inl (cP, 10, .inr (.inr (.inr (.inr (fp)))))), (ql, .inr (9, [.int ml, .ref ed, .int n])), (ed, .inl (cB, 10, .inr (.inr (.inr (.inr (f0))))))] U.heap ∧ va_K (dC, dI) classes [(cP, .object "java/lang/Object"), (cB, .object "java/lang/Object")] U ∧ va_D (fun _ => True) [(m0, .inr (8, [.ref qp, .ref qg, .ref qr, .ref qk, .ref qs, .null, .int 0, .int 0, .long 1])), (qp, .inr (9, [.int mp_, .ref ep, .int 1])), (ep, .inl (cP, 10, .inr (.inr (.inr (.inr (fp)))))), (ql, .inr (9, [.int ml, .ref ed, .int n])), (ed, .inl (cB, 10, .inr (.inr (.inr (.inr (f0))))))] ∧ va_O "java/lang/Integer" e0 (va_A [(m0, .inr (8, [.ref qp, .ref qg, .ref qr, .ref qk, .ref qs, .null, .int 0, .int 0, .long 1])), (qp, .inr (9, [.int mp_, .ref ep, .int 1])), (ep, .inl (cP, 10, .inr (.inr (.inr (.inr (fp)))))), (ql, .inr (9, [.int ml, .ref ed, .int n])), (ed, .inl (cB, 10, .inr (.inr (.inr (.inr (f0))))))] sz) U U.heap ∧ va_OF "java/lang/Integer" "value" "I" (.int 46) e0 (va_A [(m0, .inr (8, [.ref qp, .ref qg, .ref qr, .ref qk, .ref qs, .null, .int 0, .int 0, .long 1])), (qp, .inr (9, [.int mp_, .ref ep, .int 1])), (ep, .inl (cP, 10, .inr (.inr (.inr (.inr (fp)))))), (ql, .inr (9, [.int ml, .ref ed, .int n])), (ed, .inl (cB, 10, .inr (.inr (.inr (.inr (f0))))))] sz) U U.heap ∧ va_Fw "java/util/ArrayList" ⟨"java/util/List", "size", "()I"⟩ ⟨"java/util/ArrayList", "size", "()I"⟩ U ∧ va_Nw (.castable "java/util/ArrayList" "java/util/List") U ∧ va_Fw "java/util/ArrayList" ⟨"java/util/List", "iterator", "()Ljava/util/Iterator;"⟩ ⟨"java/util/ArrayList", "iterator", "()Ljava/util/Iterator;"⟩ U ∧ va_Fw "java/util/ArrayList$Itr" ⟨"java/util/Iterator", "hasNext", "()Z"⟩ ⟨"java/util/ArrayList$Itr", "hasNext", "()Z"⟩ U ∧ va_Nw (.fieldLinkNest "java/util/ArrayList$Itr" 28 "java/util/ArrayList" "size" "I" "java/util/ArrayList") U ∧ va_Fw "java/util/ArrayList$Itr" ⟨"java/util/Iterator", "next", "()Ljava/lang/Object;"⟩ ⟨"java/util/ArrayList$Itr", "next", "()Ljava/lang/Object;"⟩ U)) (va_Qi (fun r (_ : Unit) => r = 1) (fun _ t => va_P (dC, dI) classes [(m0, .inr (8, [.ref qp, .ref qg, .ref qr, .ref qk, .ref qs, .null, .int 0, .int 0, .long 1])), (qp, .inr (9, [.int mp_, .ref ep, .int 1])), (ep, .inl (cP, 10, .inr (.inr (.inr (.inr (fp)))))), (ql, .inr (9, [.int ml, .ref ed, .int n])), (ed, .inl (cB, 10, .inr (.inr (.inr (.inr (f0))))))] t.heap ∧ va_K (dC, dI) classes [(cP, .object "java/lang/Object"), (cB, .object "java/lang/Object")] t ∧ va_D (va_A [(m0, .inr (8, [.ref qp, .ref qg, .ref qr, .ref qk, .ref qs, .null, .int 0, .int 0, .long 1])), (qp, .inr (9, [.int mp_, .ref ep, .int 1])), (ep, .inl (cP, 10, .inr (.inr (.inr (.inr (fp)))))), (ql, .inr (9, [.int ml, .ref ed, .int n])), (ed, .inl (cB, 10, .inr (.inr (.inr (.inr (f0))))))] sz) [(m0, .inr (8, [.ref qp, .ref qg, .ref qr, .ref qk, .ref qs, .null, .int 0, .int 0, .long 1])), (qp, .inr (9, [.int mp_, .ref ep, .int 1])), (ep, .inl (cP, 10, .inr (.inr (.inr (.inr (fp)))))), (ql, .inr (9, [.int ml, .ref ed, .int n])), (ed, .inl (cB, 10, .inr (.inr (.inr (.inr (f0))))))] ∧ sz + 2304 ≤ t.heap.size) (va_A [(m0, .inr (8, [.ref qp, .ref qg, .ref qr, .ref qk, .ref qs, .null, .int 0, .int 0, .long 1])), (qp, .inr (9, [.int mp_, .ref ep, .int 1])), (ep, .inl (cP, 10, .inr (.inr (.inr (.inr (fp)))))), (ql, .inr (9, [.int ml, .ref ed, .int n])), (ed, .inl (cB, 10, .inr (.inr (.inr (.inr (f0))))))] sz)) 2304 5120 (va_A [(m0, .inr (8, [.ref qp, .ref qg, .ref qr, .ref qk, .ref qs, .null, .int 0, .int 0, .long 1])), (qp, .inr (9, [.int mp_, .ref ep, .int 1])), (ep, .inl (cP, 10, .inr (.inr (.inr (.inr (fp)))))), (ql, .inr (9, [.int ml, .ref ed, .int n])), (ed, .inl (cB, 10, .inr (.inr (.inr (.inr (f0))))))] sz) := by
  refine Met.ofW (cc := b_MO_isSame) (maxL := 4) (ret := (some .boolean)) (by decide) rfl ?_
  intro p e s m args below meth c s₁ B hml hv
  obtain ⟨rfl, hsz, hP, hK, hD0, hE0, hE1, hE2, hE3, hE4, hE5, hE6, hE7⟩ := hv
  have hx := B.exec
  have hb := B.bytes
  have hr := B.returns
  have hts := atoms_spec (ws := w_MO_isSame) B.pre
  have hown : s.vm.findClass "LeastcodeModel" = some m.cls := findClass_of_methodNamed B.named
  have hlocks := B.notSynchronized
  subst hsz
  have hD := hD0.self (sz := s.heap.size)
  generalize hAe : va_A [(m0, .inr (8, [.ref qp, .ref qg, .ref qr, .ref qk, .ref qs, .null, .int 0, .int 0, .long 1])), (qp, .inr (9, [.int mp_, .ref ep, .int 1])), (ep, .inl (cP, 10, .inr (.inr (.inr (.inr (fp)))))), (ql, .inr (9, [.int ml, .ref ed, .int n])), (ed, .inl (cB, 10, .inr (.inr (.inr (.inr (f0))))))] s.heap.size = A at hD hE0 hE1 hE2 hE3 hE4 hE5 hE6 hE7 ⊢
  have hA : ∀ q : Nat, s.heap.size ≤ q → A q := fun q h => by rw [← hAe]; exact Or.inr h
  have hS : va_S A s.heap s.heap [] := va_S.rf
  have hP : va_P (dC, dI) classes [(m0, .inr (8, [.ref qp, .ref qg, .ref qr, .ref qk, .ref qs, .null, .int 0, .int 0, .long 1])), (qp, .inr (9, [.int mp_, .ref ep, .int 1])), (ep, .inl (cP, 10, .inr (.inr (.inr (.inr (fp)))))), (ql, .inr (9, [.int ml, .ref ed, .int n])), (ed, .inl (cB, 10, .inr (.inr (.inr (.inr (f0))))))] s.heap := hP
  have hl := lv_entry ([.ref m0, .int 0, .int 0, .int 0]) (n := 4) (Nat.le_of_ble_eq_true rfl)
  rw [lg_entry_eq]
  generalize (lg_sl ([.ref m0, .int 0, .int 0, .int 0]) ++ List.replicate (4 - (lg_sl ([.ref m0, .int 0, .int 0, .int 0])).length) Slot.unset).toArray = ls at hl ⊢
  have hl : lv_has ls 4 [(0, .ref m0), (1, .int 0), (2, .int 0), (3, .int 0)] := hl
  refine lv_aload_n hx hb d_MO_isSame_0 rfl (lv_at hl 0 rfl) ?_
  refine lv_aload_n hx hb d_MO_isSame_1 rfl (lv_at hl 0 rfl) ?_
  refine va_get (D := (dC, dI)) (ci := 8) (v := .ref qp) (C := R_MO) (T := T_MO) (N := 9) hx hb hts in_MO_isSame_MO hown hK hP 0 rfl rfl 0 (by decide) (hts (.fieldLink "LeastcodeModel" 10 "LeastcodeModel" "programs" "Ljava/util/ArrayList;") (List.mem_of_getElem? (i := 10) rfl)) (fun _ h9 => h9) rfl d_MO_isSame_2 ?_
  refine lv_iload_n hx hb d_MO_isSame_5 rfl (lv_at hl 1 rfl) ?_
  have hPc : va_P (dC, dI) classes [(qp, .inr (9, [.int mp_, .ref ep, .int 1]))] _ := hP.sub (ws' := [(qp, .inr (9, [.int mp_, .ref ep, .int 1]))]) [1] rfl
  have hKc : va_K (dC, dI) classes [] s := hK.sub (tys' := []) [] rfl
  refine vp_callSi (W.runS (As := [.ref qp, .int 0]) (rest := [.ref m0]) ⟨hx, hb, hml, hown, hts⟩ (c_isOf l dC dI qp mp_ ep) (cwS 2 hts g_MO_isSame_6 rfl rfl rfl (by decide +kernel) ⟨Nat.le_of_ble_eq_true rfl, Nat.le_of_ble_eq_true rfl⟩) ⟨fun a U g mk z => by obtain ⟨z0, zP, zK, zE0⟩ := z; exact ⟨z0, zP, va_K.moved (u := U) (U := U.calling g mk a) (Vm.Alike.refl U.vm) zK, va_Fw.moved (by decide +kernel) (u := U) (U := U.calling g mk a) (Vm.Alike.refl U.vm) zE0⟩, fun U hU hW => ⟨rfl, by rw [hU]; exact hPc, va_K.moved hW.alike hKc, va_Fw.moved (by decide +kernel) hW.alike hE2⟩⟩ rfl rfl hl.1 rfl (lv_room (Nat.le_of_ble_eq_true rfl)) d_MO_isSame_6 ⟨(Nat.le_of_ble_eq_true rfl), (Nat.le_of_ble_eq_true rfl)⟩) (fun r1 hr1 => ?_)
  replace hr1 := hr1.symm; subst hr1
  refine lv_if_eq (tgt := 23) hx hb d_MO_isSame_9 (by decide) (fun c_9 => ?_) (fun c_9 => ?_)
  · exact absurd c_9 (by decide)
  · skip
    refine lv_aload_n hx hb d_MO_isSame_12 rfl (lv_at hl 0 rfl) ?_
    refine va_get (D := (dC, dI)) (ci := 8) (v := .ref qp) (C := R_MO) (T := T_MO) (N := 9) hx hb hts in_MO_isSame_MO hown hK hP 0 rfl rfl 0 (by decide) (hts (.fieldLink "LeastcodeModel" 10 "LeastcodeModel" "programs" "Ljava/util/ArrayList;") (List.mem_of_getElem? (i := 10) rfl)) (fun _ h9 => h9) rfl d_MO_isSame_13 ?_
    refine lv_iload_n hx hb d_MO_isSame_16 rfl (lv_at hl 2 rfl) ?_
    have hPc : va_P (dC, dI) classes [(qp, .inr (9, [.int mp_, .ref ep, .int 1]))] _ := hP.sub (ws' := [(qp, .inr (9, [.int mp_, .ref ep, .int 1]))]) [1] rfl
    have hKc : va_K (dC, dI) classes [] s := hK.sub (tys' := []) [] rfl
    refine vp_callSi (W.runS (As := [.ref qp, .int 0]) (rest := [.ref m0]) ⟨hx, hb, hml, hown, hts⟩ (c_isOf l dC dI qp mp_ ep) (cwS 2 hts g_MO_isSame_17 rfl rfl rfl (by decide +kernel) ⟨Nat.le_of_ble_eq_true rfl, Nat.le_of_ble_eq_true rfl⟩) ⟨fun a U g mk z => by obtain ⟨z0, zP, zK, zE0⟩ := z; exact ⟨z0, zP, va_K.moved (u := U) (U := U.calling g mk a) (Vm.Alike.refl U.vm) zK, va_Fw.moved (by decide +kernel) (u := U) (U := U.calling g mk a) (Vm.Alike.refl U.vm) zE0⟩, fun U hU hW => ⟨rfl, by rw [hU]; exact hPc, va_K.moved hW.alike hKc, va_Fw.moved (by decide +kernel) hW.alike hE2⟩⟩ rfl rfl hl.1 rfl (lv_room (Nat.le_of_ble_eq_true rfl)) d_MO_isSame_17 ⟨(Nat.le_of_ble_eq_true rfl), (Nat.le_of_ble_eq_true rfl)⟩) (fun r2 hr2 => ?_)
    replace hr2 := hr2.symm; subst hr2
    refine lv_if_ne (tgt := 27) hx hb d_MO_isSame_20 (by decide) (fun c_20 => ?_) (fun c_20 => ?_)
    · skip
      refine lv_iload_n hx hb d_MO_isSame_27 rfl (lv_at hl 3 rfl) ?_
      refine lv_iconst (v := 0) hx hb d_MO_isSame_28 (by decide) ?_
      refine lv_bipush (v := 7) hx hb d_MO_isSame_29 (by decide) ?_
      refine vp_callSi (W.runS (As := [.int 0, .int 0, .int 7]) (rest := [.ref m0]) ⟨hx, hb, hml, hown, hts⟩ (c_in_ l 0 0 7 (by decide) (by decide)) (cwS 3 hts g_MO_isSame_31 rfl rfl rfl (by decide +kernel) ⟨Nat.le_of_ble_eq_true rfl, Nat.le_of_ble_eq_true rfl⟩) ⟨fun a U g mk z => z, fun U hU hW => ⟨rfl, trivial⟩⟩ rfl rfl hl.1 rfl (lv_room (Nat.le_of_ble_eq_true rfl)) d_MO_isSame_31 ⟨(Nat.le_of_ble_eq_true rfl), (Nat.le_of_ble_eq_true rfl)⟩) (fun r3 hr3 => ?_)
      replace hr3 := hr3.symm; subst hr3
      refine lv_if_eq (tgt := 41) hx hb d_MO_isSame_34 (by decide) (fun c_34 => ?_) (fun c_34 => ?_)
      · exact absurd c_34 (by decide)
      · skip
        refine lv_iconst (v := 0) hx hb d_MO_isSame_37 (by decide) ?_
        refine lv_goto (tgt := 42) hx hb d_MO_isSame_38 (by decide) ?_
        have hPc : va_P (dC, dI) classes [(m0, .inr (8, [.ref qp, .ref qg, .ref qr, .ref qk, .ref qs, .null, .int 0, .int 0, .long 1]))] _ := hP.sub (ws' := [(m0, .inr (8, [.ref qp, .ref qg, .ref qr, .ref qk, .ref qs, .null, .int 0, .int 0, .long 1]))]) [0] rfl
        have hKc : va_K (dC, dI) classes [] s := hK.sub (tys' := []) [] rfl
        have hDc : va_D _ [(m0, .inr (8, [.ref qp, .ref qg, .ref qr, .ref qk, .ref qs, .null, .int 0, .int 0, .long 1]))] := hD.sub (ws' := [(m0, .inr (8, [.ref qp, .ref qg, .ref qr, .ref qk, .ref qs, .null, .int 0, .int 0, .long 1]))]) [0] (by decide) rfl
        have hFc := va_free (wc := [(m0, .inr (8, [.ref qp, .ref qg, .ref qr, .ref qk, .ref qs, .null, .int 0, .int 0, .long 1]))]) hD hS hA [0] rfl
        refine va_calli (va_runV (As := [.int 0]) (rest := []) ⟨hx, hb, hml, hown, hts⟩ (c_failsIf l dC dI m0 qp qg qr qk qs s.heap.size) (cwV 1 hts g_MO_isSame_42 rfl rfl rfl (by decide +kernel) ⟨Nat.le_of_ble_eq_true rfl, Nat.le_of_ble_eq_true rfl⟩) ⟨fun a U g mk z => by obtain ⟨z0, z1, zP, zK, zD⟩ := z; exact ⟨z0, z1, zP, va_K.moved (u := U) (U := U.calling g mk a) (Vm.Alike.refl U.vm) zK, zD⟩, va_recv hKc hPc (ci := 8) (q0 := 0) rfl rfl, fun U hU hW => ⟨rfl, by rw [hU], by rw [hU]; exact hPc, va_K.moved hW.alike hKc, hDc.weaken (fun _ _ _ _ => trivial)⟩⟩ rfl rfl hl.1 rfl (lv_room (Nat.le_of_ble_eq_true rfl)) d_MO_isSame_42 ⟨(Nat.le_of_ble_eq_true rfl), (Nat.le_of_ble_eq_true rfl)⟩) hS (fun q _ h => hFc q h) hFc (fun r4 u t H1 locs ht hvm hr4 hB hz1 hk1 hS => ?_)
        obtain ⟨hP1, hK1, hD1⟩ := hB
        rw [ht] at hP1
        have hK1 := va_K.moved hvm.symm hK1
        obtain ⟨hP, hD⟩ := va_join (wr := [(qp, .inr (9, [.int mp_, .ref ep, .int 1])), (ep, .inl (cP, 10, .inr (.inr (.inr (.inr (fp)))))), (ql, .inr (9, [.int ml, .ref ed, .int n])), (ed, .inl (cB, 10, .inr (.inr (.inr (.inr (f0))))))]) (w1 := [(m0, .inr (8, [.ref qp, .ref qg, .ref qr, .ref qk, .ref qs, .null, .int 0, .int 0, .long 1]))]) hP hD [0] [1, 2, 3, 4] rfl rfl (by decide) (by decide) hk1 hFc hP1 hD1
        clear hPc hDc hKc hFc hP1 hD1 hK1 hk1
        generalize H1 = H at hP hS ⊢
        have hP : va_P (dC, dI) classes [(qp, .inr (9, [.int mp_, .ref ep, .int 1])), (ep, .inl (cP, 10, .inr (.inr (.inr (.inr (fp)))))), (ql, .inr (9, [.int ml, .ref ed, .int n])), (ed, .inl (cB, 10, .inr (.inr (.inr (.inr (f0)))))), (m0, .inr (8, [.ref qp, .ref qg, .ref qr, .ref qk, .ref qs, .null, .int 0, .int 0, .long 1]))] H := hP
        have hD : va_D A [(qp, .inr (9, [.int mp_, .ref ep, .int 1])), (ep, .inl (cP, 10, .inr (.inr (.inr (.inr (fp)))))), (ql, .inr (9, [.int ml, .ref ed, .int n])), (ed, .inl (cB, 10, .inr (.inr (.inr (.inr (f0)))))), (m0, .inr (8, [.ref qp, .ref qg, .ref qr, .ref qk, .ref qs, .null, .int 0, .int 0, .long 1]))] := hD
        refine W.widen (k := 0) (n := 0) (by omega) (by omega) ?_
        replace hr4 := hr4.symm; subst hr4
        refine lv_if_eq (tgt := 50) hx hb d_MO_isSame_45 (by decide) (fun c_45 => ?_) (fun c_45 => ?_)
        · skip
          refine lv_aload_n hx hb d_MO_isSame_50 rfl (lv_at hl 0 rfl) ?_
          refine va_get (D := (dC, dI)) (ci := 8) (v := .ref qp) (C := R_MO) (T := T_MO) (N := 9) hx hb hts in_MO_isSame_MO hown hK hP 4 rfl rfl 0 (by decide) (hts (.fieldLink "LeastcodeModel" 10 "LeastcodeModel" "programs" "Ljava/util/ArrayList;") (List.mem_of_getElem? (i := 10) rfl)) (fun _ h9 => h9) rfl d_MO_isSame_51 ?_
          refine lv_iload_n hx hb d_MO_isSame_54 rfl (lv_at hl 1 rfl) ?_
          have hPc : va_P (dC, dI) classes [(qp, .inr (9, [.int mp_, .ref ep, .int 1])), (ep, .inl (cP, 10, .inr (.inr (.inr (.inr (fp))))))] _ := hP.sub (ws' := [(qp, .inr (9, [.int mp_, .ref ep, .int 1])), (ep, .inl (cP, 10, .inr (.inr (.inr (.inr (fp))))))]) [0, 1] rfl
          have hKc : va_K (dC, dI) classes [(cP, .object "java/lang/Object")] s := hK.sub (tys' := [(cP, .object "java/lang/Object")]) [0] rfl
          refine va_csr (W.runV (As := [.int 0]) (rest := []) ⟨hx, hb, hml, hown, hts⟩ (c_AL_get l dC dI qp mp_ ep cP fp ql hfp) (cwV 1 hts g_MO_isSame_55 rfl rfl rfl (by decide +kernel) ⟨Nat.le_of_ble_eq_true rfl, Nat.le_of_ble_eq_true rfl⟩) ⟨fun a U g mk z => by obtain ⟨z0, zP, zK⟩ := z; exact ⟨z0, zP, va_K.moved (u := U) (U := U.calling g mk a) (Vm.Alike.refl U.vm) zK⟩, va_recv hKc hPc (ci := 9) (q0 := 0) rfl rfl, fun U hU hW => ⟨rfl, by rw [hU]; exact hPc, va_K.moved hW.alike hKc⟩⟩ rfl rfl hl.1 rfl (lv_room (Nat.le_of_ble_eq_true rfl)) d_MO_isSame_55 ⟨(Nat.le_of_ble_eq_true rfl), (Nat.le_of_ble_eq_true rfl)⟩) (fun r5 hr5 => ?_)
          replace hr5 := hr5.symm; subst hr5
          refine va_castY (C := "java/util/ArrayList") hx hb hown (hts (.classLink "LeastcodeModel" 59 "java/util/List") (List.mem_of_getElem? (i := 49) rfl)) hE3 (va_recv hK hP (ci := 9) (q0 := 2) rfl rfl) d_MO_isSame_58 ?_
          refine lv_aload_n hx hb d_MO_isSame_61 rfl (lv_at hl 0 rfl) ?_
          refine va_get (D := (dC, dI)) (ci := 8) (v := .ref qp) (C := R_MO) (T := T_MO) (N := 9) hx hb hts in_MO_isSame_MO hown hK hP 4 rfl rfl 0 (by decide) (hts (.fieldLink "LeastcodeModel" 10 "LeastcodeModel" "programs" "Ljava/util/ArrayList;") (List.mem_of_getElem? (i := 10) rfl)) (fun _ h9 => h9) rfl d_MO_isSame_62 ?_
          refine lv_iload_n hx hb d_MO_isSame_65 rfl (lv_at hl 2 rfl) ?_
          have hPc : va_P (dC, dI) classes [(qp, .inr (9, [.int mp_, .ref ep, .int 1])), (ep, .inl (cP, 10, .inr (.inr (.inr (.inr (fp))))))] _ := hP.sub (ws' := [(qp, .inr (9, [.int mp_, .ref ep, .int 1])), (ep, .inl (cP, 10, .inr (.inr (.inr (.inr (fp))))))]) [0, 1] rfl
          have hKc : va_K (dC, dI) classes [(cP, .object "java/lang/Object")] s := hK.sub (tys' := [(cP, .object "java/lang/Object")]) [0] rfl
          refine va_csr (W.runV (As := [.int 0]) (rest := [.ref ql]) ⟨hx, hb, hml, hown, hts⟩ (c_AL_get l dC dI qp mp_ ep cP fp ql hfp) (cwV 1 hts g_MO_isSame_66 rfl rfl rfl (by decide +kernel) ⟨Nat.le_of_ble_eq_true rfl, Nat.le_of_ble_eq_true rfl⟩) ⟨fun a U g mk z => by obtain ⟨z0, zP, zK⟩ := z; exact ⟨z0, zP, va_K.moved (u := U) (U := U.calling g mk a) (Vm.Alike.refl U.vm) zK⟩, va_recv hKc hPc (ci := 9) (q0 := 0) rfl rfl, fun U hU hW => ⟨rfl, by rw [hU]; exact hPc, va_K.moved hW.alike hKc⟩⟩ rfl rfl hl.1 rfl (lv_room (Nat.le_of_ble_eq_true rfl)) d_MO_isSame_66 ⟨(Nat.le_of_ble_eq_true rfl), (Nat.le_of_ble_eq_true rfl)⟩) (fun r6 hr6 => ?_)
          replace hr6 := hr6.symm; subst hr6
          refine va_castY (C := "java/util/ArrayList") hx hb hown (hts (.classLink "LeastcodeModel" 59 "java/util/List") (List.mem_of_getElem? (i := 49) rfl)) hE3 (va_recv hK hP (ci := 9) (q0 := 2) rfl rfl) d_MO_isSame_69 ?_
          refine lv_iload_n hx hb d_MO_isSame_72 rfl (lv_at hl 3 rfl) ?_
          have hS0 := hS
          have hPc : va_P (dC, dI) classes [(ql, .inr (9, [.int ml, .ref ed, .int n])), (ed, .inl (cB, 10, .inr (.inr (.inr (.inr (f0))))))] _ := hP.sub (ws' := [(ql, .inr (9, [.int ml, .ref ed, .int n])), (ed, .inl (cB, 10, .inr (.inr (.inr (.inr (f0))))))]) [2, 3] rfl
          have hKc : va_K (dC, dI) classes [(cB, .object "java/lang/Object")] s := hK.sub (tys' := [(cB, .object "java/lang/Object")]) [1] rfl
          have hDc : va_D _ [(ql, .inr (9, [.int ml, .ref ed, .int n])), (ed, .inl (cB, 10, .inr (.inr (.inr (.inr (f0))))))] := hD.sub (ws' := [(ql, .inr (9, [.int ml, .ref ed, .int n])), (ed, .inl (cB, 10, .inr (.inr (.inr (.inr (f0))))))]) [2, 3] (by decide) rfl
          have hFc := va_free (wc := [(ql, .inr (9, [.int ml, .ref ed, .int n])), (ed, .inl (cB, 10, .inr (.inr (.inr (.inr (f0))))))]) hD hS hA [2, 3] rfl
          refine va_calli (va_runS (As := [.ref ql, .ref ql, .int 0]) (rest := []) ⟨hx, hb, hml, hown, hts⟩ (c_areSame l dC dI ql ml ed n cB f0 e0 hnk hfk H.size) (cwS 3 hts g_MO_isSame_73 rfl rfl rfl (by decide +kernel) ⟨Nat.le_of_ble_eq_true rfl, Nat.le_of_ble_eq_true rfl⟩) ⟨fun a U g mk z => by obtain ⟨z0, z1, zP, zK, zD, zE0, zE1, zE2, zE3, zE4, zE5⟩ := z; exact ⟨z0, z1, zP, va_K.moved (u := U) (U := U.calling g mk a) (Vm.Alike.refl U.vm) zK, zD, zE0.moved (u := U) (U := U.calling g mk a) (Vm.Alike.refl U.vm), zE1.moved (u := U) (U := U.calling g mk a) (Vm.Alike.refl U.vm), va_Fw.moved (by decide +kernel) (u := U) (U := U.calling g mk a) (Vm.Alike.refl U.vm) zE2, va_Fw.moved (by decide +kernel) (u := U) (U := U.calling g mk a) (Vm.Alike.refl U.vm) zE3, va_Nw.same rfl (u := U) (U := U.calling g mk a) rfl zE4, va_Fw.moved (by decide +kernel) (u := U) (U := U.calling g mk a) (Vm.Alike.refl U.vm) zE5⟩, fun U hU hW => ⟨rfl, by rw [hU], by rw [hU]; exact hPc, va_K.moved hW.alike hKc, hDc.weaken (fun _ _ _ _ => trivial), by (try dsimp only); rw [hU]; exact ((hE0.kept (fun a h1 h2 => hS.2.1 a h1 h2)).narrow hFc).moved hW.alike, by (try dsimp only); rw [hU]; exact ((hE1.kept (fun a h1 h2 => hS.2.1 a h1 h2)).narrow hFc).moved hW.alike, va_Fw.moved (by decide +kernel) hW.alike hE4, va_Fw.moved (by decide +kernel) hW.alike hE5, va_Nw.warmF hW hE6, va_Fw.moved (by decide +kernel) hW.alike hE7⟩⟩ rfl rfl hl.1 rfl (lv_room (Nat.le_of_ble_eq_true rfl)) d_MO_isSame_73 ⟨(Nat.le_of_ble_eq_true rfl), (Nat.le_of_ble_eq_true rfl)⟩) hS (fun q _ h => hFc q h) hFc (fun r7 u t H1 locs ht hvm hr7 hB hz1 hk1 hS => ?_)
          obtain ⟨hP1, hK1, hD1, hpr7_0⟩ := hB
          rw [ht] at hP1
          have hK1 := va_K.moved hvm.symm hK1
          rw [ht] at hpr7_0
          obtain ⟨hP, hD⟩ := va_join (wr := [(qp, .inr (9, [.int mp_, .ref ep, .int 1])), (ep, .inl (cP, 10, .inr (.inr (.inr (.inr (fp)))))), (m0, .inr (8, [.ref qp, .ref qg, .ref qr, .ref qk, .ref qs, .null, .int 0, .int 0, .long 1]))]) (w1 := [(ql, .inr (9, [.int ml, .ref ed, .int n])), (ed, .inl (cB, 10, .inr (.inr (.inr (.inr (f0))))))]) hP hD [2, 3] [0, 1, 4] rfl rfl (by decide) (by decide) hk1 hFc hP1 hD1
          clear hPc hDc hKc hFc hP1 hD1 hK1 hk1
          have hg9 : s.heap.size + 2304 ≤ H1.size := Nat.le_trans (Nat.add_le_add_right hS0.1 2304) hpr7_0
          generalize H1 = H at hP hS hg9 ⊢
          have hP : va_P (dC, dI) classes [(qp, .inr (9, [.int mp_, .ref ep, .int 1])), (ep, .inl (cP, 10, .inr (.inr (.inr (.inr (fp)))))), (m0, .inr (8, [.ref qp, .ref qg, .ref qr, .ref qk, .ref qs, .null, .int 0, .int 0, .long 1])), (ql, .inr (9, [.int ml, .ref ed, .int n])), (ed, .inl (cB, 10, .inr (.inr (.inr (.inr (f0))))))] H := hP
          have hD : va_D A [(qp, .inr (9, [.int mp_, .ref ep, .int 1])), (ep, .inl (cP, 10, .inr (.inr (.inr (.inr (fp)))))), (m0, .inr (8, [.ref qp, .ref qg, .ref qr, .ref qk, .ref qs, .null, .int 0, .int 0, .long 1])), (ql, .inr (9, [.int ml, .ref ed, .int n])), (ed, .inl (cB, 10, .inr (.inr (.inr (.inr (f0))))))] := hD
          refine W.widen (k := 2304) (n := 5120) (by omega) (by omega) ?_
          replace hr7 := hr7.symm; subst hr7
          have hP9 : va_P (dC, dI) classes [(m0, .inr (8, [.ref qp, .ref qg, .ref qr, .ref qk, .ref qs, .null, .int 0, .int 0, .long 1])), (qp, .inr (9, [.int mp_, .ref ep, .int 1])), (ep, .inl (cP, 10, .inr (.inr (.inr (.inr (fp)))))), (ql, .inr (9, [.int ml, .ref ed, .int n])), (ed, .inl (cB, 10, .inr (.inr (.inr (.inr (f0))))))] H := hP.sub (ws' := [(m0, .inr (8, [.ref qp, .ref qg, .ref qr, .ref qk, .ref qs, .null, .int 0, .int 0, .long 1])), (qp, .inr (9, [.int mp_, .ref ep, .int 1])), (ep, .inl (cP, 10, .inr (.inr (.inr (.inr (fp)))))), (ql, .inr (9, [.int ml, .ref ed, .int n])), (ed, .inl (cB, 10, .inr (.inr (.inr (.inr (f0))))))]) [2, 0, 1, 3, 4] rfl
          have hD9 := hD.sub (ws' := [(m0, .inr (8, [.ref qp, .ref qg, .ref qr, .ref qk, .ref qs, .null, .int 0, .int 0, .long 1])), (qp, .inr (9, [.int mp_, .ref ep, .int 1])), (ep, .inl (cP, 10, .inr (.inr (.inr (.inr (fp)))))), (ql, .inr (9, [.int ml, .ref ed, .int n])), (ed, .inl (cB, 10, .inr (.inr (.inr (.inr (f0))))))]) [2, 0, 1, 3, 4] (by decide) rfl
          have hK9 := hK.sub (tys' := [(cP, .object "java/lang/Object"), (cB, .object "java/lang/Object")]) [0, 1] rfl
          refine W.widen (k := 2304) (n := 5120) (by omega) (by omega) ?_
          exact W.zret hx hb hr rfl (fun t ht hW => ⟨⟨_, (), rfl, rfl, ⟨by rw [ht]; exact hP9, va_K.moved hW.alike hK9, hD9, (by rw [ht]; exact hg9)⟩⟩, hS.F ht⟩) hS.2.2 d_MO_isSame_76
        · exact absurd rfl c_45
    · exact absurd c_20 (by decide)
