/-! Lists: any object into a row of objects; how far a heap has grown. -/
theorem ry_any {nm E : String} {a : Nat} {A : Nat → Prop} {s : State} {H : Heap} {locs : List Loc} (h : va_O nm a A s s.heap) (hS : va_S A s.heap H locs) (hca : va_Nw (.castable nm E) s) : va_Any E s H a := by
  obtain ⟨cell, h1, h2, h3⟩ := va_Orecv h hS
  obtain ⟨kC, hkC, -⟩ := Vm.findClass_spec h3
  exact ⟨cell, h1, h2, ⟨kC, hkC⟩, fun comp hq => vb_asgC hca comp _ hq h3⟩
/-- a cell that is none of the caller's own is new -/
theorem ry_grow {D : va_G} {cl : List vw_C} {own ws : va_W} {z : Nat} {A : Nat → Prop} {H : Heap} (hAe : va_A own z = A) (hP : va_P D cl ws H) (hD : va_D A ws) (k : Nat) {q : Nat} {e : va_E} (hk : ws[k]? = some (q, e)) (hn : ∀ x ∈ own, x.1 ≠ q) : z + 1 ≤ H.size := by
  have h1 : q < H.size := (hP k (q, e) hk).lt
  have h2 : A q := hD.2 k (q, e) hk
  rw [← hAe] at h2
  rcases h2 with ⟨j, x, hj⟩ | h2
  · exact absurd rfl (hn (q, x) (List.mem_of_getElem? hj))
  · omega
theorem ry_ne {A : Nat → Prop} {ws : va_W} (hD : va_D A ws) (i j : Nat) {p q : Nat × va_E} (hi : ws[i]? = some p) (hj : ws[j]? = some q) (h : i ≠ j) : p.1 ≠ q.1 := fun e => h (hD.1 i j p q hi hj e)

abbrev rm_ABC_init : Room := { frames := 1, cells := 0, slots := 0, locals := 12 }
abbrev b_ABC_init : ByteArray := prog_44_method_1_code
def y_ABC_init : MethodName := ⟨"java/util/AbstractCollection", "<init>", "()V"⟩
def w_ABC_init : List Cond := [.code ⟨"java/util/AbstractCollection", "<init>", "()V"⟩ prog_44_method_1_code 1 none, .methodLink "java/util/AbstractCollection" 1 ⟨"java/lang/Object", "<init>", "()V"⟩, .instanceMethod ⟨"java/lang/Object", "<init>", "()V"⟩, .code ⟨"java/lang/Object", "<init>", "()V"⟩ object_method_1_code 1 none]
theorem d_ABC_init_0 : decode b_ABC_init 0 = .ok (.aload_n 0, 1) := by decide +kernel
theorem d_ABC_init_1 : decode b_ABC_init 1 = .ok (.invokespecial 1, 3) := by decide +kernel
theorem d_ABC_init_4 : decode b_ABC_init 4 = .ok (.return_, 1) := by decide +kernel
set_option maxHeartbeats 4000000 in
set_option maxRecDepth 100000 in
theorem c_ABC_init (l : Launch) (h0 : Nat) : Met l y_ABC_init w_ABC_init rm_ABC_init (va_Pc [.ref h0] (fun U => True)) (va_Sv (fun _ => True)) 0 0 (fun _ => False) := by
  refine Met.ofW (cc := b_ABC_init) (maxL := 1) (ret := none) (by decide) rfl ?_
  intro p e s m args below meth c s₁ B hml hv
  obtain ⟨rfl, -⟩ := hv
  have hx := B.exec
  have hb := B.bytes
  have hr := B.returns
  have hts := atoms_spec (ws := w_ABC_init) B.pre
  have hown : s.vm.findClass "java/util/AbstractCollection" = some m.cls := findClass_of_methodNamed B.named
  have hlocks := B.notSynchronized
  have hin : meth.name = "<init>" := (name_of_methodNamed B.named B.method).1
  have hl := lv_entry ([.ref h0]) (n := 1) (Nat.le_of_ble_eq_true rfl)
  rw [lg_entry_eq]
  generalize (lg_sl ([.ref h0]) ++ List.replicate (1 - (lg_sl ([.ref h0])).length) Slot.unset).toArray = ls at hl ⊢
  have hl : lv_has ls 1 [(0, .ref h0)] := hl
  refine lv_aload_n hx hb d_ABC_init_0 rfl (lv_at hl 0 rfl) ?_
  refine W.objInit hx hb hown (hts (.methodLink "java/util/AbstractCollection" 1 ⟨"java/lang/Object", "<init>", "()V"⟩) (List.mem_of_getElem? (i := 1) rfl)) (hts (.instanceMethod ⟨"java/lang/Object", "<init>", "()V"⟩) (List.mem_of_getElem? (i := 2) rfl)) (hts (.code ⟨"java/lang/Object", "<init>", "()V"⟩ object_method_1_code 1 none) (List.mem_of_getElem? (i := 3) rfl)) rfl (by rw [hml]; exact hl.1) rfl d_ABC_init_1 (Nat.le_of_ble_eq_true rfl) (Nat.le_of_ble_eq_true rfl) ?_
  refine W.eq (g2 := F0 m 4 ls []) rfl ?_
  exact W.vret hx hb hr (fun t ht hW => ⟨rfl, trivial, ht⟩) (fun _ h => by cases h) d_ABC_init_4

abbrev rm_ABL_init : Room := { frames := 2, cells := 0, slots := 0, locals := 32 }
abbrev b_ABL_init : ByteArray := prog_45_method_1_code
def y_ABL_init : MethodName := ⟨"java/util/AbstractList", "<init>", "()V"⟩
def w_ABL_init : List Cond := [.code ⟨"java/util/AbstractList", "<init>", "()V"⟩ prog_45_method_1_code 1 none, .code ⟨"java/util/AbstractCollection", "<init>", "()V"⟩ prog_44_method_1_code 1 none, .methodLink "java/util/AbstractCollection" 1 ⟨"java/lang/Object", "<init>", "()V"⟩, .instanceMethod ⟨"java/lang/Object", "<init>", "()V"⟩, .code ⟨"java/lang/Object", "<init>", "()V"⟩ object_method_1_code 1 none, .initialized "java/util/AbstractCollection", .methodLink "java/util/AbstractList" 1 ⟨"java/util/AbstractCollection", "<init>", "()V"⟩, .instanceMethod ⟨"java/util/AbstractCollection", "<init>", "()V"⟩, .lays "java/util/ArrayList" "java/util/AbstractList" "modCount" "I", .lays "java/util/ArrayList" "java/util/ArrayList" "elementData" "[Ljava/lang/Object;", .lays "java/util/ArrayList" "java/util/ArrayList" "size" "I", .fieldLink "java/util/AbstractList" 7 "java/util/AbstractList" "modCount" "I"]
theorem d_ABL_init_0 : decode b_ABL_init 0 = .ok (.aload_n 0, 1) := by decide +kernel
theorem d_ABL_init_1 : decode b_ABL_init 1 = .ok (.invokespecial 1, 3) := by decide +kernel
theorem d_ABL_init_4 : decode b_ABL_init 4 = .ok (.aload_n 0, 1) := by decide +kernel
theorem d_ABL_init_5 : decode b_ABL_init 5 = .ok (.iconst 0, 1) := by decide +kernel
theorem d_ABL_init_6 : decode b_ABL_init 6 = .ok (.putfield 7, 3) := by decide +kernel
theorem d_ABL_init_9 : decode b_ABL_init 9 = .ok (.return_, 1) := by decide +kernel
theorem in_ABL_init_AL : ∀ v ∈ u_ws R_AL T_AL 3, v ∈ w_ABL_init := by decide +kernel
set_option maxRecDepth 20000 in
theorem g_ABL_init_1 : GoodIn w_ABL_init (w_ABC_init) := goodIn_r _ [1, 2, 3, 4] rfl (by decide +kernel)
set_option maxHeartbeats 4000000 in
set_option maxRecDepth 100000 in
theorem c_ABL_init (l : Launch) (dC : Nat → ClassId) (dI : Nat → Nat → Nat) (h0 : Nat) (sz : Nat) : Met l y_ABL_init w_ABL_init rm_ABL_init (va_Pc [.ref h0] (fun U => U.heap.size = sz ∧ va_P (dC, dI) classes [(h0, .inr (9, [.int 0, .null, .int 0]))] U.heap ∧ va_K (dC, dI) classes [] U ∧ va_D (fun _ => True) [(h0, .inr (9, [.int 0, .null, .int 0]))])) (va_Qv (fun (_ : Unit) => True) (fun _ t => va_P (dC, dI) classes [(h0, .inr (9, [.int 0, .null, .int 0]))] t.heap ∧ va_K (dC, dI) classes [] t ∧ va_D (va_A [(h0, .inr (9, [.int 0, .null, .int 0]))] sz) [(h0, .inr (9, [.int 0, .null, .int 0]))]) (va_A [(h0, .inr (9, [.int 0, .null, .int 0]))] sz)) 0 0 (va_A [(h0, .inr (9, [.int 0, .null, .int 0]))] sz) := by
  refine Met.ofW (cc := b_ABL_init) (maxL := 1) (ret := none) (by decide) rfl ?_
  intro p e s m args below meth c s₁ B hml hv
  obtain ⟨rfl, hsz, hP, hK, hD0⟩ := hv
  have hx := B.exec
  have hb := B.bytes
  have hr := B.returns
  have hts := atoms_spec (ws := w_ABL_init) B.pre
  have hown : s.vm.findClass "java/util/AbstractList" = some m.cls := findClass_of_methodNamed B.named
  have hlocks := B.notSynchronized
  have hin : meth.name = "<init>" := (name_of_methodNamed B.named B.method).1
  subst hsz
  have hD := hD0.self (sz := s.heap.size)
  generalize hAe : va_A [(h0, .inr (9, [.int 0, .null, .int 0]))] s.heap.size = A at hD ⊢
  have hA : ∀ q : Nat, s.heap.size ≤ q → A q := fun q h => by rw [← hAe]; exact Or.inr h
  have hS : va_S A s.heap s.heap [] := va_S.rf
  have hP : va_P (dC, dI) classes [(h0, .inr (9, [.int 0, .null, .int 0]))] s.heap := hP
  have hl := lv_entry ([.ref h0]) (n := 1) (Nat.le_of_ble_eq_true rfl)
  rw [lg_entry_eq]
  generalize (lg_sl ([.ref h0]) ++ List.replicate (1 - (lg_sl ([.ref h0])).length) Slot.unset).toArray = ls at hl ⊢
  have hl : lv_has ls 1 [(0, .ref h0)] := hl
  refine lv_aload_n hx hb d_ABL_init_0 rfl (lv_at hl 0 rfl) ?_
  refine va_csv (W.runI (As := []) (rest := []) ⟨hx, hb, hml, hown, hts⟩ (c_ABC_init l h0) (cwI 0 hts g_ABL_init_1 rfl rfl rfl (hts (.initialized "java/util/AbstractCollection") (List.mem_of_getElem? (i := 5) rfl)) (hts (.methodLink "java/util/AbstractList" 1 ⟨"java/util/AbstractCollection", "<init>", "()V"⟩) (List.mem_of_getElem? (i := 6) rfl)) (hts (.instanceMethod ⟨"java/util/AbstractCollection", "<init>", "()V"⟩) (List.mem_of_getElem? (i := 7) rfl)) rfl (by decide +kernel) ⟨Nat.le_of_ble_eq_true rfl, Nat.le_of_ble_eq_true rfl⟩) ⟨fun a U g mk z => z, fun U hU hW => ⟨rfl, trivial⟩⟩ rfl rfl hl.1 rfl (lv_room (Nat.le_of_ble_eq_true rfl)) d_ABL_init_1 ⟨(Nat.le_of_ble_eq_true rfl), (Nat.le_of_ble_eq_true rfl)⟩) (fun hr1 => ?_)
  refine lv_aload_n hx hb d_ABL_init_4 rfl (lv_at hl 0 rfl) ?_
  refine lv_iconst (v := 0) hx hb d_ABL_init_5 (by decide) ?_
  refine va_put (D := (dC, dI)) (ci := 9) (v := .int 0) (ty := .int) (C := R_AL) (T := T_AL) (N := 3) hx hb hts in_ABL_init_AL t_AL t_AL_ok n_AL hown hK hP hD hS 0 rfl rfl 0 (by decide) (hts (.fieldLink "java/util/AbstractList" 7 "java/util/AbstractList" "modCount" "I") (List.mem_of_getElem? (i := 11) rfl)) (fun _ h9 => h9) rfl (by decide +kernel) rfl rfl (Nat.le_of_ble_eq_true rfl) d_ABL_init_6 (fun H locs hP hD hS => ?_)
  have hP : va_P (dC, dI) classes [(h0, .inr (9, [.int 0, .null, .int 0]))] H := hP
  have hD : va_D A [(h0, .inr (9, [.int 0, .null, .int 0]))] := hD
  have hP9 : va_P (dC, dI) classes [(h0, .inr (9, [.int 0, .null, .int 0]))] H := hP.sub (ws' := [(h0, .inr (9, [.int 0, .null, .int 0]))]) [0] rfl
  have hD9 := hD.sub (ws' := [(h0, .inr (9, [.int 0, .null, .int 0]))]) [0] (by decide) rfl
  have hK9 := hK.sub (tys' := []) [] rfl
  refine W.widen (k := 0) (n := 0) (by omega) (by omega) ?_
  exact W.vret hx hb hr (fun t ht hW => ⟨⟨(), rfl, trivial, ⟨by rw [ht]; exact hP9, va_K.moved hW.alike hK9, hD9⟩⟩, hS.F ht⟩) hS.2.2 d_ABL_init_9

abbrev rm_AL_init : Room := { frames := 3, cells := 0, slots := 0, locals := 52 }
abbrev b_AL_init : ByteArray := prog_50_method_2_code
def y_AL_init : MethodName := ⟨"java/util/ArrayList", "<init>", "()V"⟩
def w_AL_init : List Cond := [.code ⟨"java/util/ArrayList", "<init>", "()V"⟩ prog_50_method_2_code 1 none, .code ⟨"java/util/AbstractList", "<init>", "()V"⟩ prog_45_method_1_code 1 none, .code ⟨"java/util/AbstractCollection", "<init>", "()V"⟩ prog_44_method_1_code 1 none, .methodLink "java/util/AbstractCollection" 1 ⟨"java/lang/Object", "<init>", "()V"⟩, .instanceMethod ⟨"java/lang/Object", "<init>", "()V"⟩, .code ⟨"java/lang/Object", "<init>", "()V"⟩ object_method_1_code 1 none, .initialized "java/util/AbstractCollection", .methodLink "java/util/AbstractList" 1 ⟨"java/util/AbstractCollection", "<init>", "()V"⟩, .instanceMethod ⟨"java/util/AbstractCollection", "<init>", "()V"⟩, .lays "java/util/ArrayList" "java/util/AbstractList" "modCount" "I", .lays "java/util/ArrayList" "java/util/ArrayList" "elementData" "[Ljava/lang/Object;", .lays "java/util/ArrayList" "java/util/ArrayList" "size" "I", .fieldLink "java/util/AbstractList" 7 "java/util/AbstractList" "modCount" "I", .initialized "java/util/AbstractList", .methodLink "java/util/ArrayList" 1 ⟨"java/util/AbstractList", "<init>", "()V"⟩, .instanceMethod ⟨"java/util/AbstractList", "<init>", "()V"⟩, .fieldLink "java/util/ArrayList" 39 "java/util/ArrayList" "DEFAULTCAPACITY_EMPTY_ELEMENTDATA" "[Ljava/lang/Object;", .fieldLink "java/util/ArrayList" 9 "java/util/ArrayList" "elementData" "[Ljava/lang/Object;"]
theorem d_AL_init_0 : decode b_AL_init 0 = .ok (.aload_n 0, 1) := by decide +kernel
theorem d_AL_init_1 : decode b_AL_init 1 = .ok (.invokespecial 1, 3) := by decide +kernel
theorem d_AL_init_4 : decode b_AL_init 4 = .ok (.aload_n 0, 1) := by decide +kernel
theorem d_AL_init_5 : decode b_AL_init 5 = .ok (.getstatic 39, 3) := by decide +kernel
theorem d_AL_init_8 : decode b_AL_init 8 = .ok (.putfield 9, 3) := by decide +kernel
theorem d_AL_init_11 : decode b_AL_init 11 = .ok (.return_, 1) := by decide +kernel
theorem in_AL_init_AL : ∀ v ∈ u_ws R_AL T_AL 3, v ∈ w_AL_init := by decide +kernel
set_option maxRecDepth 20000 in
theorem g_AL_init_1 : GoodIn w_AL_init (w_ABL_init) := goodIn_r _ [1, 2, 3, 4, 5, 6, 7, 8, 9, 10, 11, 12] rfl (by decide +kernel)
set_option maxHeartbeats 4000000 in
set_option maxRecDepth 100000 in
theorem c_AL_init (l : Launch) (dC : Nat → ClassId) (dI : Nat → Nat → Nat) (de : Nat) (h0 : Nat) (sz : Nat) : Met l y_AL_init w_AL_init rm_AL_init (va_Pc [.ref h0] (fun U => U.heap.size = sz ∧ va_P (dC, dI) classes [(h0, .inr (9, [.int 0, .null, .int 0]))] U.heap ∧ va_K (dC, dI) classes [] U ∧ va_D (fun _ => True) [(h0, .inr (9, [.int 0, .null, .int 0]))] ∧ va_Z "java/util/ArrayList" "DEFAULTCAPACITY_EMPTY_ELEMENTDATA" "[Ljava/lang/Object;" (.ref de) (va_A [(h0, .inr (9, [.int 0, .null, .int 0]))] sz) U U.heap)) (va_Qv (fun (_ : Unit) => True) (fun _ t => va_P (dC, dI) classes [(h0, .inr (9, [.int 0, .ref de, .int 0]))] t.heap ∧ va_K (dC, dI) classes [] t ∧ va_D (va_A [(h0, .inr (9, [.int 0, .null, .int 0]))] sz) [(h0, .inr (9, [.int 0, .ref de, .int 0]))]) (va_A [(h0, .inr (9, [.int 0, .null, .int 0]))] sz)) 0 0 (va_A [(h0, .inr (9, [.int 0, .null, .int 0]))] sz) := by
  refine Met.ofW (cc := b_AL_init) (maxL := 1) (ret := none) (by decide) rfl ?_
  intro p e s m args below meth c s₁ B hml hv
  obtain ⟨rfl, hsz, hP, hK, hD0, hE0⟩ := hv
  have hx := B.exec
  have hb := B.bytes
  have hr := B.returns
  have hts := atoms_spec (ws := w_AL_init) B.pre
  have hown : s.vm.findClass "java/util/ArrayList" = some m.cls := findClass_of_methodNamed B.named
  have hlocks := B.notSynchronized
  have hin : meth.name = "<init>" := (name_of_methodNamed B.named B.method).1
  subst hsz
  have hD := hD0.self (sz := s.heap.size)
  generalize hAe : va_A [(h0, .inr (9, [.int 0, .null, .int 0]))] s.heap.size = A at hD hE0 ⊢
  have hA : ∀ q : Nat, s.heap.size ≤ q → A q := fun q h => by rw [← hAe]; exact Or.inr h
  have hS : va_S A s.heap s.heap [] := va_S.rf
  have hP : va_P (dC, dI) classes [(h0, .inr (9, [.int 0, .null, .int 0]))] s.heap := hP
  have hl := lv_entry ([.ref h0]) (n := 1) (Nat.le_of_ble_eq_true rfl)
  rw [lg_entry_eq]
  generalize (lg_sl ([.ref h0]) ++ List.replicate (1 - (lg_sl ([.ref h0])).length) Slot.unset).toArray = ls at hl ⊢
  have hl : lv_has ls 1 [(0, .ref h0)] := hl
  refine lv_aload_n hx hb d_AL_init_0 rfl (lv_at hl 0 rfl) ?_
  have hPc : va_P (dC, dI) classes [(h0, .inr (9, [.int 0, .null, .int 0]))] _ := hP.sub (ws' := [(h0, .inr (9, [.int 0, .null, .int 0]))]) [0] rfl
  have hKc : va_K (dC, dI) classes [] s := hK.sub (tys' := []) [] rfl
  have hDc : va_D _ [(h0, .inr (9, [.int 0, .null, .int 0]))] := hD.sub (ws' := [(h0, .inr (9, [.int 0, .null, .int 0]))]) [0] (by decide) rfl
  have hFc := va_free (wc := [(h0, .inr (9, [.int 0, .null, .int 0]))]) hD hS hA [0] rfl
  refine va_callv (va_runI (As := []) (rest := []) ⟨hx, hb, hml, hown, hts⟩ (c_ABL_init l dC dI h0 s.heap.size) (cwI 0 hts g_AL_init_1 rfl rfl rfl (hts (.initialized "java/util/AbstractList") (List.mem_of_getElem? (i := 13) rfl)) (hts (.methodLink "java/util/ArrayList" 1 ⟨"java/util/AbstractList", "<init>", "()V"⟩) (List.mem_of_getElem? (i := 14) rfl)) (hts (.instanceMethod ⟨"java/util/AbstractList", "<init>", "()V"⟩) (List.mem_of_getElem? (i := 15) rfl)) rfl (by decide +kernel) ⟨Nat.le_of_ble_eq_true rfl, Nat.le_of_ble_eq_true rfl⟩) ⟨fun a U g mk z => by obtain ⟨z0, z1, zP, zK, zD⟩ := z; exact ⟨z0, z1, zP, va_K.moved (u := U) (U := U.calling g mk a) (Vm.Alike.refl U.vm) zK, zD⟩, fun U hU hW => ⟨rfl, by rw [hU], by rw [hU]; exact hPc, va_K.moved hW.alike hKc, hDc.weaken (fun _ _ _ _ => trivial)⟩⟩ rfl rfl hl.1 rfl (lv_room (Nat.le_of_ble_eq_true rfl)) d_AL_init_1 ⟨(Nat.le_of_ble_eq_true rfl), (Nat.le_of_ble_eq_true rfl)⟩) hS (fun q _ h => hFc q h) hFc (fun u t H1 locs ht hvm hr1 hB hz1 hk1 hS => ?_)
  obtain ⟨hP1, hK1, hD1⟩ := hB
  rw [ht] at hP1
  have hK1 := va_K.moved hvm.symm hK1
  obtain ⟨hP, hD⟩ := va_join (wr := []) (w1 := [(h0, .inr (9, [.int 0, .null, .int 0]))]) hP hD [0] [] rfl rfl (by decide) (by decide) hk1 hFc hP1 hD1
  clear hPc hDc hKc hFc hP1 hD1 hK1 hk1
  generalize H1 = H at hP hS ⊢
  have hP : va_P (dC, dI) classes [(h0, .inr (9, [.int 0, .null, .int 0]))] H := hP
  have hD : va_D A [(h0, .inr (9, [.int 0, .null, .int 0]))] := hD
  refine W.widen (k := 0) (n := 0) (by omega) (by omega) ?_
  refine lv_aload_n hx hb d_AL_init_4 rfl (lv_at hl 0 rfl) ?_
  refine va_gets (v := .ref de) hx hb hE0 hS hown (hts (.fieldLink "java/util/ArrayList" 39 "java/util/ArrayList" "DEFAULTCAPACITY_EMPTY_ELEMENTDATA" "[Ljava/lang/Object;") (List.mem_of_getElem? (i := 16) rfl)) (fun _ h9 => h9) d_AL_init_5 ?_
  refine va_put (D := (dC, dI)) (ci := 9) (v := .ref de) (ty := .array (.object "java/lang/Object")) (C := R_AL) (T := T_AL) (N := 3) hx hb hts in_AL_init_AL t_AL t_AL_ok n_AL hown hK hP hD hS 0 rfl rfl 1 (by decide) (hts (.fieldLink "java/util/ArrayList" 9 "java/util/ArrayList" "elementData" "[Ljava/lang/Object;") (List.mem_of_getElem? (i := 17) rfl)) (fun _ h9 => h9) rfl (by decide +kernel) rfl rfl (Nat.le_of_ble_eq_true rfl) d_AL_init_8 (fun H locs hP hD hS => ?_)
  have hP : va_P (dC, dI) classes [(h0, .inr (9, [.int 0, .ref de, .int 0]))] H := hP
  have hD : va_D A [(h0, .inr (9, [.int 0, .ref de, .int 0]))] := hD
  have hP9 : va_P (dC, dI) classes [(h0, .inr (9, [.int 0, .ref de, .int 0]))] H := hP.sub (ws' := [(h0, .inr (9, [.int 0, .ref de, .int 0]))]) [0] rfl
  have hD9 := hD.sub (ws' := [(h0, .inr (9, [.int 0, .ref de, .int 0]))]) [0] (by decide) rfl
  have hK9 := hK.sub (tys' := []) [] rfl
  refine W.widen (k := 0) (n := 0) (by omega) (by omega) ?_
  exact W.vret hx hb hr (fun t ht hW => ⟨⟨(), rfl, trivial, ⟨by rw [ht]; exact hP9, va_K.moved hW.alike hK9, hD9⟩⟩, hS.F ht⟩) hS.2.2 d_AL_init_11

abbrev rm_AL_size : Room := { frames := 0, cells := 0, slots := 0, locals := 0 }
abbrev b_AL_size : ByteArray := prog_50_method_8_code
def y_AL_size : MethodName := ⟨"java/util/ArrayList", "size", "()I"⟩
def w_AL_size : List Cond := [.code ⟨"java/util/ArrayList", "size", "()I"⟩ prog_50_method_8_code 1 (some .int), .lays "java/util/ArrayList" "java/util/AbstractList" "modCount" "I", .lays "java/util/ArrayList" "java/util/ArrayList" "elementData" "[Ljava/lang/Object;", .lays "java/util/ArrayList" "java/util/ArrayList" "size" "I", .fieldLink "java/util/ArrayList" 48 "java/util/ArrayList" "size" "I"]
theorem d_AL_size_0 : decode b_AL_size 0 = .ok (.aload_n 0, 1) := by decide +kernel
theorem d_AL_size_1 : decode b_AL_size 1 = .ok (.getfield 48, 3) := by decide +kernel
theorem d_AL_size_4 : decode b_AL_size 4 = .ok (.ireturn, 1) := by decide +kernel
theorem in_AL_size_AL : ∀ v ∈ u_ws R_AL T_AL 3, v ∈ w_AL_size := by decide +kernel
set_option maxHeartbeats 4000000 in
set_option maxRecDepth 100000 in
theorem c_AL_size (l : Launch) (dC : Nat → ClassId) (dI : Nat → Nat → Nat) (h0 : Nat) (md : Int32) (ed : Nat) (n : Int32) : Met l y_AL_size w_AL_size rm_AL_size (va_Pc [.ref h0] (fun U => va_P (dC, dI) classes [(h0, .inr (9, [.int md, .ref ed, .int n]))] U.heap ∧ va_K (dC, dI) classes [] U)) (vp_Si (fun r => r = n)) 0 0 (fun _ => False) := by
  refine Met.ofW (cc := b_AL_size) (maxL := 1) (ret := (some .int)) (by decide) rfl ?_
  intro p e s m args below meth c s₁ B hml hv
  obtain ⟨rfl, hP, hK⟩ := hv
  have hx := B.exec
  have hb := B.bytes
  have hr := B.returns
  have hts := atoms_spec (ws := w_AL_size) B.pre
  have hown : s.vm.findClass "java/util/ArrayList" = some m.cls := findClass_of_methodNamed B.named
  have hlocks := B.notSynchronized
  have hP : va_P (dC, dI) classes [(h0, .inr (9, [.int md, .ref ed, .int n]))] s.heap := hP
  have hl := lv_entry ([.ref h0]) (n := 1) (Nat.le_of_ble_eq_true rfl)
  rw [lg_entry_eq]
  generalize (lg_sl ([.ref h0]) ++ List.replicate (1 - (lg_sl ([.ref h0])).length) Slot.unset).toArray = ls at hl ⊢
  have hl : lv_has ls 1 [(0, .ref h0)] := hl
  refine lv_aload_n hx hb d_AL_size_0 rfl (lv_at hl 0 rfl) ?_
  refine va_get (D := (dC, dI)) (ci := 9) (v := .int n) (C := R_AL) (T := T_AL) (N := 3) hx hb hts in_AL_size_AL hown hK hP 0 rfl rfl 2 (by decide) (hts (.fieldLink "java/util/ArrayList" 48 "java/util/ArrayList" "size" "I") (List.mem_of_getElem? (i := 4) rfl)) (fun _ h9 => h9) rfl d_AL_size_1 ?_
  exact W.iret hx hb hr (fun t ht hW => ⟨_, rfl, rfl, ht⟩) (fun _ h => by cases h) d_AL_size_4

abbrev rm_AL_growI : Room := { frames := 1, cells := 1, slots := 10, locals := 14 }
abbrev b_AL_growI : ByteArray := prog_50_method_6_code
def y_AL_growI : MethodName := ⟨"java/util/ArrayList", "grow", "(I)[Ljava/lang/Object;"⟩
def w_AL_growI : List Cond := [.code ⟨"java/util/ArrayList", "grow", "(I)[Ljava/lang/Object;"⟩ prog_50_method_6_code 4 (some (.array (.object "java/lang/Object"))), .lays "java/util/ArrayList" "java/util/AbstractList" "modCount" "I", .lays "java/util/ArrayList" "java/util/ArrayList" "elementData" "[Ljava/lang/Object;", .lays "java/util/ArrayList" "java/util/ArrayList" "size" "I", .fieldLink "java/util/ArrayList" 9 "java/util/ArrayList" "elementData" "[Ljava/lang/Object;", .fieldLink "java/util/ArrayList" 39 "java/util/ArrayList" "DEFAULTCAPACITY_EMPTY_ELEMENTDATA" "[Ljava/lang/Object;", .methodLink "java/util/ArrayList" 79 ⟨"java/lang/Math", "max", "(II)I"⟩, .static ⟨"java/lang/Math", "max", "(II)I"⟩, .initialized "java/lang/Math", .code ⟨"java/lang/Math", "max", "(II)I"⟩ prog_31_method_65_code 2 (some .int), .classLink "java/util/ArrayList" 7 "java/lang/Object"]
theorem d_AL_growI_0 : decode b_AL_growI 0 = .ok (.aload_n 0, 1) := by decide +kernel
theorem d_AL_growI_1 : decode b_AL_growI 1 = .ok (.getfield 9, 3) := by decide +kernel
theorem d_AL_growI_4 : decode b_AL_growI 4 = .ok (.arraylength, 1) := by decide +kernel
theorem d_AL_growI_5 : decode b_AL_growI 5 = .ok (.istore_n 2, 1) := by decide +kernel
theorem d_AL_growI_6 : decode b_AL_growI 6 = .ok (.iload_n 2, 1) := by decide +kernel
theorem d_AL_growI_7 : decode b_AL_growI 7 = .ok (.ifCond .gt 13, 3) := by decide +kernel
theorem d_AL_growI_10 : decode b_AL_growI 10 = .ok (.aload_n 0, 1) := by decide +kernel
theorem d_AL_growI_11 : decode b_AL_growI 11 = .ok (.getfield 9, 3) := by decide +kernel
theorem d_AL_growI_14 : decode b_AL_growI 14 = .ok (.getstatic 39, 3) := by decide +kernel
theorem d_AL_growI_17 : decode b_AL_growI 17 = .ok (.if_acmp .eq 28, 3) := by decide +kernel
theorem d_AL_growI_45 : decode b_AL_growI 45 = .ok (.aload_n 0, 1) := by decide +kernel
theorem d_AL_growI_46 : decode b_AL_growI 46 = .ok (.bipush 10, 2) := by decide +kernel
theorem d_AL_growI_48 : decode b_AL_growI 48 = .ok (.iload_n 1, 1) := by decide +kernel
theorem d_AL_growI_49 : decode b_AL_growI 49 = .ok (.invokestatic 79, 3) := by decide +kernel
theorem d_AL_growI_52 : decode b_AL_growI 52 = .ok (.anewarray 7, 3) := by decide +kernel
theorem d_AL_growI_55 : decode b_AL_growI 55 = .ok (.dup_x1, 1) := by decide +kernel
theorem d_AL_growI_56 : decode b_AL_growI 56 = .ok (.putfield 9, 3) := by decide +kernel
theorem d_AL_growI_59 : decode b_AL_growI 59 = .ok (.areturn, 1) := by decide +kernel
theorem in_AL_growI_AL : ∀ v ∈ u_ws R_AL T_AL 3, v ∈ w_AL_growI := by decide +kernel
set_option maxHeartbeats 4000000 in
set_option maxRecDepth 100000 in
theorem c_AL_growI (l : Launch) (dC : Nat → ClassId) (dI : Nat → Nat → Nat) (de : Nat) (fde : Nat → Value) (h0 : Nat) (md : Int32) (sz : Nat) : Met l y_AL_growI w_AL_growI rm_AL_growI (va_Pc [.ref h0, .int 1] (fun U => U.heap.size = sz ∧ va_P (dC, dI) classes [(h0, .inr (9, [.int md, .ref de, .int 0]))] U.heap ∧ va_K (dC, dI) classes [] U ∧ va_D (fun _ => True) [(h0, .inr (9, [.int md, .ref de, .int 0]))] ∧ va_Z "java/util/ArrayList" "DEFAULTCAPACITY_EMPTY_ELEMENTDATA" "[Ljava/lang/Object;" (.ref de) (va_A [(h0, .inr (9, [.int md, .ref de, .int 0]))] sz) U U.heap ∧ va_T (.object "java/lang/Object") de 0 fde (va_A [(h0, .inr (9, [.int md, .ref de, .int 0]))] sz) U U.heap ∧ va_AO "java/lang/Object" U)) (va_Qr (fun (_ : Unit) => True) (fun _ rr t => ∃ cB : ClassId, va_P (dC, dI) classes [(h0, .inr (9, [.int md, .ref rr, .int 0])), (rr, .inl (cB, 10, .inr (.inr (.inr (.inr (fun _ => none))))))] t.heap ∧ va_K (dC, dI) classes [(cB, .object "java/lang/Object")] t ∧ va_D (va_A [(h0, .inr (9, [.int md, .ref de, .int 0]))] sz) [(h0, .inr (9, [.int md, .ref rr, .int 0])), (rr, .inl (cB, 10, .inr (.inr (.inr (.inr (fun _ => none))))))]) (va_A [(h0, .inr (9, [.int md, .ref de, .int 0]))] sz)) 1 10 (va_A [(h0, .inr (9, [.int md, .ref de, .int 0]))] sz) := by
  refine Met.ofW (cc := b_AL_growI) (maxL := 4) (ret := (some (.array (.object "java/lang/Object")))) (by decide) rfl ?_
  intro p e s m args below meth c s₁ B hml hv
  obtain ⟨rfl, hsz, hP, hK, hD0, hE0, hE1, hE2⟩ := hv
  have hx := B.exec
  have hb := B.bytes
  have hr := B.returns
  have hts := atoms_spec (ws := w_AL_growI) B.pre
  have hown : s.vm.findClass "java/util/ArrayList" = some m.cls := findClass_of_methodNamed B.named
  have hlocks := B.notSynchronized
  subst hsz
  have hD := hD0.self (sz := s.heap.size)
  generalize hAe : va_A [(h0, .inr (9, [.int md, .ref de, .int 0]))] s.heap.size = A at hD hE0 hE1 hE2 ⊢
  have hA : ∀ q : Nat, s.heap.size ≤ q → A q := fun q h => by rw [← hAe]; exact Or.inr h
  have hS : va_S A s.heap s.heap [] := va_S.rf
  have hP : va_P (dC, dI) classes [(h0, .inr (9, [.int md, .ref de, .int 0]))] s.heap := hP
  have hl := lv_entry ([.ref h0, .int 1]) (n := 4) (Nat.le_of_ble_eq_true rfl)
  rw [lg_entry_eq]
  generalize (lg_sl ([.ref h0, .int 1]) ++ List.replicate (4 - (lg_sl ([.ref h0, .int 1])).length) Slot.unset).toArray = ls at hl ⊢
  have hl : lv_has ls 4 [(0, .ref h0), (1, .int 1)] := hl
  refine lv_aload_n hx hb d_AL_growI_0 rfl (lv_at hl 0 rfl) ?_
  refine va_get (D := (dC, dI)) (ci := 9) (v := .ref de) (C := R_AL) (T := T_AL) (N := 3) hx hb hts in_AL_growI_AL hown hK hP 0 rfl rfl 1 (by decide) (hts (.fieldLink "java/util/ArrayList" 9 "java/util/ArrayList" "elementData" "[Ljava/lang/Object;") (List.mem_of_getElem? (i := 4) rfl)) (fun _ h9 => h9) rfl d_AL_growI_1 ?_
  refine va_tlen (v := 0) hx hb hE1 hS (by decide) d_AL_growI_4 ?_
  refine lv_istore_n (lv' := [(2, .int 0), (0, .ref h0), (1, .int 1)]) hx hb d_AL_growI_5 rfl hl (by decide) rfl (fun ls hl => ?_)
  refine lv_iload_n hx hb d_AL_growI_6 rfl (lv_at hl 0 rfl) ?_
  refine lv_if_gt (tgt := 20) hx hb d_AL_growI_7 (by decide) (fun c_7 => ?_) (fun c_7 => ?_)
  · exact absurd c_7 (by decide)
  · skip
    refine lv_aload_n hx hb d_AL_growI_10 rfl (lv_at hl 1 rfl) ?_
    refine va_get (D := (dC, dI)) (ci := 9) (v := .ref de) (C := R_AL) (T := T_AL) (N := 3) hx hb hts in_AL_growI_AL hown hK hP 0 rfl rfl 1 (by decide) (hts (.fieldLink "java/util/ArrayList" 9 "java/util/ArrayList" "elementData" "[Ljava/lang/Object;") (List.mem_of_getElem? (i := 4) rfl)) (fun _ h9 => h9) rfl d_AL_growI_11 ?_
    refine va_gets (v := .ref de) hx hb hE0 hS hown (hts (.fieldLink "java/util/ArrayList" 39 "java/util/ArrayList" "DEFAULTCAPACITY_EMPTY_ELEMENTDATA" "[Ljava/lang/Object;") (List.mem_of_getElem? (i := 5) rfl)) (fun _ h9 => h9) d_AL_growI_14 ?_
    refine lv_acmp_eq (rx := some de) (ry := some de) (tgt := 45) hx hb d_AL_growI_17 (by decide) (fun c_17 => ?_) (fun c_17 => ?_)
    · skip
      refine lv_aload_n hx hb d_AL_growI_45 rfl (lv_at hl 1 rfl) ?_
      refine lv_bipush (v := 10) hx hb d_AL_growI_46 (by decide) ?_
      refine lv_iload_n hx hb d_AL_growI_48 rfl (lv_at hl 2 rfl) ?_
      refine va_mmax hx hb (hml.trans hl.1.symm) hown (hts (.methodLink "java/util/ArrayList" 79 ⟨"java/lang/Math", "max", "(II)I"⟩) (List.mem_of_getElem? (i := 6) rfl)) (hts (.static ⟨"java/lang/Math", "max", "(II)I"⟩) (List.mem_of_getElem? (i := 7) rfl)) (hts (.initialized "java/lang/Math") (List.mem_of_getElem? (i := 8) rfl)) (hts (.code ⟨"java/lang/Math", "max", "(II)I"⟩ prog_31_method_65_code 2 (some .int)) (List.mem_of_getElem? (i := 9) rfl)) (Nat.le_of_ble_eq_true rfl) (Nat.le_of_ble_eq_true rfl) (Nat.le_of_ble_eq_true rfl) (Nat.le_of_ble_eq_true rfl) d_AL_growI_49 ?_
      refine lv_topi (fun x1 ex1 => ?_)
      obtain rfl : 10 = x1 := Eq.symm (by rw [ex1]; decide)
      refine va_newq (D := (dC, dI)) (N' := 10) hx hb hown (hts (.classLink "java/util/ArrayList" 7 "java/lang/Object") (List.mem_of_getElem? (i := 10) rfl)) hE2 hK hP hD hS hA (by decide) (by decide) (Nat.le_of_ble_eq_true rfl) (Nat.le_of_ble_eq_true rfl) (Nat.le_of_ble_eq_true rfl) d_AL_growI_52 (fun q2 cA3 H hK hP hD hS => ?_)
      have hP : va_P (dC, dI) classes [(h0, .inr (9, [.int md, .ref de, .int 0])), (q2, .inl (cA3, 10, .inr (.inr (.inr (.inr (fun _ => none))))))] H := hP
      have hK : va_K (dC, dI) classes [(cA3, .object "java/lang/Object")] s := hK
      have hD : va_D A [(h0, .inr (9, [.int md, .ref de, .int 0])), (q2, .inl (cA3, 10, .inr (.inr (.inr (.inr (fun _ => none))))))] := hD
      refine W.widen (k := 1) (n := 10) (by omega) (by omega) ?_
      refine lv_dup_x1 hx hb d_AL_growI_55 rfl rfl ?_
      refine va_put (D := (dC, dI)) (ci := 9) (v := .ref q2) (ty := .array (.object "java/lang/Object")) (C := R_AL) (T := T_AL) (N := 3) hx hb hts in_AL_growI_AL t_AL t_AL_ok n_AL hown hK hP hD hS 0 rfl rfl 1 (by decide) (hts (.fieldLink "java/util/ArrayList" 9 "java/util/ArrayList" "elementData" "[Ljava/lang/Object;") (List.mem_of_getElem? (i := 4) rfl)) (fun _ h9 => h9) rfl (by decide +kernel) rfl rfl (Nat.le_of_ble_eq_true rfl) d_AL_growI_56 (fun H locs hP hD hS => ?_)
      have hP : va_P (dC, dI) classes [(h0, .inr (9, [.int md, .ref q2, .int 0])), (q2, .inl (cA3, 10, .inr (.inr (.inr (.inr (fun _ => none))))))] H := hP
      have hD : va_D A [(h0, .inr (9, [.int md, .ref q2, .int 0])), (q2, .inl (cA3, 10, .inr (.inr (.inr (.inr (fun _ => none))))))] := hD
      have hP9 : va_P (dC, dI) classes [(h0, .inr (9, [.int md, .ref q2, .int 0])), (q2, .inl (cA3, 10, .inr (.inr (.inr (.inr (fun _ => none))))))] H := hP.sub (ws' := [(h0, .inr (9, [.int md, .ref q2, .int 0])), (q2, .inl (cA3, 10, .inr (.inr (.inr (.inr (fun _ => none))))))]) [0, 1] rfl
      have hD9 := hD.sub (ws' := [(h0, .inr (9, [.int md, .ref q2, .int 0])), (q2, .inl (cA3, 10, .inr (.inr (.inr (.inr (fun _ => none))))))]) [0, 1] (by decide) rfl
      have hK9 := hK.sub (tys' := [(cA3, .object "java/lang/Object")]) [0] rfl
      refine W.widen (k := 1) (n := 10) (by omega) (by omega) ?_
      exact W.aret hx hb hr (Or.inr ⟨_, rfl⟩) (Or.inr ⟨_, rfl⟩) (fun t ht hW => ⟨⟨(), _, rfl, trivial, ⟨cA3, ⟨by rw [ht]; exact hP9, va_K.moved hW.alike hK9, hD9⟩⟩⟩, hS.F ht⟩) hS.2.2 d_AL_growI_59
    · exact absurd rfl c_17

abbrev rm_AL_grow : Room := { frames := 2, cells := 1, slots := 10, locals := 37 }
abbrev b_AL_grow : ByteArray := prog_50_method_7_code
def y_AL_grow : MethodName := ⟨"java/util/ArrayList", "grow", "()[Ljava/lang/Object;"⟩
def w_AL_grow : List Cond := [.code ⟨"java/util/ArrayList", "grow", "()[Ljava/lang/Object;"⟩ prog_50_method_7_code 1 (some (.array (.object "java/lang/Object"))), .lays "java/util/ArrayList" "java/util/AbstractList" "modCount" "I", .lays "java/util/ArrayList" "java/util/ArrayList" "elementData" "[Ljava/lang/Object;", .lays "java/util/ArrayList" "java/util/ArrayList" "size" "I", .fieldLink "java/util/ArrayList" 48 "java/util/ArrayList" "size" "I", .methodLink "java/util/ArrayList" 69 ⟨"java/util/ArrayList", "grow", "(I)[Ljava/lang/Object;"⟩, .instanceMethod ⟨"java/util/ArrayList", "grow", "(I)[Ljava/lang/Object;"⟩, .selects "java/util/ArrayList" ⟨"java/util/ArrayList", "grow", "(I)[Ljava/lang/Object;"⟩ ⟨"java/util/ArrayList", "grow", "(I)[Ljava/lang/Object;"⟩, .initialized "java/util/ArrayList", .code ⟨"java/util/ArrayList", "grow", "(I)[Ljava/lang/Object;"⟩ prog_50_method_6_code 4 (some (.array (.object "java/lang/Object"))), .fieldLink "java/util/ArrayList" 9 "java/util/ArrayList" "elementData" "[Ljava/lang/Object;", .fieldLink "java/util/ArrayList" 39 "java/util/ArrayList" "DEFAULTCAPACITY_EMPTY_ELEMENTDATA" "[Ljava/lang/Object;", .methodLink "java/util/ArrayList" 79 ⟨"java/lang/Math", "max", "(II)I"⟩, .static ⟨"java/lang/Math", "max", "(II)I"⟩, .initialized "java/lang/Math", .code ⟨"java/lang/Math", "max", "(II)I"⟩ prog_31_method_65_code 2 (some .int), .classLink "java/util/ArrayList" 7 "java/lang/Object"]
theorem d_AL_grow_0 : decode b_AL_grow 0 = .ok (.aload_n 0, 1) := by decide +kernel
theorem d_AL_grow_1 : decode b_AL_grow 1 = .ok (.aload_n 0, 1) := by decide +kernel
theorem d_AL_grow_2 : decode b_AL_grow 2 = .ok (.getfield 48, 3) := by decide +kernel
theorem d_AL_grow_5 : decode b_AL_grow 5 = .ok (.iconst 1, 1) := by decide +kernel
theorem d_AL_grow_6 : decode b_AL_grow 6 = .ok (.iadd, 1) := by decide +kernel
theorem d_AL_grow_7 : decode b_AL_grow 7 = .ok (.invokevirtual 69, 3) := by decide +kernel
theorem d_AL_grow_10 : decode b_AL_grow 10 = .ok (.areturn, 1) := by decide +kernel
theorem in_AL_grow_AL : ∀ v ∈ u_ws R_AL T_AL 3, v ∈ w_AL_grow := by decide +kernel
set_option maxRecDepth 20000 in
theorem g_AL_grow_7 : GoodIn w_AL_grow (wsV "java/util/ArrayList" 69 "java/util/ArrayList" ⟨"java/util/ArrayList", "grow", "(I)[Ljava/lang/Object;"⟩ w_AL_growI) := goodIn_r _ [5, 6, 7, 8, 9, 1, 2, 3, 10, 11, 12, 13, 14, 15, 16] rfl (by decide +kernel)
set_option maxHeartbeats 4000000 in
set_option maxRecDepth 100000 in
theorem c_AL_grow (l : Launch) (dC : Nat → ClassId) (dI : Nat → Nat → Nat) (de : Nat) (fde : Nat → Value) (h0 : Nat) (md : Int32) (sz : Nat) : Met l y_AL_grow w_AL_grow rm_AL_grow (va_Pc [.ref h0] (fun U => U.heap.size = sz ∧ va_P (dC, dI) classes [(h0, .inr (9, [.int md, .ref de, .int 0]))] U.heap ∧ va_K (dC, dI) classes [] U ∧ va_D (fun _ => True) [(h0, .inr (9, [.int md, .ref de, .int 0]))] ∧ va_Z "java/util/ArrayList" "DEFAULTCAPACITY_EMPTY_ELEMENTDATA" "[Ljava/lang/Object;" (.ref de) (va_A [(h0, .inr (9, [.int md, .ref de, .int 0]))] sz) U U.heap ∧ va_T (.object "java/lang/Object") de 0 fde (va_A [(h0, .inr (9, [.int md, .ref de, .int 0]))] sz) U U.heap ∧ va_AO "java/lang/Object" U)) (va_Qr (fun (_ : Unit) => True) (fun _ rr t => ∃ cB : ClassId, va_P (dC, dI) classes [(h0, .inr (9, [.int md, .ref rr, .int 0])), (rr, .inl (cB, 10, .inr (.inr (.inr (.inr (fun _ => none))))))] t.heap ∧ va_K (dC, dI) classes [(cB, .object "java/lang/Object")] t ∧ va_D (va_A [(h0, .inr (9, [.int md, .ref de, .int 0]))] sz) [(h0, .inr (9, [.int md, .ref rr, .int 0])), (rr, .inl (cB, 10, .inr (.inr (.inr (.inr (fun _ => none))))))]) (va_A [(h0, .inr (9, [.int md, .ref de, .int 0]))] sz)) 1 10 (va_A [(h0, .inr (9, [.int md, .ref de, .int 0]))] sz) := by
  refine Met.ofW (cc := b_AL_grow) (maxL := 1) (ret := (some (.array (.object "java/lang/Object")))) (by decide) rfl ?_
  intro p e s m args below meth c s₁ B hml hv
  obtain ⟨rfl, hsz, hP, hK, hD0, hE0, hE1, hE2⟩ := hv
  have hx := B.exec
  have hb := B.bytes
  have hr := B.returns
  have hts := atoms_spec (ws := w_AL_grow) B.pre
  have hown : s.vm.findClass "java/util/ArrayList" = some m.cls := findClass_of_methodNamed B.named
  have hlocks := B.notSynchronized
  subst hsz
  have hD := hD0.self (sz := s.heap.size)
  generalize hAe : va_A [(h0, .inr (9, [.int md, .ref de, .int 0]))] s.heap.size = A at hD hE0 hE1 hE2 ⊢
  have hA : ∀ q : Nat, s.heap.size ≤ q → A q := fun q h => by rw [← hAe]; exact Or.inr h
  have hS : va_S A s.heap s.heap [] := va_S.rf
  have hP : va_P (dC, dI) classes [(h0, .inr (9, [.int md, .ref de, .int 0]))] s.heap := hP
  have hl := lv_entry ([.ref h0]) (n := 1) (Nat.le_of_ble_eq_true rfl)
  rw [lg_entry_eq]
  generalize (lg_sl ([.ref h0]) ++ List.replicate (1 - (lg_sl ([.ref h0])).length) Slot.unset).toArray = ls at hl ⊢
  have hl : lv_has ls 1 [(0, .ref h0)] := hl
  refine lv_aload_n hx hb d_AL_grow_0 rfl (lv_at hl 0 rfl) ?_
  refine lv_aload_n hx hb d_AL_grow_1 rfl (lv_at hl 0 rfl) ?_
  refine va_get (D := (dC, dI)) (ci := 9) (v := .int 0) (C := R_AL) (T := T_AL) (N := 3) hx hb hts in_AL_grow_AL hown hK hP 0 rfl rfl 2 (by decide) (hts (.fieldLink "java/util/ArrayList" 48 "java/util/ArrayList" "size" "I") (List.mem_of_getElem? (i := 4) rfl)) (fun _ h9 => h9) rfl d_AL_grow_2 ?_
  refine lv_iconst (v := 1) hx hb d_AL_grow_5 (by decide) ?_
  refine lv_iadd hx hb d_AL_grow_6 ?_
  refine lv_topi (fun x1 ex1 => ?_)
  obtain rfl : 1 = x1 := Eq.symm (by rw [ex1]; decide)
  have hPc : va_P (dC, dI) classes [(h0, .inr (9, [.int md, .ref de, .int 0]))] _ := hP.sub (ws' := [(h0, .inr (9, [.int md, .ref de, .int 0]))]) [0] rfl
  have hKc : va_K (dC, dI) classes [] s := hK.sub (tys' := []) [] rfl
  have hDc : va_D _ [(h0, .inr (9, [.int md, .ref de, .int 0]))] := hD.sub (ws' := [(h0, .inr (9, [.int md, .ref de, .int 0]))]) [0] (by decide) rfl
  have hFc := va_free (wc := [(h0, .inr (9, [.int md, .ref de, .int 0]))]) hD hS hA [0] rfl
  refine va_callr (va_runV (As := [.int 1]) (rest := []) ⟨hx, hb, hml, hown, hts⟩ (c_AL_growI l dC dI de fde h0 md s.heap.size) (cwV 1 hts g_AL_grow_7 rfl rfl rfl (by decide +kernel) ⟨Nat.le_of_ble_eq_true rfl, Nat.le_of_ble_eq_true rfl⟩) ⟨fun a U g mk z => by obtain ⟨z0, z1, zP, zK, zD, zE0, zE1, zE2⟩ := z; exact ⟨z0, z1, zP, va_K.moved (u := U) (U := U.calling g mk a) (Vm.Alike.refl U.vm) zK, zD, zE0.moved (u := U) (U := U.calling g mk a) (Vm.Alike.refl U.vm), zE1.moved (u := U) (U := U.calling g mk a) (Vm.Alike.refl U.vm), va_AO.moved (u := U) (U := U.calling g mk a) (Vm.Alike.refl U.vm) zE2⟩, va_recv hKc hPc (ci := 9) (q0 := 0) rfl rfl, fun U hU hW => ⟨rfl, by rw [hU], by rw [hU]; exact hPc, va_K.moved hW.alike hKc, hDc.weaken (fun _ _ _ _ => trivial), by (try dsimp only); rw [hU]; exact ((hE0.kept (fun a h1 h2 => hS.2.1 a h1 h2)).narrow hFc).moved hW.alike, by (try dsimp only); rw [hU]; exact ((hE1.kept (fun a h1 h2 => hS.2.1 a h1 h2)).narrow hFc).moved hW.alike, va_AO.moved hW.alike hE2⟩⟩ rfl rfl hl.1 rfl (lv_room (Nat.le_of_ble_eq_true rfl)) d_AL_grow_7 ⟨(Nat.le_of_ble_eq_true rfl), (Nat.le_of_ble_eq_true rfl)⟩) hS (fun q _ h => hFc q h) hFc (fun u r2 t H1 locs ht hvm hr2 hB hz1 hk1 hS => ?_)
  obtain ⟨cB3, hP1, hK1, hD1⟩ := hB
  rw [ht] at hP1
  have hK1 := va_K.moved hvm.symm hK1
  obtain ⟨hP, hD⟩ := va_join (wr := []) (w1 := [(h0, .inr (9, [.int md, .ref r2, .int 0])), (r2, .inl (cB3, 10, .inr (.inr (.inr (.inr (fun _ => none))))))]) hP hD [0] [] rfl rfl (by decide) (by decide) hk1 hFc hP1 hD1
  have hK := hK.app (hK1.sub (tys' := [(cB3, .object "java/lang/Object")]) [0] rfl)
  have hK : va_K (dC, dI) classes [(cB3, .object "java/lang/Object")] s := hK
  clear hPc hDc hKc hFc hP1 hD1 hK1 hk1
  generalize H1 = H at hP hS ⊢
  have hP : va_P (dC, dI) classes [(h0, .inr (9, [.int md, .ref r2, .int 0])), (r2, .inl (cB3, 10, .inr (.inr (.inr (.inr (fun _ => none))))))] H := hP
  have hD : va_D A [(h0, .inr (9, [.int md, .ref r2, .int 0])), (r2, .inl (cB3, 10, .inr (.inr (.inr (.inr (fun _ => none))))))] := hD
  refine W.widen (k := 1) (n := 10) (by omega) (by omega) ?_
  have hP9 : va_P (dC, dI) classes [(h0, .inr (9, [.int md, .ref r2, .int 0])), (r2, .inl (cB3, 10, .inr (.inr (.inr (.inr (fun _ => none))))))] H := hP.sub (ws' := [(h0, .inr (9, [.int md, .ref r2, .int 0])), (r2, .inl (cB3, 10, .inr (.inr (.inr (.inr (fun _ => none))))))]) [0, 1] rfl
  have hD9 := hD.sub (ws' := [(h0, .inr (9, [.int md, .ref r2, .int 0])), (r2, .inl (cB3, 10, .inr (.inr (.inr (.inr (fun _ => none))))))]) [0, 1] (by decide) rfl
  have hK9 := hK.sub (tys' := [(cB3, .object "java/lang/Object")]) [0] rfl
  refine W.widen (k := 1) (n := 10) (by omega) (by omega) ?_
  exact W.aret hx hb hr (Or.inr ⟨_, rfl⟩) (Or.inr ⟨_, rfl⟩) (fun t ht hW => ⟨⟨(), _, rfl, trivial, ⟨cB3, ⟨by rw [ht]; exact hP9, va_K.moved hW.alike hK9, hD9⟩⟩⟩, hS.F ht⟩) hS.2.2 d_AL_grow_10

abbrev rm_AL_add3L : Room := { frames := 3, cells := 1, slots := 10, locals := 57 }
abbrev b_AL_add3L : ByteArray := prog_50_method_24_code
def y_AL_add3L : MethodName := ⟨"java/util/ArrayList", "add", "(Ljava/lang/Object;[Ljava/lang/Object;I)V"⟩
def w_AL_add3L : List Cond := [.code ⟨"java/util/ArrayList", "add", "(Ljava/lang/Object;[Ljava/lang/Object;I)V"⟩ prog_50_method_24_code 4 none, .methodLink "java/util/ArrayList" 129 ⟨"java/util/ArrayList", "grow", "()[Ljava/lang/Object;"⟩, .instanceMethod ⟨"java/util/ArrayList", "grow", "()[Ljava/lang/Object;"⟩, .selects "java/util/ArrayList" ⟨"java/util/ArrayList", "grow", "()[Ljava/lang/Object;"⟩ ⟨"java/util/ArrayList", "grow", "()[Ljava/lang/Object;"⟩, .initialized "java/util/ArrayList", .code ⟨"java/util/ArrayList", "grow", "()[Ljava/lang/Object;"⟩ prog_50_method_7_code 1 (some (.array (.object "java/lang/Object"))), .lays "java/util/ArrayList" "java/util/AbstractList" "modCount" "I", .lays "java/util/ArrayList" "java/util/ArrayList" "elementData" "[Ljava/lang/Object;", .lays "java/util/ArrayList" "java/util/ArrayList" "size" "I", .fieldLink "java/util/ArrayList" 48 "java/util/ArrayList" "size" "I", .methodLink "java/util/ArrayList" 69 ⟨"java/util/ArrayList", "grow", "(I)[Ljava/lang/Object;"⟩, .instanceMethod ⟨"java/util/ArrayList", "grow", "(I)[Ljava/lang/Object;"⟩, .selects "java/util/ArrayList" ⟨"java/util/ArrayList", "grow", "(I)[Ljava/lang/Object;"⟩ ⟨"java/util/ArrayList", "grow", "(I)[Ljava/lang/Object;"⟩, .code ⟨"java/util/ArrayList", "grow", "(I)[Ljava/lang/Object;"⟩ prog_50_method_6_code 4 (some (.array (.object "java/lang/Object"))), .fieldLink "java/util/ArrayList" 9 "java/util/ArrayList" "elementData" "[Ljava/lang/Object;", .fieldLink "java/util/ArrayList" 39 "java/util/ArrayList" "DEFAULTCAPACITY_EMPTY_ELEMENTDATA" "[Ljava/lang/Object;", .methodLink "java/util/ArrayList" 79 ⟨"java/lang/Math", "max", "(II)I"⟩, .static ⟨"java/lang/Math", "max", "(II)I"⟩, .initialized "java/lang/Math", .code ⟨"java/lang/Math", "max", "(II)I"⟩ prog_31_method_65_code 2 (some .int), .classLink "java/util/ArrayList" 7 "java/lang/Object"]
theorem d_AL_add3L_0 : decode b_AL_add3L 0 = .ok (.iload_n 3, 1) := by decide +kernel
theorem d_AL_add3L_1 : decode b_AL_add3L 1 = .ok (.aload_n 2, 1) := by decide +kernel
theorem d_AL_add3L_2 : decode b_AL_add3L 2 = .ok (.arraylength, 1) := by decide +kernel
theorem d_AL_add3L_3 : decode b_AL_add3L 3 = .ok (.if_icmp .ne 8, 3) := by decide +kernel
theorem d_AL_add3L_6 : decode b_AL_add3L 6 = .ok (.aload_n 0, 1) := by decide +kernel
theorem d_AL_add3L_7 : decode b_AL_add3L 7 = .ok (.invokevirtual 129, 3) := by decide +kernel
theorem d_AL_add3L_10 : decode b_AL_add3L 10 = .ok (.astore_n 2, 1) := by decide +kernel
theorem d_AL_add3L_11 : decode b_AL_add3L 11 = .ok (.aload_n 2, 1) := by decide +kernel
theorem d_AL_add3L_12 : decode b_AL_add3L 12 = .ok (.iload_n 3, 1) := by decide +kernel
theorem d_AL_add3L_13 : decode b_AL_add3L 13 = .ok (.aload_n 1, 1) := by decide +kernel
theorem d_AL_add3L_14 : decode b_AL_add3L 14 = .ok (.aastore, 1) := by decide +kernel
theorem d_AL_add3L_15 : decode b_AL_add3L 15 = .ok (.aload_n 0, 1) := by decide +kernel
theorem d_AL_add3L_16 : decode b_AL_add3L 16 = .ok (.iload_n 3, 1) := by decide +kernel
theorem d_AL_add3L_17 : decode b_AL_add3L 17 = .ok (.iconst 1, 1) := by decide +kernel
theorem d_AL_add3L_18 : decode b_AL_add3L 18 = .ok (.iadd, 1) := by decide +kernel
theorem d_AL_add3L_19 : decode b_AL_add3L 19 = .ok (.putfield 48, 3) := by decide +kernel
theorem d_AL_add3L_22 : decode b_AL_add3L 22 = .ok (.return_, 1) := by decide +kernel
theorem in_AL_add3L_AL : ∀ v ∈ u_ws R_AL T_AL 3, v ∈ w_AL_add3L := by decide +kernel
set_option maxRecDepth 20000 in
theorem g_AL_add3L_7 : GoodIn w_AL_add3L (wsV "java/util/ArrayList" 129 "java/util/ArrayList" ⟨"java/util/ArrayList", "grow", "()[Ljava/lang/Object;"⟩ w_AL_grow) := goodIn_r _ [1, 2, 3, 4, 5, 6, 7, 8, 9, 10, 11, 12, 4, 13, 14, 15, 16, 17, 18, 19, 20] rfl (by decide +kernel)
set_option maxHeartbeats 4000000 in
set_option maxRecDepth 100000 in
theorem c_AL_add3L (l : Launch) (dC : Nat → ClassId) (dI : Nat → Nat → Nat) (de : Nat) (fde : Nat → Value) (h0 : Nat) (md : Int32) (e0 : Nat) (me : Int32) (ede : Nat) (ne : Int32) (sz : Nat) : Met l y_AL_add3L w_AL_add3L rm_AL_add3L (va_Pc [.ref h0, .ref e0, .ref de, .int 0] (fun U => U.heap.size = sz ∧ va_P (dC, dI) classes [(h0, .inr (9, [.int md, .ref de, .int 0])), (e0, .inr (9, [.int me, .ref ede, .int ne]))] U.heap ∧ va_K (dC, dI) classes [] U ∧ va_D (fun _ => True) [(h0, .inr (9, [.int md, .ref de, .int 0])), (e0, .inr (9, [.int me, .ref ede, .int ne]))] ∧ va_Z "java/util/ArrayList" "DEFAULTCAPACITY_EMPTY_ELEMENTDATA" "[Ljava/lang/Object;" (.ref de) (va_A [(h0, .inr (9, [.int md, .ref de, .int 0])), (e0, .inr (9, [.int me, .ref ede, .int ne]))] sz) U U.heap ∧ va_T (.object "java/lang/Object") de 0 fde (va_A [(h0, .inr (9, [.int md, .ref de, .int 0])), (e0, .inr (9, [.int me, .ref ede, .int ne]))] sz) U U.heap ∧ va_AO "java/lang/Object" U ∧ va_Nw (.castable "java/util/ArrayList" "java/lang/Object") U)) (va_Qv (fun (_ : Unit) => True) (fun _ t => ∃ ed : Nat, ∃ cB : ClassId, ∃ f1 : Nat → Option Nat, va_P (dC, dI) classes [(h0, .inr (9, [.int md, .ref ed, .int 1])), (ed, .inl (cB, 10, .inr (.inr (.inr (.inr (f1)))))), (e0, .inr (9, [.int me, .ref ede, .int ne]))] t.heap ∧ va_K (dC, dI) classes [(cB, .object "java/lang/Object")] t ∧ va_D (va_A [(h0, .inr (9, [.int md, .ref de, .int 0])), (e0, .inr (9, [.int me, .ref ede, .int ne]))] sz) [(h0, .inr (9, [.int md, .ref ed, .int 1])), (ed, .inl (cB, 10, .inr (.inr (.inr (.inr (f1)))))), (e0, .inr (9, [.int me, .ref ede, .int ne]))] ∧ f1 0 = some e0) (va_A [(h0, .inr (9, [.int md, .ref de, .int 0])), (e0, .inr (9, [.int me, .ref ede, .int ne]))] sz)) 1 10 (va_A [(h0, .inr (9, [.int md, .ref de, .int 0])), (e0, .inr (9, [.int me, .ref ede, .int ne]))] sz) := by
  refine Met.ofW (cc := b_AL_add3L) (maxL := 4) (ret := none) (by decide) rfl ?_
  intro p e s m args below meth c s₁ B hml hv
  obtain ⟨rfl, hsz, hP, hK, hD0, hE0, hE1, hE2, hE3⟩ := hv
  have hx := B.exec
  have hb := B.bytes
  have hr := B.returns
  have hts := atoms_spec (ws := w_AL_add3L) B.pre
  have hown : s.vm.findClass "java/util/ArrayList" = some m.cls := findClass_of_methodNamed B.named
  have hlocks := B.notSynchronized
  subst hsz
  have hD := hD0.self (sz := s.heap.size)
  generalize hAe : va_A [(h0, .inr (9, [.int md, .ref de, .int 0])), (e0, .inr (9, [.int me, .ref ede, .int ne]))] s.heap.size = A at hD hE0 hE1 hE2 hE3 ⊢
  have hA : ∀ q : Nat, s.heap.size ≤ q → A q := fun q h => by rw [← hAe]; exact Or.inr h
  have hS : va_S A s.heap s.heap [] := va_S.rf
  have hP : va_P (dC, dI) classes [(h0, .inr (9, [.int md, .ref de, .int 0])), (e0, .inr (9, [.int me, .ref ede, .int ne]))] s.heap := hP
  have hl := lv_entry ([.ref h0, .ref e0, .ref de, .int 0]) (n := 4) (Nat.le_of_ble_eq_true rfl)
  rw [lg_entry_eq]
  generalize (lg_sl ([.ref h0, .ref e0, .ref de, .int 0]) ++ List.replicate (4 - (lg_sl ([.ref h0, .ref e0, .ref de, .int 0])).length) Slot.unset).toArray = ls at hl ⊢
  have hl : lv_has ls 4 [(0, .ref h0), (1, .ref e0), (2, .ref de), (3, .int 0)] := hl
  refine lv_iload_n hx hb d_AL_add3L_0 rfl (lv_at hl 3 rfl) ?_
  refine lv_aload_n hx hb d_AL_add3L_1 rfl (lv_at hl 2 rfl) ?_
  refine va_tlen (v := 0) hx hb hE1 hS (by decide) d_AL_add3L_2 ?_
  refine lv_icmp_ne (tgt := 11) hx hb d_AL_add3L_3 (by decide) (fun c_3 => ?_) (fun c_3 => ?_)
  · exact absurd c_3 (fun q => q rfl)
  · skip
    refine lv_aload_n hx hb d_AL_add3L_6 rfl (lv_at hl 0 rfl) ?_
    have hPc : va_P (dC, dI) classes [(h0, .inr (9, [.int md, .ref de, .int 0]))] _ := hP.sub (ws' := [(h0, .inr (9, [.int md, .ref de, .int 0]))]) [0] rfl
    have hKc : va_K (dC, dI) classes [] s := hK.sub (tys' := []) [] rfl
    have hDc : va_D _ [(h0, .inr (9, [.int md, .ref de, .int 0]))] := hD.sub (ws' := [(h0, .inr (9, [.int md, .ref de, .int 0]))]) [0] (by decide) rfl
    have hFc := va_free (wc := [(h0, .inr (9, [.int md, .ref de, .int 0]))]) hD hS hA [0] rfl
    refine va_callr (va_runV (As := []) (rest := []) ⟨hx, hb, hml, hown, hts⟩ (c_AL_grow l dC dI de fde h0 md s.heap.size) (cwV 0 hts g_AL_add3L_7 rfl rfl rfl (by decide +kernel) ⟨Nat.le_of_ble_eq_true rfl, Nat.le_of_ble_eq_true rfl⟩) ⟨fun a U g mk z => by obtain ⟨z0, z1, zP, zK, zD, zE0, zE1, zE2⟩ := z; exact ⟨z0, z1, zP, va_K.moved (u := U) (U := U.calling g mk a) (Vm.Alike.refl U.vm) zK, zD, zE0.moved (u := U) (U := U.calling g mk a) (Vm.Alike.refl U.vm), zE1.moved (u := U) (U := U.calling g mk a) (Vm.Alike.refl U.vm), va_AO.moved (u := U) (U := U.calling g mk a) (Vm.Alike.refl U.vm) zE2⟩, va_recv hKc hPc (ci := 9) (q0 := 0) rfl rfl, fun U hU hW => ⟨rfl, by rw [hU], by rw [hU]; exact hPc, va_K.moved hW.alike hKc, hDc.weaken (fun _ _ _ _ => trivial), by (try dsimp only); rw [hU]; exact ((hE0.kept (fun a h1 h2 => hS.2.1 a h1 h2)).narrow hFc).moved hW.alike, by (try dsimp only); rw [hU]; exact ((hE1.kept (fun a h1 h2 => hS.2.1 a h1 h2)).narrow hFc).moved hW.alike, va_AO.moved hW.alike hE2⟩⟩ rfl rfl hl.1 rfl (lv_room (Nat.le_of_ble_eq_true rfl)) d_AL_add3L_7 ⟨(Nat.le_of_ble_eq_true rfl), (Nat.le_of_ble_eq_true rfl)⟩) hS (fun q _ h => hFc q h) hFc (fun u r1 t H1 locs ht hvm hr1 hB hz1 hk1 hS => ?_)
    obtain ⟨cB2, hP1, hK1, hD1⟩ := hB
    rw [ht] at hP1
    have hK1 := va_K.moved hvm.symm hK1
    obtain ⟨hP, hD⟩ := va_join (wr := [(e0, .inr (9, [.int me, .ref ede, .int ne]))]) (w1 := [(h0, .inr (9, [.int md, .ref r1, .int 0])), (r1, .inl (cB2, 10, .inr (.inr (.inr (.inr (fun _ => none))))))]) hP hD [0] [1] rfl rfl (by decide) (by decide) hk1 hFc hP1 hD1
    have hK := hK.app (hK1.sub (tys' := [(cB2, .object "java/lang/Object")]) [0] rfl)
    have hK : va_K (dC, dI) classes [(cB2, .object "java/lang/Object")] s := hK
    clear hPc hDc hKc hFc hP1 hD1 hK1 hk1
    generalize H1 = H at hP hS ⊢
    have hP : va_P (dC, dI) classes [(e0, .inr (9, [.int me, .ref ede, .int ne])), (h0, .inr (9, [.int md, .ref r1, .int 0])), (r1, .inl (cB2, 10, .inr (.inr (.inr (.inr (fun _ => none))))))] H := hP
    have hD : va_D A [(e0, .inr (9, [.int me, .ref ede, .int ne])), (h0, .inr (9, [.int md, .ref r1, .int 0])), (r1, .inl (cB2, 10, .inr (.inr (.inr (.inr (fun _ => none))))))] := hD
    refine W.widen (k := 1) (n := 10) (by omega) (by omega) ?_
    refine lv_astore_n (lv' := [(2, .ref r1), (0, .ref h0), (1, .ref e0), (3, .int 0)]) hx hb d_AL_add3L_10 rfl hl (by decide) rfl (fun ls hl => ?_)
    refine lv_aload_n hx hb d_AL_add3L_11 rfl (lv_at hl 0 rfl) ?_
    refine lv_iload_n hx hb d_AL_add3L_12 rfl (lv_at hl 3 rfl) ?_
    refine lv_aload_n hx hb d_AL_add3L_13 rfl (lv_at hl 2 rfl) ?_
    refine va_astqO (D := (dC, dI)) hx hb hK hP hD hS 2 0 0 9 rfl rfl hE3 rfl rfl (by unfold vp_in; decide) d_AL_add3L_14 (fun H locs hP hD hS => ?_)
    have hP : va_P (dC, dI) classes [(e0, .inr (9, [.int me, .ref ede, .int ne])), (h0, .inr (9, [.int md, .ref r1, .int 0])), (r1, .inl (cB2, 10, .inr (.inr (.inr (.inr (va_up (fun _ => none) (0 : Int32).toNatClampNeg (some e0)))))))] H := hP
    have hD : va_D A [(e0, .inr (9, [.int me, .ref ede, .int ne])), (h0, .inr (9, [.int md, .ref r1, .int 0])), (r1, .inl (cB2, 10, .inr (.inr (.inr (.inr (va_up (fun _ => none) (0 : Int32).toNatClampNeg (some e0)))))))] := hD
    obtain ⟨f3, ef3⟩ : ∃ z : Nat → Option Nat, z = va_up (fun _ => none) (0 : Int32).toNatClampNeg (some e0) := ⟨_, rfl⟩
    rw [← ef3] at hP hD
    refine lv_aload_n hx hb d_AL_add3L_15 rfl (lv_at hl 1 rfl) ?_
    refine lv_iload_n hx hb d_AL_add3L_16 rfl (lv_at hl 3 rfl) ?_
    refine lv_iconst (v := 1) hx hb d_AL_add3L_17 (by decide) ?_
    refine lv_iadd hx hb d_AL_add3L_18 ?_
    refine lv_topi (fun x4 ex4 => ?_)
    obtain rfl : 1 = x4 := Eq.symm (by rw [ex4]; decide)
    refine va_put (D := (dC, dI)) (ci := 9) (v := .int 1) (ty := .int) (C := R_AL) (T := T_AL) (N := 3) hx hb hts in_AL_add3L_AL t_AL t_AL_ok n_AL hown hK hP hD hS 1 rfl rfl 2 (by decide) (hts (.fieldLink "java/util/ArrayList" 48 "java/util/ArrayList" "size" "I") (List.mem_of_getElem? (i := 9) rfl)) (fun _ h9 => h9) rfl (by decide +kernel) rfl rfl (Nat.le_of_ble_eq_true rfl) d_AL_add3L_19 (fun H locs hP hD hS => ?_)
    have hP : va_P (dC, dI) classes [(e0, .inr (9, [.int me, .ref ede, .int ne])), (h0, .inr (9, [.int md, .ref r1, .int 1])), (r1, .inl (cB2, 10, .inr (.inr (.inr (.inr (f3))))))] H := hP
    have hD : va_D A [(e0, .inr (9, [.int me, .ref ede, .int ne])), (h0, .inr (9, [.int md, .ref r1, .int 1])), (r1, .inl (cB2, 10, .inr (.inr (.inr (.inr (f3))))))] := hD
    have hP9 : va_P (dC, dI) classes [(h0, .inr (9, [.int md, .ref r1, .int 1])), (r1, .inl (cB2, 10, .inr (.inr (.inr (.inr (f3)))))), (e0, .inr (9, [.int me, .ref ede, .int ne]))] H := hP.sub (ws' := [(h0, .inr (9, [.int md, .ref r1, .int 1])), (r1, .inl (cB2, 10, .inr (.inr (.inr (.inr (f3)))))), (e0, .inr (9, [.int me, .ref ede, .int ne]))]) [1, 2, 0] rfl
    have hD9 := hD.sub (ws' := [(h0, .inr (9, [.int md, .ref r1, .int 1])), (r1, .inl (cB2, 10, .inr (.inr (.inr (.inr (f3)))))), (e0, .inr (9, [.int me, .ref ede, .int ne]))]) [1, 2, 0] (by decide) rfl
    have hK9 := hK.sub (tys' := [(cB2, .object "java/lang/Object")]) [0] rfl
    refine W.widen (k := 1) (n := 10) (by omega) (by omega) ?_
    exact W.vret hx hb hr (fun t ht hW => ⟨⟨(), rfl, trivial, ⟨r1, ⟨cB2, ⟨f3, ⟨by rw [ht]; exact hP9, va_K.moved hW.alike hK9, hD9, (by rw [ef3, show (0 : Int32).toNatClampNeg = 0 by decide]; exact va_up_self _ _ _)⟩⟩⟩⟩⟩, hS.F ht⟩) hS.2.2 d_AL_add3L_22

abbrev rm_AL_addL : Room := { frames := 4, cells := 1, slots := 10, locals := 80 }
abbrev b_AL_addL : ByteArray := prog_50_method_25_code
def y_AL_addL : MethodName := ⟨"java/util/ArrayList", "add", "(Ljava/lang/Object;)Z"⟩
def w_AL_addL : List Cond := [.code ⟨"java/util/ArrayList", "add", "(Ljava/lang/Object;)Z"⟩ prog_50_method_25_code 2 (some .boolean), .sameField "java/util/ArrayList" "java/util/AbstractList" "modCount" "I", .lays "java/util/ArrayList" "java/util/AbstractList" "modCount" "I", .lays "java/util/ArrayList" "java/util/ArrayList" "elementData" "[Ljava/lang/Object;", .lays "java/util/ArrayList" "java/util/ArrayList" "size" "I", .fieldLink "java/util/ArrayList" 63 "java/util/ArrayList" "modCount" "I", .fieldLink "java/util/ArrayList" 9 "java/util/ArrayList" "elementData" "[Ljava/lang/Object;", .fieldLink "java/util/ArrayList" 48 "java/util/ArrayList" "size" "I", .methodLink "java/util/ArrayList" 131 ⟨"java/util/ArrayList", "add", "(Ljava/lang/Object;[Ljava/lang/Object;I)V"⟩, .instanceMethod ⟨"java/util/ArrayList", "add", "(Ljava/lang/Object;[Ljava/lang/Object;I)V"⟩, .selects "java/util/ArrayList" ⟨"java/util/ArrayList", "add", "(Ljava/lang/Object;[Ljava/lang/Object;I)V"⟩ ⟨"java/util/ArrayList", "add", "(Ljava/lang/Object;[Ljava/lang/Object;I)V"⟩, .initialized "java/util/ArrayList", .code ⟨"java/util/ArrayList", "add", "(Ljava/lang/Object;[Ljava/lang/Object;I)V"⟩ prog_50_method_24_code 4 none, .methodLink "java/util/ArrayList" 129 ⟨"java/util/ArrayList", "grow", "()[Ljava/lang/Object;"⟩, .instanceMethod ⟨"java/util/ArrayList", "grow", "()[Ljava/lang/Object;"⟩, .selects "java/util/ArrayList" ⟨"java/util/ArrayList", "grow", "()[Ljava/lang/Object;"⟩ ⟨"java/util/ArrayList", "grow", "()[Ljava/lang/Object;"⟩, .code ⟨"java/util/ArrayList", "grow", "()[Ljava/lang/Object;"⟩ prog_50_method_7_code 1 (some (.array (.object "java/lang/Object"))), .methodLink "java/util/ArrayList" 69 ⟨"java/util/ArrayList", "grow", "(I)[Ljava/lang/Object;"⟩, .instanceMethod ⟨"java/util/ArrayList", "grow", "(I)[Ljava/lang/Object;"⟩, .selects "java/util/ArrayList" ⟨"java/util/ArrayList", "grow", "(I)[Ljava/lang/Object;"⟩ ⟨"java/util/ArrayList", "grow", "(I)[Ljava/lang/Object;"⟩, .code ⟨"java/util/ArrayList", "grow", "(I)[Ljava/lang/Object;"⟩ prog_50_method_6_code 4 (some (.array (.object "java/lang/Object"))), .fieldLink "java/util/ArrayList" 39 "java/util/ArrayList" "DEFAULTCAPACITY_EMPTY_ELEMENTDATA" "[Ljava/lang/Object;", .methodLink "java/util/ArrayList" 79 ⟨"java/lang/Math", "max", "(II)I"⟩, .static ⟨"java/lang/Math", "max", "(II)I"⟩, .initialized "java/lang/Math", .code ⟨"java/lang/Math", "max", "(II)I"⟩ prog_31_method_65_code 2 (some .int), .classLink "java/util/ArrayList" 7 "java/lang/Object"]
theorem d_AL_addL_0 : decode b_AL_addL 0 = .ok (.aload_n 0, 1) := by decide +kernel
theorem d_AL_addL_1 : decode b_AL_addL 1 = .ok (.dup, 1) := by decide +kernel
theorem d_AL_addL_2 : decode b_AL_addL 2 = .ok (.getfield 63, 3) := by decide +kernel
theorem d_AL_addL_5 : decode b_AL_addL 5 = .ok (.iconst 1, 1) := by decide +kernel
theorem d_AL_addL_6 : decode b_AL_addL 6 = .ok (.iadd, 1) := by decide +kernel
theorem d_AL_addL_7 : decode b_AL_addL 7 = .ok (.putfield 63, 3) := by decide +kernel
theorem d_AL_addL_10 : decode b_AL_addL 10 = .ok (.aload_n 0, 1) := by decide +kernel
theorem d_AL_addL_11 : decode b_AL_addL 11 = .ok (.aload_n 1, 1) := by decide +kernel
theorem d_AL_addL_12 : decode b_AL_addL 12 = .ok (.aload_n 0, 1) := by decide +kernel
theorem d_AL_addL_13 : decode b_AL_addL 13 = .ok (.getfield 9, 3) := by decide +kernel
theorem d_AL_addL_16 : decode b_AL_addL 16 = .ok (.aload_n 0, 1) := by decide +kernel
theorem d_AL_addL_17 : decode b_AL_addL 17 = .ok (.getfield 48, 3) := by decide +kernel
theorem d_AL_addL_20 : decode b_AL_addL 20 = .ok (.invokevirtual 131, 3) := by decide +kernel
theorem d_AL_addL_23 : decode b_AL_addL 23 = .ok (.iconst 1, 1) := by decide +kernel
theorem d_AL_addL_24 : decode b_AL_addL 24 = .ok (.ireturn, 1) := by decide +kernel
theorem in_AL_addL_AL : ∀ v ∈ u_ws R_AL T_AL 3, v ∈ w_AL_addL := by decide +kernel
set_option maxRecDepth 20000 in
theorem g_AL_addL_20 : GoodIn w_AL_addL (wsV "java/util/ArrayList" 131 "java/util/ArrayList" ⟨"java/util/ArrayList", "add", "(Ljava/lang/Object;[Ljava/lang/Object;I)V"⟩ w_AL_add3L) := goodIn_r _ [8, 9, 10, 11, 12, 13, 14, 15, 11, 16, 2, 3, 4, 7, 17, 18, 19, 20, 6, 21, 22, 23, 24, 25, 26] rfl (by decide +kernel)
set_option maxHeartbeats 4000000 in
set_option maxRecDepth 100000 in
theorem c_AL_addL (l : Launch) (dC : Nat → ClassId) (dI : Nat → Nat → Nat) (de : Nat) (fde : Nat → Value) (h0 : Nat) (md : Int32) (e0 : Nat) (me : Int32) (ede : Nat) (ne : Int32) (sz : Nat) : Met l y_AL_addL w_AL_addL rm_AL_addL (va_Pc [.ref h0, .ref e0] (fun U => U.heap.size = sz ∧ va_P (dC, dI) classes [(h0, .inr (9, [.int md, .ref de, .int 0])), (e0, .inr (9, [.int me, .ref ede, .int ne]))] U.heap ∧ va_K (dC, dI) classes [] U ∧ va_D (fun _ => True) [(h0, .inr (9, [.int md, .ref de, .int 0])), (e0, .inr (9, [.int me, .ref ede, .int ne]))] ∧ va_Z "java/util/ArrayList" "DEFAULTCAPACITY_EMPTY_ELEMENTDATA" "[Ljava/lang/Object;" (.ref de) (va_A [(h0, .inr (9, [.int md, .ref de, .int 0])), (e0, .inr (9, [.int me, .ref ede, .int ne]))] sz) U U.heap ∧ va_T (.object "java/lang/Object") de 0 fde (va_A [(h0, .inr (9, [.int md, .ref de, .int 0])), (e0, .inr (9, [.int me, .ref ede, .int ne]))] sz) U U.heap ∧ va_AO "java/lang/Object" U ∧ va_Nw (.castable "java/util/ArrayList" "java/lang/Object") U)) (va_Qi (fun r (_ : Unit) => r = 1) (fun _ t => ∃ m1 : Int32, ∃ ed : Nat, ∃ cB : ClassId, ∃ f1 : Nat → Option Nat, va_P (dC, dI) classes [(h0, .inr (9, [.int m1, .ref ed, .int 1])), (ed, .inl (cB, 10, .inr (.inr (.inr (.inr (f1)))))), (e0, .inr (9, [.int me, .ref ede, .int ne]))] t.heap ∧ va_K (dC, dI) classes [(cB, .object "java/lang/Object")] t ∧ va_D (va_A [(h0, .inr (9, [.int md, .ref de, .int 0])), (e0, .inr (9, [.int me, .ref ede, .int ne]))] sz) [(h0, .inr (9, [.int m1, .ref ed, .int 1])), (ed, .inl (cB, 10, .inr (.inr (.inr (.inr (f1)))))), (e0, .inr (9, [.int me, .ref ede, .int ne]))] ∧ f1 0 = some e0) (va_A [(h0, .inr (9, [.int md, .ref de, .int 0])), (e0, .inr (9, [.int me, .ref ede, .int ne]))] sz)) 1 10 (va_A [(h0, .inr (9, [.int md, .ref de, .int 0])), (e0, .inr (9, [.int me, .ref ede, .int ne]))] sz) := by
  refine Met.ofW (cc := b_AL_addL) (maxL := 2) (ret := (some .boolean)) (by decide) rfl ?_
  intro p e s m args below meth c s₁ B hml hv
  obtain ⟨rfl, hsz, hP, hK, hD0, hE0, hE1, hE2, hE3⟩ := hv
  have hx := B.exec
  have hb := B.bytes
  have hr := B.returns
  have hts := atoms_spec (ws := w_AL_addL) B.pre
  have hown : s.vm.findClass "java/util/ArrayList" = some m.cls := findClass_of_methodNamed B.named
  have hlocks := B.notSynchronized
  subst hsz
  have hD := hD0.self (sz := s.heap.size)
  generalize hAe : va_A [(h0, .inr (9, [.int md, .ref de, .int 0])), (e0, .inr (9, [.int me, .ref ede, .int ne]))] s.heap.size = A at hD hE0 hE1 hE2 hE3 ⊢
  have hA : ∀ q : Nat, s.heap.size ≤ q → A q := fun q h => by rw [← hAe]; exact Or.inr h
  have hS : va_S A s.heap s.heap [] := va_S.rf
  have hP : va_P (dC, dI) classes [(h0, .inr (9, [.int md, .ref de, .int 0])), (e0, .inr (9, [.int me, .ref ede, .int ne]))] s.heap := hP
  have hl := lv_entry ([.ref h0, .ref e0]) (n := 2) (Nat.le_of_ble_eq_true rfl)
  rw [lg_entry_eq]
  generalize (lg_sl ([.ref h0, .ref e0]) ++ List.replicate (2 - (lg_sl ([.ref h0, .ref e0])).length) Slot.unset).toArray = ls at hl ⊢
  have hl : lv_has ls 2 [(0, .ref h0), (1, .ref e0)] := hl
  refine lv_aload_n hx hb d_AL_addL_0 rfl (lv_at hl 0 rfl) ?_
  refine lv_dup hx hb d_AL_addL_1 rfl ?_
  refine va_get (D := (dC, dI)) (ci := 9) (v := .int md) (C := R_AL) (T := T_AL) (N := 3) hx hb hts in_AL_addL_AL hown hK hP 0 rfl rfl 0 (by decide) (hts (.fieldLink "java/util/ArrayList" 63 "java/util/ArrayList" "modCount" "I") (List.mem_of_getElem? (i := 5) rfl)) (fun x9 h9 => u_same (hts (.sameField "java/util/ArrayList" "java/util/AbstractList" "modCount" "I") (List.mem_of_getElem? (i := 1) rfl)) x9 h9) rfl d_AL_addL_2 ?_
  refine lv_iconst (v := 1) hx hb d_AL_addL_5 (by decide) ?_
  refine lv_iadd hx hb d_AL_addL_6 ?_
  refine lv_topi (fun x1 ex1 => ?_)
  refine va_put (D := (dC, dI)) (ci := 9) (v := .int x1) (ty := .int) (C := R_AL) (T := T_AL) (N := 3) hx hb hts in_AL_addL_AL t_AL t_AL_ok n_AL hown hK hP hD hS 0 rfl rfl 0 (by decide) (hts (.fieldLink "java/util/ArrayList" 63 "java/util/ArrayList" "modCount" "I") (List.mem_of_getElem? (i := 5) rfl)) (fun x9 h9 => u_same (hts (.sameField "java/util/ArrayList" "java/util/AbstractList" "modCount" "I") (List.mem_of_getElem? (i := 1) rfl)) x9 h9) rfl (by decide +kernel) rfl rfl (Nat.le_of_ble_eq_true rfl) d_AL_addL_7 (fun H locs hP hD hS => ?_)
  have hP : va_P (dC, dI) classes [(h0, .inr (9, [.int x1, .ref de, .int 0])), (e0, .inr (9, [.int me, .ref ede, .int ne]))] H := hP
  have hD : va_D A [(h0, .inr (9, [.int x1, .ref de, .int 0])), (e0, .inr (9, [.int me, .ref ede, .int ne]))] := hD
  refine lv_aload_n hx hb d_AL_addL_10 rfl (lv_at hl 0 rfl) ?_
  refine lv_aload_n hx hb d_AL_addL_11 rfl (lv_at hl 1 rfl) ?_
  refine lv_aload_n hx hb d_AL_addL_12 rfl (lv_at hl 0 rfl) ?_
  refine va_get (D := (dC, dI)) (ci := 9) (v := .ref de) (C := R_AL) (T := T_AL) (N := 3) hx hb hts in_AL_addL_AL hown hK hP 0 rfl rfl 1 (by decide) (hts (.fieldLink "java/util/ArrayList" 9 "java/util/ArrayList" "elementData" "[Ljava/lang/Object;") (List.mem_of_getElem? (i := 6) rfl)) (fun _ h9 => h9) rfl d_AL_addL_13 ?_
  refine lv_aload_n hx hb d_AL_addL_16 rfl (lv_at hl 0 rfl) ?_
  refine va_get (D := (dC, dI)) (ci := 9) (v := .int 0) (C := R_AL) (T := T_AL) (N := 3) hx hb hts in_AL_addL_AL hown hK hP 0 rfl rfl 2 (by decide) (hts (.fieldLink "java/util/ArrayList" 48 "java/util/ArrayList" "size" "I") (List.mem_of_getElem? (i := 7) rfl)) (fun _ h9 => h9) rfl d_AL_addL_17 ?_
  have hPc : va_P (dC, dI) classes [(h0, .inr (9, [.int x1, .ref de, .int 0])), (e0, .inr (9, [.int me, .ref ede, .int ne]))] _ := hP.sub (ws' := [(h0, .inr (9, [.int x1, .ref de, .int 0])), (e0, .inr (9, [.int me, .ref ede, .int ne]))]) [0, 1] rfl
  have hKc : va_K (dC, dI) classes [] s := hK.sub (tys' := []) [] rfl
  have hDc : va_D _ [(h0, .inr (9, [.int x1, .ref de, .int 0])), (e0, .inr (9, [.int me, .ref ede, .int ne]))] := hD.sub (ws' := [(h0, .inr (9, [.int x1, .ref de, .int 0])), (e0, .inr (9, [.int me, .ref ede, .int ne]))]) [0, 1] (by decide) rfl
  have hFc := va_free (wc := [(h0, .inr (9, [.int x1, .ref de, .int 0])), (e0, .inr (9, [.int me, .ref ede, .int ne]))]) hD hS hA [0, 1] rfl
  refine va_callv (va_runV (As := [.ref e0, .ref de, .int 0]) (rest := []) ⟨hx, hb, hml, hown, hts⟩ (c_AL_add3L l dC dI de fde h0 x1 e0 me ede ne H.size) (cwV 3 hts g_AL_addL_20 rfl rfl rfl (by decide +kernel) ⟨Nat.le_of_ble_eq_true rfl, Nat.le_of_ble_eq_true rfl⟩) ⟨fun a U g mk z => by obtain ⟨z0, z1, zP, zK, zD, zE0, zE1, zE2, zE3⟩ := z; exact ⟨z0, z1, zP, va_K.moved (u := U) (U := U.calling g mk a) (Vm.Alike.refl U.vm) zK, zD, zE0.moved (u := U) (U := U.calling g mk a) (Vm.Alike.refl U.vm), zE1.moved (u := U) (U := U.calling g mk a) (Vm.Alike.refl U.vm), va_AO.moved (u := U) (U := U.calling g mk a) (Vm.Alike.refl U.vm) zE2, va_Nw.same rfl (u := U) (U := U.calling g mk a) rfl zE3⟩, va_recv hKc hPc (ci := 9) (q0 := 0) rfl rfl, fun U hU hW => ⟨rfl, by rw [hU], by rw [hU]; exact hPc, va_K.moved hW.alike hKc, hDc.weaken (fun _ _ _ _ => trivial), by (try dsimp only); rw [hU]; exact ((hE0.kept (fun a h1 h2 => hS.2.1 a h1 h2)).narrow hFc).moved hW.alike, by (try dsimp only); rw [hU]; exact ((hE1.kept (fun a h1 h2 => hS.2.1 a h1 h2)).narrow hFc).moved hW.alike, va_AO.moved hW.alike hE2, va_Nw.warmC hW hE3⟩⟩ rfl rfl hl.1 rfl (lv_room (Nat.le_of_ble_eq_true rfl)) d_AL_addL_20 ⟨(Nat.le_of_ble_eq_true rfl), (Nat.le_of_ble_eq_true rfl)⟩) hS (fun q _ h => hFc q h) hFc (fun u t H1 locs ht hvm hr2 hB hz1 hk1 hS => ?_)
  obtain ⟨ed3, cB4, f5, hP1, hK1, hD1, hpr2_0⟩ := hB
  rw [ht] at hP1
  have hK1 := va_K.moved hvm.symm hK1
  obtain ⟨hP, hD⟩ := va_join (wr := []) (w1 := [(h0, .inr (9, [.int x1, .ref ed3, .int 1])), (ed3, .inl (cB4, 10, .inr (.inr (.inr (.inr (f5)))))), (e0, .inr (9, [.int me, .ref ede, .int ne]))]) hP hD [0, 1] [] rfl rfl (by decide) (by decide) hk1 hFc hP1 hD1
  have hK := hK.app (hK1.sub (tys' := [(cB4, .object "java/lang/Object")]) [0] rfl)
  have hK : va_K (dC, dI) classes [(cB4, .object "java/lang/Object")] s := hK
  clear hPc hDc hKc hFc hP1 hD1 hK1 hk1
  generalize H1 = H at hP hS ⊢
  have hP : va_P (dC, dI) classes [(h0, .inr (9, [.int x1, .ref ed3, .int 1])), (ed3, .inl (cB4, 10, .inr (.inr (.inr (.inr (f5)))))), (e0, .inr (9, [.int me, .ref ede, .int ne]))] H := hP
  have hD : va_D A [(h0, .inr (9, [.int x1, .ref ed3, .int 1])), (ed3, .inl (cB4, 10, .inr (.inr (.inr (.inr (f5)))))), (e0, .inr (9, [.int me, .ref ede, .int ne]))] := hD
  refine W.widen (k := 1) (n := 10) (by omega) (by omega) ?_
  refine lv_iconst (v := 1) hx hb d_AL_addL_23 (by decide) ?_
  have hP9 : va_P (dC, dI) classes [(h0, .inr (9, [.int x1, .ref ed3, .int 1])), (ed3, .inl (cB4, 10, .inr (.inr (.inr (.inr (f5)))))), (e0, .inr (9, [.int me, .ref ede, .int ne]))] H := hP.sub (ws' := [(h0, .inr (9, [.int x1, .ref ed3, .int 1])), (ed3, .inl (cB4, 10, .inr (.inr (.inr (.inr (f5)))))), (e0, .inr (9, [.int me, .ref ede, .int ne]))]) [0, 1, 2] rfl
  have hD9 := hD.sub (ws' := [(h0, .inr (9, [.int x1, .ref ed3, .int 1])), (ed3, .inl (cB4, 10, .inr (.inr (.inr (.inr (f5)))))), (e0, .inr (9, [.int me, .ref ede, .int ne]))]) [0, 1, 2] (by decide) rfl
  have hK9 := hK.sub (tys' := [(cB4, .object "java/lang/Object")]) [0] rfl
  refine W.widen (k := 1) (n := 10) (by omega) (by omega) ?_
  exact W.zret hx hb hr rfl (fun t ht hW => ⟨⟨_, (), rfl, rfl, ⟨x1, ⟨ed3, ⟨cB4, ⟨f5, ⟨by rw [ht]; exact hP9, va_K.moved hW.alike hK9, hD9, hpr2_0⟩⟩⟩⟩⟩⟩, hS.F ht⟩) hS.2.2 d_AL_addL_24

abbrev rm_AL_add3B : Room := { frames := 3, cells := 1, slots := 10, locals := 57 }
abbrev b_AL_add3B : ByteArray := prog_50_method_24_code
def y_AL_add3B : MethodName := ⟨"java/util/ArrayList", "add", "(Ljava/lang/Object;[Ljava/lang/Object;I)V"⟩
def w_AL_add3B : List Cond := [.code ⟨"java/util/ArrayList", "add", "(Ljava/lang/Object;[Ljava/lang/Object;I)V"⟩ prog_50_method_24_code 4 none, .methodLink "java/util/ArrayList" 129 ⟨"java/util/ArrayList", "grow", "()[Ljava/lang/Object;"⟩, .instanceMethod ⟨"java/util/ArrayList", "grow", "()[Ljava/lang/Object;"⟩, .selects "java/util/ArrayList" ⟨"java/util/ArrayList", "grow", "()[Ljava/lang/Object;"⟩ ⟨"java/util/ArrayList", "grow", "()[Ljava/lang/Object;"⟩, .initialized "java/util/ArrayList", .code ⟨"java/util/ArrayList", "grow", "()[Ljava/lang/Object;"⟩ prog_50_method_7_code 1 (some (.array (.object "java/lang/Object"))), .lays "java/util/ArrayList" "java/util/AbstractList" "modCount" "I", .lays "java/util/ArrayList" "java/util/ArrayList" "elementData" "[Ljava/lang/Object;", .lays "java/util/ArrayList" "java/util/ArrayList" "size" "I", .fieldLink "java/util/ArrayList" 48 "java/util/ArrayList" "size" "I", .methodLink "java/util/ArrayList" 69 ⟨"java/util/ArrayList", "grow", "(I)[Ljava/lang/Object;"⟩, .instanceMethod ⟨"java/util/ArrayList", "grow", "(I)[Ljava/lang/Object;"⟩, .selects "java/util/ArrayList" ⟨"java/util/ArrayList", "grow", "(I)[Ljava/lang/Object;"⟩ ⟨"java/util/ArrayList", "grow", "(I)[Ljava/lang/Object;"⟩, .code ⟨"java/util/ArrayList", "grow", "(I)[Ljava/lang/Object;"⟩ prog_50_method_6_code 4 (some (.array (.object "java/lang/Object"))), .fieldLink "java/util/ArrayList" 9 "java/util/ArrayList" "elementData" "[Ljava/lang/Object;", .fieldLink "java/util/ArrayList" 39 "java/util/ArrayList" "DEFAULTCAPACITY_EMPTY_ELEMENTDATA" "[Ljava/lang/Object;", .methodLink "java/util/ArrayList" 79 ⟨"java/lang/Math", "max", "(II)I"⟩, .static ⟨"java/lang/Math", "max", "(II)I"⟩, .initialized "java/lang/Math", .code ⟨"java/lang/Math", "max", "(II)I"⟩ prog_31_method_65_code 2 (some .int), .classLink "java/util/ArrayList" 7 "java/lang/Object"]
theorem d_AL_add3B_0 : decode b_AL_add3B 0 = .ok (.iload_n 3, 1) := by decide +kernel
theorem d_AL_add3B_1 : decode b_AL_add3B 1 = .ok (.aload_n 2, 1) := by decide +kernel
theorem d_AL_add3B_2 : decode b_AL_add3B 2 = .ok (.arraylength, 1) := by decide +kernel
theorem d_AL_add3B_3 : decode b_AL_add3B 3 = .ok (.if_icmp .ne 8, 3) := by decide +kernel
theorem d_AL_add3B_6 : decode b_AL_add3B 6 = .ok (.aload_n 0, 1) := by decide +kernel
theorem d_AL_add3B_7 : decode b_AL_add3B 7 = .ok (.invokevirtual 129, 3) := by decide +kernel
theorem d_AL_add3B_10 : decode b_AL_add3B 10 = .ok (.astore_n 2, 1) := by decide +kernel
theorem d_AL_add3B_11 : decode b_AL_add3B 11 = .ok (.aload_n 2, 1) := by decide +kernel
theorem d_AL_add3B_12 : decode b_AL_add3B 12 = .ok (.iload_n 3, 1) := by decide +kernel
theorem d_AL_add3B_13 : decode b_AL_add3B 13 = .ok (.aload_n 1, 1) := by decide +kernel
theorem d_AL_add3B_14 : decode b_AL_add3B 14 = .ok (.aastore, 1) := by decide +kernel
theorem d_AL_add3B_15 : decode b_AL_add3B 15 = .ok (.aload_n 0, 1) := by decide +kernel
theorem d_AL_add3B_16 : decode b_AL_add3B 16 = .ok (.iload_n 3, 1) := by decide +kernel
theorem d_AL_add3B_17 : decode b_AL_add3B 17 = .ok (.iconst 1, 1) := by decide +kernel
theorem d_AL_add3B_18 : decode b_AL_add3B 18 = .ok (.iadd, 1) := by decide +kernel
theorem d_AL_add3B_19 : decode b_AL_add3B 19 = .ok (.putfield 48, 3) := by decide +kernel
theorem d_AL_add3B_22 : decode b_AL_add3B 22 = .ok (.return_, 1) := by decide +kernel
theorem in_AL_add3B_AL : ∀ v ∈ u_ws R_AL T_AL 3, v ∈ w_AL_add3B := by decide +kernel
set_option maxRecDepth 20000 in
theorem g_AL_add3B_7 : GoodIn w_AL_add3B (wsV "java/util/ArrayList" 129 "java/util/ArrayList" ⟨"java/util/ArrayList", "grow", "()[Ljava/lang/Object;"⟩ w_AL_grow) := goodIn_r _ [1, 2, 3, 4, 5, 6, 7, 8, 9, 10, 11, 12, 4, 13, 14, 15, 16, 17, 18, 19, 20] rfl (by decide +kernel)
set_option maxHeartbeats 4000000 in
set_option maxRecDepth 100000 in
theorem c_AL_add3B (l : Launch) (dC : Nat → ClassId) (dI : Nat → Nat → Nat) (de : Nat) (fde : Nat → Value) (h0 : Nat) (md : Int32) (e0 : Nat) (sz : Nat) : Met l y_AL_add3B w_AL_add3B rm_AL_add3B (va_Pc [.ref h0, .ref e0, .ref de, .int 0] (fun U => U.heap.size = sz ∧ va_P (dC, dI) classes [(h0, .inr (9, [.int md, .ref de, .int 0]))] U.heap ∧ va_K (dC, dI) classes [] U ∧ va_D (fun _ => True) [(h0, .inr (9, [.int md, .ref de, .int 0]))] ∧ va_Z "java/util/ArrayList" "DEFAULTCAPACITY_EMPTY_ELEMENTDATA" "[Ljava/lang/Object;" (.ref de) (va_A [(h0, .inr (9, [.int md, .ref de, .int 0]))] sz) U U.heap ∧ va_T (.object "java/lang/Object") de 0 fde (va_A [(h0, .inr (9, [.int md, .ref de, .int 0]))] sz) U U.heap ∧ va_O "java/lang/Integer" e0 (va_A [(h0, .inr (9, [.int md, .ref de, .int 0]))] sz) U U.heap ∧ va_Nw (.castable "java/lang/Integer" "java/lang/Object") U ∧ va_AO "java/lang/Object" U)) (va_Qv (fun (_ : Unit) => True) (fun _ t => ∃ ed : Nat, ∃ cB : ClassId, ∃ f1 : Nat → Option Nat, va_P (dC, dI) classes [(h0, .inr (9, [.int md, .ref ed, .int 1])), (ed, .inl (cB, 10, .inr (.inr (.inr (.inr (f1))))))] t.heap ∧ va_K (dC, dI) classes [(cB, .object "java/lang/Object")] t ∧ va_D (va_A [(h0, .inr (9, [.int md, .ref de, .int 0]))] sz) [(h0, .inr (9, [.int md, .ref ed, .int 1])), (ed, .inl (cB, 10, .inr (.inr (.inr (.inr (f1))))))] ∧ f1 0 = some e0) (va_A [(h0, .inr (9, [.int md, .ref de, .int 0]))] sz)) 1 10 (va_A [(h0, .inr (9, [.int md, .ref de, .int 0]))] sz) := by
  refine Met.ofW (cc := b_AL_add3B) (maxL := 4) (ret := none) (by decide) rfl ?_
  intro p e s m args below meth c s₁ B hml hv
  obtain ⟨rfl, hsz, hP, hK, hD0, hE0, hE1, hE2, hE3, hE4⟩ := hv
  have hx := B.exec
  have hb := B.bytes
  have hr := B.returns
  have hts := atoms_spec (ws := w_AL_add3B) B.pre
  have hown : s.vm.findClass "java/util/ArrayList" = some m.cls := findClass_of_methodNamed B.named
  have hlocks := B.notSynchronized
  subst hsz
  have hD := hD0.self (sz := s.heap.size)
  generalize hAe : va_A [(h0, .inr (9, [.int md, .ref de, .int 0]))] s.heap.size = A at hD hE0 hE1 hE2 hE3 hE4 ⊢
  have hA : ∀ q : Nat, s.heap.size ≤ q → A q := fun q h => by rw [← hAe]; exact Or.inr h
  have hS : va_S A s.heap s.heap [] := va_S.rf
  have hP : va_P (dC, dI) classes [(h0, .inr (9, [.int md, .ref de, .int 0]))] s.heap := hP
  have hl := lv_entry ([.ref h0, .ref e0, .ref de, .int 0]) (n := 4) (Nat.le_of_ble_eq_true rfl)
  rw [lg_entry_eq]
  generalize (lg_sl ([.ref h0, .ref e0, .ref de, .int 0]) ++ List.replicate (4 - (lg_sl ([.ref h0, .ref e0, .ref de, .int 0])).length) Slot.unset).toArray = ls at hl ⊢
  have hl : lv_has ls 4 [(0, .ref h0), (1, .ref e0), (2, .ref de), (3, .int 0)] := hl
  refine lv_iload_n hx hb d_AL_add3B_0 rfl (lv_at hl 3 rfl) ?_
  refine lv_aload_n hx hb d_AL_add3B_1 rfl (lv_at hl 2 rfl) ?_
  refine va_tlen (v := 0) hx hb hE1 hS (by decide) d_AL_add3B_2 ?_
  refine lv_icmp_ne (tgt := 11) hx hb d_AL_add3B_3 (by decide) (fun c_3 => ?_) (fun c_3 => ?_)
  · exact absurd c_3 (fun q => q rfl)
  · skip
    refine lv_aload_n hx hb d_AL_add3B_6 rfl (lv_at hl 0 rfl) ?_
    have hPc : va_P (dC, dI) classes [(h0, .inr (9, [.int md, .ref de, .int 0]))] _ := hP.sub (ws' := [(h0, .inr (9, [.int md, .ref de, .int 0]))]) [0] rfl
    have hKc : va_K (dC, dI) classes [] s := hK.sub (tys' := []) [] rfl
    have hDc : va_D _ [(h0, .inr (9, [.int md, .ref de, .int 0]))] := hD.sub (ws' := [(h0, .inr (9, [.int md, .ref de, .int 0]))]) [0] (by decide) rfl
    have hFc := va_free (wc := [(h0, .inr (9, [.int md, .ref de, .int 0]))]) hD hS hA [0] rfl
    refine va_callr (va_runV (As := []) (rest := []) ⟨hx, hb, hml, hown, hts⟩ (c_AL_grow l dC dI de fde h0 md s.heap.size) (cwV 0 hts g_AL_add3B_7 rfl rfl rfl (by decide +kernel) ⟨Nat.le_of_ble_eq_true rfl, Nat.le_of_ble_eq_true rfl⟩) ⟨fun a U g mk z => by obtain ⟨z0, z1, zP, zK, zD, zE0, zE1, zE2⟩ := z; exact ⟨z0, z1, zP, va_K.moved (u := U) (U := U.calling g mk a) (Vm.Alike.refl U.vm) zK, zD, zE0.moved (u := U) (U := U.calling g mk a) (Vm.Alike.refl U.vm), zE1.moved (u := U) (U := U.calling g mk a) (Vm.Alike.refl U.vm), va_AO.moved (u := U) (U := U.calling g mk a) (Vm.Alike.refl U.vm) zE2⟩, va_recv hKc hPc (ci := 9) (q0 := 0) rfl rfl, fun U hU hW => ⟨rfl, by rw [hU], by rw [hU]; exact hPc, va_K.moved hW.alike hKc, hDc.weaken (fun _ _ _ _ => trivial), by (try dsimp only); rw [hU]; exact ((hE0.kept (fun a h1 h2 => hS.2.1 a h1 h2)).narrow hFc).moved hW.alike, by (try dsimp only); rw [hU]; exact ((hE1.kept (fun a h1 h2 => hS.2.1 a h1 h2)).narrow hFc).moved hW.alike, va_AO.moved hW.alike hE4⟩⟩ rfl rfl hl.1 rfl (lv_room (Nat.le_of_ble_eq_true rfl)) d_AL_add3B_7 ⟨(Nat.le_of_ble_eq_true rfl), (Nat.le_of_ble_eq_true rfl)⟩) hS (fun q _ h => hFc q h) hFc (fun u r1 t H1 locs ht hvm hr1 hB hz1 hk1 hS => ?_)
    obtain ⟨cB2, hP1, hK1, hD1⟩ := hB
    rw [ht] at hP1
    have hK1 := va_K.moved hvm.symm hK1
    obtain ⟨hP, hD⟩ := va_join (wr := []) (w1 := [(h0, .inr (9, [.int md, .ref r1, .int 0])), (r1, .inl (cB2, 10, .inr (.inr (.inr (.inr (fun _ => none))))))]) hP hD [0] [] rfl rfl (by decide) (by decide) hk1 hFc hP1 hD1
    have hK := hK.app (hK1.sub (tys' := [(cB2, .object "java/lang/Object")]) [0] rfl)
    have hK : va_K (dC, dI) classes [(cB2, .object "java/lang/Object")] s := hK
    clear hPc hDc hKc hFc hP1 hD1 hK1 hk1
    generalize H1 = H at hP hS ⊢
    have hP : va_P (dC, dI) classes [(h0, .inr (9, [.int md, .ref r1, .int 0])), (r1, .inl (cB2, 10, .inr (.inr (.inr (.inr (fun _ => none))))))] H := hP
    have hD : va_D A [(h0, .inr (9, [.int md, .ref r1, .int 0])), (r1, .inl (cB2, 10, .inr (.inr (.inr (.inr (fun _ => none))))))] := hD
    refine W.widen (k := 1) (n := 10) (by omega) (by omega) ?_
    refine lv_astore_n (lv' := [(2, .ref r1), (0, .ref h0), (1, .ref e0), (3, .int 0)]) hx hb d_AL_add3B_10 rfl hl (by decide) rfl (fun ls hl => ?_)
    refine lv_aload_n hx hb d_AL_add3B_11 rfl (lv_at hl 0 rfl) ?_
    refine lv_iload_n hx hb d_AL_add3B_12 rfl (lv_at hl 3 rfl) ?_
    refine lv_aload_n hx hb d_AL_add3B_13 rfl (lv_at hl 2 rfl) ?_
    refine va_astqM (D := (dC, dI)) hx hb hK hP hD hS 1 0 rfl rfl (ry_any hE2 hS hE3) (by unfold vp_in; decide) d_AL_add3B_14 (fun H locs hP hD hS => ?_)
    have hP : va_P (dC, dI) classes [(h0, .inr (9, [.int md, .ref r1, .int 0])), (r1, .inl (cB2, 10, .inr (.inr (.inr (.inr (va_up (fun _ => none) (0 : Int32).toNatClampNeg (some e0)))))))] H := hP
    have hD : va_D A [(h0, .inr (9, [.int md, .ref r1, .int 0])), (r1, .inl (cB2, 10, .inr (.inr (.inr (.inr (va_up (fun _ => none) (0 : Int32).toNatClampNeg (some e0)))))))] := hD
    obtain ⟨f3, ef3⟩ : ∃ z : Nat → Option Nat, z = va_up (fun _ => none) (0 : Int32).toNatClampNeg (some e0) := ⟨_, rfl⟩
    rw [← ef3] at hP hD
    refine lv_aload_n hx hb d_AL_add3B_15 rfl (lv_at hl 1 rfl) ?_
    refine lv_iload_n hx hb d_AL_add3B_16 rfl (lv_at hl 3 rfl) ?_
    refine lv_iconst (v := 1) hx hb d_AL_add3B_17 (by decide) ?_
    refine lv_iadd hx hb d_AL_add3B_18 ?_
    refine lv_topi (fun x4 ex4 => ?_)
    obtain rfl : 1 = x4 := Eq.symm (by rw [ex4]; decide)
    refine va_put (D := (dC, dI)) (ci := 9) (v := .int 1) (ty := .int) (C := R_AL) (T := T_AL) (N := 3) hx hb hts in_AL_add3B_AL t_AL t_AL_ok n_AL hown hK hP hD hS 0 rfl rfl 2 (by decide) (hts (.fieldLink "java/util/ArrayList" 48 "java/util/ArrayList" "size" "I") (List.mem_of_getElem? (i := 9) rfl)) (fun _ h9 => h9) rfl (by decide +kernel) rfl rfl (Nat.le_of_ble_eq_true rfl) d_AL_add3B_19 (fun H locs hP hD hS => ?_)
    have hP : va_P (dC, dI) classes [(h0, .inr (9, [.int md, .ref r1, .int 1])), (r1, .inl (cB2, 10, .inr (.inr (.inr (.inr (f3))))))] H := hP
    have hD : va_D A [(h0, .inr (9, [.int md, .ref r1, .int 1])), (r1, .inl (cB2, 10, .inr (.inr (.inr (.inr (f3))))))] := hD
    have hP9 : va_P (dC, dI) classes [(h0, .inr (9, [.int md, .ref r1, .int 1])), (r1, .inl (cB2, 10, .inr (.inr (.inr (.inr (f3))))))] H := hP.sub (ws' := [(h0, .inr (9, [.int md, .ref r1, .int 1])), (r1, .inl (cB2, 10, .inr (.inr (.inr (.inr (f3))))))]) [0, 1] rfl
    have hD9 := hD.sub (ws' := [(h0, .inr (9, [.int md, .ref r1, .int 1])), (r1, .inl (cB2, 10, .inr (.inr (.inr (.inr (f3))))))]) [0, 1] (by decide) rfl
    have hK9 := hK.sub (tys' := [(cB2, .object "java/lang/Object")]) [0] rfl
    refine W.widen (k := 1) (n := 10) (by omega) (by omega) ?_
    exact W.vret hx hb hr (fun t ht hW => ⟨⟨(), rfl, trivial, ⟨r1, ⟨cB2, ⟨f3, ⟨by rw [ht]; exact hP9, va_K.moved hW.alike hK9, hD9, (by rw [ef3, show (0 : Int32).toNatClampNeg = 0 by decide]; exact va_up_self _ _ _)⟩⟩⟩⟩⟩, hS.F ht⟩) hS.2.2 d_AL_add3B_22

abbrev rm_AL_addB : Room := { frames := 4, cells := 1, slots := 10, locals := 80 }
abbrev b_AL_addB : ByteArray := prog_50_method_25_code
def y_AL_addB : MethodName := ⟨"java/util/ArrayList", "add", "(Ljava/lang/Object;)Z"⟩
def w_AL_addB : List Cond := [.code ⟨"java/util/ArrayList", "add", "(Ljava/lang/Object;)Z"⟩ prog_50_method_25_code 2 (some .boolean), .sameField "java/util/ArrayList" "java/util/AbstractList" "modCount" "I", .lays "java/util/ArrayList" "java/util/AbstractList" "modCount" "I", .lays "java/util/ArrayList" "java/util/ArrayList" "elementData" "[Ljava/lang/Object;", .lays "java/util/ArrayList" "java/util/ArrayList" "size" "I", .fieldLink "java/util/ArrayList" 63 "java/util/ArrayList" "modCount" "I", .fieldLink "java/util/ArrayList" 9 "java/util/ArrayList" "elementData" "[Ljava/lang/Object;", .fieldLink "java/util/ArrayList" 48 "java/util/ArrayList" "size" "I", .methodLink "java/util/ArrayList" 131 ⟨"java/util/ArrayList", "add", "(Ljava/lang/Object;[Ljava/lang/Object;I)V"⟩, .instanceMethod ⟨"java/util/ArrayList", "add", "(Ljava/lang/Object;[Ljava/lang/Object;I)V"⟩, .selects "java/util/ArrayList" ⟨"java/util/ArrayList", "add", "(Ljava/lang/Object;[Ljava/lang/Object;I)V"⟩ ⟨"java/util/ArrayList", "add", "(Ljava/lang/Object;[Ljava/lang/Object;I)V"⟩, .initialized "java/util/ArrayList", .code ⟨"java/util/ArrayList", "add", "(Ljava/lang/Object;[Ljava/lang/Object;I)V"⟩ prog_50_method_24_code 4 none, .methodLink "java/util/ArrayList" 129 ⟨"java/util/ArrayList", "grow", "()[Ljava/lang/Object;"⟩, .instanceMethod ⟨"java/util/ArrayList", "grow", "()[Ljava/lang/Object;"⟩, .selects "java/util/ArrayList" ⟨"java/util/ArrayList", "grow", "()[Ljava/lang/Object;"⟩ ⟨"java/util/ArrayList", "grow", "()[Ljava/lang/Object;"⟩, .code ⟨"java/util/ArrayList", "grow", "()[Ljava/lang/Object;"⟩ prog_50_method_7_code 1 (some (.array (.object "java/lang/Object"))), .methodLink "java/util/ArrayList" 69 ⟨"java/util/ArrayList", "grow", "(I)[Ljava/lang/Object;"⟩, .instanceMethod ⟨"java/util/ArrayList", "grow", "(I)[Ljava/lang/Object;"⟩, .selects "java/util/ArrayList" ⟨"java/util/ArrayList", "grow", "(I)[Ljava/lang/Object;"⟩ ⟨"java/util/ArrayList", "grow", "(I)[Ljava/lang/Object;"⟩, .code ⟨"java/util/ArrayList", "grow", "(I)[Ljava/lang/Object;"⟩ prog_50_method_6_code 4 (some (.array (.object "java/lang/Object"))), .fieldLink "java/util/ArrayList" 39 "java/util/ArrayList" "DEFAULTCAPACITY_EMPTY_ELEMENTDATA" "[Ljava/lang/Object;", .methodLink "java/util/ArrayList" 79 ⟨"java/lang/Math", "max", "(II)I"⟩, .static ⟨"java/lang/Math", "max", "(II)I"⟩, .initialized "java/lang/Math", .code ⟨"java/lang/Math", "max", "(II)I"⟩ prog_31_method_65_code 2 (some .int), .classLink "java/util/ArrayList" 7 "java/lang/Object"]
theorem d_AL_addB_0 : decode b_AL_addB 0 = .ok (.aload_n 0, 1) := by decide +kernel
theorem d_AL_addB_1 : decode b_AL_addB 1 = .ok (.dup, 1) := by decide +kernel
theorem d_AL_addB_2 : decode b_AL_addB 2 = .ok (.getfield 63, 3) := by decide +kernel
theorem d_AL_addB_5 : decode b_AL_addB 5 = .ok (.iconst 1, 1) := by decide +kernel
theorem d_AL_addB_6 : decode b_AL_addB 6 = .ok (.iadd, 1) := by decide +kernel
theorem d_AL_addB_7 : decode b_AL_addB 7 = .ok (.putfield 63, 3) := by decide +kernel
theorem d_AL_addB_10 : decode b_AL_addB 10 = .ok (.aload_n 0, 1) := by decide +kernel
theorem d_AL_addB_11 : decode b_AL_addB 11 = .ok (.aload_n 1, 1) := by decide +kernel
theorem d_AL_addB_12 : decode b_AL_addB 12 = .ok (.aload_n 0, 1) := by decide +kernel
theorem d_AL_addB_13 : decode b_AL_addB 13 = .ok (.getfield 9, 3) := by decide +kernel
theorem d_AL_addB_16 : decode b_AL_addB 16 = .ok (.aload_n 0, 1) := by decide +kernel
theorem d_AL_addB_17 : decode b_AL_addB 17 = .ok (.getfield 48, 3) := by decide +kernel
theorem d_AL_addB_20 : decode b_AL_addB 20 = .ok (.invokevirtual 131, 3) := by decide +kernel
theorem d_AL_addB_23 : decode b_AL_addB 23 = .ok (.iconst 1, 1) := by decide +kernel
theorem d_AL_addB_24 : decode b_AL_addB 24 = .ok (.ireturn, 1) := by decide +kernel
theorem in_AL_addB_AL : ∀ v ∈ u_ws R_AL T_AL 3, v ∈ w_AL_addB := by decide +kernel
set_option maxRecDepth 20000 in
theorem g_AL_addB_20 : GoodIn w_AL_addB (wsV "java/util/ArrayList" 131 "java/util/ArrayList" ⟨"java/util/ArrayList", "add", "(Ljava/lang/Object;[Ljava/lang/Object;I)V"⟩ w_AL_add3B) := goodIn_r _ [8, 9, 10, 11, 12, 13, 14, 15, 11, 16, 2, 3, 4, 7, 17, 18, 19, 20, 6, 21, 22, 23, 24, 25, 26] rfl (by decide +kernel)
set_option maxHeartbeats 4000000 in
set_option maxRecDepth 100000 in
theorem c_AL_addB (l : Launch) (dC : Nat → ClassId) (dI : Nat → Nat → Nat) (de : Nat) (fde : Nat → Value) (h0 : Nat) (md : Int32) (e0 : Nat) (sz : Nat) : Met l y_AL_addB w_AL_addB rm_AL_addB (va_Pc [.ref h0, .ref e0] (fun U => U.heap.size = sz ∧ va_P (dC, dI) classes [(h0, .inr (9, [.int md, .ref de, .int 0]))] U.heap ∧ va_K (dC, dI) classes [] U ∧ va_D (fun _ => True) [(h0, .inr (9, [.int md, .ref de, .int 0]))] ∧ va_Z "java/util/ArrayList" "DEFAULTCAPACITY_EMPTY_ELEMENTDATA" "[Ljava/lang/Object;" (.ref de) (va_A [(h0, .inr (9, [.int md, .ref de, .int 0]))] sz) U U.heap ∧ va_T (.object "java/lang/Object") de 0 fde (va_A [(h0, .inr (9, [.int md, .ref de, .int 0]))] sz) U U.heap ∧ va_O "java/lang/Integer" e0 (va_A [(h0, .inr (9, [.int md, .ref de, .int 0]))] sz) U U.heap ∧ va_Nw (.castable "java/lang/Integer" "java/lang/Object") U ∧ va_AO "java/lang/Object" U)) (va_Qi (fun r (_ : Unit) => r = 1) (fun _ t => ∃ m1 : Int32, ∃ ed : Nat, ∃ cB : ClassId, ∃ f1 : Nat → Option Nat, va_P (dC, dI) classes [(h0, .inr (9, [.int m1, .ref ed, .int 1])), (ed, .inl (cB, 10, .inr (.inr (.inr (.inr (f1))))))] t.heap ∧ va_K (dC, dI) classes [(cB, .object "java/lang/Object")] t ∧ va_D (va_A [(h0, .inr (9, [.int md, .ref de, .int 0]))] sz) [(h0, .inr (9, [.int m1, .ref ed, .int 1])), (ed, .inl (cB, 10, .inr (.inr (.inr (.inr (f1))))))] ∧ f1 0 = some e0) (va_A [(h0, .inr (9, [.int md, .ref de, .int 0]))] sz)) 1 10 (va_A [(h0, .inr (9, [.int md, .ref de, .int 0]))] sz) := by
  refine Met.ofW (cc := b_AL_addB) (maxL := 2) (ret := (some .boolean)) (by decide) rfl ?_
  intro p e s m args below meth c s₁ B hml hv
  obtain ⟨rfl, hsz, hP, hK, hD0, hE0, hE1, hE2, hE3, hE4⟩ := hv
  have hx := B.exec
  have hb := B.bytes
  have hr := B.returns
  have hts := atoms_spec (ws := w_AL_addB) B.pre
  have hown : s.vm.findClass "java/util/ArrayList" = some m.cls := findClass_of_methodNamed B.named
  have hlocks := B.notSynchronized
  subst hsz
  have hD := hD0.self (sz := s.heap.size)
  generalize hAe : va_A [(h0, .inr (9, [.int md, .ref de, .int 0]))] s.heap.size = A at hD hE0 hE1 hE2 hE3 hE4 ⊢
  have hA : ∀ q : Nat, s.heap.size ≤ q → A q := fun q h => by rw [← hAe]; exact Or.inr h
  have hS : va_S A s.heap s.heap [] := va_S.rf
  have hP : va_P (dC, dI) classes [(h0, .inr (9, [.int md, .ref de, .int 0]))] s.heap := hP
  have hl := lv_entry ([.ref h0, .ref e0]) (n := 2) (Nat.le_of_ble_eq_true rfl)
  rw [lg_entry_eq]
  generalize (lg_sl ([.ref h0, .ref e0]) ++ List.replicate (2 - (lg_sl ([.ref h0, .ref e0])).length) Slot.unset).toArray = ls at hl ⊢
  have hl : lv_has ls 2 [(0, .ref h0), (1, .ref e0)] := hl
  refine lv_aload_n hx hb d_AL_addB_0 rfl (lv_at hl 0 rfl) ?_
  refine lv_dup hx hb d_AL_addB_1 rfl ?_
  refine va_get (D := (dC, dI)) (ci := 9) (v := .int md) (C := R_AL) (T := T_AL) (N := 3) hx hb hts in_AL_addB_AL hown hK hP 0 rfl rfl 0 (by decide) (hts (.fieldLink "java/util/ArrayList" 63 "java/util/ArrayList" "modCount" "I") (List.mem_of_getElem? (i := 5) rfl)) (fun x9 h9 => u_same (hts (.sameField "java/util/ArrayList" "java/util/AbstractList" "modCount" "I") (List.mem_of_getElem? (i := 1) rfl)) x9 h9) rfl d_AL_addB_2 ?_
  refine lv_iconst (v := 1) hx hb d_AL_addB_5 (by decide) ?_
  refine lv_iadd hx hb d_AL_addB_6 ?_
  refine lv_topi (fun x1 ex1 => ?_)
  refine va_put (D := (dC, dI)) (ci := 9) (v := .int x1) (ty := .int) (C := R_AL) (T := T_AL) (N := 3) hx hb hts in_AL_addB_AL t_AL t_AL_ok n_AL hown hK hP hD hS 0 rfl rfl 0 (by decide) (hts (.fieldLink "java/util/ArrayList" 63 "java/util/ArrayList" "modCount" "I") (List.mem_of_getElem? (i := 5) rfl)) (fun x9 h9 => u_same (hts (.sameField "java/util/ArrayList" "java/util/AbstractList" "modCount" "I") (List.mem_of_getElem? (i := 1) rfl)) x9 h9) rfl (by decide +kernel) rfl rfl (Nat.le_of_ble_eq_true rfl) d_AL_addB_7 (fun H locs hP hD hS => ?_)
  have hP : va_P (dC, dI) classes [(h0, .inr (9, [.int x1, .ref de, .int 0]))] H := hP
  have hD : va_D A [(h0, .inr (9, [.int x1, .ref de, .int 0]))] := hD
  refine lv_aload_n hx hb d_AL_addB_10 rfl (lv_at hl 0 rfl) ?_
  refine lv_aload_n hx hb d_AL_addB_11 rfl (lv_at hl 1 rfl) ?_
  refine lv_aload_n hx hb d_AL_addB_12 rfl (lv_at hl 0 rfl) ?_
  refine va_get (D := (dC, dI)) (ci := 9) (v := .ref de) (C := R_AL) (T := T_AL) (N := 3) hx hb hts in_AL_addB_AL hown hK hP 0 rfl rfl 1 (by decide) (hts (.fieldLink "java/util/ArrayList" 9 "java/util/ArrayList" "elementData" "[Ljava/lang/Object;") (List.mem_of_getElem? (i := 6) rfl)) (fun _ h9 => h9) rfl d_AL_addB_13 ?_
  refine lv_aload_n hx hb d_AL_addB_16 rfl (lv_at hl 0 rfl) ?_
  refine va_get (D := (dC, dI)) (ci := 9) (v := .int 0) (C := R_AL) (T := T_AL) (N := 3) hx hb hts in_AL_addB_AL hown hK hP 0 rfl rfl 2 (by decide) (hts (.fieldLink "java/util/ArrayList" 48 "java/util/ArrayList" "size" "I") (List.mem_of_getElem? (i := 7) rfl)) (fun _ h9 => h9) rfl d_AL_addB_17 ?_
  have hPc : va_P (dC, dI) classes [(h0, .inr (9, [.int x1, .ref de, .int 0]))] _ := hP.sub (ws' := [(h0, .inr (9, [.int x1, .ref de, .int 0]))]) [0] rfl
  have hKc : va_K (dC, dI) classes [] s := hK.sub (tys' := []) [] rfl
  have hDc : va_D _ [(h0, .inr (9, [.int x1, .ref de, .int 0]))] := hD.sub (ws' := [(h0, .inr (9, [.int x1, .ref de, .int 0]))]) [0] (by decide) rfl
  have hFc := va_free (wc := [(h0, .inr (9, [.int x1, .ref de, .int 0]))]) hD hS hA [0] rfl
  refine va_callv (va_runV (As := [.ref e0, .ref de, .int 0]) (rest := []) ⟨hx, hb, hml, hown, hts⟩ (c_AL_add3B l dC dI de fde h0 x1 e0 H.size) (cwV 3 hts g_AL_addB_20 rfl rfl rfl (by decide +kernel) ⟨Nat.le_of_ble_eq_true rfl, Nat.le_of_ble_eq_true rfl⟩) ⟨fun a U g mk z => by obtain ⟨z0, z1, zP, zK, zD, zE0, zE1, zE2, zE3, zE4⟩ := z; exact ⟨z0, z1, zP, va_K.moved (u := U) (U := U.calling g mk a) (Vm.Alike.refl U.vm) zK, zD, zE0.moved (u := U) (U := U.calling g mk a) (Vm.Alike.refl U.vm), zE1.moved (u := U) (U := U.calling g mk a) (Vm.Alike.refl U.vm), zE2.moved (u := U) (U := U.calling g mk a) (Vm.Alike.refl U.vm), va_Nw.same rfl (u := U) (U := U.calling g mk a) rfl zE3, va_AO.moved (u := U) (U := U.calling g mk a) (Vm.Alike.refl U.vm) zE4⟩, va_recv hKc hPc (ci := 9) (q0 := 0) rfl rfl, fun U hU hW => ⟨rfl, by rw [hU], by rw [hU]; exact hPc, va_K.moved hW.alike hKc, hDc.weaken (fun _ _ _ _ => trivial), by (try dsimp only); rw [hU]; exact ((hE0.kept (fun a h1 h2 => hS.2.1 a h1 h2)).narrow hFc).moved hW.alike, by (try dsimp only); rw [hU]; exact ((hE1.kept (fun a h1 h2 => hS.2.1 a h1 h2)).narrow hFc).moved hW.alike, by (try dsimp only); rw [hU]; exact ((hE2.kept (fun a h1 h2 => hS.2.1 a h1 h2)).narrow hFc).moved hW.alike, va_Nw.warmC hW hE3, va_AO.moved hW.alike hE4⟩⟩ rfl rfl hl.1 rfl (lv_room (Nat.le_of_ble_eq_true rfl)) d_AL_addB_20 ⟨(Nat.le_of_ble_eq_true rfl), (Nat.le_of_ble_eq_true rfl)⟩) hS (fun q _ h => hFc q h) hFc (fun u t H1 locs ht hvm hr2 hB hz1 hk1 hS => ?_)
  obtain ⟨ed3, cB4, f5, hP1, hK1, hD1, hpr2_0⟩ := hB
  rw [ht] at hP1
  have hK1 := va_K.moved hvm.symm hK1
  obtain ⟨hP, hD⟩ := va_join (wr := []) (w1 := [(h0, .inr (9, [.int x1, .ref ed3, .int 1])), (ed3, .inl (cB4, 10, .inr (.inr (.inr (.inr (f5))))))]) hP hD [0] [] rfl rfl (by decide) (by decide) hk1 hFc hP1 hD1
  have hK := hK.app (hK1.sub (tys' := [(cB4, .object "java/lang/Object")]) [0] rfl)
  have hK : va_K (dC, dI) classes [(cB4, .object "java/lang/Object")] s := hK
  clear hPc hDc hKc hFc hP1 hD1 hK1 hk1
  generalize H1 = H at hP hS ⊢
  have hP : va_P (dC, dI) classes [(h0, .inr (9, [.int x1, .ref ed3, .int 1])), (ed3, .inl (cB4, 10, .inr (.inr (.inr (.inr (f5))))))] H := hP
  have hD : va_D A [(h0, .inr (9, [.int x1, .ref ed3, .int 1])), (ed3, .inl (cB4, 10, .inr (.inr (.inr (.inr (f5))))))] := hD
  refine W.widen (k := 1) (n := 10) (by omega) (by omega) ?_
  refine lv_iconst (v := 1) hx hb d_AL_addB_23 (by decide) ?_
  have hP9 : va_P (dC, dI) classes [(h0, .inr (9, [.int x1, .ref ed3, .int 1])), (ed3, .inl (cB4, 10, .inr (.inr (.inr (.inr (f5))))))] H := hP.sub (ws' := [(h0, .inr (9, [.int x1, .ref ed3, .int 1])), (ed3, .inl (cB4, 10, .inr (.inr (.inr (.inr (f5))))))]) [0, 1] rfl
  have hD9 := hD.sub (ws' := [(h0, .inr (9, [.int x1, .ref ed3, .int 1])), (ed3, .inl (cB4, 10, .inr (.inr (.inr (.inr (f5))))))]) [0, 1] (by decide) rfl
  have hK9 := hK.sub (tys' := [(cB4, .object "java/lang/Object")]) [0] rfl
  refine W.widen (k := 1) (n := 10) (by omega) (by omega) ?_
  exact W.zret hx hb hr rfl (fun t ht hW => ⟨⟨_, (), rfl, rfl, ⟨x1, ⟨ed3, ⟨cB4, ⟨f5, ⟨by rw [ht]; exact hP9, va_K.moved hW.alike hK9, hD9, hpr2_0⟩⟩⟩⟩⟩⟩, hS.F ht⟩) hS.2.2 d_AL_addB_24

abbrev rm_AL_add3K : Room := { frames := 0, cells := 0, slots := 0, locals := 0 }
abbrev b_AL_add3K : ByteArray := prog_50_method_24_code
def y_AL_add3K : MethodName := ⟨"java/util/ArrayList", "add", "(Ljava/lang/Object;[Ljava/lang/Object;I)V"⟩
def w_AL_add3K : List Cond := [.code ⟨"java/util/ArrayList", "add", "(Ljava/lang/Object;[Ljava/lang/Object;I)V"⟩ prog_50_method_24_code 4 none, .lays "java/util/ArrayList" "java/util/AbstractList" "modCount" "I", .lays "java/util/ArrayList" "java/util/ArrayList" "elementData" "[Ljava/lang/Object;", .lays "java/util/ArrayList" "java/util/ArrayList" "size" "I", .fieldLink "java/util/ArrayList" 48 "java/util/ArrayList" "size" "I"]
theorem d_AL_add3K_0 : decode b_AL_add3K 0 = .ok (.iload_n 3, 1) := by decide +kernel
theorem d_AL_add3K_1 : decode b_AL_add3K 1 = .ok (.aload_n 2, 1) := by decide +kernel
theorem d_AL_add3K_2 : decode b_AL_add3K 2 = .ok (.arraylength, 1) := by decide +kernel
theorem d_AL_add3K_3 : decode b_AL_add3K 3 = .ok (.if_icmp .ne 8, 3) := by decide +kernel
theorem d_AL_add3K_11 : decode b_AL_add3K 11 = .ok (.aload_n 2, 1) := by decide +kernel
theorem d_AL_add3K_12 : decode b_AL_add3K 12 = .ok (.iload_n 3, 1) := by decide +kernel
theorem d_AL_add3K_13 : decode b_AL_add3K 13 = .ok (.aload_n 1, 1) := by decide +kernel
theorem d_AL_add3K_14 : decode b_AL_add3K 14 = .ok (.aastore, 1) := by decide +kernel
theorem d_AL_add3K_15 : decode b_AL_add3K 15 = .ok (.aload_n 0, 1) := by decide +kernel
theorem d_AL_add3K_16 : decode b_AL_add3K 16 = .ok (.iload_n 3, 1) := by decide +kernel
theorem d_AL_add3K_17 : decode b_AL_add3K 17 = .ok (.iconst 1, 1) := by decide +kernel
theorem d_AL_add3K_18 : decode b_AL_add3K 18 = .ok (.iadd, 1) := by decide +kernel
theorem d_AL_add3K_19 : decode b_AL_add3K 19 = .ok (.putfield 48, 3) := by decide +kernel
theorem d_AL_add3K_22 : decode b_AL_add3K 22 = .ok (.return_, 1) := by decide +kernel
theorem in_AL_add3K_AL : ∀ v ∈ u_ws R_AL T_AL 3, v ∈ w_AL_add3K := by decide +kernel
set_option maxHeartbeats 4000000 in
set_option maxRecDepth 100000 in
theorem c_AL_add3K (l : Launch) (dC : Nat → ClassId) (dI : Nat → Nat → Nat) (h0 : Nat) (md : Int32) (ed : Nat) (n : Int32) (cB : ClassId) (f0 : Nat → Option Nat) (e0 : Nat) (k : Nat) (hk : k < 8) (hnk : n = nI k) (hfk : ∀ j, j < k → f0 j = some e0) (sz : Nat) : Met l y_AL_add3K w_AL_add3K rm_AL_add3K (va_Pc [.ref h0, .ref e0, .ref ed, .int n] (fun U => U.heap.size = sz ∧ va_P (dC, dI) classes [(h0, .inr (9, [.int md, .ref ed, .int n])), (ed, .inl (cB, 10, .inr (.inr (.inr (.inr (f0))))))] U.heap ∧ va_K (dC, dI) classes [(cB, .object "java/lang/Object")] U ∧ va_D (fun _ => True) [(h0, .inr (9, [.int md, .ref ed, .int n])), (ed, .inl (cB, 10, .inr (.inr (.inr (.inr (f0))))))] ∧ va_O "java/lang/Integer" e0 (va_A [(h0, .inr (9, [.int md, .ref ed, .int n])), (ed, .inl (cB, 10, .inr (.inr (.inr (.inr (f0))))))] sz) U U.heap ∧ va_Nw (.castable "java/lang/Integer" "java/lang/Object") U)) (va_Qv (fun (_ : Unit) => True) (fun _ t => ∃ n1 : Int32, ∃ f1 : Nat → Option Nat, va_P (dC, dI) classes [(h0, .inr (9, [.int md, .ref ed, .int n1])), (ed, .inl (cB, 10, .inr (.inr (.inr (.inr (f1))))))] t.heap ∧ va_K (dC, dI) classes [(cB, .object "java/lang/Object")] t ∧ va_D (va_A [(h0, .inr (9, [.int md, .ref ed, .int n])), (ed, .inl (cB, 10, .inr (.inr (.inr (.inr (f0))))))] sz) [(h0, .inr (9, [.int md, .ref ed, .int n1])), (ed, .inl (cB, 10, .inr (.inr (.inr (.inr (f1))))))] ∧ (∀ j, j < k + 1 → f1 j = some e0) ∧ n1 = nI (k + 1)) (va_A [(h0, .inr (9, [.int md, .ref ed, .int n])), (ed, .inl (cB, 10, .inr (.inr (.inr (.inr (f0))))))] sz)) 0 0 (va_A [(h0, .inr (9, [.int md, .ref ed, .int n])), (ed, .inl (cB, 10, .inr (.inr (.inr (.inr (f0))))))] sz) := by
  refine Met.ofW (cc := b_AL_add3K) (maxL := 4) (ret := none) (by decide) rfl ?_
  intro p e s m args below meth c s₁ B hml hv
  obtain ⟨rfl, hsz, hP, hK, hD0, hE0, hE1⟩ := hv
  have hx := B.exec
  have hb := B.bytes
  have hr := B.returns
  have hts := atoms_spec (ws := w_AL_add3K) B.pre
  have hown : s.vm.findClass "java/util/ArrayList" = some m.cls := findClass_of_methodNamed B.named
  have hlocks := B.notSynchronized
  subst hsz
  have hD := hD0.self (sz := s.heap.size)
  generalize hAe : va_A [(h0, .inr (9, [.int md, .ref ed, .int n])), (ed, .inl (cB, 10, .inr (.inr (.inr (.inr (f0))))))] s.heap.size = A at hD hE0 hE1 ⊢
  have hA : ∀ q : Nat, s.heap.size ≤ q → A q := fun q h => by rw [← hAe]; exact Or.inr h
  have hS : va_S A s.heap s.heap [] := va_S.rf
  have hP : va_P (dC, dI) classes [(h0, .inr (9, [.int md, .ref ed, .int n])), (ed, .inl (cB, 10, .inr (.inr (.inr (.inr (f0))))))] s.heap := hP
  have hl := lv_entry ([.ref h0, .ref e0, .ref ed, .int n]) (n := 4) (Nat.le_of_ble_eq_true rfl)
  rw [lg_entry_eq]
  generalize (lg_sl ([.ref h0, .ref e0, .ref ed, .int n]) ++ List.replicate (4 - (lg_sl ([.ref h0, .ref e0, .ref ed, .int n])).length) Slot.unset).toArray = ls at hl ⊢
  have hl : lv_has ls 4 [(0, .ref h0), (1, .ref e0), (2, .ref ed), (3, .int n)] := hl
  refine lv_iload_n hx hb d_AL_add3K_0 rfl (lv_at hl 3 rfl) ?_
  refine lv_aload_n hx hb d_AL_add3K_1 rfl (lv_at hl 2 rfl) ?_
  refine va_alen (v := 10) hx hb hK hP 1 0 rfl rfl (show Int32.ofNat 10 = 10 by decide) d_AL_add3K_2 ?_
  refine lv_icmp_ne (tgt := 11) hx hb d_AL_add3K_3 (by decide) (fun c_3 => ?_) (fun c_3 => ?_)
  · skip
    refine lv_aload_n hx hb d_AL_add3K_11 rfl (lv_at hl 2 rfl) ?_
    refine lv_iload_n hx hb d_AL_add3K_12 rfl (lv_at hl 3 rfl) ?_
    refine lv_aload_n hx hb d_AL_add3K_13 rfl (lv_at hl 1 rfl) ?_
    refine va_astqM (D := (dC, dI)) hx hb hK hP hD hS 1 0 rfl rfl (ry_any hE0 hS hE1) (by rw [hnk]; exact vp_in_nI (by omega) (by omega)) d_AL_add3K_14 (fun H locs hP hD hS => ?_)
    have hP : va_P (dC, dI) classes [(h0, .inr (9, [.int md, .ref ed, .int n])), (ed, .inl (cB, 10, .inr (.inr (.inr (.inr (va_up f0 (n : Int32).toNatClampNeg (some e0)))))))] H := hP
    have hD : va_D A [(h0, .inr (9, [.int md, .ref ed, .int n])), (ed, .inl (cB, 10, .inr (.inr (.inr (.inr (va_up f0 (n : Int32).toNatClampNeg (some e0)))))))] := hD
    obtain ⟨f1, ef1⟩ : ∃ z : Nat → Option Nat, z = va_up f0 (n : Int32).toNatClampNeg (some e0) := ⟨_, rfl⟩
    rw [← ef1] at hP hD
    refine lv_aload_n hx hb d_AL_add3K_15 rfl (lv_at hl 0 rfl) ?_
    refine lv_iload_n hx hb d_AL_add3K_16 rfl (lv_at hl 3 rfl) ?_
    refine lv_iconst (v := 1) hx hb d_AL_add3K_17 (by decide) ?_
    refine lv_iadd hx hb d_AL_add3K_18 ?_
    refine lv_topi (fun x2 ex2 => ?_)
    refine va_put (D := (dC, dI)) (ci := 9) (v := .int x2) (ty := .int) (C := R_AL) (T := T_AL) (N := 3) hx hb hts in_AL_add3K_AL t_AL t_AL_ok n_AL hown hK hP hD hS 0 rfl rfl 2 (by decide) (hts (.fieldLink "java/util/ArrayList" 48 "java/util/ArrayList" "size" "I") (List.mem_of_getElem? (i := 4) rfl)) (fun _ h9 => h9) rfl (by decide +kernel) rfl rfl (Nat.le_of_ble_eq_true rfl) d_AL_add3K_19 (fun H locs hP hD hS => ?_)
    have hP : va_P (dC, dI) classes [(h0, .inr (9, [.int md, .ref ed, .int x2])), (ed, .inl (cB, 10, .inr (.inr (.inr (.inr (f1))))))] H := hP
    have hD : va_D A [(h0, .inr (9, [.int md, .ref ed, .int x2])), (ed, .inl (cB, 10, .inr (.inr (.inr (.inr (f1))))))] := hD
    have hP9 : va_P (dC, dI) classes [(h0, .inr (9, [.int md, .ref ed, .int x2])), (ed, .inl (cB, 10, .inr (.inr (.inr (.inr (f1))))))] H := hP.sub (ws' := [(h0, .inr (9, [.int md, .ref ed, .int x2])), (ed, .inl (cB, 10, .inr (.inr (.inr (.inr (f1))))))]) [0, 1] rfl
    have hD9 := hD.sub (ws' := [(h0, .inr (9, [.int md, .ref ed, .int x2])), (ed, .inl (cB, 10, .inr (.inr (.inr (.inr (f1))))))]) [0, 1] (by decide) rfl
    have hK9 := hK.sub (tys' := [(cB, .object "java/lang/Object")]) [0] rfl
    have hall : ∀ j, j < k + 1 → f1 j = some e0 := by
      intro j hj
      rw [ef1, hnk, nI_clamp (by omega)]
      by_cases hz : j = k
      · rw [hz]; exact va_up_self _ _ _
      · rw [va_up_ne _ _ hz]; exact hfk j (by omega)
    refine W.widen (k := 0) (n := 0) (by omega) (by omega) ?_
    exact W.vret hx hb hr (fun t ht hW => ⟨⟨(), rfl, trivial, ⟨x2, ⟨f1, ⟨by rw [ht]; exact hP9, va_K.moved hW.alike hK9, hD9, hall, (by rw [ex2, hnk]; exact nI_1 k)⟩⟩⟩⟩, hS.F ht⟩) hS.2.2 d_AL_add3K_22
  · exact absurd c_3 (by rw [hnk]; exact fun z => absurd ((nI_eq (a := k) (b := 10) (by omega) (by omega)).mp z) (by omega))

abbrev rm_AL_addK : Room := { frames := 1, cells := 0, slots := 0, locals := 23 }
abbrev b_AL_addK : ByteArray := prog_50_method_25_code
def y_AL_addK : MethodName := ⟨"java/util/ArrayList", "add", "(Ljava/lang/Object;)Z"⟩
def w_AL_addK : List Cond := [.code ⟨"java/util/ArrayList", "add", "(Ljava/lang/Object;)Z"⟩ prog_50_method_25_code 2 (some .boolean), .sameField "java/util/ArrayList" "java/util/AbstractList" "modCount" "I", .lays "java/util/ArrayList" "java/util/AbstractList" "modCount" "I", .lays "java/util/ArrayList" "java/util/ArrayList" "elementData" "[Ljava/lang/Object;", .lays "java/util/ArrayList" "java/util/ArrayList" "size" "I", .fieldLink "java/util/ArrayList" 63 "java/util/ArrayList" "modCount" "I", .fieldLink "java/util/ArrayList" 9 "java/util/ArrayList" "elementData" "[Ljava/lang/Object;", .fieldLink "java/util/ArrayList" 48 "java/util/ArrayList" "size" "I", .methodLink "java/util/ArrayList" 131 ⟨"java/util/ArrayList", "add", "(Ljava/lang/Object;[Ljava/lang/Object;I)V"⟩, .instanceMethod ⟨"java/util/ArrayList", "add", "(Ljava/lang/Object;[Ljava/lang/Object;I)V"⟩, .selects "java/util/ArrayList" ⟨"java/util/ArrayList", "add", "(Ljava/lang/Object;[Ljava/lang/Object;I)V"⟩ ⟨"java/util/ArrayList", "add", "(Ljava/lang/Object;[Ljava/lang/Object;I)V"⟩, .initialized "java/util/ArrayList", .code ⟨"java/util/ArrayList", "add", "(Ljava/lang/Object;[Ljava/lang/Object;I)V"⟩ prog_50_method_24_code 4 none]
theorem d_AL_addK_0 : decode b_AL_addK 0 = .ok (.aload_n 0, 1) := by decide +kernel
theorem d_AL_addK_1 : decode b_AL_addK 1 = .ok (.dup, 1) := by decide +kernel
theorem d_AL_addK_2 : decode b_AL_addK 2 = .ok (.getfield 63, 3) := by decide +kernel
theorem d_AL_addK_5 : decode b_AL_addK 5 = .ok (.iconst 1, 1) := by decide +kernel
theorem d_AL_addK_6 : decode b_AL_addK 6 = .ok (.iadd, 1) := by decide +kernel
theorem d_AL_addK_7 : decode b_AL_addK 7 = .ok (.putfield 63, 3) := by decide +kernel
theorem d_AL_addK_10 : decode b_AL_addK 10 = .ok (.aload_n 0, 1) := by decide +kernel
theorem d_AL_addK_11 : decode b_AL_addK 11 = .ok (.aload_n 1, 1) := by decide +kernel
theorem d_AL_addK_12 : decode b_AL_addK 12 = .ok (.aload_n 0, 1) := by decide +kernel
theorem d_AL_addK_13 : decode b_AL_addK 13 = .ok (.getfield 9, 3) := by decide +kernel
theorem d_AL_addK_16 : decode b_AL_addK 16 = .ok (.aload_n 0, 1) := by decide +kernel
theorem d_AL_addK_17 : decode b_AL_addK 17 = .ok (.getfield 48, 3) := by decide +kernel
theorem d_AL_addK_20 : decode b_AL_addK 20 = .ok (.invokevirtual 131, 3) := by decide +kernel
theorem d_AL_addK_23 : decode b_AL_addK 23 = .ok (.iconst 1, 1) := by decide +kernel
theorem d_AL_addK_24 : decode b_AL_addK 24 = .ok (.ireturn, 1) := by decide +kernel
theorem in_AL_addK_AL : ∀ v ∈ u_ws R_AL T_AL 3, v ∈ w_AL_addK := by decide +kernel
set_option maxRecDepth 20000 in
theorem g_AL_addK_20 : GoodIn w_AL_addK (wsV "java/util/ArrayList" 131 "java/util/ArrayList" ⟨"java/util/ArrayList", "add", "(Ljava/lang/Object;[Ljava/lang/Object;I)V"⟩ w_AL_add3K) := goodIn_r _ [8, 9, 10, 11, 12, 2, 3, 4, 7] rfl (by decide +kernel)
set_option maxHeartbeats 4000000 in
set_option maxRecDepth 100000 in
theorem c_AL_addK (l : Launch) (dC : Nat → ClassId) (dI : Nat → Nat → Nat) (h0 : Nat) (md : Int32) (ed : Nat) (n : Int32) (cB : ClassId) (f0 : Nat → Option Nat) (e0 : Nat) (k : Nat) (hk : k < 8) (hnk : n = nI k) (hfk : ∀ j, j < k → f0 j = some e0) (sz : Nat) : Met l y_AL_addK w_AL_addK rm_AL_addK (va_Pc [.ref h0, .ref e0] (fun U => U.heap.size = sz ∧ va_P (dC, dI) classes [(h0, .inr (9, [.int md, .ref ed, .int n])), (ed, .inl (cB, 10, .inr (.inr (.inr (.inr (f0))))))] U.heap ∧ va_K (dC, dI) classes [(cB, .object "java/lang/Object")] U ∧ va_D (fun _ => True) [(h0, .inr (9, [.int md, .ref ed, .int n])), (ed, .inl (cB, 10, .inr (.inr (.inr (.inr (f0))))))] ∧ va_O "java/lang/Integer" e0 (va_A [(h0, .inr (9, [.int md, .ref ed, .int n])), (ed, .inl (cB, 10, .inr (.inr (.inr (.inr (f0))))))] sz) U U.heap ∧ va_Nw (.castable "java/lang/Integer" "java/lang/Object") U)) (va_Qi (fun r (_ : Unit) => r = 1) (fun _ t => ∃ m1 : Int32, ∃ n1 : Int32, ∃ f1 : Nat → Option Nat, va_P (dC, dI) classes [(h0, .inr (9, [.int m1, .ref ed, .int n1])), (ed, .inl (cB, 10, .inr (.inr (.inr (.inr (f1))))))] t.heap ∧ va_K (dC, dI) classes [(cB, .object "java/lang/Object")] t ∧ va_D (va_A [(h0, .inr (9, [.int md, .ref ed, .int n])), (ed, .inl (cB, 10, .inr (.inr (.inr (.inr (f0))))))] sz) [(h0, .inr (9, [.int m1, .ref ed, .int n1])), (ed, .inl (cB, 10, .inr (.inr (.inr (.inr (f1))))))] ∧ (∀ j, j < k + 1 → f1 j = some e0) ∧ n1 = nI (k + 1)) (va_A [(h0, .inr (9, [.int md, .ref ed, .int n])), (ed, .inl (cB, 10, .inr (.inr (.inr (.inr (f0))))))] sz)) 0 0 (va_A [(h0, .inr (9, [.int md, .ref ed, .int n])), (ed, .inl (cB, 10, .inr (.inr (.inr (.inr (f0))))))] sz) := by
  refine Met.ofW (cc := b_AL_addK) (maxL := 2) (ret := (some .boolean)) (by decide) rfl ?_
  intro p e s m args below meth c s₁ B hml hv
  obtain ⟨rfl, hsz, hP, hK, hD0, hE0, hE1⟩ := hv
  have hx := B.exec
  have hb := B.bytes
  have hr := B.returns
  have hts := atoms_spec (ws := w_AL_addK) B.pre
  have hown : s.vm.findClass "java/util/ArrayList" = some m.cls := findClass_of_methodNamed B.named
  have hlocks := B.notSynchronized
  subst hsz
  have hD := hD0.self (sz := s.heap.size)
  generalize hAe : va_A [(h0, .inr (9, [.int md, .ref ed, .int n])), (ed, .inl (cB, 10, .inr (.inr (.inr (.inr (f0))))))] s.heap.size = A at hD hE0 hE1 ⊢
  have hA : ∀ q : Nat, s.heap.size ≤ q → A q := fun q h => by rw [← hAe]; exact Or.inr h
  have hS : va_S A s.heap s.heap [] := va_S.rf
  have hP : va_P (dC, dI) classes [(h0, .inr (9, [.int md, .ref ed, .int n])), (ed, .inl (cB, 10, .inr (.inr (.inr (.inr (f0))))))] s.heap := hP
  have hl := lv_entry ([.ref h0, .ref e0]) (n := 2) (Nat.le_of_ble_eq_true rfl)
  rw [lg_entry_eq]
  generalize (lg_sl ([.ref h0, .ref e0]) ++ List.replicate (2 - (lg_sl ([.ref h0, .ref e0])).length) Slot.unset).toArray = ls at hl ⊢
  have hl : lv_has ls 2 [(0, .ref h0), (1, .ref e0)] := hl
  refine lv_aload_n hx hb d_AL_addK_0 rfl (lv_at hl 0 rfl) ?_
  refine lv_dup hx hb d_AL_addK_1 rfl ?_
  refine va_get (D := (dC, dI)) (ci := 9) (v := .int md) (C := R_AL) (T := T_AL) (N := 3) hx hb hts in_AL_addK_AL hown hK hP 0 rfl rfl 0 (by decide) (hts (.fieldLink "java/util/ArrayList" 63 "java/util/ArrayList" "modCount" "I") (List.mem_of_getElem? (i := 5) rfl)) (fun x9 h9 => u_same (hts (.sameField "java/util/ArrayList" "java/util/AbstractList" "modCount" "I") (List.mem_of_getElem? (i := 1) rfl)) x9 h9) rfl d_AL_addK_2 ?_
  refine lv_iconst (v := 1) hx hb d_AL_addK_5 (by decide) ?_
  refine lv_iadd hx hb d_AL_addK_6 ?_
  refine lv_topi (fun x1 ex1 => ?_)
  refine va_put (D := (dC, dI)) (ci := 9) (v := .int x1) (ty := .int) (C := R_AL) (T := T_AL) (N := 3) hx hb hts in_AL_addK_AL t_AL t_AL_ok n_AL hown hK hP hD hS 0 rfl rfl 0 (by decide) (hts (.fieldLink "java/util/ArrayList" 63 "java/util/ArrayList" "modCount" "I") (List.mem_of_getElem? (i := 5) rfl)) (fun x9 h9 => u_same (hts (.sameField "java/util/ArrayList" "java/util/AbstractList" "modCount" "I") (List.mem_of_getElem? (i := 1) rfl)) x9 h9) rfl (by decide +kernel) rfl rfl (Nat.le_of_ble_eq_true rfl) d_AL_addK_7 (fun H locs hP hD hS => ?_)
  have hP : va_P (dC, dI) classes [(h0, .inr (9, [.int x1, .ref ed, .int n])), (ed, .inl (cB, 10, .inr (.inr (.inr (.inr (f0))))))] H := hP
  have hD : va_D A [(h0, .inr (9, [.int x1, .ref ed, .int n])), (ed, .inl (cB, 10, .inr (.inr (.inr (.inr (f0))))))] := hD
  refine lv_aload_n hx hb d_AL_addK_10 rfl (lv_at hl 0 rfl) ?_
  refine lv_aload_n hx hb d_AL_addK_11 rfl (lv_at hl 1 rfl) ?_
  refine lv_aload_n hx hb d_AL_addK_12 rfl (lv_at hl 0 rfl) ?_
  refine va_get (D := (dC, dI)) (ci := 9) (v := .ref ed) (C := R_AL) (T := T_AL) (N := 3) hx hb hts in_AL_addK_AL hown hK hP 0 rfl rfl 1 (by decide) (hts (.fieldLink "java/util/ArrayList" 9 "java/util/ArrayList" "elementData" "[Ljava/lang/Object;") (List.mem_of_getElem? (i := 6) rfl)) (fun _ h9 => h9) rfl d_AL_addK_13 ?_
  refine lv_aload_n hx hb d_AL_addK_16 rfl (lv_at hl 0 rfl) ?_
  refine va_get (D := (dC, dI)) (ci := 9) (v := .int n) (C := R_AL) (T := T_AL) (N := 3) hx hb hts in_AL_addK_AL hown hK hP 0 rfl rfl 2 (by decide) (hts (.fieldLink "java/util/ArrayList" 48 "java/util/ArrayList" "size" "I") (List.mem_of_getElem? (i := 7) rfl)) (fun _ h9 => h9) rfl d_AL_addK_17 ?_
  have hPc : va_P (dC, dI) classes [(h0, .inr (9, [.int x1, .ref ed, .int n])), (ed, .inl (cB, 10, .inr (.inr (.inr (.inr (f0))))))] _ := hP.sub (ws' := [(h0, .inr (9, [.int x1, .ref ed, .int n])), (ed, .inl (cB, 10, .inr (.inr (.inr (.inr (f0))))))]) [0, 1] rfl
  have hKc : va_K (dC, dI) classes [(cB, .object "java/lang/Object")] s := hK.sub (tys' := [(cB, .object "java/lang/Object")]) [0] rfl
  have hDc : va_D _ [(h0, .inr (9, [.int x1, .ref ed, .int n])), (ed, .inl (cB, 10, .inr (.inr (.inr (.inr (f0))))))] := hD.sub (ws' := [(h0, .inr (9, [.int x1, .ref ed, .int n])), (ed, .inl (cB, 10, .inr (.inr (.inr (.inr (f0))))))]) [0, 1] (by decide) rfl
  have hFc := va_free (wc := [(h0, .inr (9, [.int x1, .ref ed, .int n])), (ed, .inl (cB, 10, .inr (.inr (.inr (.inr (f0))))))]) hD hS hA [0, 1] rfl
  refine va_callv (va_runV (As := [.ref e0, .ref ed, .int n]) (rest := []) ⟨hx, hb, hml, hown, hts⟩ (c_AL_add3K l dC dI h0 x1 ed n cB f0 e0 k hk hnk hfk H.size) (cwV 3 hts g_AL_addK_20 rfl rfl rfl (by decide +kernel) ⟨Nat.le_of_ble_eq_true rfl, Nat.le_of_ble_eq_true rfl⟩) ⟨fun a U g mk z => by obtain ⟨z0, z1, zP, zK, zD, zE0, zE1⟩ := z; exact ⟨z0, z1, zP, va_K.moved (u := U) (U := U.calling g mk a) (Vm.Alike.refl U.vm) zK, zD, zE0.moved (u := U) (U := U.calling g mk a) (Vm.Alike.refl U.vm), va_Nw.same rfl (u := U) (U := U.calling g mk a) rfl zE1⟩, va_recv hKc hPc (ci := 9) (q0 := 0) rfl rfl, fun U hU hW => ⟨rfl, by rw [hU], by rw [hU]; exact hPc, va_K.moved hW.alike hKc, hDc.weaken (fun _ _ _ _ => trivial), by (try dsimp only); rw [hU]; exact ((hE0.kept (fun a h1 h2 => hS.2.1 a h1 h2)).narrow hFc).moved hW.alike, va_Nw.warmC hW hE1⟩⟩ rfl rfl hl.1 rfl (lv_room (Nat.le_of_ble_eq_true rfl)) d_AL_addK_20 ⟨(Nat.le_of_ble_eq_true rfl), (Nat.le_of_ble_eq_true rfl)⟩) hS (fun q _ h => hFc q h) hFc (fun u t H1 locs ht hvm hr2 hB hz1 hk1 hS => ?_)
  obtain ⟨n3, f4, hP1, hK1, hD1, hpr2_0, hpr2_1⟩ := hB
  rw [ht] at hP1
  have hK1 := va_K.moved hvm.symm hK1
  obtain ⟨hP, hD⟩ := va_join (wr := []) (w1 := [(h0, .inr (9, [.int x1, .ref ed, .int n3])), (ed, .inl (cB, 10, .inr (.inr (.inr (.inr (f4))))))]) hP hD [0, 1] [] rfl rfl (by decide) (by decide) hk1 hFc hP1 hD1
  clear hPc hDc hKc hFc hP1 hD1 hK1 hk1
  generalize H1 = H at hP hS ⊢
  have hP : va_P (dC, dI) classes [(h0, .inr (9, [.int x1, .ref ed, .int n3])), (ed, .inl (cB, 10, .inr (.inr (.inr (.inr (f4))))))] H := hP
  have hD : va_D A [(h0, .inr (9, [.int x1, .ref ed, .int n3])), (ed, .inl (cB, 10, .inr (.inr (.inr (.inr (f4))))))] := hD
  refine W.widen (k := 0) (n := 0) (by omega) (by omega) ?_
  refine lv_iconst (v := 1) hx hb d_AL_addK_23 (by decide) ?_
  have hP9 : va_P (dC, dI) classes [(h0, .inr (9, [.int x1, .ref ed, .int n3])), (ed, .inl (cB, 10, .inr (.inr (.inr (.inr (f4))))))] H := hP.sub (ws' := [(h0, .inr (9, [.int x1, .ref ed, .int n3])), (ed, .inl (cB, 10, .inr (.inr (.inr (.inr (f4))))))]) [0, 1] rfl
  have hD9 := hD.sub (ws' := [(h0, .inr (9, [.int x1, .ref ed, .int n3])), (ed, .inl (cB, 10, .inr (.inr (.inr (.inr (f4))))))]) [0, 1] (by decide) rfl
  have hK9 := hK.sub (tys' := [(cB, .object "java/lang/Object")]) [0] rfl
  refine W.widen (k := 0) (n := 0) (by omega) (by omega) ?_
  exact W.zret hx hb hr rfl (fun t ht hW => ⟨⟨_, (), rfl, rfl, ⟨x1, ⟨n3, ⟨f4, ⟨by rw [ht]; exact hP9, va_K.moved hW.alike hK9, hD9, hpr2_0, hpr2_1⟩⟩⟩⟩⟩, hS.F ht⟩) hS.2.2 d_AL_addK_24

abbrev rm_OB_checkIndex : Room := { frames := 1, cells := 0, slots := 0, locals := 22 }
abbrev b_OB_checkIndex : ByteArray := prog_73_method_17_code
def y_OB_checkIndex : MethodName := ⟨"java/util/Objects", "checkIndex", "(II)I"⟩
def w_OB_checkIndex : List Cond := [.code ⟨"java/util/Objects", "checkIndex", "(II)I"⟩ prog_73_method_17_code 2 (some .int), .methodLink "java/util/Objects" 105 ⟨"jdk/internal/util/Preconditions", "checkIndex", "(IILjava/util/function/BiFunction;)I"⟩, .static ⟨"jdk/internal/util/Preconditions", "checkIndex", "(IILjava/util/function/BiFunction;)I"⟩, .initialized "jdk/internal/util/Preconditions", .code ⟨"jdk/internal/util/Preconditions", "checkIndex", "(IILjava/util/function/BiFunction;)I"⟩ prog_81_method_11_code 3 (some .int)]
theorem d_OB_checkIndex_0 : decode b_OB_checkIndex 0 = .ok (.iload_n 0, 1) := by decide +kernel
theorem d_OB_checkIndex_1 : decode b_OB_checkIndex 1 = .ok (.iload_n 1, 1) := by decide +kernel
theorem d_OB_checkIndex_2 : decode b_OB_checkIndex 2 = .ok (.aconst_null, 1) := by decide +kernel
theorem d_OB_checkIndex_3 : decode b_OB_checkIndex 3 = .ok (.invokestatic 105, 3) := by decide +kernel
theorem d_OB_checkIndex_6 : decode b_OB_checkIndex 6 = .ok (.ireturn, 1) := by decide +kernel
set_option maxRecDepth 20000 in
theorem g_OB_checkIndex_3 : GoodIn w_OB_checkIndex (va_wsS "java/util/Objects" 105 ⟨"jdk/internal/util/Preconditions", "checkIndex", "(IILjava/util/function/BiFunction;)I"⟩ w_PC_checkN) := goodIn_r _ [1, 2, 3, 4] rfl (by decide +kernel)
set_option maxHeartbeats 4000000 in
set_option maxRecDepth 100000 in
theorem c_OB_checkIndex (l : Launch)  : Met l y_OB_checkIndex w_OB_checkIndex rm_OB_checkIndex (va_Pc [.int 0, .int 1] (fun U => True)) (vp_Si (fun r => r = 0)) 0 0 (fun _ => False) := by
  refine Met.ofW (cc := b_OB_checkIndex) (maxL := 2) (ret := (some .int)) (by decide) rfl ?_
  intro p e s m args below meth c s₁ B hml hv
  obtain ⟨rfl, -⟩ := hv
  have hx := B.exec
  have hb := B.bytes
  have hr := B.returns
  have hts := atoms_spec (ws := w_OB_checkIndex) B.pre
  have hown : s.vm.findClass "java/util/Objects" = some m.cls := findClass_of_methodNamed B.named
  have hlocks := B.notSynchronized
  have hl := lv_entry ([.int 0, .int 1]) (n := 2) (Nat.le_of_ble_eq_true rfl)
  rw [lg_entry_eq]
  generalize (lg_sl ([.int 0, .int 1]) ++ List.replicate (2 - (lg_sl ([.int 0, .int 1])).length) Slot.unset).toArray = ls at hl ⊢
  have hl : lv_has ls 2 [(0, .int 0), (1, .int 1)] := hl
  refine lv_iload_n hx hb d_OB_checkIndex_0 rfl (lv_at hl 0 rfl) ?_
  refine lv_iload_n hx hb d_OB_checkIndex_1 rfl (lv_at hl 1 rfl) ?_
  refine lv_null hx hb d_OB_checkIndex_2 ?_
  refine vp_callSi (W.runS (As := [.int 0, .int 1, .null]) (rest := []) ⟨hx, hb, hml, hown, hts⟩ (c_PC_checkN l 0 1 (by decide) (by decide)) (va_cwS 3 hts g_OB_checkIndex_3 rfl rfl rfl (by decide +kernel) ⟨Nat.le_of_ble_eq_true rfl, Nat.le_of_ble_eq_true rfl⟩) ⟨fun a U g mk z => z, fun U hU hW => ⟨rfl, trivial⟩⟩ rfl rfl hl.1 rfl (lv_room (Nat.le_of_ble_eq_true rfl)) d_OB_checkIndex_3 ⟨(Nat.le_of_ble_eq_true rfl), (Nat.le_of_ble_eq_true rfl)⟩) (fun r1 hr1 => ?_)
  replace hr1 := hr1.symm; subst hr1
  exact W.iret hx hb hr (fun t ht hW => ⟨_, rfl, rfl, ht⟩) (fun _ h => by cases h) d_OB_checkIndex_6

abbrev rm_AL_elementData : Room := { frames := 0, cells := 0, slots := 0, locals := 0 }
abbrev b_AL_elementData : ByteArray := prog_50_method_18_code
def y_AL_elementData : MethodName := ⟨"java/util/ArrayList", "elementData", "(I)Ljava/lang/Object;"⟩
def w_AL_elementData : List Cond := [.code ⟨"java/util/ArrayList", "elementData", "(I)Ljava/lang/Object;"⟩ prog_50_method_18_code 2 (some (.object "java/lang/Object")), .lays "java/util/ArrayList" "java/util/AbstractList" "modCount" "I", .lays "java/util/ArrayList" "java/util/ArrayList" "elementData" "[Ljava/lang/Object;", .lays "java/util/ArrayList" "java/util/ArrayList" "size" "I", .fieldLink "java/util/ArrayList" 9 "java/util/ArrayList" "elementData" "[Ljava/lang/Object;"]
theorem d_AL_elementData_0 : decode b_AL_elementData 0 = .ok (.aload_n 0, 1) := by decide +kernel
theorem d_AL_elementData_1 : decode b_AL_elementData 1 = .ok (.getfield 9, 3) := by decide +kernel
theorem d_AL_elementData_4 : decode b_AL_elementData 4 = .ok (.iload_n 1, 1) := by decide +kernel
theorem d_AL_elementData_5 : decode b_AL_elementData 5 = .ok (.aaload, 1) := by decide +kernel
theorem d_AL_elementData_6 : decode b_AL_elementData 6 = .ok (.areturn, 1) := by decide +kernel
theorem in_AL_elementData_AL : ∀ v ∈ u_ws R_AL T_AL 3, v ∈ w_AL_elementData := by decide +kernel
set_option maxHeartbeats 4000000 in
set_option maxRecDepth 100000 in
theorem c_AL_elementData (l : Launch) (dC : Nat → ClassId) (dI : Nat → Nat → Nat) (h0 : Nat) (md : Int32) (ed : Nat) (cB : ClassId) (f0 : Nat → Option Nat) (e0 : Nat) (hf : f0 0 = some e0) : Met l y_AL_elementData w_AL_elementData rm_AL_elementData (va_Pc [.ref h0, .int 0] (fun U => va_P (dC, dI) classes [(h0, .inr (9, [.int md, .ref ed, .int 1])), (ed, .inl (cB, 10, .inr (.inr (.inr (.inr (f0))))))] U.heap ∧ va_K (dC, dI) classes [(cB, .object "java/lang/Object")] U)) (va_Sr (fun r => r = e0) Value.ref) 0 0 (fun _ => False) := by
  refine Met.ofW (cc := b_AL_elementData) (maxL := 2) (ret := (some (.object "java/lang/Object"))) (by decide) rfl ?_
  intro p e s m args below meth c s₁ B hml hv
  obtain ⟨rfl, hP, hK⟩ := hv
  have hx := B.exec
  have hb := B.bytes
  have hr := B.returns
  have hts := atoms_spec (ws := w_AL_elementData) B.pre
  have hown : s.vm.findClass "java/util/ArrayList" = some m.cls := findClass_of_methodNamed B.named
  have hlocks := B.notSynchronized
  have hP : va_P (dC, dI) classes [(h0, .inr (9, [.int md, .ref ed, .int 1])), (ed, .inl (cB, 10, .inr (.inr (.inr (.inr (f0))))))] s.heap := hP
  have hl := lv_entry ([.ref h0, .int 0]) (n := 2) (Nat.le_of_ble_eq_true rfl)
  rw [lg_entry_eq]
  generalize (lg_sl ([.ref h0, .int 0]) ++ List.replicate (2 - (lg_sl ([.ref h0, .int 0])).length) Slot.unset).toArray = ls at hl ⊢
  have hl : lv_has ls 2 [(0, .ref h0), (1, .int 0)] := hl
  refine lv_aload_n hx hb d_AL_elementData_0 rfl (lv_at hl 0 rfl) ?_
  refine va_get (D := (dC, dI)) (ci := 9) (v := .ref ed) (C := R_AL) (T := T_AL) (N := 3) hx hb hts in_AL_elementData_AL hown hK hP 0 rfl rfl 1 (by decide) (hts (.fieldLink "java/util/ArrayList" 9 "java/util/ArrayList" "elementData" "[Ljava/lang/Object;") (List.mem_of_getElem? (i := 4) rfl)) (fun _ h9 => h9) rfl d_AL_elementData_1 ?_
  refine lv_iload_n hx hb d_AL_elementData_4 rfl (lv_at hl 1 rfl) ?_
  refine va_aldq hx hb hK hP 1 0 rfl rfl (by unfold vp_in; decide) d_AL_elementData_5 ?_
  have hav : f0 (0 : Int32).toNatClampNeg = some e0 := by rw [show (0 : Int32).toNatClampNeg = 0 by decide, hf]
  rw [hav]
  refine W.eq (g2 := F0 m 6 ls [.ref e0]) rfl ?_
  exact W.aret hx hb hr (Or.inl ⟨_, rfl⟩) (Or.inr ⟨_, rfl⟩) (fun t ht hW => ⟨_, rfl, rfl, ht⟩) (fun _ h => by cases h) d_AL_elementData_6

abbrev rm_AL_get : Room := { frames := 2, cells := 0, slots := 0, locals := 43 }
abbrev b_AL_get : ByteArray := prog_50_method_20_code
def y_AL_get : MethodName := ⟨"java/util/ArrayList", "get", "(I)Ljava/lang/Object;"⟩
def w_AL_get : List Cond := [.code ⟨"java/util/ArrayList", "get", "(I)Ljava/lang/Object;"⟩ prog_50_method_20_code 2 (some (.object "java/lang/Object")), .lays "java/util/ArrayList" "java/util/AbstractList" "modCount" "I", .lays "java/util/ArrayList" "java/util/ArrayList" "elementData" "[Ljava/lang/Object;", .lays "java/util/ArrayList" "java/util/ArrayList" "size" "I", .fieldLink "java/util/ArrayList" 48 "java/util/ArrayList" "size" "I", .methodLink "java/util/ArrayList" 118 ⟨"java/util/Objects", "checkIndex", "(II)I"⟩, .static ⟨"java/util/Objects", "checkIndex", "(II)I"⟩, .initialized "java/util/Objects", .code ⟨"java/util/Objects", "checkIndex", "(II)I"⟩ prog_73_method_17_code 2 (some .int), .methodLink "java/util/Objects" 105 ⟨"jdk/internal/util/Preconditions", "checkIndex", "(IILjava/util/function/BiFunction;)I"⟩, .static ⟨"jdk/internal/util/Preconditions", "checkIndex", "(IILjava/util/function/BiFunction;)I"⟩, .initialized "jdk/internal/util/Preconditions", .code ⟨"jdk/internal/util/Preconditions", "checkIndex", "(IILjava/util/function/BiFunction;)I"⟩ prog_81_method_11_code 3 (some .int), .methodLink "java/util/ArrayList" 123 ⟨"java/util/ArrayList", "elementData", "(I)Ljava/lang/Object;"⟩, .instanceMethod ⟨"java/util/ArrayList", "elementData", "(I)Ljava/lang/Object;"⟩, .selects "java/util/ArrayList" ⟨"java/util/ArrayList", "elementData", "(I)Ljava/lang/Object;"⟩ ⟨"java/util/ArrayList", "elementData", "(I)Ljava/lang/Object;"⟩, .initialized "java/util/ArrayList", .code ⟨"java/util/ArrayList", "elementData", "(I)Ljava/lang/Object;"⟩ prog_50_method_18_code 2 (some (.object "java/lang/Object")), .fieldLink "java/util/ArrayList" 9 "java/util/ArrayList" "elementData" "[Ljava/lang/Object;"]
theorem d_AL_get_0 : decode b_AL_get 0 = .ok (.iload_n 1, 1) := by decide +kernel
theorem d_AL_get_1 : decode b_AL_get 1 = .ok (.aload_n 0, 1) := by decide +kernel
theorem d_AL_get_2 : decode b_AL_get 2 = .ok (.getfield 48, 3) := by decide +kernel
theorem d_AL_get_5 : decode b_AL_get 5 = .ok (.invokestatic 118, 3) := by decide +kernel
theorem d_AL_get_8 : decode b_AL_get 8 = .ok (.pop, 1) := by decide +kernel
theorem d_AL_get_9 : decode b_AL_get 9 = .ok (.aload_n 0, 1) := by decide +kernel
theorem d_AL_get_10 : decode b_AL_get 10 = .ok (.iload_n 1, 1) := by decide +kernel
theorem d_AL_get_11 : decode b_AL_get 11 = .ok (.invokevirtual 123, 3) := by decide +kernel
theorem d_AL_get_14 : decode b_AL_get 14 = .ok (.areturn, 1) := by decide +kernel
theorem in_AL_get_AL : ∀ v ∈ u_ws R_AL T_AL 3, v ∈ w_AL_get := by decide +kernel
set_option maxRecDepth 20000 in
theorem g_AL_get_5 : GoodIn w_AL_get (va_wsS "java/util/ArrayList" 118 ⟨"java/util/Objects", "checkIndex", "(II)I"⟩ w_OB_checkIndex) := goodIn_r _ [5, 6, 7, 8, 9, 10, 11, 12] rfl (by decide +kernel)
set_option maxRecDepth 20000 in
theorem g_AL_get_11 : GoodIn w_AL_get (wsV "java/util/ArrayList" 123 "java/util/ArrayList" ⟨"java/util/ArrayList", "elementData", "(I)Ljava/lang/Object;"⟩ w_AL_elementData) := goodIn_r _ [13, 14, 15, 16, 17, 1, 2, 3, 18] rfl (by decide +kernel)
set_option maxHeartbeats 4000000 in
set_option maxRecDepth 100000 in
theorem c_AL_get (l : Launch) (dC : Nat → ClassId) (dI : Nat → Nat → Nat) (h0 : Nat) (md : Int32) (ed : Nat) (cB : ClassId) (f0 : Nat → Option Nat) (e0 : Nat) (hf : f0 0 = some e0) : Met l y_AL_get w_AL_get rm_AL_get (va_Pc [.ref h0, .int 0] (fun U => va_P (dC, dI) classes [(h0, .inr (9, [.int md, .ref ed, .int 1])), (ed, .inl (cB, 10, .inr (.inr (.inr (.inr (f0))))))] U.heap ∧ va_K (dC, dI) classes [(cB, .object "java/lang/Object")] U)) (va_Sr (fun r => r = e0) Value.ref) 0 0 (fun _ => False) := by
  refine Met.ofW (cc := b_AL_get) (maxL := 2) (ret := (some (.object "java/lang/Object"))) (by decide) rfl ?_
  intro p e s m args below meth c s₁ B hml hv
  obtain ⟨rfl, hP, hK⟩ := hv
  have hx := B.exec
  have hb := B.bytes
  have hr := B.returns
  have hts := atoms_spec (ws := w_AL_get) B.pre
  have hown : s.vm.findClass "java/util/ArrayList" = some m.cls := findClass_of_methodNamed B.named
  have hlocks := B.notSynchronized
  have hP : va_P (dC, dI) classes [(h0, .inr (9, [.int md, .ref ed, .int 1])), (ed, .inl (cB, 10, .inr (.inr (.inr (.inr (f0))))))] s.heap := hP
  have hl := lv_entry ([.ref h0, .int 0]) (n := 2) (Nat.le_of_ble_eq_true rfl)
  rw [lg_entry_eq]
  generalize (lg_sl ([.ref h0, .int 0]) ++ List.replicate (2 - (lg_sl ([.ref h0, .int 0])).length) Slot.unset).toArray = ls at hl ⊢
  have hl : lv_has ls 2 [(0, .ref h0), (1, .int 0)] := hl
  refine lv_iload_n hx hb d_AL_get_0 rfl (lv_at hl 1 rfl) ?_
  refine lv_aload_n hx hb d_AL_get_1 rfl (lv_at hl 0 rfl) ?_
  refine va_get (D := (dC, dI)) (ci := 9) (v := .int 1) (C := R_AL) (T := T_AL) (N := 3) hx hb hts in_AL_get_AL hown hK hP 0 rfl rfl 2 (by decide) (hts (.fieldLink "java/util/ArrayList" 48 "java/util/ArrayList" "size" "I") (List.mem_of_getElem? (i := 4) rfl)) (fun _ h9 => h9) rfl d_AL_get_2 ?_
  refine vp_callSi (W.runS (As := [.int 0, .int 1]) (rest := []) ⟨hx, hb, hml, hown, hts⟩ (c_OB_checkIndex l ) (va_cwS 2 hts g_AL_get_5 rfl rfl rfl (by decide +kernel) ⟨Nat.le_of_ble_eq_true rfl, Nat.le_of_ble_eq_true rfl⟩) ⟨fun a U g mk z => z, fun U hU hW => ⟨rfl, trivial⟩⟩ rfl rfl hl.1 rfl (lv_room (Nat.le_of_ble_eq_true rfl)) d_AL_get_5 ⟨(Nat.le_of_ble_eq_true rfl), (Nat.le_of_ble_eq_true rfl)⟩) (fun r1 hr1 => ?_)
  replace hr1 := hr1.symm; subst hr1
  refine lv_pop hx hb d_AL_get_8 rfl ?_
  refine lv_aload_n hx hb d_AL_get_9 rfl (lv_at hl 0 rfl) ?_
  refine lv_iload_n hx hb d_AL_get_10 rfl (lv_at hl 1 rfl) ?_
  have hPc : va_P (dC, dI) classes [(h0, .inr (9, [.int md, .ref ed, .int 1])), (ed, .inl (cB, 10, .inr (.inr (.inr (.inr (f0))))))] _ := hP.sub (ws' := [(h0, .inr (9, [.int md, .ref ed, .int 1])), (ed, .inl (cB, 10, .inr (.inr (.inr (.inr (f0))))))]) [0, 1] rfl
  have hKc : va_K (dC, dI) classes [(cB, .object "java/lang/Object")] s := hK.sub (tys' := [(cB, .object "java/lang/Object")]) [0] rfl
  refine va_csr (W.runV (As := [.int 0]) (rest := []) ⟨hx, hb, hml, hown, hts⟩ (c_AL_elementData l dC dI h0 md ed cB f0 e0 hf) (cwV 1 hts g_AL_get_11 rfl rfl rfl (by decide +kernel) ⟨Nat.le_of_ble_eq_true rfl, Nat.le_of_ble_eq_true rfl⟩) ⟨fun a U g mk z => by obtain ⟨z0, zP, zK⟩ := z; exact ⟨z0, zP, va_K.moved (u := U) (U := U.calling g mk a) (Vm.Alike.refl U.vm) zK⟩, va_recv hKc hPc (ci := 9) (q0 := 0) rfl rfl, fun U hU hW => ⟨rfl, by rw [hU]; exact hPc, va_K.moved hW.alike hKc⟩⟩ rfl rfl hl.1 rfl (lv_room (Nat.le_of_ble_eq_true rfl)) d_AL_get_11 ⟨(Nat.le_of_ble_eq_true rfl), (Nat.le_of_ble_eq_true rfl)⟩) (fun r2 hr2 => ?_)
  replace hr2 := hr2.symm; subst hr2
  exact W.aret hx hb hr (Or.inl ⟨_, rfl⟩) (Or.inr ⟨_, rfl⟩) (fun t ht hW => ⟨_, rfl, rfl, ht⟩) (fun _ h => by cases h) d_AL_get_14

abbrev rm_IT_init : Room := { frames := 1, cells := 0, slots := 0, locals := 12 }
abbrev b_IT_init : ByteArray := prog_51_method_1_code
def y_IT_init : MethodName := ⟨"java/util/ArrayList$Itr", "<init>", "(Ljava/util/ArrayList;)V"⟩
def w_IT_init : List Cond := [.code ⟨"java/util/ArrayList$Itr", "<init>", "(Ljava/util/ArrayList;)V"⟩ prog_51_method_1_code 2 none, .lays "java/util/ArrayList$Itr" "java/util/ArrayList$Itr" "cursor" "I", .lays "java/util/ArrayList$Itr" "java/util/ArrayList$Itr" "lastRet" "I", .lays "java/util/ArrayList$Itr" "java/util/ArrayList$Itr" "expectedModCount" "I", .laysFinal "java/util/ArrayList$Itr" "java/util/ArrayList$Itr" "this$0" "Ljava/util/ArrayList;", .fieldLink "java/util/ArrayList$Itr" 1 "java/util/ArrayList$Itr" "this$0" "Ljava/util/ArrayList;", .methodLink "java/util/ArrayList$Itr" 7 ⟨"java/lang/Object", "<init>", "()V"⟩, .instanceMethod ⟨"java/lang/Object", "<init>", "()V"⟩, .code ⟨"java/lang/Object", "<init>", "()V"⟩ object_method_1_code 1 none, .fieldLink "java/util/ArrayList$Itr" 13 "java/util/ArrayList$Itr" "lastRet" "I", .sameField "java/util/ArrayList" "java/util/AbstractList" "modCount" "I", .lays "java/util/ArrayList" "java/util/AbstractList" "modCount" "I", .lays "java/util/ArrayList" "java/util/ArrayList" "elementData" "[Ljava/lang/Object;", .lays "java/util/ArrayList" "java/util/ArrayList" "size" "I", .fieldLink "java/util/ArrayList$Itr" 17 "java/util/ArrayList" "modCount" "I", .fieldLink "java/util/ArrayList$Itr" 22 "java/util/ArrayList$Itr" "expectedModCount" "I"]
theorem d_IT_init_0 : decode b_IT_init 0 = .ok (.aload_n 0, 1) := by decide +kernel
theorem d_IT_init_1 : decode b_IT_init 1 = .ok (.aload_n 1, 1) := by decide +kernel
theorem d_IT_init_2 : decode b_IT_init 2 = .ok (.putfield 1, 3) := by decide +kernel
theorem d_IT_init_5 : decode b_IT_init 5 = .ok (.aload_n 0, 1) := by decide +kernel
theorem d_IT_init_6 : decode b_IT_init 6 = .ok (.invokespecial 7, 3) := by decide +kernel
theorem d_IT_init_9 : decode b_IT_init 9 = .ok (.aload_n 0, 1) := by decide +kernel
theorem d_IT_init_10 : decode b_IT_init 10 = .ok (.iconst (-1), 1) := by decide +kernel
theorem d_IT_init_11 : decode b_IT_init 11 = .ok (.putfield 13, 3) := by decide +kernel
theorem d_IT_init_14 : decode b_IT_init 14 = .ok (.aload_n 0, 1) := by decide +kernel
theorem d_IT_init_15 : decode b_IT_init 15 = .ok (.aload_n 0, 1) := by decide +kernel
theorem d_IT_init_16 : decode b_IT_init 16 = .ok (.getfield 1, 3) := by decide +kernel
theorem d_IT_init_19 : decode b_IT_init 19 = .ok (.getfield 17, 3) := by decide +kernel
theorem d_IT_init_22 : decode b_IT_init 22 = .ok (.putfield 22, 3) := by decide +kernel
theorem d_IT_init_25 : decode b_IT_init 25 = .ok (.return_, 1) := by decide +kernel
theorem in_IT_init_AL : ∀ v ∈ u_ws R_AL T_AL 3, v ∈ w_IT_init := by decide +kernel
theorem in_IT_init_IT : ∀ v ∈ u_ws R_IT T_IT 4, v ∈ w_IT_init := by decide +kernel
set_option maxHeartbeats 4000000 in
set_option maxRecDepth 100000 in
theorem c_IT_init (l : Launch) (dC : Nat → ClassId) (dI : Nat → Nat → Nat) (h1 : Nat) (h0 : Nat) (md : Int32) (ed : Nat) (n : Int32) (sz : Nat) : Met l y_IT_init w_IT_init rm_IT_init (va_Pc [.ref h1, .ref h0] (fun U => U.heap.size = sz ∧ va_P (dC, dI) classes [(h1, .inr (10, [.int 0, .int 0, .int 0, .null])), (h0, .inr (9, [.int md, .ref ed, .int n]))] U.heap ∧ va_K (dC, dI) classes [] U ∧ va_D (fun _ => True) [(h1, .inr (10, [.int 0, .int 0, .int 0, .null])), (h0, .inr (9, [.int md, .ref ed, .int n]))])) (va_Qv (fun (_ : Unit) => True) (fun _ t => va_P (dC, dI) classes [(h1, .inr (10, [.int 0, .int (-1), .int md, .ref h0])), (h0, .inr (9, [.int md, .ref ed, .int n]))] t.heap ∧ va_K (dC, dI) classes [] t ∧ va_D (va_A [(h1, .inr (10, [.int 0, .int 0, .int 0, .null])), (h0, .inr (9, [.int md, .ref ed, .int n]))] sz) [(h1, .inr (10, [.int 0, .int (-1), .int md, .ref h0])), (h0, .inr (9, [.int md, .ref ed, .int n]))]) (va_A [(h1, .inr (10, [.int 0, .int 0, .int 0, .null])), (h0, .inr (9, [.int md, .ref ed, .int n]))] sz)) 0 0 (va_A [(h1, .inr (10, [.int 0, .int 0, .int 0, .null])), (h0, .inr (9, [.int md, .ref ed, .int n]))] sz) := by
  refine Met.ofW (cc := b_IT_init) (maxL := 2) (ret := none) (by decide) rfl ?_
  intro p e s m args below meth c s₁ B hml hv
  obtain ⟨rfl, hsz, hP, hK, hD0⟩ := hv
  have hx := B.exec
  have hb := B.bytes
  have hr := B.returns
  have hts := atoms_spec (ws := w_IT_init) B.pre
  have hown : s.vm.findClass "java/util/ArrayList$Itr" = some m.cls := findClass_of_methodNamed B.named
  have hlocks := B.notSynchronized
  have hin : meth.name = "<init>" := (name_of_methodNamed B.named B.method).1
  subst hsz
  have hD := hD0.self (sz := s.heap.size)
  generalize hAe : va_A [(h1, .inr (10, [.int 0, .int 0, .int 0, .null])), (h0, .inr (9, [.int md, .ref ed, .int n]))] s.heap.size = A at hD ⊢
  have hA : ∀ q : Nat, s.heap.size ≤ q → A q := fun q h => by rw [← hAe]; exact Or.inr h
  have hS : va_S A s.heap s.heap [] := va_S.rf
  have hP : va_P (dC, dI) classes [(h1, .inr (10, [.int 0, .int 0, .int 0, .null])), (h0, .inr (9, [.int md, .ref ed, .int n]))] s.heap := hP
  have hl := lv_entry ([.ref h1, .ref h0]) (n := 2) (Nat.le_of_ble_eq_true rfl)
  rw [lg_entry_eq]
  generalize (lg_sl ([.ref h1, .ref h0]) ++ List.replicate (2 - (lg_sl ([.ref h1, .ref h0])).length) Slot.unset).toArray = ls at hl ⊢
  have hl : lv_has ls 2 [(0, .ref h1), (1, .ref h0)] := hl
  refine lv_aload_n hx hb d_IT_init_0 rfl (lv_at hl 0 rfl) ?_
  refine lv_aload_n hx hb d_IT_init_1 rfl (lv_at hl 1 rfl) ?_
  refine va_putF (D := (dC, dI)) (ci := 10) (v := .ref h0) (ty := .object "java/util/ArrayList") (C := R_IT) (T := T_IT) (N := 4) hx hb hts in_IT_init_IT t_IT t_IT_ok n_IT hown hK hP hD hS 0 rfl rfl 3 (by decide) (hts (.fieldLink "java/util/ArrayList$Itr" 1 "java/util/ArrayList$Itr" "this$0" "Ljava/util/ArrayList;") (List.mem_of_getElem? (i := 5) rfl)) (fun _ h9 => h9) rfl hin rfl (by decide +kernel) rfl rfl (Nat.le_of_ble_eq_true rfl) d_IT_init_2 (fun H locs hP hD hS => ?_)
  have hP : va_P (dC, dI) classes [(h1, .inr (10, [.int 0, .int 0, .int 0, .ref h0])), (h0, .inr (9, [.int md, .ref ed, .int n]))] H := hP
  have hD : va_D A [(h1, .inr (10, [.int 0, .int 0, .int 0, .ref h0])), (h0, .inr (9, [.int md, .ref ed, .int n]))] := hD
  refine lv_aload_n hx hb d_IT_init_5 rfl (lv_at hl 0 rfl) ?_
  refine W.objInit hx hb hown (hts (.methodLink "java/util/ArrayList$Itr" 7 ⟨"java/lang/Object", "<init>", "()V"⟩) (List.mem_of_getElem? (i := 6) rfl)) (hts (.instanceMethod ⟨"java/lang/Object", "<init>", "()V"⟩) (List.mem_of_getElem? (i := 7) rfl)) (hts (.code ⟨"java/lang/Object", "<init>", "()V"⟩ object_method_1_code 1 none) (List.mem_of_getElem? (i := 8) rfl)) rfl (by rw [hml]; exact hl.1) rfl d_IT_init_6 (Nat.le_of_ble_eq_true rfl) (Nat.le_of_ble_eq_true rfl) ?_
  refine W.eq (g2 := F0 m 9 ls []) rfl ?_
  refine lv_aload_n hx hb d_IT_init_9 rfl (lv_at hl 0 rfl) ?_
  refine lv_iconst (v := (-1)) hx hb d_IT_init_10 (by decide) ?_
  refine va_put (D := (dC, dI)) (ci := 10) (v := .int (-1)) (ty := .int) (C := R_IT) (T := T_IT) (N := 4) hx hb hts in_IT_init_IT t_IT t_IT_ok n_IT hown hK hP hD hS 0 rfl rfl 1 (by decide) (hts (.fieldLink "java/util/ArrayList$Itr" 13 "java/util/ArrayList$Itr" "lastRet" "I") (List.mem_of_getElem? (i := 9) rfl)) (fun _ h9 => h9) rfl (by decide +kernel) rfl rfl (Nat.le_of_ble_eq_true rfl) d_IT_init_11 (fun H locs hP hD hS => ?_)
  have hP : va_P (dC, dI) classes [(h1, .inr (10, [.int 0, .int (-1), .int 0, .ref h0])), (h0, .inr (9, [.int md, .ref ed, .int n]))] H := hP
  have hD : va_D A [(h1, .inr (10, [.int 0, .int (-1), .int 0, .ref h0])), (h0, .inr (9, [.int md, .ref ed, .int n]))] := hD
  refine lv_aload_n hx hb d_IT_init_14 rfl (lv_at hl 0 rfl) ?_
  refine lv_aload_n hx hb d_IT_init_15 rfl (lv_at hl 0 rfl) ?_
  refine va_get (D := (dC, dI)) (ci := 10) (v := .ref h0) (C := R_IT) (T := T_IT) (N := 4) hx hb hts in_IT_init_IT hown hK hP 0 rfl rfl 3 (by decide) (hts (.fieldLink "java/util/ArrayList$Itr" 1 "java/util/ArrayList$Itr" "this$0" "Ljava/util/ArrayList;") (List.mem_of_getElem? (i := 5) rfl)) (fun _ h9 => h9) rfl d_IT_init_16 ?_
  refine va_get (D := (dC, dI)) (ci := 9) (v := .int md) (C := R_AL) (T := T_AL) (N := 3) hx hb hts in_IT_init_AL hown hK hP 1 rfl rfl 0 (by decide) (hts (.fieldLink "java/util/ArrayList$Itr" 17 "java/util/ArrayList" "modCount" "I") (List.mem_of_getElem? (i := 14) rfl)) (fun x9 h9 => u_same (hts (.sameField "java/util/ArrayList" "java/util/AbstractList" "modCount" "I") (List.mem_of_getElem? (i := 10) rfl)) x9 h9) rfl d_IT_init_19 ?_
  refine va_put (D := (dC, dI)) (ci := 10) (v := .int md) (ty := .int) (C := R_IT) (T := T_IT) (N := 4) hx hb hts in_IT_init_IT t_IT t_IT_ok n_IT hown hK hP hD hS 0 rfl rfl 2 (by decide) (hts (.fieldLink "java/util/ArrayList$Itr" 22 "java/util/ArrayList$Itr" "expectedModCount" "I") (List.mem_of_getElem? (i := 15) rfl)) (fun _ h9 => h9) rfl (by decide +kernel) rfl rfl (Nat.le_of_ble_eq_true rfl) d_IT_init_22 (fun H locs hP hD hS => ?_)
  have hP : va_P (dC, dI) classes [(h1, .inr (10, [.int 0, .int (-1), .int md, .ref h0])), (h0, .inr (9, [.int md, .ref ed, .int n]))] H := hP
  have hD : va_D A [(h1, .inr (10, [.int 0, .int (-1), .int md, .ref h0])), (h0, .inr (9, [.int md, .ref ed, .int n]))] := hD
  have hP9 : va_P (dC, dI) classes [(h1, .inr (10, [.int 0, .int (-1), .int md, .ref h0])), (h0, .inr (9, [.int md, .ref ed, .int n]))] H := hP.sub (ws' := [(h1, .inr (10, [.int 0, .int (-1), .int md, .ref h0])), (h0, .inr (9, [.int md, .ref ed, .int n]))]) [0, 1] rfl
  have hD9 := hD.sub (ws' := [(h1, .inr (10, [.int 0, .int (-1), .int md, .ref h0])), (h0, .inr (9, [.int md, .ref ed, .int n]))]) [0, 1] (by decide) rfl
  have hK9 := hK.sub (tys' := []) [] rfl
  refine W.widen (k := 0) (n := 0) (by omega) (by omega) ?_
  exact W.vret hx hb hr (fun t ht hW => ⟨⟨(), rfl, trivial, ⟨by rw [ht]; exact hP9, va_K.moved hW.alike hK9, hD9⟩⟩, hS.F ht⟩) hS.2.2 d_IT_init_25

abbrev rm_AL_iterator : Room := { frames := 2, cells := 1, slots := 4, locals := 33 }
abbrev b_AL_iterator : ByteArray := prog_50_method_55_code
def y_AL_iterator : MethodName := ⟨"java/util/ArrayList", "iterator", "()Ljava/util/Iterator;"⟩
def w_AL_iterator : List Cond := [.code ⟨"java/util/ArrayList", "iterator", "()Ljava/util/Iterator;"⟩ prog_50_method_55_code 1 (some (.object "java/util/Iterator")), .lays "java/util/ArrayList$Itr" "java/util/ArrayList$Itr" "cursor" "I", .lays "java/util/ArrayList$Itr" "java/util/ArrayList$Itr" "lastRet" "I", .lays "java/util/ArrayList$Itr" "java/util/ArrayList$Itr" "expectedModCount" "I", .laysFinal "java/util/ArrayList$Itr" "java/util/ArrayList$Itr" "this$0" "Ljava/util/ArrayList;", .classLink "java/util/ArrayList" 267 "java/util/ArrayList$Itr", .instantiable "java/util/ArrayList$Itr" 4, .initialized "java/util/ArrayList$Itr", .code ⟨"java/util/ArrayList$Itr", "<init>", "(Ljava/util/ArrayList;)V"⟩ prog_51_method_1_code 2 none, .fieldLink "java/util/ArrayList$Itr" 1 "java/util/ArrayList$Itr" "this$0" "Ljava/util/ArrayList;", .methodLink "java/util/ArrayList$Itr" 7 ⟨"java/lang/Object", "<init>", "()V"⟩, .instanceMethod ⟨"java/lang/Object", "<init>", "()V"⟩, .code ⟨"java/lang/Object", "<init>", "()V"⟩ object_method_1_code 1 none, .fieldLink "java/util/ArrayList$Itr" 13 "java/util/ArrayList$Itr" "lastRet" "I", .sameField "java/util/ArrayList" "java/util/AbstractList" "modCount" "I", .lays "java/util/ArrayList" "java/util/AbstractList" "modCount" "I", .lays "java/util/ArrayList" "java/util/ArrayList" "elementData" "[Ljava/lang/Object;", .lays "java/util/ArrayList" "java/util/ArrayList" "size" "I", .fieldLink "java/util/ArrayList$Itr" 17 "java/util/ArrayList" "modCount" "I", .fieldLink "java/util/ArrayList$Itr" 22 "java/util/ArrayList$Itr" "expectedModCount" "I", .methodLink "java/util/ArrayList" 269 ⟨"java/util/ArrayList$Itr", "<init>", "(Ljava/util/ArrayList;)V"⟩, .instanceMethod ⟨"java/util/ArrayList$Itr", "<init>", "(Ljava/util/ArrayList;)V"⟩]
theorem d_AL_iterator_0 : decode b_AL_iterator 0 = .ok (.new 267, 3) := by decide +kernel
theorem d_AL_iterator_3 : decode b_AL_iterator 3 = .ok (.dup, 1) := by decide +kernel
theorem d_AL_iterator_4 : decode b_AL_iterator 4 = .ok (.aload_n 0, 1) := by decide +kernel
theorem d_AL_iterator_5 : decode b_AL_iterator 5 = .ok (.invokespecial 269, 3) := by decide +kernel
theorem d_AL_iterator_8 : decode b_AL_iterator 8 = .ok (.areturn, 1) := by decide +kernel
theorem in_AL_iterator_IT : ∀ v ∈ u_ws R_IT T_IT 4, v ∈ w_AL_iterator := by decide +kernel
set_option maxRecDepth 20000 in
theorem g_AL_iterator_5 : GoodIn w_AL_iterator (w_IT_init) := goodIn_r _ [8, 1, 2, 3, 4, 9, 10, 11, 12, 13, 14, 15, 16, 17, 18, 19] rfl (by decide +kernel)
set_option maxHeartbeats 4000000 in
set_option maxRecDepth 100000 in
theorem c_AL_iterator (l : Launch) (dC : Nat → ClassId) (dI : Nat → Nat → Nat) (h0 : Nat) (md : Int32) (ed : Nat) (n : Int32) (sz : Nat) : Met l y_AL_iterator w_AL_iterator rm_AL_iterator (va_Pc [.ref h0] (fun U => U.heap.size = sz ∧ va_P (dC, dI) classes [(h0, .inr (9, [.int md, .ref ed, .int n]))] U.heap ∧ va_K (dC, dI) classes [] U ∧ va_D (fun _ => True) [(h0, .inr (9, [.int md, .ref ed, .int n]))])) (va_Qr (fun (_ : Unit) => True) (fun _ rr t => va_P (dC, dI) classes [(rr, .inr (10, [.int 0, .int (-1), .int md, .ref h0])), (h0, .inr (9, [.int md, .ref ed, .int n]))] t.heap ∧ va_K (dC, dI) classes [] t ∧ va_D (va_A [(h0, .inr (9, [.int md, .ref ed, .int n]))] sz) [(rr, .inr (10, [.int 0, .int (-1), .int md, .ref h0])), (h0, .inr (9, [.int md, .ref ed, .int n]))] ∧ sz + 1 ≤ t.heap.size) (va_A [(h0, .inr (9, [.int md, .ref ed, .int n]))] sz)) 1 4 (va_A [(h0, .inr (9, [.int md, .ref ed, .int n]))] sz) := by
  refine Met.ofW (cc := b_AL_iterator) (maxL := 1) (ret := (some (.object "java/util/Iterator"))) (by decide) rfl ?_
  intro p e s m args below meth c s₁ B hml hv
  obtain ⟨rfl, hsz, hP, hK, hD0⟩ := hv
  have hx := B.exec
  have hb := B.bytes
  have hr := B.returns
  have hts := atoms_spec (ws := w_AL_iterator) B.pre
  have hown : s.vm.findClass "java/util/ArrayList" = some m.cls := findClass_of_methodNamed B.named
  have hlocks := B.notSynchronized
  subst hsz
  have hD := hD0.self (sz := s.heap.size)
  generalize hAe : va_A [(h0, .inr (9, [.int md, .ref ed, .int n]))] s.heap.size = A at hD ⊢
  have hA : ∀ q : Nat, s.heap.size ≤ q → A q := fun q h => by rw [← hAe]; exact Or.inr h
  have hS : va_S A s.heap s.heap [] := va_S.rf
  have hP : va_P (dC, dI) classes [(h0, .inr (9, [.int md, .ref ed, .int n]))] s.heap := hP
  have hl := lv_entry ([.ref h0]) (n := 1) (Nat.le_of_ble_eq_true rfl)
  rw [lg_entry_eq]
  generalize (lg_sl ([.ref h0]) ++ List.replicate (1 - (lg_sl ([.ref h0])).length) Slot.unset).toArray = ls at hl ⊢
  have hl : lv_has ls 1 [(0, .ref h0)] := hl
  refine va_new (D := (dC, dI)) (ci := 10) (fs := [.int 0, .int 0, .int 0, .null]) (C := R_IT) (T := T_IT) (N := 4) hx hb hts in_AL_iterator_IT t_IT t_IT_ok hown (hts (.classLink "java/util/ArrayList" 267 "java/util/ArrayList$Itr") (List.mem_of_getElem? (i := 5) rfl)) (hts (.instantiable "java/util/ArrayList$Itr" 4) (List.mem_of_getElem? (i := 6) rfl)) (hts (.initialized "java/util/ArrayList$Itr") (List.mem_of_getElem? (i := 7) rfl)) hK hP hD hS hA rfl (fun j hj => by rcases (show j = 0 ∨ j = 1 ∨ j = 2 ∨ j = 3 by omega) with rfl | rfl | rfl | rfl <;> rfl) (Nat.le_of_ble_eq_true rfl) (Nat.le_of_ble_eq_true rfl) d_AL_iterator_0 (fun q1 H hP hD hS => ?_)
  have hP : va_P (dC, dI) classes [(h0, .inr (9, [.int md, .ref ed, .int n])), (q1, .inr (10, [.int 0, .int 0, .int 0, .null]))] H := hP
  have hD : va_D A [(h0, .inr (9, [.int md, .ref ed, .int n])), (q1, .inr (10, [.int 0, .int 0, .int 0, .null]))] := hD
  refine W.widen (k := 1) (n := 4) (by omega) (by omega) ?_
  refine lv_dup hx hb d_AL_iterator_3 rfl ?_
  refine lv_aload_n hx hb d_AL_iterator_4 rfl (lv_at hl 0 rfl) ?_
  have hPc : va_P (dC, dI) classes [(q1, .inr (10, [.int 0, .int 0, .int 0, .null])), (h0, .inr (9, [.int md, .ref ed, .int n]))] _ := hP.sub (ws' := [(q1, .inr (10, [.int 0, .int 0, .int 0, .null])), (h0, .inr (9, [.int md, .ref ed, .int n]))]) [1, 0] rfl
  have hKc : va_K (dC, dI) classes [] s := hK.sub (tys' := []) [] rfl
  have hDc : va_D _ [(q1, .inr (10, [.int 0, .int 0, .int 0, .null])), (h0, .inr (9, [.int md, .ref ed, .int n]))] := hD.sub (ws' := [(q1, .inr (10, [.int 0, .int 0, .int 0, .null])), (h0, .inr (9, [.int md, .ref ed, .int n]))]) [1, 0] (by decide) rfl
  have hFc := va_free (wc := [(q1, .inr (10, [.int 0, .int 0, .int 0, .null])), (h0, .inr (9, [.int md, .ref ed, .int n]))]) hD hS hA [1, 0] rfl
  refine va_callv (va_runI (As := [.ref h0]) (rest := [.ref q1]) ⟨hx, hb, hml, hown, hts⟩ (c_IT_init l dC dI q1 h0 md ed n H.size) (cwI 1 hts g_AL_iterator_5 rfl rfl rfl (hts (.initialized "java/util/ArrayList$Itr") (List.mem_of_getElem? (i := 7) rfl)) (hts (.methodLink "java/util/ArrayList" 269 ⟨"java/util/ArrayList$Itr", "<init>", "(Ljava/util/ArrayList;)V"⟩) (List.mem_of_getElem? (i := 20) rfl)) (hts (.instanceMethod ⟨"java/util/ArrayList$Itr", "<init>", "(Ljava/util/ArrayList;)V"⟩) (List.mem_of_getElem? (i := 21) rfl)) rfl (by decide +kernel) ⟨Nat.le_of_ble_eq_true rfl, Nat.le_of_ble_eq_true rfl⟩) ⟨fun a U g mk z => by obtain ⟨z0, z1, zP, zK, zD⟩ := z; exact ⟨z0, z1, zP, va_K.moved (u := U) (U := U.calling g mk a) (Vm.Alike.refl U.vm) zK, zD⟩, fun U hU hW => ⟨rfl, by rw [hU], by rw [hU]; exact hPc, va_K.moved hW.alike hKc, hDc.weaken (fun _ _ _ _ => trivial)⟩⟩ rfl rfl hl.1 rfl (lv_room (Nat.le_of_ble_eq_true rfl)) d_AL_iterator_5 ⟨(Nat.le_of_ble_eq_true rfl), (Nat.le_of_ble_eq_true rfl)⟩) hS (fun q _ h => hFc q h) hFc (fun u t H1 locs ht hvm hr2 hB hz1 hk1 hS => ?_)
  obtain ⟨hP1, hK1, hD1⟩ := hB
  rw [ht] at hP1
  have hK1 := va_K.moved hvm.symm hK1
  obtain ⟨hP, hD⟩ := va_join (wr := []) (w1 := [(q1, .inr (10, [.int 0, .int (-1), .int md, .ref h0])), (h0, .inr (9, [.int md, .ref ed, .int n]))]) hP hD [1, 0] [] rfl rfl (by decide) (by decide) hk1 hFc hP1 hD1
  clear hPc hDc hKc hFc hP1 hD1 hK1 hk1
  generalize H1 = H at hP hS ⊢
  have hP : va_P (dC, dI) classes [(q1, .inr (10, [.int 0, .int (-1), .int md, .ref h0])), (h0, .inr (9, [.int md, .ref ed, .int n]))] H := hP
  have hD : va_D A [(q1, .inr (10, [.int 0, .int (-1), .int md, .ref h0])), (h0, .inr (9, [.int md, .ref ed, .int n]))] := hD
  refine W.widen (k := 1) (n := 4) (by omega) (by omega) ?_
  have hP9 : va_P (dC, dI) classes [(q1, .inr (10, [.int 0, .int (-1), .int md, .ref h0])), (h0, .inr (9, [.int md, .ref ed, .int n]))] H := hP.sub (ws' := [(q1, .inr (10, [.int 0, .int (-1), .int md, .ref h0])), (h0, .inr (9, [.int md, .ref ed, .int n]))]) [0, 1] rfl
  have hD9 := hD.sub (ws' := [(q1, .inr (10, [.int 0, .int (-1), .int md, .ref h0])), (h0, .inr (9, [.int md, .ref ed, .int n]))]) [0, 1] (by decide) rfl
  have hK9 := hK.sub (tys' := []) [] rfl
  refine W.widen (k := 1) (n := 4) (by omega) (by omega) ?_
  exact W.aret hx hb hr (Or.inl ⟨_, rfl⟩) (Or.inr ⟨_, rfl⟩) (fun t ht hW => ⟨⟨(), _, rfl, trivial, ⟨by rw [ht]; exact hP9, va_K.moved hW.alike hK9, hD9, (by rw [ht]; exact ry_grow hAe hP hD 0 rfl (by intro z hz; rw [List.mem_singleton.mp hz]; exact ry_ne hD 1 0 rfl rfl (by decide)))⟩⟩, hS.F ht⟩) hS.2.2 d_AL_iterator_8

abbrev rm_IT_hasNext : Room := { frames := 0, cells := 0, slots := 0, locals := 0 }
abbrev b_IT_hasNext : ByteArray := prog_51_method_2_code
def y_IT_hasNext : MethodName := ⟨"java/util/ArrayList$Itr", "hasNext", "()Z"⟩
def w_IT_hasNext : List Cond := [.code ⟨"java/util/ArrayList$Itr", "hasNext", "()Z"⟩ prog_51_method_2_code 1 (some .boolean), .lays "java/util/ArrayList$Itr" "java/util/ArrayList$Itr" "cursor" "I", .lays "java/util/ArrayList$Itr" "java/util/ArrayList$Itr" "lastRet" "I", .lays "java/util/ArrayList$Itr" "java/util/ArrayList$Itr" "expectedModCount" "I", .laysFinal "java/util/ArrayList$Itr" "java/util/ArrayList$Itr" "this$0" "Ljava/util/ArrayList;", .fieldLink "java/util/ArrayList$Itr" 25 "java/util/ArrayList$Itr" "cursor" "I", .fieldLink "java/util/ArrayList$Itr" 1 "java/util/ArrayList$Itr" "this$0" "Ljava/util/ArrayList;", .lays "java/util/ArrayList" "java/util/AbstractList" "modCount" "I", .lays "java/util/ArrayList" "java/util/ArrayList" "elementData" "[Ljava/lang/Object;", .lays "java/util/ArrayList" "java/util/ArrayList" "size" "I"]
theorem d_IT_hasNext_0 : decode b_IT_hasNext 0 = .ok (.aload_n 0, 1) := by decide +kernel
theorem d_IT_hasNext_1 : decode b_IT_hasNext 1 = .ok (.getfield 25, 3) := by decide +kernel
theorem d_IT_hasNext_4 : decode b_IT_hasNext 4 = .ok (.aload_n 0, 1) := by decide +kernel
theorem d_IT_hasNext_5 : decode b_IT_hasNext 5 = .ok (.getfield 1, 3) := by decide +kernel
theorem d_IT_hasNext_8 : decode b_IT_hasNext 8 = .ok (.getfield 28, 3) := by decide +kernel
theorem d_IT_hasNext_11 : decode b_IT_hasNext 11 = .ok (.if_icmp .eq 7, 3) := by decide +kernel
theorem d_IT_hasNext_14 : decode b_IT_hasNext 14 = .ok (.iconst 1, 1) := by decide +kernel
theorem d_IT_hasNext_15 : decode b_IT_hasNext 15 = .ok (.goto 4, 3) := by decide +kernel
theorem d_IT_hasNext_18 : decode b_IT_hasNext 18 = .ok (.iconst 0, 1) := by decide +kernel
theorem d_IT_hasNext_19 : decode b_IT_hasNext 19 = .ok (.ireturn, 1) := by decide +kernel
theorem in_IT_hasNext_AL : ∀ v ∈ u_ws R_AL T_AL 3, v ∈ w_IT_hasNext := by decide +kernel
theorem in_IT_hasNext_IT : ∀ v ∈ u_ws R_IT T_IT 4, v ∈ w_IT_hasNext := by decide +kernel
set_option maxHeartbeats 4000000 in
set_option maxRecDepth 100000 in
theorem c_IT_hasNext (l : Launch) (dC : Nat → ClassId) (dI : Nat → Nat → Nat) (h1 : Nat) (cu : Int32) (lr : Int32) (md : Int32) (h0 : Nat) (ed : Nat) (n : Int32) : Met l y_IT_hasNext w_IT_hasNext rm_IT_hasNext (va_Pc [.ref h1] (fun U => va_P (dC, dI) classes [(h1, .inr (10, [.int cu, .int lr, .int md, .ref h0])), (h0, .inr (9, [.int md, .ref ed, .int n]))] U.heap ∧ va_K (dC, dI) classes [] U ∧ va_Nw (.fieldLinkNest "java/util/ArrayList$Itr" 28 "java/util/ArrayList" "size" "I" "java/util/ArrayList") U)) (vp_Si (fun r => (cu = n → r = 0) ∧ (¬ cu = n → r = 1))) 0 0 (fun _ => False) := by
  refine Met.ofW (cc := b_IT_hasNext) (maxL := 1) (ret := (some .boolean)) (by decide) rfl ?_
  intro p e s m args below meth c s₁ B hml hv
  obtain ⟨rfl, hP, hK, hE0⟩ := hv
  have hx := B.exec
  have hb := B.bytes
  have hr := B.returns
  have hts := atoms_spec (ws := w_IT_hasNext) B.pre
  have hown : s.vm.findClass "java/util/ArrayList$Itr" = some m.cls := findClass_of_methodNamed B.named
  have hlocks := B.notSynchronized
  have hP : va_P (dC, dI) classes [(h1, .inr (10, [.int cu, .int lr, .int md, .ref h0])), (h0, .inr (9, [.int md, .ref ed, .int n]))] s.heap := hP
  have hl := lv_entry ([.ref h1]) (n := 1) (Nat.le_of_ble_eq_true rfl)
  rw [lg_entry_eq]
  generalize (lg_sl ([.ref h1]) ++ List.replicate (1 - (lg_sl ([.ref h1])).length) Slot.unset).toArray = ls at hl ⊢
  have hl : lv_has ls 1 [(0, .ref h1)] := hl
  refine lv_aload_n hx hb d_IT_hasNext_0 rfl (lv_at hl 0 rfl) ?_
  refine va_get (D := (dC, dI)) (ci := 10) (v := .int cu) (C := R_IT) (T := T_IT) (N := 4) hx hb hts in_IT_hasNext_IT hown hK hP 0 rfl rfl 0 (by decide) (hts (.fieldLink "java/util/ArrayList$Itr" 25 "java/util/ArrayList$Itr" "cursor" "I") (List.mem_of_getElem? (i := 5) rfl)) (fun _ h9 => h9) rfl d_IT_hasNext_1 ?_
  refine lv_aload_n hx hb d_IT_hasNext_4 rfl (lv_at hl 0 rfl) ?_
  refine va_get (D := (dC, dI)) (ci := 10) (v := .ref h0) (C := R_IT) (T := T_IT) (N := 4) hx hb hts in_IT_hasNext_IT hown hK hP 0 rfl rfl 3 (by decide) (hts (.fieldLink "java/util/ArrayList$Itr" 1 "java/util/ArrayList$Itr" "this$0" "Ljava/util/ArrayList;") (List.mem_of_getElem? (i := 6) rfl)) (fun _ h9 => h9) rfl d_IT_hasNext_5 ?_
  refine va_getN (D := (dC, dI)) (ci := 9) (v := .int n) (C := R_AL) (T := T_AL) (N := 3) hx hb hts in_IT_hasNext_AL hown hK hP 1 rfl rfl 2 (by decide) (va_Nw.use rfl hE0) (fun _ h9 => h9) rfl d_IT_hasNext_8 ?_
  refine lv_icmp_eq (tgt := 18) hx hb d_IT_hasNext_11 (by decide) (fun c_11 => ?_) (fun c_11 => ?_)
  · skip
    refine lv_iconst (v := 0) hx hb d_IT_hasNext_18 (by decide) ?_
    exact W.zret hx hb hr rfl (fun t ht hW => ⟨_, rfl, ⟨fun _ => rfl, fun z => absurd c_11 z⟩, ht⟩) (fun _ h => by cases h) d_IT_hasNext_19
  · skip
    refine lv_iconst (v := 1) hx hb d_IT_hasNext_14 (by decide) ?_
    refine lv_goto (tgt := 19) hx hb d_IT_hasNext_15 (by decide) ?_
    exact W.zret hx hb hr rfl (fun t ht hW => ⟨_, rfl, ⟨fun z => absurd z c_11, fun _ => rfl⟩, ht⟩) (fun _ h => by cases h) d_IT_hasNext_19

abbrev rm_IT_check : Room := { frames := 0, cells := 0, slots := 0, locals := 0 }
abbrev b_IT_check : ByteArray := prog_51_method_6_code
def y_IT_check : MethodName := ⟨"java/util/ArrayList$Itr", "checkForComodification", "()V"⟩
def w_IT_check : List Cond := [.code ⟨"java/util/ArrayList$Itr", "checkForComodification", "()V"⟩ prog_51_method_6_code 1 none, .lays "java/util/ArrayList$Itr" "java/util/ArrayList$Itr" "cursor" "I", .lays "java/util/ArrayList$Itr" "java/util/ArrayList$Itr" "lastRet" "I", .lays "java/util/ArrayList$Itr" "java/util/ArrayList$Itr" "expectedModCount" "I", .laysFinal "java/util/ArrayList$Itr" "java/util/ArrayList$Itr" "this$0" "Ljava/util/ArrayList;", .fieldLink "java/util/ArrayList$Itr" 1 "java/util/ArrayList$Itr" "this$0" "Ljava/util/ArrayList;", .sameField "java/util/ArrayList" "java/util/AbstractList" "modCount" "I", .lays "java/util/ArrayList" "java/util/AbstractList" "modCount" "I", .lays "java/util/ArrayList" "java/util/ArrayList" "elementData" "[Ljava/lang/Object;", .lays "java/util/ArrayList" "java/util/ArrayList" "size" "I", .fieldLink "java/util/ArrayList$Itr" 17 "java/util/ArrayList" "modCount" "I", .fieldLink "java/util/ArrayList$Itr" 22 "java/util/ArrayList$Itr" "expectedModCount" "I"]
theorem d_IT_check_0 : decode b_IT_check 0 = .ok (.aload_n 0, 1) := by decide +kernel
theorem d_IT_check_1 : decode b_IT_check 1 = .ok (.getfield 1, 3) := by decide +kernel
theorem d_IT_check_4 : decode b_IT_check 4 = .ok (.getfield 17, 3) := by decide +kernel
theorem d_IT_check_7 : decode b_IT_check 7 = .ok (.aload_n 0, 1) := by decide +kernel
theorem d_IT_check_8 : decode b_IT_check 8 = .ok (.getfield 22, 3) := by decide +kernel
theorem d_IT_check_11 : decode b_IT_check 11 = .ok (.if_icmp .eq 11, 3) := by decide +kernel
theorem d_IT_check_22 : decode b_IT_check 22 = .ok (.return_, 1) := by decide +kernel
theorem in_IT_check_AL : ∀ v ∈ u_ws R_AL T_AL 3, v ∈ w_IT_check := by decide +kernel
theorem in_IT_check_IT : ∀ v ∈ u_ws R_IT T_IT 4, v ∈ w_IT_check := by decide +kernel
set_option maxHeartbeats 4000000 in
set_option maxRecDepth 100000 in
theorem c_IT_check (l : Launch) (dC : Nat → ClassId) (dI : Nat → Nat → Nat) (h1 : Nat) (cu : Int32) (lr : Int32) (md : Int32) (h0 : Nat) (ed : Nat) (n : Int32) : Met l y_IT_check w_IT_check rm_IT_check (va_Pc [.ref h1] (fun U => va_P (dC, dI) classes [(h1, .inr (10, [.int cu, .int lr, .int md, .ref h0])), (h0, .inr (9, [.int md, .ref ed, .int n]))] U.heap ∧ va_K (dC, dI) classes [] U)) (va_Sv (fun _ => True)) 0 0 (fun _ => False) := by
  refine Met.ofW (cc := b_IT_check) (maxL := 1) (ret := none) (by decide) rfl ?_
  intro p e s m args below meth c s₁ B hml hv
  obtain ⟨rfl, hP, hK⟩ := hv
  have hx := B.exec
  have hb := B.bytes
  have hr := B.returns
  have hts := atoms_spec (ws := w_IT_check) B.pre
  have hown : s.vm.findClass "java/util/ArrayList$Itr" = some m.cls := findClass_of_methodNamed B.named
  have hlocks := B.notSynchronized
  have hP : va_P (dC, dI) classes [(h1, .inr (10, [.int cu, .int lr, .int md, .ref h0])), (h0, .inr (9, [.int md, .ref ed, .int n]))] s.heap := hP
  have hl := lv_entry ([.ref h1]) (n := 1) (Nat.le_of_ble_eq_true rfl)
  rw [lg_entry_eq]
  generalize (lg_sl ([.ref h1]) ++ List.replicate (1 - (lg_sl ([.ref h1])).length) Slot.unset).toArray = ls at hl ⊢
  have hl : lv_has ls 1 [(0, .ref h1)] := hl
  refine lv_aload_n hx hb d_IT_check_0 rfl (lv_at hl 0 rfl) ?_
  refine va_get (D := (dC, dI)) (ci := 10) (v := .ref h0) (C := R_IT) (T := T_IT) (N := 4) hx hb hts in_IT_check_IT hown hK hP 0 rfl rfl 3 (by decide) (hts (.fieldLink "java/util/ArrayList$Itr" 1 "java/util/ArrayList$Itr" "this$0" "Ljava/util/ArrayList;") (List.mem_of_getElem? (i := 5) rfl)) (fun _ h9 => h9) rfl d_IT_check_1 ?_
  refine va_get (D := (dC, dI)) (ci := 9) (v := .int md) (C := R_AL) (T := T_AL) (N := 3) hx hb hts in_IT_check_AL hown hK hP 1 rfl rfl 0 (by decide) (hts (.fieldLink "java/util/ArrayList$Itr" 17 "java/util/ArrayList" "modCount" "I") (List.mem_of_getElem? (i := 10) rfl)) (fun x9 h9 => u_same (hts (.sameField "java/util/ArrayList" "java/util/AbstractList" "modCount" "I") (List.mem_of_getElem? (i := 6) rfl)) x9 h9) rfl d_IT_check_4 ?_
  refine lv_aload_n hx hb d_IT_check_7 rfl (lv_at hl 0 rfl) ?_
  refine va_get (D := (dC, dI)) (ci := 10) (v := .int md) (C := R_IT) (T := T_IT) (N := 4) hx hb hts in_IT_check_IT hown hK hP 0 rfl rfl 2 (by decide) (hts (.fieldLink "java/util/ArrayList$Itr" 22 "java/util/ArrayList$Itr" "expectedModCount" "I") (List.mem_of_getElem? (i := 11) rfl)) (fun _ h9 => h9) rfl d_IT_check_8 ?_
  refine lv_icmp_eq (tgt := 22) hx hb d_IT_check_11 (by decide) (fun c_11 => ?_) (fun c_11 => ?_)
  · skip
    exact W.vret hx hb hr (fun t ht hW => ⟨rfl, trivial, ht⟩) (fun _ h => by cases h) d_IT_check_22
  · exact absurd rfl c_11

abbrev rm_IT_next : Room := { frames := 1, cells := 0, slots := 0, locals := 20 }
abbrev b_IT_next : ByteArray := prog_51_method_3_code
def y_IT_next : MethodName := ⟨"java/util/ArrayList$Itr", "next", "()Ljava/lang/Object;"⟩
def w_IT_next : List Cond := [.code ⟨"java/util/ArrayList$Itr", "next", "()Ljava/lang/Object;"⟩ prog_51_method_3_code 3 (some (.object "java/lang/Object")), .methodLink "java/util/ArrayList$Itr" 31 ⟨"java/util/ArrayList$Itr", "checkForComodification", "()V"⟩, .instanceMethod ⟨"java/util/ArrayList$Itr", "checkForComodification", "()V"⟩, .selects "java/util/ArrayList$Itr" ⟨"java/util/ArrayList$Itr", "checkForComodification", "()V"⟩ ⟨"java/util/ArrayList$Itr", "checkForComodification", "()V"⟩, .initialized "java/util/ArrayList$Itr", .code ⟨"java/util/ArrayList$Itr", "checkForComodification", "()V"⟩ prog_51_method_6_code 1 none, .lays "java/util/ArrayList$Itr" "java/util/ArrayList$Itr" "cursor" "I", .lays "java/util/ArrayList$Itr" "java/util/ArrayList$Itr" "lastRet" "I", .lays "java/util/ArrayList$Itr" "java/util/ArrayList$Itr" "expectedModCount" "I", .laysFinal "java/util/ArrayList$Itr" "java/util/ArrayList$Itr" "this$0" "Ljava/util/ArrayList;", .fieldLink "java/util/ArrayList$Itr" 1 "java/util/ArrayList$Itr" "this$0" "Ljava/util/ArrayList;", .sameField "java/util/ArrayList" "java/util/AbstractList" "modCount" "I", .lays "java/util/ArrayList" "java/util/AbstractList" "modCount" "I", .lays "java/util/ArrayList" "java/util/ArrayList" "elementData" "[Ljava/lang/Object;", .lays "java/util/ArrayList" "java/util/ArrayList" "size" "I", .fieldLink "java/util/ArrayList$Itr" 17 "java/util/ArrayList" "modCount" "I", .fieldLink "java/util/ArrayList$Itr" 22 "java/util/ArrayList$Itr" "expectedModCount" "I", .fieldLink "java/util/ArrayList$Itr" 25 "java/util/ArrayList$Itr" "cursor" "I", .fieldLink "java/util/ArrayList$Itr" 37 "java/util/ArrayList" "elementData" "[Ljava/lang/Object;", .fieldLink "java/util/ArrayList$Itr" 13 "java/util/ArrayList$Itr" "lastRet" "I"]
theorem d_IT_next_0 : decode b_IT_next 0 = .ok (.aload_n 0, 1) := by decide +kernel
theorem d_IT_next_1 : decode b_IT_next 1 = .ok (.invokevirtual 31, 3) := by decide +kernel
theorem d_IT_next_4 : decode b_IT_next 4 = .ok (.aload_n 0, 1) := by decide +kernel
theorem d_IT_next_5 : decode b_IT_next 5 = .ok (.getfield 25, 3) := by decide +kernel
theorem d_IT_next_8 : decode b_IT_next 8 = .ok (.istore_n 1, 1) := by decide +kernel
theorem d_IT_next_9 : decode b_IT_next 9 = .ok (.iload_n 1, 1) := by decide +kernel
theorem d_IT_next_10 : decode b_IT_next 10 = .ok (.aload_n 0, 1) := by decide +kernel
theorem d_IT_next_11 : decode b_IT_next 11 = .ok (.getfield 1, 3) := by decide +kernel
theorem d_IT_next_14 : decode b_IT_next 14 = .ok (.getfield 28, 3) := by decide +kernel
theorem d_IT_next_17 : decode b_IT_next 17 = .ok (.if_icmp .lt 11, 3) := by decide +kernel
theorem d_IT_next_28 : decode b_IT_next 28 = .ok (.aload_n 0, 1) := by decide +kernel
theorem d_IT_next_29 : decode b_IT_next 29 = .ok (.getfield 1, 3) := by decide +kernel
theorem d_IT_next_32 : decode b_IT_next 32 = .ok (.getfield 37, 3) := by decide +kernel
theorem d_IT_next_35 : decode b_IT_next 35 = .ok (.astore_n 2, 1) := by decide +kernel
theorem d_IT_next_36 : decode b_IT_next 36 = .ok (.iload_n 1, 1) := by decide +kernel
theorem d_IT_next_37 : decode b_IT_next 37 = .ok (.aload_n 2, 1) := by decide +kernel
theorem d_IT_next_38 : decode b_IT_next 38 = .ok (.arraylength, 1) := by decide +kernel
theorem d_IT_next_39 : decode b_IT_next 39 = .ok (.if_icmp .lt 11, 3) := by decide +kernel
theorem d_IT_next_50 : decode b_IT_next 50 = .ok (.aload_n 0, 1) := by decide +kernel
theorem d_IT_next_51 : decode b_IT_next 51 = .ok (.iload_n 1, 1) := by decide +kernel
theorem d_IT_next_52 : decode b_IT_next 52 = .ok (.iconst 1, 1) := by decide +kernel
theorem d_IT_next_53 : decode b_IT_next 53 = .ok (.iadd, 1) := by decide +kernel
theorem d_IT_next_54 : decode b_IT_next 54 = .ok (.putfield 25, 3) := by decide +kernel
theorem d_IT_next_57 : decode b_IT_next 57 = .ok (.aload_n 2, 1) := by decide +kernel
theorem d_IT_next_58 : decode b_IT_next 58 = .ok (.aload_n 0, 1) := by decide +kernel
theorem d_IT_next_59 : decode b_IT_next 59 = .ok (.iload_n 1, 1) := by decide +kernel
theorem d_IT_next_60 : decode b_IT_next 60 = .ok (.dup_x1, 1) := by decide +kernel
theorem d_IT_next_61 : decode b_IT_next 61 = .ok (.putfield 13, 3) := by decide +kernel
theorem d_IT_next_64 : decode b_IT_next 64 = .ok (.aaload, 1) := by decide +kernel
theorem d_IT_next_65 : decode b_IT_next 65 = .ok (.areturn, 1) := by decide +kernel
theorem in_IT_next_AL : ∀ v ∈ u_ws R_AL T_AL 3, v ∈ w_IT_next := by decide +kernel
theorem in_IT_next_IT : ∀ v ∈ u_ws R_IT T_IT 4, v ∈ w_IT_next := by decide +kernel
set_option maxRecDepth 20000 in
theorem g_IT_next_1 : GoodIn w_IT_next (wsV "java/util/ArrayList$Itr" 31 "java/util/ArrayList$Itr" ⟨"java/util/ArrayList$Itr", "checkForComodification", "()V"⟩ w_IT_check) := goodIn_r _ [1, 2, 3, 4, 5, 6, 7, 8, 9, 10, 11, 12, 13, 14, 15, 16] rfl (by decide +kernel)
set_option maxHeartbeats 4000000 in
set_option maxRecDepth 100000 in
theorem c_IT_next (l : Launch) (dC : Nat → ClassId) (dI : Nat → Nat → Nat) (h1 : Nat) (cu : Int32) (lr : Int32) (md : Int32) (h0 : Nat) (ed : Nat) (n : Int32) (cB : ClassId) (f0 : Nat → Option Nat) (e0 : Nat) (i : Nat) (k : Nat) (hci : cu = nI i) (hnk : n = nI k) (hik : i < k) (hk : k ≤ 10) (hf : f0 i = some e0) (sz : Nat) : Met l y_IT_next w_IT_next rm_IT_next (va_Pc [.ref h1] (fun U => U.heap.size = sz ∧ va_P (dC, dI) classes [(h1, .inr (10, [.int cu, .int lr, .int md, .ref h0])), (h0, .inr (9, [.int md, .ref ed, .int n])), (ed, .inl (cB, 10, .inr (.inr (.inr (.inr (f0))))))] U.heap ∧ va_K (dC, dI) classes [(cB, .object "java/lang/Object")] U ∧ va_D (fun _ => True) [(h1, .inr (10, [.int cu, .int lr, .int md, .ref h0])), (h0, .inr (9, [.int md, .ref ed, .int n])), (ed, .inl (cB, 10, .inr (.inr (.inr (.inr (f0))))))] ∧ va_Nw (.fieldLinkNest "java/util/ArrayList$Itr" 28 "java/util/ArrayList" "size" "I" "java/util/ArrayList") U)) (va_Qr (fun (_ : Unit) => True) (fun _ rr t => ∃ c1 : Int32, va_P (dC, dI) classes [(h1, .inr (10, [.int c1, .int cu, .int md, .ref h0])), (h0, .inr (9, [.int md, .ref ed, .int n])), (ed, .inl (cB, 10, .inr (.inr (.inr (.inr (f0))))))] t.heap ∧ va_K (dC, dI) classes [(cB, .object "java/lang/Object")] t ∧ va_D (va_A [(h1, .inr (10, [.int cu, .int lr, .int md, .ref h0])), (h0, .inr (9, [.int md, .ref ed, .int n])), (ed, .inl (cB, 10, .inr (.inr (.inr (.inr (f0))))))] sz) [(h1, .inr (10, [.int c1, .int cu, .int md, .ref h0])), (h0, .inr (9, [.int md, .ref ed, .int n])), (ed, .inl (cB, 10, .inr (.inr (.inr (.inr (f0))))))] ∧ rr = e0 ∧ c1 = nI (i + 1)) (va_A [(h1, .inr (10, [.int cu, .int lr, .int md, .ref h0])), (h0, .inr (9, [.int md, .ref ed, .int n])), (ed, .inl (cB, 10, .inr (.inr (.inr (.inr (f0))))))] sz)) 0 0 (va_A [(h1, .inr (10, [.int cu, .int lr, .int md, .ref h0])), (h0, .inr (9, [.int md, .ref ed, .int n])), (ed, .inl (cB, 10, .inr (.inr (.inr (.inr (f0))))))] sz) := by
  refine Met.ofW (cc := b_IT_next) (maxL := 3) (ret := (some (.object "java/lang/Object"))) (by decide) rfl ?_
  intro p e s m args below meth c s₁ B hml hv
  obtain ⟨rfl, hsz, hP, hK, hD0, hE0⟩ := hv
  have hx := B.exec
  have hb := B.bytes
  have hr := B.returns
  have hts := atoms_spec (ws := w_IT_next) B.pre
  have hown : s.vm.findClass "java/util/ArrayList$Itr" = some m.cls := findClass_of_methodNamed B.named
  have hlocks := B.notSynchronized
  subst hsz
  have hD := hD0.self (sz := s.heap.size)
  generalize hAe : va_A [(h1, .inr (10, [.int cu, .int lr, .int md, .ref h0])), (h0, .inr (9, [.int md, .ref ed, .int n])), (ed, .inl (cB, 10, .inr (.inr (.inr (.inr (f0))))))] s.heap.size = A at hD hE0 ⊢
  have hA : ∀ q : Nat, s.heap.size ≤ q → A q := fun q h => by rw [← hAe]; exact Or.inr h
  have hS : va_S A s.heap s.heap [] := va_S.rf
  have hP : va_P (dC, dI) classes [(h1, .inr (10, [.int cu, .int lr, .int md, .ref h0])), (h0, .inr (9, [.int md, .ref ed, .int n])), (ed, .inl (cB, 10, .inr (.inr (.inr (.inr (f0))))))] s.heap := hP
  have hl := lv_entry ([.ref h1]) (n := 3) (Nat.le_of_ble_eq_true rfl)
  rw [lg_entry_eq]
  generalize (lg_sl ([.ref h1]) ++ List.replicate (3 - (lg_sl ([.ref h1])).length) Slot.unset).toArray = ls at hl ⊢
  have hl : lv_has ls 3 [(0, .ref h1)] := hl
  refine lv_aload_n hx hb d_IT_next_0 rfl (lv_at hl 0 rfl) ?_
  have hPc : va_P (dC, dI) classes [(h1, .inr (10, [.int cu, .int lr, .int md, .ref h0])), (h0, .inr (9, [.int md, .ref ed, .int n]))] _ := hP.sub (ws' := [(h1, .inr (10, [.int cu, .int lr, .int md, .ref h0])), (h0, .inr (9, [.int md, .ref ed, .int n]))]) [0, 1] rfl
  have hKc : va_K (dC, dI) classes [] s := hK.sub (tys' := []) [] rfl
  refine va_csv (W.runV (As := []) (rest := []) ⟨hx, hb, hml, hown, hts⟩ (c_IT_check l dC dI h1 cu lr md h0 ed n) (cwV 0 hts g_IT_next_1 rfl rfl rfl (by decide +kernel) ⟨Nat.le_of_ble_eq_true rfl, Nat.le_of_ble_eq_true rfl⟩) ⟨fun a U g mk z => by obtain ⟨z0, zP, zK⟩ := z; exact ⟨z0, zP, va_K.moved (u := U) (U := U.calling g mk a) (Vm.Alike.refl U.vm) zK⟩, va_recv hKc hPc (ci := 10) (q0 := 0) rfl rfl, fun U hU hW => ⟨rfl, by rw [hU]; exact hPc, va_K.moved hW.alike hKc⟩⟩ rfl rfl hl.1 rfl (lv_room (Nat.le_of_ble_eq_true rfl)) d_IT_next_1 ⟨(Nat.le_of_ble_eq_true rfl), (Nat.le_of_ble_eq_true rfl)⟩) (fun hr1 => ?_)
  refine lv_aload_n hx hb d_IT_next_4 rfl (lv_at hl 0 rfl) ?_
  refine va_get (D := (dC, dI)) (ci := 10) (v := .int cu) (C := R_IT) (T := T_IT) (N := 4) hx hb hts in_IT_next_IT hown hK hP 0 rfl rfl 0 (by decide) (hts (.fieldLink "java/util/ArrayList$Itr" 25 "java/util/ArrayList$Itr" "cursor" "I") (List.mem_of_getElem? (i := 17) rfl)) (fun _ h9 => h9) rfl d_IT_next_5 ?_
  refine lv_istore_n (lv' := [(1, .int cu), (0, .ref h1)]) hx hb d_IT_next_8 rfl hl (by decide) rfl (fun ls hl => ?_)
  refine lv_iload_n hx hb d_IT_next_9 rfl (lv_at hl 0 rfl) ?_
  refine lv_aload_n hx hb d_IT_next_10 rfl (lv_at hl 1 rfl) ?_
  refine va_get (D := (dC, dI)) (ci := 10) (v := .ref h0) (C := R_IT) (T := T_IT) (N := 4) hx hb hts in_IT_next_IT hown hK hP 0 rfl rfl 3 (by decide) (hts (.fieldLink "java/util/ArrayList$Itr" 1 "java/util/ArrayList$Itr" "this$0" "Ljava/util/ArrayList;") (List.mem_of_getElem? (i := 10) rfl)) (fun _ h9 => h9) rfl d_IT_next_11 ?_
  refine va_getN (D := (dC, dI)) (ci := 9) (v := .int n) (C := R_AL) (T := T_AL) (N := 3) hx hb hts in_IT_next_AL hown hK hP 1 rfl rfl 2 (by decide) (va_Nw.use rfl hE0) (fun _ h9 => h9) rfl d_IT_next_14 ?_
  refine lv_icmp_lt (tgt := 28) hx hb d_IT_next_17 (by decide) (fun c_17 => ?_) (fun c_17 => ?_)
  · skip
    refine lv_aload_n hx hb d_IT_next_28 rfl (lv_at hl 1 rfl) ?_
    refine va_get (D := (dC, dI)) (ci := 10) (v := .ref h0) (C := R_IT) (T := T_IT) (N := 4) hx hb hts in_IT_next_IT hown hK hP 0 rfl rfl 3 (by decide) (hts (.fieldLink "java/util/ArrayList$Itr" 1 "java/util/ArrayList$Itr" "this$0" "Ljava/util/ArrayList;") (List.mem_of_getElem? (i := 10) rfl)) (fun _ h9 => h9) rfl d_IT_next_29 ?_
    refine va_get (D := (dC, dI)) (ci := 9) (v := .ref ed) (C := R_AL) (T := T_AL) (N := 3) hx hb hts in_IT_next_AL hown hK hP 1 rfl rfl 1 (by decide) (hts (.fieldLink "java/util/ArrayList$Itr" 37 "java/util/ArrayList" "elementData" "[Ljava/lang/Object;") (List.mem_of_getElem? (i := 18) rfl)) (fun _ h9 => h9) rfl d_IT_next_32 ?_
    refine lv_astore_n (lv' := [(2, .ref ed), (1, .int cu), (0, .ref h1)]) hx hb d_IT_next_35 rfl hl (by decide) rfl (fun ls hl => ?_)
    refine lv_iload_n hx hb d_IT_next_36 rfl (lv_at hl 1 rfl) ?_
    refine lv_aload_n hx hb d_IT_next_37 rfl (lv_at hl 0 rfl) ?_
    refine va_alen (v := 10) hx hb hK hP 2 0 rfl rfl (show Int32.ofNat 10 = 10 by decide) d_IT_next_38 ?_
    refine lv_icmp_lt (tgt := 50) hx hb d_IT_next_39 (by decide) (fun c_39 => ?_) (fun c_39 => ?_)
    · skip
      refine lv_aload_n hx hb d_IT_next_50 rfl (lv_at hl 2 rfl) ?_
      refine lv_iload_n hx hb d_IT_next_51 rfl (lv_at hl 1 rfl) ?_
      refine lv_iconst (v := 1) hx hb d_IT_next_52 (by decide) ?_
      refine lv_iadd hx hb d_IT_next_53 ?_
      refine lv_topi (fun x2 ex2 => ?_)
      refine va_put (D := (dC, dI)) (ci := 10) (v := .int x2) (ty := .int) (C := R_IT) (T := T_IT) (N := 4) hx hb hts in_IT_next_IT t_IT t_IT_ok n_IT hown hK hP hD hS 0 rfl rfl 0 (by decide) (hts (.fieldLink "java/util/ArrayList$Itr" 25 "java/util/ArrayList$Itr" "cursor" "I") (List.mem_of_getElem? (i := 17) rfl)) (fun _ h9 => h9) rfl (by decide +kernel) rfl rfl (Nat.le_of_ble_eq_true rfl) d_IT_next_54 (fun H locs hP hD hS => ?_)
      have hP : va_P (dC, dI) classes [(h1, .inr (10, [.int x2, .int lr, .int md, .ref h0])), (h0, .inr (9, [.int md, .ref ed, .int n])), (ed, .inl (cB, 10, .inr (.inr (.inr (.inr (f0))))))] H := hP
      have hD : va_D A [(h1, .inr (10, [.int x2, .int lr, .int md, .ref h0])), (h0, .inr (9, [.int md, .ref ed, .int n])), (ed, .inl (cB, 10, .inr (.inr (.inr (.inr (f0))))))] := hD
      refine lv_aload_n hx hb d_IT_next_57 rfl (lv_at hl 0 rfl) ?_
      refine lv_aload_n hx hb d_IT_next_58 rfl (lv_at hl 2 rfl) ?_
      refine lv_iload_n hx hb d_IT_next_59 rfl (lv_at hl 1 rfl) ?_
      refine lv_dup_x1 hx hb d_IT_next_60 rfl rfl ?_
      refine va_put (D := (dC, dI)) (ci := 10) (v := .int cu) (ty := .int) (C := R_IT) (T := T_IT) (N := 4) hx hb hts in_IT_next_IT t_IT t_IT_ok n_IT hown hK hP hD hS 0 rfl rfl 1 (by decide) (hts (.fieldLink "java/util/ArrayList$Itr" 13 "java/util/ArrayList$Itr" "lastRet" "I") (List.mem_of_getElem? (i := 19) rfl)) (fun _ h9 => h9) rfl (by decide +kernel) rfl rfl (Nat.le_of_ble_eq_true rfl) d_IT_next_61 (fun H locs hP hD hS => ?_)
      have hP : va_P (dC, dI) classes [(h1, .inr (10, [.int x2, .int cu, .int md, .ref h0])), (h0, .inr (9, [.int md, .ref ed, .int n])), (ed, .inl (cB, 10, .inr (.inr (.inr (.inr (f0))))))] H := hP
      have hD : va_D A [(h1, .inr (10, [.int x2, .int cu, .int md, .ref h0])), (h0, .inr (9, [.int md, .ref ed, .int n])), (ed, .inl (cB, 10, .inr (.inr (.inr (.inr (f0))))))] := hD
      refine va_aldq hx hb hK hP 2 0 rfl rfl (by rw [hci]; exact vp_in_nI (by omega) (by omega)) d_IT_next_64 ?_
      have hav : f0 (cu : Int32).toNatClampNeg = some e0 := by rw [hci, nI_clamp (by omega), hf]
      rw [hav]
      refine W.eq (g2 := F0 m 65 ls [.ref e0]) rfl ?_
      have hP9 : va_P (dC, dI) classes [(h1, .inr (10, [.int x2, .int cu, .int md, .ref h0])), (h0, .inr (9, [.int md, .ref ed, .int n])), (ed, .inl (cB, 10, .inr (.inr (.inr (.inr (f0))))))] H := hP.sub (ws' := [(h1, .inr (10, [.int x2, .int cu, .int md, .ref h0])), (h0, .inr (9, [.int md, .ref ed, .int n])), (ed, .inl (cB, 10, .inr (.inr (.inr (.inr (f0))))))]) [0, 1, 2] rfl
      have hD9 := hD.sub (ws' := [(h1, .inr (10, [.int x2, .int cu, .int md, .ref h0])), (h0, .inr (9, [.int md, .ref ed, .int n])), (ed, .inl (cB, 10, .inr (.inr (.inr (.inr (f0))))))]) [0, 1, 2] (by decide) rfl
      have hK9 := hK.sub (tys' := [(cB, .object "java/lang/Object")]) [0] rfl
      refine W.widen (k := 0) (n := 0) (by omega) (by omega) ?_
      exact W.aret hx hb hr (Or.inl ⟨_, rfl⟩) (Or.inr ⟨_, rfl⟩) (fun t ht hW => ⟨⟨(), _, rfl, trivial, ⟨x2, ⟨by rw [ht]; exact hP9, va_K.moved hW.alike hK9, hD9, rfl, (by rw [ex2, hci]; exact nI_1 i)⟩⟩⟩, hS.F ht⟩) hS.2.2 d_IT_next_65
    · exact absurd (by rw [hci]; exact (show nI i < nI 10 from nI_lt (by omega) (by omega))) c_39
  · exact absurd (by rw [hci, hnk]; exact nI_lt hik (by omega)) c_17

abbrev rm_IN_valueOf : Room := { frames := 0, cells := 0, slots := 0, locals := 0 }
abbrev b_IN_valueOf : ByteArray := prog_27_method_22_code
def y_IN_valueOf : MethodName := ⟨"java/lang/Integer", "valueOf", "(I)Ljava/lang/Integer;"⟩
def w_IN_valueOf : List Cond := [.code ⟨"java/lang/Integer", "valueOf", "(I)Ljava/lang/Integer;"⟩ prog_27_method_22_code 1 (some (.object "java/lang/Integer")), .fieldLink "java/lang/Integer" 191 "java/lang/Integer$IntegerCache" "high" "I", .fieldLink "java/lang/Integer" 195 "java/lang/Integer$IntegerCache" "cache" "[Ljava/lang/Integer;"]
theorem d_IN_valueOf_0 : decode b_IN_valueOf 0 = .ok (.iload_n 0, 1) := by decide +kernel
theorem d_IN_valueOf_1 : decode b_IN_valueOf 1 = .ok (.bipush (-128), 2) := by decide +kernel
theorem d_IN_valueOf_3 : decode b_IN_valueOf 3 = .ok (.if_icmp .lt 20, 3) := by decide +kernel
theorem d_IN_valueOf_6 : decode b_IN_valueOf 6 = .ok (.iload_n 0, 1) := by decide +kernel
theorem d_IN_valueOf_7 : decode b_IN_valueOf 7 = .ok (.getstatic 191, 3) := by decide +kernel
theorem d_IN_valueOf_10 : decode b_IN_valueOf 10 = .ok (.if_icmp .gt 13, 3) := by decide +kernel
theorem d_IN_valueOf_13 : decode b_IN_valueOf 13 = .ok (.getstatic 195, 3) := by decide +kernel
theorem d_IN_valueOf_16 : decode b_IN_valueOf 16 = .ok (.iload_n 0, 1) := by decide +kernel
theorem d_IN_valueOf_17 : decode b_IN_valueOf 17 = .ok (.sipush 128, 3) := by decide +kernel
theorem d_IN_valueOf_20 : decode b_IN_valueOf 20 = .ok (.iadd, 1) := by decide +kernel
theorem d_IN_valueOf_21 : decode b_IN_valueOf 21 = .ok (.aaload, 1) := by decide +kernel
theorem d_IN_valueOf_22 : decode b_IN_valueOf 22 = .ok (.areturn, 1) := by decide +kernel
set_option maxHeartbeats 4000000 in
set_option maxRecDepth 100000 in
theorem c_IN_valueOf (l : Launch) (ca : Nat) (fca : Nat → Value) (e0 : Nat) (hca : fca 174 = .ref e0) : Met l y_IN_valueOf w_IN_valueOf rm_IN_valueOf (va_Pc [.int 46] (fun U => va_Z "java/lang/Integer$IntegerCache" "high" "I" (.int 127) (fun _ => False) U U.heap ∧ va_Z "java/lang/Integer$IntegerCache" "cache" "[Ljava/lang/Integer;" (.ref ca) (fun _ => False) U U.heap ∧ va_T (.object "java/lang/Integer") ca 256 fca (fun _ => False) U U.heap)) (va_Sr (fun r => r = e0) Value.ref) 0 0 (fun _ => False) := by
  refine Met.ofW (cc := b_IN_valueOf) (maxL := 1) (ret := (some (.object "java/lang/Integer"))) (by decide) rfl ?_
  intro p e s m args below meth c s₁ B hml hv
  obtain ⟨rfl, hE0, hE1, hE2⟩ := hv
  have hx := B.exec
  have hb := B.bytes
  have hr := B.returns
  have hts := atoms_spec (ws := w_IN_valueOf) B.pre
  have hown : s.vm.findClass "java/lang/Integer" = some m.cls := findClass_of_methodNamed B.named
  have hlocks := B.notSynchronized
  have hl := lv_entry ([.int 46]) (n := 1) (Nat.le_of_ble_eq_true rfl)
  rw [lg_entry_eq]
  generalize (lg_sl ([.int 46]) ++ List.replicate (1 - (lg_sl ([.int 46])).length) Slot.unset).toArray = ls at hl ⊢
  have hl : lv_has ls 1 [(0, .int 46)] := hl
  refine lv_iload_n hx hb d_IN_valueOf_0 rfl (lv_at hl 0 rfl) ?_
  refine lv_bipush (v := (-128)) hx hb d_IN_valueOf_1 (by decide) ?_
  refine lv_icmp_lt (tgt := 23) hx hb d_IN_valueOf_3 (by decide) (fun c_3 => ?_) (fun c_3 => ?_)
  · exact absurd c_3 (by decide)
  · skip
    refine lv_iload_n hx hb d_IN_valueOf_6 rfl (lv_at hl 0 rfl) ?_
    refine va_gets (v := .int 127) hx hb hE0 (va_S.rf (A := fun _ => False)) hown (hts (.fieldLink "java/lang/Integer" 191 "java/lang/Integer$IntegerCache" "high" "I") (List.mem_of_getElem? (i := 1) rfl)) (fun _ h9 => h9) d_IN_valueOf_7 ?_
    refine lv_icmp_gt (tgt := 23) hx hb d_IN_valueOf_10 (by decide) (fun c_10 => ?_) (fun c_10 => ?_)
    · exact absurd c_10 (by decide)
    · skip
      refine va_gets (v := .ref ca) hx hb hE1 (va_S.rf (A := fun _ => False)) hown (hts (.fieldLink "java/lang/Integer" 195 "java/lang/Integer$IntegerCache" "cache" "[Ljava/lang/Integer;") (List.mem_of_getElem? (i := 2) rfl)) (fun _ h9 => h9) d_IN_valueOf_13 ?_
      refine lv_iload_n hx hb d_IN_valueOf_16 rfl (lv_at hl 0 rfl) ?_
      refine lv_sipush (v := 128) hx hb d_IN_valueOf_17 (by decide) ?_
      refine lv_iadd hx hb d_IN_valueOf_20 ?_
      refine lv_topi (fun x1 ex1 => ?_)
      obtain rfl : 174 = x1 := Eq.symm (by rw [ex1]; decide)
      refine vb_tq (v := .ref e0) hx hb hE2 (va_S.rf (A := fun _ => False)) (by unfold vp_in; decide) (by rw [show (174 : Int32).toNatClampNeg = 174 by decide]; exact hca) d_IN_valueOf_21 ?_
      exact W.aret hx hb hr (Or.inl ⟨_, rfl⟩) (Or.inr ⟨_, rfl⟩) (fun t ht hW => ⟨_, rfl, rfl, ht⟩) (fun _ h => by cases h) d_IN_valueOf_22

abbrev rm_IN_intValue : Room := { frames := 0, cells := 0, slots := 0, locals := 0 }
abbrev b_IN_intValue : ByteArray := prog_27_method_27_code
def y_IN_intValue : MethodName := ⟨"java/lang/Integer", "intValue", "()I"⟩
def w_IN_intValue : List Cond := [.code ⟨"java/lang/Integer", "intValue", "()I"⟩ prog_27_method_27_code 1 (some .int), .fieldLink "java/lang/Integer" 205 "java/lang/Integer" "value" "I"]
theorem d_IN_intValue_0 : decode b_IN_intValue 0 = .ok (.aload_n 0, 1) := by decide +kernel
theorem d_IN_intValue_1 : decode b_IN_intValue 1 = .ok (.getfield 205, 3) := by decide +kernel
theorem d_IN_intValue_4 : decode b_IN_intValue 4 = .ok (.ireturn, 1) := by decide +kernel
set_option maxHeartbeats 4000000 in
set_option maxRecDepth 100000 in
theorem c_IN_intValue (l : Launch) (e0 : Nat) : Met l y_IN_intValue w_IN_intValue rm_IN_intValue (va_Pc [.ref e0] (fun U => va_OF "java/lang/Integer" "value" "I" (.int 46) e0 (fun _ => False) U U.heap)) (vp_Si (fun r => r = 46)) 0 0 (fun _ => False) := by
  refine Met.ofW (cc := b_IN_intValue) (maxL := 1) (ret := (some .int)) (by decide) rfl ?_
  intro p e s m args below meth c s₁ B hml hv
  obtain ⟨rfl, hE0⟩ := hv
  have hx := B.exec
  have hb := B.bytes
  have hr := B.returns
  have hts := atoms_spec (ws := w_IN_intValue) B.pre
  have hown : s.vm.findClass "java/lang/Integer" = some m.cls := findClass_of_methodNamed B.named
  have hlocks := B.notSynchronized
  have hl := lv_entry ([.ref e0]) (n := 1) (Nat.le_of_ble_eq_true rfl)
  rw [lg_entry_eq]
  generalize (lg_sl ([.ref e0]) ++ List.replicate (1 - (lg_sl ([.ref e0])).length) Slot.unset).toArray = ls at hl ⊢
  have hl : lv_has ls 1 [(0, .ref e0)] := hl
  refine lv_aload_n hx hb d_IN_intValue_0 rfl (lv_at hl 0 rfl) ?_
  refine vk_getf (v := .int 46) hx hb hE0 (va_S.rf (A := fun _ => False)) hown (hts (.fieldLink "java/lang/Integer" 205 "java/lang/Integer" "value" "I") (List.mem_of_getElem? (i := 1) rfl)) (fun _ h9 => h9) d_IN_intValue_1 ?_
  exact W.iret hx hb hr (fun t ht hW => ⟨_, rfl, rfl, ht⟩) (fun _ h => by cases h) d_IN_intValue_4
