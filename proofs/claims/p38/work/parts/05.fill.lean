abbrev rm_fill : Room := { frames := 0, cells := 0, slots := 0, locals := 0 }
abbrev b_fill : ByteArray := prog_55_method_103_code
def y_fill : MethodName := ⟨"java/util/Arrays", "fill", "([II)V"⟩
def w_fill : List Cond := [.code ⟨"java/util/Arrays", "fill", "([II)V"⟩ prog_55_method_103_code 4 none]
theorem d_fill_0 : decode b_fill 0 = .ok (.iconst 0, 1) := by decide +kernel
theorem d_fill_1 : decode b_fill 1 = .ok (.istore_n 2, 1) := by decide +kernel
theorem d_fill_2 : decode b_fill 2 = .ok (.aload_n 0, 1) := by decide +kernel
theorem d_fill_3 : decode b_fill 3 = .ok (.arraylength, 1) := by decide +kernel
theorem d_fill_4 : decode b_fill 4 = .ok (.istore_n 3, 1) := by decide +kernel
theorem d_fill_5 : decode b_fill 5 = .ok (.iload_n 2, 1) := by decide +kernel
theorem d_fill_6 : decode b_fill 6 = .ok (.iload_n 3, 1) := by decide +kernel
theorem d_fill_7 : decode b_fill 7 = .ok (.if_icmp .ge 13, 3) := by decide +kernel
theorem d_fill_10 : decode b_fill 10 = .ok (.aload_n 0, 1) := by decide +kernel
theorem d_fill_11 : decode b_fill 11 = .ok (.iload_n 2, 1) := by decide +kernel
theorem d_fill_12 : decode b_fill 12 = .ok (.iload_n 1, 1) := by decide +kernel
theorem d_fill_13 : decode b_fill 13 = .ok (.iastore, 1) := by decide +kernel
theorem d_fill_14 : decode b_fill 14 = .ok (.iinc 2 1, 3) := by decide +kernel
theorem d_fill_17 : decode b_fill 17 = .ok (.goto (-12), 3) := by decide +kernel
theorem d_fill_20 : decode b_fill 20 = .ok (.return_, 1) := by decide +kernel
set_option maxHeartbeats 4000000 in
set_option maxRecDepth 100000 in
theorem c_fill (l : Launch) (dC : Nat → ClassId) (dI : Nat → Nat → Nat) (h0 : Nat) (cA : ClassId) (f0 : Nat → Int32) (x0 : Int32) (sz : Nat) : Met l y_fill w_fill rm_fill (va_Pc [.ref h0, .int x0] (fun U => U.heap.size = sz ∧ va_P (dC, dI) classes [(h0, .inl (cA, 16, .inl (f0)))] U.heap ∧ va_K (dC, dI) classes [(cA, .int)] U ∧ va_D (fun _ => True) [(h0, .inl (cA, 16, .inl (f0)))])) (va_Qv (fun (_ : Unit) => True) (fun _ t => ∃ f : Nat → Int32, va_P (dC, dI) classes [(h0, .inl (cA, 16, .inl (f)))] t.heap ∧ va_K (dC, dI) classes [(cA, .int)] t ∧ va_D (va_A [(h0, .inl (cA, 16, .inl (f0)))] sz) [(h0, .inl (cA, 16, .inl (f)))]) (va_A [(h0, .inl (cA, 16, .inl (f0)))] sz)) 0 0 (va_A [(h0, .inl (cA, 16, .inl (f0)))] sz) := by
  refine Met.ofW (cc := b_fill) (maxL := 4) (ret := none) (by decide) rfl ?_
  intro p e s m args below meth c s₁ B hml hv
  obtain ⟨rfl, hsz, hP, hK, hD0⟩ := hv
  have hx := B.exec
  have hb := B.bytes
  have hr := B.returns
  have hts := atoms_spec (ws := w_fill) B.pre
  have hown : s.vm.findClass "java/util/Arrays" = some m.cls := findClass_of_methodNamed B.named
  have hlocks := B.notSynchronized
  subst hsz
  have hD := hD0.self (sz := s.heap.size)
  generalize hAe : va_A [(h0, .inl (cA, 16, .inl (f0)))] s.heap.size = A at hD ⊢
  have hA : ∀ q : Nat, s.heap.size ≤ q → A q := fun q h => by rw [← hAe]; exact Or.inr h
  have hS : va_S A s.heap s.heap [] := va_S.rf
  have hP : va_P (dC, dI) classes [(h0, .inl (cA, 16, .inl (f0)))] s.heap := hP
  have hl := lv_entry ([.ref h0, .int x0]) (n := 4) (Nat.le_of_ble_eq_true rfl)
  rw [lg_entry_eq]
  generalize (lg_sl ([.ref h0, .int x0]) ++ List.replicate (4 - (lg_sl ([.ref h0, .int x0])).length) Slot.unset).toArray = ls at hl ⊢
  have hl : lv_has ls 4 [(0, .ref h0), (1, .int x0)] := hl
  refine lv_iconst (v := 0) hx hb d_fill_0 (by decide) ?_
  refine lv_istore_n (lv' := [(2, .int 0), (0, .ref h0), (1, .int x0)]) hx hb d_fill_1 rfl hl (by decide) rfl (fun ls hl => ?_)
  refine lv_aload_n hx hb d_fill_2 rfl (lv_at hl 1 rfl) ?_
  refine va_alen (v := 16) hx hb hK hP 0 0 rfl rfl (show Int32.ofNat 16 = 16 by decide) d_fill_3 ?_
  refine lv_istore_n (lv' := [(3, .int 16), (2, .int 0), (0, .ref h0), (1, .int x0)]) hx hb d_fill_4 rfl hl (by decide) rfl (fun ls hl => ?_)
  refine ry_abs (fun QQ hQ => ?_)
  have loop : ∀ (k i : Nat), i + k = 16 → ∀ (H : Heap) (locs : List Loc) (f : Nat → Int32) (ls : Array Slot) (x : Int32), x = nI i → va_P (dC, dI) classes [(h0, .inl (cA, 16, .inl (f)))] H → va_D A [(h0, .inl (cA, 16, .inl (f)))] → va_S A s.heap H locs → lv_has ls 4 [(2, .int x), (3, .int 16), (0, .ref h0), (1, .int x0)] → W p l e (headSpec w_fill rm_fill).room s m ([.ref h0, .int x0] : List Value).toArray below meth c H locs (0) (0) QQ (F0 m 5 ls []) := by
    intro k
    induction k with
    | zero =>
      intro i hi H locs f ls x ex0 hP hD hS hl
      obtain rfl : i = 16 := by omega
      refine lv_iload_n hx hb d_fill_5 rfl (lv_at hl 0 rfl) ?_
      refine lv_iload_n hx hb d_fill_6 rfl (lv_at hl 1 rfl) ?_
      refine lv_icmp_ge (tgt := 20) hx hb d_fill_7 (by decide) (fun c_7 => ?_) (fun c_7 => ?_)
      · skip
        subst hQ
        have hP9 : va_P (dC, dI) classes [(h0, .inl (cA, 16, .inl (f)))] H := hP.sub (ws' := [(h0, .inl (cA, 16, .inl (f)))]) [0] rfl
        have hD9 := hD.sub (ws' := [(h0, .inl (cA, 16, .inl (f)))]) [0] (by decide) rfl
        have hK9 := hK.sub (tys' := [(cA, .int)]) [0] rfl
        refine W.widen (k := 0) (n := 0) (by omega) (by omega) ?_
        exact W.vret hx hb hr (fun t ht hW => ⟨⟨(), rfl, trivial, ⟨f, ⟨by rw [ht]; exact hP9, va_K.moved hW.alike hK9, hD9⟩⟩⟩, hS.F ht⟩) hS.2.2 d_fill_20
      · exact absurd (by rw [ex0]; exact (show nI 16 ≤ nI 16 from nI_le (Nat.le_refl 16) (by omega))) c_7
    | succ k ih =>
      intro i hi H locs f ls x ex0 hP hD hS hl
      have hlt : i < 16 := by omega
      refine lv_iload_n hx hb d_fill_5 rfl (lv_at hl 0 rfl) ?_
      refine lv_iload_n hx hb d_fill_6 rfl (lv_at hl 1 rfl) ?_
      refine lv_icmp_ge (tgt := 20) hx hb d_fill_7 (by decide) (fun c_7 => ?_) (fun c_7 => ?_)
      · exact absurd c_7 (by rw [ex0]; exact (show ¬ nI 16 ≤ nI i from nI_ge hlt (by omega)))
      · skip
        refine lv_aload_n hx hb d_fill_10 rfl (lv_at hl 2 rfl) ?_
        refine lv_iload_n hx hb d_fill_11 rfl (lv_at hl 0 rfl) ?_
        refine lv_iload_n hx hb d_fill_12 rfl (lv_at hl 3 rfl) ?_
        refine va_iast (D := (dC, dI)) hx hb hK hP hD hS 0 0 rfl rfl (by rw [ex0]; exact vp_in_nI hlt (by omega)) d_fill_13 (fun H locs hP hD hS => ?_)
        have hP : va_P (dC, dI) classes [(h0, .inl (cA, 16, .inl (upd f (x : Int32).toNatClampNeg (x0))))] H := hP
        have hD : va_D A [(h0, .inl (cA, 16, .inl (upd f (x : Int32).toNatClampNeg (x0))))] := hD
        generalize upd f (x : Int32).toNatClampNeg (x0) = f1 at hP hD
        obtain ⟨x2, ex2⟩ : ∃ y_ : Int32, y_ = x + 1 := ⟨_, rfl⟩
        refine lv_iinc (v := x2) (lv' := [(2, .int x2), (3, .int 16), (0, .ref h0), (1, .int x0)]) hx hb d_fill_14 hl (k := 0) rfl (by rw [ex2]; rfl) (by decide) rfl (fun ls hl => ?_)
        refine lv_goto (tgt := 5) hx hb d_fill_17 (by decide) ?_
        exact ih (i + 1) (by omega) _ _ f1 _ x2 (by rw [ex2, ex0]; exact nI_1 i) hP hD hS (lv_sub hl [0, 1, 2, 3] rfl)
  exact loop 16 0 rfl _ _ _ _ _ nI_0.symm hP hD hS (lv_sub hl [1, 0, 2, 3] rfl)

abbrev rm_Prices_init : Room := { frames := 1, cells := 1, slots := 16, locals := 23 }
abbrev b_Prices_init : ByteArray := prog_7_method_1_code
def y_Prices_init : MethodName := ⟨"Leastcode$Prices", "<init>", "()V"⟩
def w_Prices_init : List Cond := [.code ⟨"Leastcode$Prices", "<init>", "()V"⟩ prog_7_method_1_code 1 none, .methodLink "Leastcode$Prices" 3 ⟨"java/lang/Object", "<init>", "()V"⟩, .instanceMethod ⟨"java/lang/Object", "<init>", "()V"⟩, .code ⟨"java/lang/Object", "<init>", "()V"⟩ object_method_1_code 1 none, .arrayClass .int, .laysFinal "Leastcode$Prices" "Leastcode$Prices" "byKind" "[I", .lays "Leastcode$Prices" "Leastcode$Prices" "waitCost" "I", .fieldLink "Leastcode$Prices" 9 "Leastcode$Prices" "byKind" "[I", .methodLink "Leastcode$Prices" 15 ⟨"java/util/Arrays", "fill", "([II)V"⟩, .static ⟨"java/util/Arrays", "fill", "([II)V"⟩, .initialized "java/util/Arrays", .code ⟨"java/util/Arrays", "fill", "([II)V"⟩ prog_55_method_103_code 4 none]
theorem d_Prices_init_0 : decode b_Prices_init 0 = .ok (.aload_n 0, 1) := by decide +kernel
theorem d_Prices_init_1 : decode b_Prices_init 1 = .ok (.invokespecial 3, 3) := by decide +kernel
theorem d_Prices_init_4 : decode b_Prices_init 4 = .ok (.aload_n 0, 1) := by decide +kernel
theorem d_Prices_init_5 : decode b_Prices_init 5 = .ok (.bipush 16, 2) := by decide +kernel
theorem d_Prices_init_7 : decode b_Prices_init 7 = .ok (.newarray .int, 2) := by decide +kernel
theorem d_Prices_init_9 : decode b_Prices_init 9 = .ok (.putfield 9, 3) := by decide +kernel
theorem d_Prices_init_12 : decode b_Prices_init 12 = .ok (.aload_n 0, 1) := by decide +kernel
theorem d_Prices_init_13 : decode b_Prices_init 13 = .ok (.getfield 9, 3) := by decide +kernel
theorem d_Prices_init_16 : decode b_Prices_init 16 = .ok (.iconst 1, 1) := by decide +kernel
theorem d_Prices_init_17 : decode b_Prices_init 17 = .ok (.invokestatic 15, 3) := by decide +kernel
theorem d_Prices_init_20 : decode b_Prices_init 20 = .ok (.return_, 1) := by decide +kernel
theorem in_Prices_init_PR : ∀ v ∈ u_ws R_PR T_PR 2, v ∈ w_Prices_init := by decide +kernel
set_option maxRecDepth 20000 in
theorem g_Prices_init_17 : GoodIn w_Prices_init (va_wsS "Leastcode$Prices" 15 ⟨"java/util/Arrays", "fill", "([II)V"⟩ w_fill) := goodIn_r _ [8, 9, 10, 11] rfl (by decide +kernel)
set_option maxHeartbeats 4000000 in
set_option maxRecDepth 100000 in
theorem c_Prices_init (l : Launch) (dC : Nat → ClassId) (dI : Nat → Nat → Nat) (h0 : Nat) (sz : Nat) : Met l y_Prices_init w_Prices_init rm_Prices_init (va_Pc [.ref h0] (fun U => U.heap.size = sz ∧ va_P (dC, dI) classes [(h0, .inr (3, [.null, .int 0]))] U.heap ∧ va_K (dC, dI) classes [] U ∧ va_D (fun _ => True) [(h0, .inr (3, [.null, .int 0]))])) (va_Qv (fun (_ : Unit) => True) (fun _ t => ∃ q : Nat, va_P (dC, dI) classes [(h0, .inr (3, [.ref q, .int 0]))] t.heap ∧ va_K (dC, dI) classes [] t ∧ va_D (va_A [(h0, .inr (3, [.null, .int 0]))] sz) [(h0, .inr (3, [.ref q, .int 0]))]) (va_A [(h0, .inr (3, [.null, .int 0]))] sz)) 1 16 (va_A [(h0, .inr (3, [.null, .int 0]))] sz) := by
  refine Met.ofW (cc := b_Prices_init) (maxL := 1) (ret := none) (by decide) rfl ?_
  intro p e s m args below meth c s₁ B hml hv
  obtain ⟨rfl, hsz, hP, hK, hD0⟩ := hv
  have hx := B.exec
  have hb := B.bytes
  have hr := B.returns
  have hts := atoms_spec (ws := w_Prices_init) B.pre
  have hown : s.vm.findClass "Leastcode$Prices" = some m.cls := findClass_of_methodNamed B.named
  have hlocks := B.notSynchronized
  have hin : meth.name = "<init>" := (name_of_methodNamed B.named B.method).1
  subst hsz
  have hD := hD0.self (sz := s.heap.size)
  generalize hAe : va_A [(h0, .inr (3, [.null, .int 0]))] s.heap.size = A at hD ⊢
  have hA : ∀ q : Nat, s.heap.size ≤ q → A q := fun q h => by rw [← hAe]; exact Or.inr h
  have hS : va_S A s.heap s.heap [] := va_S.rf
  have hP : va_P (dC, dI) classes [(h0, .inr (3, [.null, .int 0]))] s.heap := hP
  have hl := lv_entry ([.ref h0]) (n := 1) (Nat.le_of_ble_eq_true rfl)
  rw [lg_entry_eq]
  generalize (lg_sl ([.ref h0]) ++ List.replicate (1 - (lg_sl ([.ref h0])).length) Slot.unset).toArray = ls at hl ⊢
  have hl : lv_has ls 1 [(0, .ref h0)] := hl
  refine lv_aload_n hx hb d_Prices_init_0 rfl (lv_at hl 0 rfl) ?_
  refine W.objInit hx hb hown (hts (.methodLink "Leastcode$Prices" 3 ⟨"java/lang/Object", "<init>", "()V"⟩) (List.mem_of_getElem? (i := 1) rfl)) (hts (.instanceMethod ⟨"java/lang/Object", "<init>", "()V"⟩) (List.mem_of_getElem? (i := 2) rfl)) (hts (.code ⟨"java/lang/Object", "<init>", "()V"⟩ object_method_1_code 1 none) (List.mem_of_getElem? (i := 3) rfl)) rfl (by rw [hml]; exact hl.1) rfl d_Prices_init_1 (Nat.le_of_ble_eq_true rfl) (Nat.le_of_ble_eq_true rfl) ?_
  refine W.eq (g2 := F0 m 4 ls []) rfl ?_
  refine lv_aload_n hx hb d_Prices_init_4 rfl (lv_at hl 0 rfl) ?_
  refine lv_bipush (v := 16) hx hb d_Prices_init_5 (by decide) ?_
  refine va_newa (D := (dC, dI)) (atype := .int) (a0 := (16, .inl (fun _ => 0))) (ty := .int) (N' := 16) hx hb (hts (.arrayClass .int) (List.mem_of_getElem? (i := 4) rfl)) rfl hK hP hD hS hA (fun cA => rfl) (by decide) (by decide) (Nat.le_of_ble_eq_true rfl) (Nat.le_of_ble_eq_true rfl) (Nat.le_of_ble_eq_true rfl) d_Prices_init_7 (fun q1 cA2 H hK hP hD hS => ?_)
  have hP : va_P (dC, dI) classes [(h0, .inr (3, [.null, .int 0])), (q1, .inl (cA2, 16, .inl (fun _ => 0)))] H := hP
  have hK : va_K (dC, dI) classes [(cA2, .int)] s := hK
  have hD : va_D A [(h0, .inr (3, [.null, .int 0])), (q1, .inl (cA2, 16, .inl (fun _ => 0)))] := hD
  refine W.widen (k := 1) (n := 16) (by omega) (by omega) ?_
  refine va_putF (D := (dC, dI)) (ci := 3) (v := .ref q1) (ty := .array .int) (C := R_PR) (T := T_PR) (N := 2) hx hb hts in_Prices_init_PR t_PR t_PR_ok n_PR hown hK hP hD hS 0 rfl rfl 0 (by decide) (hts (.fieldLink "Leastcode$Prices" 9 "Leastcode$Prices" "byKind" "[I") (List.mem_of_getElem? (i := 7) rfl)) (fun _ h9 => h9) rfl hin rfl (by decide +kernel) rfl rfl (Nat.le_of_ble_eq_true rfl) d_Prices_init_9 (fun H locs hP hD hS => ?_)
  have hP : va_P (dC, dI) classes [(h0, .inr (3, [.ref q1, .int 0])), (q1, .inl (cA2, 16, .inl (fun _ => 0)))] H := hP
  have hD : va_D A [(h0, .inr (3, [.ref q1, .int 0])), (q1, .inl (cA2, 16, .inl (fun _ => 0)))] := hD
  refine lv_aload_n hx hb d_Prices_init_12 rfl (lv_at hl 0 rfl) ?_
  refine va_get (D := (dC, dI)) (ci := 3) (v := .ref q1) (C := R_PR) (T := T_PR) (N := 2) hx hb hts in_Prices_init_PR hown hK hP 0 rfl rfl 0 (by decide) (hts (.fieldLink "Leastcode$Prices" 9 "Leastcode$Prices" "byKind" "[I") (List.mem_of_getElem? (i := 7) rfl)) (fun _ h9 => h9) rfl d_Prices_init_13 ?_
  refine lv_iconst (v := 1) hx hb d_Prices_init_16 (by decide) ?_
  have hPc : va_P (dC, dI) classes [(q1, .inl (cA2, 16, .inl (fun _ => 0)))] _ := hP.sub (ws' := [(q1, .inl (cA2, 16, .inl (fun _ => 0)))]) [1] rfl
  have hKc : va_K (dC, dI) classes [(cA2, .int)] s := hK.sub (tys' := [(cA2, .int)]) [0] rfl
  have hDc : va_D _ [(q1, .inl (cA2, 16, .inl (fun _ => 0)))] := hD.sub (ws' := [(q1, .inl (cA2, 16, .inl (fun _ => 0)))]) [1] (by decide) rfl
  have hFc := va_free (wc := [(q1, .inl (cA2, 16, .inl (fun _ => 0)))]) hD hS hA [1] rfl
  refine va_callv (va_runS (As := [.ref q1, .int 1]) (rest := []) ⟨hx, hb, hml, hown, hts⟩ (c_fill l dC dI q1 cA2 (fun _ => 0) 1 H.size) (va_cwS 2 hts g_Prices_init_17 rfl rfl rfl (by decide +kernel) ⟨Nat.le_of_ble_eq_true rfl, Nat.le_of_ble_eq_true rfl⟩) ⟨fun a U g mk z => by obtain ⟨z0, z1, zP, zK, zD⟩ := z; exact ⟨z0, z1, zP, va_K.moved (u := U) (U := U.calling g mk a) (Vm.Alike.refl U.vm) zK, zD⟩, fun U hU hW => ⟨rfl, by rw [hU], by rw [hU]; exact hPc, va_K.moved hW.alike hKc, hDc.weaken (fun _ _ _ _ => trivial)⟩⟩ rfl rfl hl.1 rfl (lv_room (Nat.le_of_ble_eq_true rfl)) d_Prices_init_17 ⟨(Nat.le_of_ble_eq_true rfl), (Nat.le_of_ble_eq_true rfl)⟩) hS (fun q _ h => hFc q h) hFc (fun u t H1 locs ht hvm hr3 hB hz1 hk1 hS => ?_)
  obtain ⟨f4, hP1, hK1, hD1⟩ := hB
  rw [ht] at hP1
  have hK1 := va_K.moved hvm.symm hK1
  obtain ⟨hP, hD⟩ := va_join (wr := [(h0, .inr (3, [.ref q1, .int 0]))]) (w1 := [(q1, .inl (cA2, 16, .inl (f4)))]) hP hD [1] [0] rfl rfl (by decide) (by decide) hk1 hFc hP1 hD1
  clear hPc hDc hKc hFc hP1 hD1 hK1 hk1
  generalize H1 = H at hP hS ⊢
  have hP : va_P (dC, dI) classes [(h0, .inr (3, [.ref q1, .int 0])), (q1, .inl (cA2, 16, .inl (f4)))] H := hP
  have hD : va_D A [(h0, .inr (3, [.ref q1, .int 0])), (q1, .inl (cA2, 16, .inl (f4)))] := hD
  refine W.widen (k := 1) (n := 16) (by omega) (by omega) ?_
  have hP9 : va_P (dC, dI) classes [(h0, .inr (3, [.ref q1, .int 0]))] H := hP.sub (ws' := [(h0, .inr (3, [.ref q1, .int 0]))]) [0] rfl
  have hD9 := hD.sub (ws' := [(h0, .inr (3, [.ref q1, .int 0]))]) [0] (by decide) rfl
  have hK9 := hK.sub (tys' := []) [] rfl
  refine W.widen (k := 1) (n := 16) (by omega) (by omega) ?_
  exact W.vret hx hb hr (fun t ht hW => ⟨⟨(), rfl, trivial, ⟨q1, ⟨by rw [ht]; exact hP9, va_K.moved hW.alike hK9, hD9⟩⟩⟩, hS.F ht⟩) hS.2.2 d_Prices_init_20
