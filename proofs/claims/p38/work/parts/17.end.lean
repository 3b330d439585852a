/-! THE END: the law's run on the script, held against the Statement's own frame -/
def rfL : List Int32 := (List.range 1740).map scr
theorem rf_get (n j : Nat) (h : j < n) : (((List.range n).map scr).map Value.int)[j]? = some (.int (scr j)) := by simp [h]
theorem rf_len (n : Nat) : (((List.range n).map scr).map Value.int).length = n := by simp
def rfP (b : Addr) : Array Value → State → Prop := fun args s => args = #[Value.ref b] ∧ s.IntsAt b rfL ∧ (Jvm.Cond.and given_1 narrow_1).before args s = true
def rfQ : Array Value → State → Outcome → State → Prop := fun _ s o t => o = .returned (some (.int 1)) ∧ s.heap.size + 781056 ≤ t.heap.size
set_option maxHeartbeats 4000000 in
theorem rf_walk (l : Launch) (b : Addr) : MetFree l x (headSpec (Jvm.Cond.code x code maxLocals ret :: tables_1) RB) (rfP b) (fun _ _ _ _ _ => True) rfQ := by
  refine MetFree.of_bodyS (code := code) (maxLocals := maxLocals) (ret := ret) (by decide) ?_ ?_
  · intro args s m h hn
    obtain ⟨meth, c, h1, h2, h3, h4, h5, h6, -, -⟩ := Cond.code_spec hn (atoms_spec (ws := Jvm.Cond.code x code maxLocals ret :: tables_1) h _ List.mem_cons_self)
    exact ⟨meth, c, h1, h2, h3, h4, h5, h6⟩
  · intro p e s m args below meth c s₁ B hml0 hP _
    obtain ⟨rfl, hI, hgv⟩ := hP
    obtain ⟨cell, harrAt, hlist, hof, -⟩ := hI
    obtain ⟨hcb, hkn, -, -⟩ := State.arrayAt?_spec harrAt
    have hown : s.vm.findClass "LeastcodeLaw" = some m.cls := findClass_of_methodNamed B.named
    have hts0 : ∀ c ∈ (Jvm.Cond.code x code maxLocals ret :: tables_1), c.before #[Value.ref b] s = true := atoms_spec (ws := Jvm.Cond.code x code maxLocals ret :: tables_1) B.pre
    have hts : ∀ w ∈ lw_tbl, w.before #[Value.ref b] s = true := k2_hts_sels lw_privs (fun w hw => hts0 w (List.mem_cons_of_mem _ hw)) lw_privs_ok
    have hml : c.maxLocals = 9 := B.maxLocals_eq (hts0 _ List.mem_cons_self)
    have X₀ : Stand p l e RB s m #[Value.ref b] below meth c s₁ [] 0 0 := Stand.of_body B
    have hh0 : s₁.heap = s.heap := by rw [B.state]; rfl
    have hsz : cell.slots.size = 1740 := by rw [← Array.length_toList, hlist]; exact rf_len 1740
    have hval : ∀ j : Nat, j < 1740 → cell.slots[j]? = some (.int (scr j)) := fun j hj => by
      rw [← Array.getElem?_toList, hlist]; exact rf_get 1740 j hj
    have hbl : b < s.heap.size := (Array.getElem?_eq_some_iff.mp hcb).1
    have hX : va_X b 1740 scr s s.heap := ⟨cell, hcb, hof, hkn, hsz, hval⟩
    have K : W p l e RB s m #[Value.ref b] below meth c s₁.heap [] 0 0 (LZ below s) (entryFrame m ([Value.ref b] : List Value).toArray 9) := by
      rw [hh0]
      exact law_walk l (fun j _ => rfl) B.exec B.bytes B.returns hml hown hts hX hbl B.notSynchronized hgv
    obtain ⟨t, a1, o, b1, b2, b3, b4⟩ := K s₁ rfl X₀
    exact ⟨t, o, a1, b1, b2, b3, b4⟩
/-- no end of so many new cells is within the Statement's frame -/
theorem rf_no {s t : State} {o : Outcome} {tb : Tables} {e : Env} {a : Array Value} (h : Post_1_1 tb e a s o t) (hg : s.heap.size + 781056 ≤ t.heap.size) : False := by
  have h9 : t.heap.size ≤ s.heap.size + 779982 := h.2.1.2.2.2.2.1
  omega
theorem rf_no2 {s t : State} {o : Outcome} {tb : Tables} {e : Env} {a : Array Value} (h : Post_1_2 tb e a s o t) (hg : s.heap.size + 781056 ≤ t.heap.size) : False := by
  have h9 : t.heap.size ≤ s.heap.size + 779982 := h.2.1.2.2.2.2.1
  omega
/-- a start on a machine that has the room to run the script to its end: neither limb holds there -/
theorem rf_main {l : Launch} (hfl : l.flags = flags0) (hL : Lists l classFile x code maxLocals ret tables_1 room_1) {p : Program} {e : Env} {s : State} {m : MethodId} {below : List Frame} {b : Addr} (ha : l.admits e) (hc : FairCas e.choices) (hk : FairClock e.choices) (hf : s.frames = .invoking m #[Value.ref b] :: below) (hfit : argsFit s.vm m #[Value.ref b] = true) (hheap : heapFits s = true) (happB : (headSpec (Jvm.Cond.code x code maxLocals ret :: tables_1) RB).applies x e.platform s = true) (happ1 : (headSpec (Jvm.Cond.code x code maxLocals ret :: tables_1) room_1).applies x e.platform s = true) (hI : s.IntsAt b rfL) (hrest : rest_1 p.tables e #[Value.ref b] s) (hpre : Pre_1 p.tables e #[Value.ref b] s) : ¬ Claimed_1_1 ∧ ¬ Claimed_1_2 := by
  obtain ⟨n', o', w2, r2, d2, -, hsz⟩ := rf_walk l b p e ha hc hk s m _ below hf ((Spec.applies_iff_loose hf).mp happB).1 ⟨rfl, hI, hpre⟩ trivial
  refine ⟨fun hC => ?_, fun hC => ?_⟩
  · obtain ⟨n, o, w1, r1, d1, hpost⟩ := hC l hfl hL trivial p e ha hc hk s m _ below hf hfit hheap happ1 ⟨trivial, hrest, hpre⟩
    obtain ⟨rfl, rfl⟩ := the_end_unique (f := fun k => stepsAlone p.tables e k s) w1 d1 w2 d2
    exact rf_no hpost hsz
  · obtain ⟨n, o, w1, r1, d1, hpost⟩ := hC l hfl hL trivial p e ha hc hk s m _ below hf hfit hheap happ1 ⟨trivial, hrest, hpre⟩
    obtain ⟨rfl, rfl⟩ := the_end_unique (f := fun k => stepsAlone p.tables e k s) w1 d1 w2 d2
    exact rf_no2 hpost hsz
/-- ... in the Statement's own words for a limb that is false -/
theorem rf_falls {l : Launch} (hfl : l.flags = flags0) {p : Program} {e : Env} {s : State} {m : MethodId} {below : List Frame} {b : Addr} (hst : AtStart classFile x code maxLocals ret World_1 tables_1 room_1 Calls_1 rest_1 Pre_1 l p e s m #[Value.ref b] below) (happB : (headSpec (Jvm.Cond.code x code maxLocals ret :: tables_1) RB).applies x e.platform s = true) (hI : s.IntsAt b rfL) : RefutedClaimed_1_1 ∧ RefutedClaimed_1_2 := by
  obtain ⟨-, -, ha, -, hc, hk, hf, -, -, -, -, -, hpre⟩ := id hst
  obtain ⟨n', o', w2, r2, d2, -, hsz⟩ := rf_walk l b p e ha hc hk s m _ below hf ((Spec.applies_iff_loose hf).mp happB).1 ⟨rfl, hI, hpre⟩ trivial
  exact ⟨⟨l, p, e, s, m, _, below, hfl, hst, n', o', w2, r2, d2, fun h => rf_no h hsz⟩, ⟨l, p, e, s, m, _, below, hfl, hst, n', o', w2, r2, d2, fun h => rf_no2 h hsz⟩⟩
