/-! General rows: places of words, an end by its name, a switch by its targets. -/
theorem goodIn_r {big : List Cond} (ws : List Cond) (ps : List Nat) (hp : ws = ps.filterMap (fun i => big[i]?)) (h : ws.all goodWord = true) : GoodIn big ws := by
  intro w hw
  have h1 := List.all_eq_true.mp h w hw
  rw [hp] at hw
  obtain ⟨i, -, hi⟩ := List.mem_filterMap.mp hw
  exact ⟨List.mem_of_getElem? hi, good_of_word h1⟩
section RY
variable {p : Program} {l : Launch} {e : Env} {R : Room} {s : State} {m : MethodId} {args : Array Value} {below : List Frame} {meth : Method} {c : Code} {H : Heap} {locs : List Loc} {cells slots : Nat} {Q : State → Prop}
theorem ry_abs {g : JFrame} (h : ∀ QQ : State → Prop, QQ = Q → W p l e R s m args below meth c H locs cells slots QQ g) : W p l e R s m args below meth c H locs cells slots Q g := h Q rfl
theorem ry_table {cc : ByteArray} {pc : Nat} {ls : Array Slot} {rest : List Value} (hexec : p.tables.exec = Jvm.exec) (hb : c.code = cc) {dflt lo hi : Int} {offs : Array Int} {len : Nat} {x : Int32} (hdg : decode cc pc = .ok (.tableswitch dflt lo hi offs, len)) (tg : List Nat)
    (h1 : tg.any (fun t => decide ((t : Int) = (pc : Int) + dflt)) = true) (h2 : offs.all (fun o => tg.any (fun t => decide ((t : Int) = (pc : Int) + o))) = true) (h3 : (offs.size : Int) = hi - lo + 1)
    (kk : ∀ t ∈ tg, W p l e R s m args below meth c H locs cells slots Q (F0 m t ls rest)) : W p l e R s m args below meth c H locs cells slots Q (F0 m pc ls (.int x :: rest)) := by
  by_cases h : x.toInt < lo ∨ hi < x.toInt
  · obtain ⟨t, ht, he⟩ := List.any_eq_true.mp h1
    exact lv_tableOut hexec hb hdg h (of_decide_eq_true he).symm (kk t ht)
  · have hlo : ¬ x.toInt < lo := fun q => h (Or.inl q)
    have hhi : ¬ hi < x.toInt := fun q => h (Or.inr q)
    have hi' : (x.toInt - lo).toNat < offs.size := by omega
    have h4 := Array.all_eq_true.mp h2 _ hi'
    obtain ⟨t, ht, he⟩ := List.any_eq_true.mp h4
    exact lv_tableIn hexec hb hdg hlo hhi (Array.getElem?_eq_getElem hi') (of_decide_eq_true he).symm (kk t ht)
end RY
section RL
variable {p : Program} {l : Launch} {e : Env} {R : Room} {s : State} {m : MethodId} {args : Array Value} {below : List Frame} {meth : Method} {c : Code} {H : Heap} {locs : List Loc} {cells slots : Nat} {Q : State → Prop}
theorem ry_offset (k dflt : Int) : ∀ ps : List (Int × Int), Op.lookupswitch.offset ps dflt k = dflt ∨ ∃ q ∈ ps, Op.lookupswitch.offset ps dflt k = q.2 := by
  intro ps
  induction ps with
  | nil => exact Or.inl rfl
  | cons q r ih =>
    obtain ⟨a, o⟩ := q
    rw [Op.lookupswitch.offset_cons]
    by_cases h : a = k
    · rw [if_pos h]; exact Or.inr ⟨(a, o), List.mem_cons_self, rfl⟩
    · rw [if_neg h]
      rcases ih with ih | ⟨q, hq, he⟩
      · exact Or.inl ih
      · exact Or.inr ⟨q, List.mem_cons_of_mem _ hq, he⟩
theorem ry_lookup {cc : ByteArray} {pc : Nat} {ls : Array Slot} {rest : List Value} (hexec : p.tables.exec = Jvm.exec) (hb : c.code = cc) {dflt : Int} {ps : Array (Int × Int)} {len : Nat} {x : Int32} (hdg : decode cc pc = .ok (.lookupswitch dflt ps, len)) (hp : (ps.toList.zip (ps.toList.drop 1)).all (fun (a, next) => a.1 < next.1) = true) (tg : List Nat)
    (h1 : tg.any (fun t => decide ((t : Int) = (pc : Int) + dflt)) = true) (h2 : ps.toList.all (fun o => tg.any (fun t => decide ((t : Int) = (pc : Int) + o.2))) = true)
    (kk : ∀ t ∈ tg, W p l e R s m args below meth c H locs cells slots Q (F0 m t ls rest)) : W p l e R s m args below meth c H locs cells slots Q (F0 m pc ls (.int x :: rest)) := by
  rcases ry_offset x.toInt dflt ps.toList with h | ⟨q, hq, h⟩
  · obtain ⟨t, ht, he⟩ := List.any_eq_true.mp h1
    exact lv_lookup hexec hb hdg hp h (of_decide_eq_true he).symm (kk t ht)
  · obtain ⟨t, ht, he⟩ := List.any_eq_true.mp (List.all_eq_true.mp h2 q hq)
    exact lv_lookup hexec hb hdg hp h (of_decide_eq_true he).symm (kk t ht)
end RL
