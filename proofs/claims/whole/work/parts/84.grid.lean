/-! A grid of four rows of six ints, as 'new int[4][6]' makes it -/
def mr_in (cI : ClassId) : Cell := arrV cI 6 (fun _ => .int 0)
def mr_out (cA : ClassId) (h i : Nat) : Cell := arrV cA 4 (fun j => va_rf (if j < i then some (h + 1 + j) else none))
def mr_st (s : State) (cA cI : ClassId) : Nat → State
  | 0 => s.pushCell (mr_out cA s.heap.size 0)
  | i + 1 => ((mr_st s cA cI i).pushCell (mr_in cI)).setCell s.heap.size (mr_out cA s.heap.size (i + 1))
theorem mr_out_0 (cA : ClassId) (h : Nat) : ({ cls := cA, slots := Array.replicate 4 .null, vm := .none } : Cell) = mr_out cA h 0 := by
  rw [arrV_new]
  refine congrArg (arrV cA 4) (funext fun j => ?_)
  simp [va_rf]
theorem mr_out_s (cA : ClassId) (h i : Nat) : (mr_out cA h i).setSlot i (.ref (h + 1 + i)) = mr_out cA h (i + 1) := by
  unfold mr_out
  rw [arrV_store]
  refine congrArg (arrV cA 4) (funext fun j => ?_)
  unfold updV
  by_cases e : j = i
  · subst e
    rw [if_pos rfl, if_pos (Nat.lt_succ_self j)]
    rfl
  · rw [if_neg e]
    dsimp only
    by_cases h1 : j < i
    · rw [if_pos h1, if_pos (Nat.lt_succ_of_lt h1)]
    · rw [if_neg h1, if_neg (by omega)]
theorem mr_facts (s : State) (cA cI : ClassId) : ∀ i : Nat, (mr_st s cA cI i).heap.size = s.heap.size + 1 + i ∧ (mr_st s cA cI i).heap[s.heap.size]? = some (mr_out cA s.heap.size i) ∧ (mr_st s cA cI i).vm = s.vm ∧ (mr_st s cA cI i).slotsUsed = s.slotsUsed + 4 + i * 6 ∧
    (∀ q : Nat, q < s.heap.size → (mr_st s cA cI i).heap[q]? = s.heap[q]?) ∧ ∀ j : Nat, j < i → (mr_st s cA cI i).heap[s.heap.size + 1 + j]? = some (mr_in cI)
  | 0 => by
    refine ⟨by simp [mr_st], by simp [mr_st], rfl, ?_, fun q hq => State.heap_pushCell_of_lt _ _ hq, fun j h => absurd h (Nat.not_lt_zero _)⟩
    simp [mr_st, mr_out, arrV_size]
  | i + 1 => by
    obtain ⟨a, b, v, u, o, n⟩ := mr_facts s cA cI i
    have hlt : s.heap.size < (mr_st s cA cI i).heap.size := by omega
    have hb1 : ((mr_st s cA cI i).pushCell (mr_in cI)).heap[s.heap.size]? = some (mr_out cA s.heap.size i) := by rw [State.heap_pushCell_of_lt (h := hlt)]; exact b
    refine ⟨?_, State.heap_setCell_self hb1, by simp [mr_st, v], ?_, fun q hq => ?_, fun j hj => ?_⟩
    · simp [mr_st, State.setCell, a]; omega
    · simp [mr_st, u, mr_in, arrV_size]; omega
    · show (((mr_st s cA cI i).pushCell (mr_in cI)).setCell s.heap.size _).heap[q]? = _
      rw [State.heap_setCell_other (Nat.ne_of_gt hq), State.heap_pushCell_of_lt (h := Nat.lt_trans hq hlt)]
      exact o q hq
    · show (((mr_st s cA cI i).pushCell (mr_in cI)).setCell s.heap.size _).heap[s.heap.size + 1 + j]? = _
      rw [State.heap_setCell_other (show s.heap.size ≠ s.heap.size + 1 + j by omega)]
      rcases Nat.lt_or_ge j i with h | h
      · have hx : s.heap.size + 1 + j < (mr_st s cA cI i).heap.size := by omega
        rw [State.heap_pushCell_of_lt (h := hx)]
        exact n j h
      · rw [show s.heap.size + 1 + j = (mr_st s cA cI i).heap.size by omega]
        exact State.heap_pushCell_size _ _
section MRW
variable {E : CtlPost} {e : Env} {d : Bool} {acts : List Action} {s : State}
/-- one array, all of its slots the same default -/
theorem mr_new {c comp : ClassId} {k : Class} {type : FieldType} {len : Nat} {v : Value} (hk : s.vm.classes[c]? = some k) (hkind : k.kind = .array comp type)
    (hlimit : ¬ len > e.platform.arrayLengthLimit) (hheap : ¬ len * componentBytes type > e.platform.maxHeapBytes) (hfit : fits type v = true) (hdef : v.isDefault = true)
    {Q : Addr → Pre} (h1 : s.heap.size < e.platform.maxCells) (h2 : s.slotsUsed + len ≤ e.platform.maxSlots)
    (hq : ∀ acts', Q s.heap.size d acts' (s.pushCell (arrV c len (fun _ => v)))) : wp (Jvm.newArray c len v) Q E e d acts s := by
  simp only [Jvm.newArray, Jvm.arrayFits, wp_bind', W.ask, W.ite, hlimit, if_false, wp_pure', W.theClass, hk, hkind, hheap, W.alloc, W.stop, Option.some.injEq, exists_eq_left', Array.size_replicate]
  rw [if_neg (by omega)]
  refine ⟨h1, h2, fun i w hw => ?_, ?_⟩
  · rw [Array.getElem?_replicate] at hw
    split at hw
    · cases hw
      simp [State.fitsSlot, State.slotType?, hk, hkind, hfit]
    · cases hw
  · rw [arrV_new]
    exact hq _
/-- the model's own making of the grid -/
theorem mr_make {cA cI cc : ClassId} {kA kI : Class} (hkA : s.vm.classes[cA]? = some kA) (hA : kA.kind = .array cI (.array .int)) (hkI : s.vm.classes[cI]? = some kI) (hI : kI.kind = .array cc .int)
    (hl : ¬ 6 > e.platform.arrayLengthLimit) (hh : ¬ 24 > e.platform.maxHeapBytes) (hc : s.heap.size + 5 ≤ e.platform.maxCells) (hs : s.slotsUsed + 28 ≤ e.platform.maxSlots)
    {Q : Addr → Pre} (hq : ∀ d' acts', Q s.heap.size d' acts' (mr_st s cA cI 4)) : wp (multianewarray.make cA [4, 6]) Q E e d acts s := by
  rw [multianewarray.make]
  simp only [wp_bind', W.ite, show ¬ (4 : Int32) < 0 by decide, if_false, wp_pure', W.theClass, hkA, hA, Option.some.injEq, exists_eq_left', show (4 : Int32).toNatClampNeg = 4 from rfl]
  refine mr_new hkA hA (by omega) (by show ¬ 4 * 4 > _; omega) rfl rfl (by omega) (by omega) (fun acts0 => ?_)
  simp only [show ((4 : Int32) == 0) = false from rfl, Bool.false_eq_true, if_false, wp_bind', wp_pure', Std.Legacy.Range.forIn_eq_forIn_range']
  show wp (forIn [0, 1, 2, 3] PUnit.unit _) _ E e d acts0 _
  refine wp_forIn_inv (fun rest s' => ∃ i, i ≤ 4 ∧ rest = [0, 1, 2, 3].drop i ∧ s' = mr_st s cA cI i) _ _ ⟨0, Nat.zero_le _, rfl, ?_⟩ ?_ ?_
  · rw [show arrV cA 4 (fun _ => Value.null) = mr_out cA s.heap.size 0 by rw [← arrV_new]; exact mr_out_0 cA s.heap.size]
    rfl
  · rintro x rest s' d' acts' Q' ⟨i, hi, hl2, rfl⟩ hnext
    obtain ⟨rfl, hrest, hlt⟩ : x = i ∧ rest = [0, 1, 2, 3].drop (i + 1) ∧ i < 4 := by
      rcases (show i = 0 ∨ i = 1 ∨ i = 2 ∨ i = 3 ∨ i = 4 by omega) with rfl | rfl | rfl | rfl | rfl
      · exact ⟨(List.cons.inj hl2).1, (List.cons.inj hl2).2, by decide⟩
      · exact ⟨(List.cons.inj hl2).1, (List.cons.inj hl2).2, by decide⟩
      · exact ⟨(List.cons.inj hl2).1, (List.cons.inj hl2).2, by decide⟩
      · exact ⟨(List.cons.inj hl2).1, (List.cons.inj hl2).2, by decide⟩
      · cases hl2
    obtain ⟨f1, f2, f3, f4, -, -⟩ := mr_facts s cA cI x
    simp only [wp_bind']
    rw [multianewarray.make]
    simp only [wp_bind', W.ite, show ¬ (6 : Int32) < 0 by decide, if_false, wp_pure', W.theClass, f3, hkI, hI, Option.some.injEq, exists_eq_left', show (6 : Int32).toNatClampNeg = 6 from rfl]
    refine mr_new (by rw [f3]; exact hkI) hI hl (by show ¬ 6 * 4 > _; omega) rfl rfl (by omega) (by omega) (fun acts1 => ?_)
    have hlt0 : s.heap.size < (mr_st s cA cI x).heap.size := by omega
    simp only [wp_bind', W.writeLoc, wp_pure']
    refine ⟨mr_out cA s.heap.size x, by rw [State.heap_pushCell_of_lt (h := hlt0)]; exact f2, (fun q => by cases q), (by show x < (arrV _ _ _).slots.size; rw [arrV_size]; exact hlt), ?_, hnext _ _ _ ⟨x + 1, hlt, hrest, ?_⟩⟩
    · show State.fitsSlot _ cA .none x _ = true
      simp [State.fitsSlot, State.slotType?, f3, hkA, hA, fits]
    · rw [f1, mr_out_s]
      rfl
  · rintro s' d' acts' ⟨i, hi, hl2, rfl⟩
    rcases (show i = 0 ∨ i = 1 ∨ i = 2 ∨ i = 3 ∨ i = 4 by omega) with rfl | rfl | rfl | rfl | rfl
    · cases hl2
    · cases hl2
    · cases hl2
    · cases hl2
    · exact hq _ _
end MRW
/-- what the tables say of the arrays of arrays of ints -/
def mr_AO (U : State) : Prop := ∃ (cI cA : ClassId) (kA : Class), U.vm.findClass "[I" = some cI ∧ U.vm.findClass "[[I" = some cA ∧ U.vm.classes[cA]? = some kA ∧ kA.kind = .array cI (.array .int)
theorem mr_AO.of {A : Array Value} {U : State} (h : (Cond.arrayOver (.array .int)).before A U = true) : mr_AO U := by
  obtain ⟨cI, cA, kA, h1, -, h2, h3, h4⟩ := arrayOverA_spec h
  exact ⟨cI, cA, kA, h1, h4, h2, h3⟩
theorem mr_AO.moved {u U : State} (hvm : u.vm.Alike U.vm) (h : mr_AO u) : mr_AO U := by
  obtain ⟨cI, cA, kA, h1, h2, h3, h4⟩ := h
  obtain ⟨k', hk', he⟩ := hvm.2.2 _ _ h3
  exact ⟨cI, cA, k', by rw [hvm.findClass]; exact h1, by rw [hvm.findClass]; exact h2, hk', by rw [he]; exact h4⟩
section MRS
variable {p : Program} {l : Launch} {e : Env} {R : Room} {s : State} {m : MethodId} {args : Array Value} {below : List Frame} {meth : Method} {c : Code} {T : State} {H : Heap} {locs : List Loc} {cells slots : Nat} {Q : State → Prop}
theorem mr_stand (X : Stand p l e R s m args below meth c T locs cells slots) (cA cI : ClassId) : ∀ i : Nat, Stand p l e R s m args below meth c (mr_st T cA cI i) (locs ++ (List.range i).map fun j => ⟨T.heap.size, j⟩) (cells + 1 + i) (slots + 4 + i * 6)
  | 0 => by
    have h := X.pushed (mr_out cA T.heap.size 0)
    rw [show (mr_out cA T.heap.size 0).slots.size = 4 from arrV_size _ _ _] at h
    simpa [mr_st] using h
  | i + 1 => by
    have Xi := mr_stand X cA cI i
    obtain ⟨f1, f2, -, -, -, -⟩ := mr_facts T cA cI i
    have hlt : T.heap.size < (mr_st T cA cI i).heap.size := by omega
    have hcell : ((mr_st T cA cI i).pushCell (mr_in cI)).heap[T.heap.size]? = some (mr_out cA T.heap.size i) := by rw [State.heap_pushCell_of_lt (h := hlt)]; exact f2
    have h := (Xi.pushed (mr_in cI)).stored hcell i (.ref (T.heap.size + 1 + i))
    rw [show (mr_in cI).slots.size = 6 from arrV_size _ _ _, mr_out_s] at h
    have e2 : (locs ++ (List.range (i + 1)).map fun j => (⟨T.heap.size, j⟩ : Loc)) = (locs ++ (List.range i).map fun j => (⟨T.heap.size, j⟩ : Loc)) ++ [⟨T.heap.size, i⟩] := by simp [List.range_succ, List.append_assoc]
    rw [e2, show cells + 1 + (i + 1) = cells + 1 + i + 1 by omega, show slots + 4 + (i + 1) * 6 = slots + 4 + i * 6 + 6 by omega]
    exact h
theorem mr_top (s : State) (f : JFrame) (cA cI : ClassId) : ∀ i : Nat, mr_st (s.setTop f) cA cI i = (mr_st s cA cI i).setTop f
  | 0 => rfl
  | i + 1 => by simp only [mr_st, mr_top s f cA cI i, State.heap_setTop, State.pushCell_setTop, State.setCell_setTop]
theorem W_grid {cc : ByteArray} (hexec : p.tables.exec = Jvm.exec) (hb : c.code = cc) {own : String} {index : Nat} (hown : s.vm.findClass own = some m.cls) (hclink : (Cond.classLink own index "[[I").before args s = true) (hAO : mr_AO s) (harr : (Cond.arrayClass .int).before args s = true)
    {pc : Nat} {ls : Array Slot} {rest : List Value} (hdg : decode cc pc = .ok (.multianewarray index 2, 4)) (hcells : cells + 5 ≤ R.cells) (hslots : slots + 28 ≤ R.slots)
    (kk : ∀ (cA cI : ClassId) (H' : Heap), s.vm.findClass "[[I" = some cA → s.vm.findClass "[I" = some cI → ArrOfT s cA (.array .int) → ArrOfT s cI .int → H'.size = H.size + 5 → (∀ q : Nat, q < H.size → H'[q]? = H[q]?) → H'[H.size]? = some (mr_out cA H.size 4) → (∀ j : Nat, j < 4 → H'[H.size + 1 + j]? = some (mr_in cI)) →
      W p l e R s m args below meth c H' locs (cells + 5) (slots + 28) Q (F0 m (pc + 4) ls (.ref H.size :: rest))) : W p l e R s m args below meth c H locs cells slots Q (F0 m pc ls (.int 6 :: .int 4 :: rest)) := by
  intro T hT X
  subst hT
  subst hb
  have hpl : e.platform.magicAccessors = ({} : Platform).magicAccessors := by rw [X.admits.platform]
  obtain ⟨cI, cA, kA, hcI, hnameA, hkA, hkindA⟩ := hAO
  obtain ⟨cI', kI, cc', hcI', hkI, hkindI⟩ := Cond.arrayClass_spec harr
  have hcI2 : s.vm.findClass "[I" = some cI' := hcI'
  obtain rfl : cI = cI' := Option.some.inj (hcI.symm.trans hcI2)
  obtain ⟨c0, hfc0, hcl⟩ := Cond.classLink_spec hown hclink e.platform hpl
  cases hnameA.symm.trans hfc0
  obtain ⟨hg₁, hwarm₁, hready₁⟩ := State.classEntry (e := e) X.warmed hcl
  generalize T.vm.noted m.cls index (.cls cA) = vm₁ at hg₁ hwarm₁ hready₁
  have hal : s.vm.Alike vm₁ := hwarm₁.alike
  obtain ⟨kA₁, hkA₁, heA⟩ := hal.2.2 _ _ hkA
  obtain ⟨kI₁, hkI₁, heI⟩ := hal.2.2 _ _ hkI
  have hkindA₁ : kA₁.kind = .array cI (.array .int) := by rw [heA]; exact hkindA
  have hkindI₁ : kI₁.kind = .array cc' .int := by rw [heI]; exact hkindI
  have X₁ := X.noted hwarm₁
  obtain ⟨hr1, hr2⟩ := X.roomAbove hcells hslots
  have XF : Stand p l e R s m args below meth c (mr_st (T.setVm vm₁) cA cI 4) locs (cells + 5) (slots + 28) := (mr_stand X₁ cA cI 4).dropFresh (fun x hx => by
    obtain ⟨j, -, rfl⟩ := List.mem_map.mp hx
    exact X.heapGrown)
  obtain ⟨f1, f2, -, -, f5, f6⟩ := mr_facts (T.setVm vm₁) cA cI 4
  obtain ⟨t, a1, b1⟩ := kk cA cI _ hnameA hcI (fun n z => ⟨(fun k h => by cases h), kA, hkA, cI, hkindA⟩) (fun n z => ⟨(fun k h => by cases h), kI, hkI, cc', hkindI⟩) f1 f5 f2 f6 _ rfl XF
  refine ⟨t, ?_, b1⟩
  have hl : ¬ 6 > e.platform.arrayLengthLimit := by rw [Launch.admits_arrayLengthLimit X.admits]; omega
  have hh : ¬ 24 > e.platform.maxHeapBytes := by rw [Launch.admits_maxHeapBytes X.admits]; omega
  jvm_step X.here [hexec, hdg]
  simp only [multianewarray.sem, wp_bind', W.resolveClassAt_links (State.method?_setTop (F0 m pc ls (.int 6 :: .int 4 :: rest)) X.here.top) hg₁]
  rw [W.popN, if_neg (by decide)]
  refine ⟨F0 m pc ls (.int 6 :: .int 4 :: rest), State.topJava?_setTop' (s := T.setVm vm₁) _ X.here.top, [.int 4, .int 6], rest, rfl, rfl, ?_⟩
  simp only [List.mapM_cons, List.mapM_nil, wp_bind', wp_pure']
  refine mr_make hkA₁ hkindA₁ hkI₁ hkindI₁ hl hh (by show T.heap.size + 5 ≤ _; omega) (by show T.slotsUsed + 28 ≤ _; omega) (fun d' acts' => ?_)
  have eS : ((T.setTop (F0 m pc ls (.int 6 :: .int 4 :: rest))).setVm vm₁).setTop (F0 m pc ls rest) = (T.setVm vm₁).setTop (F0 m pc ls rest) := by
    show ((T.setVm vm₁).setTop _).setTop _ = _
    rw [State.setTop_setTop]
  show wp _ _ _ _ _ _ (mr_st (((T.setTop (F0 m pc ls (.int 6 :: .int 4 :: rest))).setVm vm₁).setTop (F0 m pc ls rest)) cA cI 4)
  rw [eS, mr_top]
  simp only [wp_bind', W.mark, W.pushRef, State.topJava?_setTop' _ XF.here.top, Option.some.injEq, exists_eq_left', State.setTop_setTop, State.heap_setTop]
  intro acts
  simp [jvm, XF.here.top]
  exact a1
end MRS
