/-! The constructors: cells that come one behind another, from an address b on. -/
/-- array types by the number of their kind: 1 int, 2 byte, 3 boolean, 4 rows, 5 int[][] -/
def nty (kA : Nat → ClassId) : List (ClassId × FieldType) := [(kA 1, .int), (kA 2, .byte), (kA 3, .boolean), (kA 4, .object "SlantSheets$Row"), (kA 5, .array .int)]
def Kn (D : va_G) (kA : Nat → ClassId) (U : State) : Prop := va_K D ccl (nty kA) U ∧ mr_AO U ∧ va_AO "SlantSheets$Row" U ∧
  va_Nw (.methodLinkNest "SlantSheets" 28 ⟨"SlantSheets$Tape", "<init>", "()V"⟩ "SlantSheets") U ∧ va_Nw (.methodLinkNest "SlantSheets" 54 ⟨"SlantSheets$Arrangement", "<init>", "()V"⟩ "SlantSheets") U ∧ va_Nw (.methodLinkNest "SlantSheets" 74 ⟨"SlantSheets$Row", "<init>", "()V"⟩ "SlantSheets") U
theorem Kn.moved {D : va_G} {kA : Nat → ClassId} {s U : State} (hW : s.WarmedH U.vm) (h : Kn D kA s) : Kn D kA U :=
  ⟨va_K.moved hW.alike h.1, h.2.1.moved hW.alike, va_AO.moved hW.alike h.2.2.1, va_Nw.warmM hW h.2.2.2.1, va_Nw.warmM hW h.2.2.2.2.1, va_Nw.warmM hW h.2.2.2.2.2⟩
theorem Kn.blind {D : va_G} {kA : Nat → ClassId} {U : State} (g : JFrame) (mk : MethodId) (a : Array Value) (h : Kn D kA U) : Kn D kA (U.calling g mk a) :=
  ⟨va_K.moved (Vm.Alike.refl U.vm) h.1, h.2.1.moved (Vm.Alike.refl U.vm), va_AO.moved (Vm.Alike.refl U.vm) h.2.2.1, va_Nw.same rfl rfl h.2.2.2.1, va_Nw.same rfl rfl h.2.2.2.2.1, va_Nw.same rfl rfl h.2.2.2.2.2⟩
/-- the heap ends with these cells, the first at b -/
def HN (D : va_G) (b : Nat) (es : List va_E) (H : Heap) : Prop := H.size = b + es.length ∧ ∀ (i : Nat) (e : va_E), es[i]? = some e → va_at D ccl (b + i, e) H
theorem HN.push {D : va_G} {b : Nat} {es : List va_E} {H H1 : Heap} {e : va_E} (h : HN D b es H) (z : H1.size = H.size + 1) (o : ∀ q : Nat, q < H.size → H1[q]? = H[q]?) (n : va_at D ccl (H.size, e) H1) : HN D b (es ++ [e]) H1 := by
  obtain ⟨h1, h2⟩ := h
  refine ⟨by rw [z, h1, List.length_append]; rfl, fun i x hi => ?_⟩
  by_cases hl : i < es.length
  · rw [List.getElem?_append_left hl] at hi
    exact (h2 i x hi).kept (o (b + i) (by rw [h1]; omega))
  · rw [List.getElem?_append_right (by omega)] at hi
    have hz : i - es.length < 1 := (List.getElem?_eq_some_iff.mp hi).1
    rw [show i - es.length = 0 by omega] at hi
    cases hi
    rw [show b + i = H.size by rw [h1]; omega]
    exact n
theorem HN.set {D : va_G} {b i : Nat} {es : List va_E} {H H1 : Heap} {e0 e : va_E} (h : HN D b es H) (hi : es[i]? = some e0) (z : H1.size = H.size) (o : ∀ q : Nat, q ≠ b + i → H1[q]? = H[q]?) (n : va_at D ccl (b + i, e) H1) : HN D b (es.set i e) H1 := by
  obtain ⟨h1, h2⟩ := h
  have hl : i < es.length := (List.getElem?_eq_some_iff.mp hi).1
  refine ⟨by rw [z, h1, List.length_set], fun j x hj => ?_⟩
  by_cases hji : i = j
  · subst hji
    rw [List.getElem?_set_self hl] at hj
    cases hj
    exact n
  · rw [List.getElem?_set_ne hji] at hj
    exact (h2 j x hj).kept (o (b + j) (by omega))
theorem HN.alt {D : va_G} {b i : Nat} {es : List va_E} {H : Heap} {c : ClassId} {x y : vp_A} (h : HN D b es H) (hi : es[i]? = some (.inl (c, x))) (hxy : vp_cell c x = vp_cell c y) : HN D b (es.set i (.inl (c, y))) H := by
  refine h.set hi rfl (fun _ _ => rfl) ?_
  have := h.2 i _ hi
  show H[b + i]? = some (vp_cell c y)
  rw [← hxy]
  exact this
theorem HN.last {D : va_G} {b n : Nat} {es : List va_E} {e : va_E} {H : Heap} (h : HN D b (es ++ [e]) H) (hn : es.length = n) : HN D (b + n) [e] H := by
  obtain ⟨h1, h2⟩ := h
  refine ⟨by rw [h1, List.length_append, hn]; show b + (n + 1) = b + n + 1; omega, fun i x hi => ?_⟩
  have hz : i < 1 := (List.getElem?_eq_some_iff.mp hi).1
  rw [show i = 0 by omega] at hi ⊢
  cases hi
  exact h2 n e (by rw [List.getElem?_append_right (by omega), hn, Nat.sub_self]; rfl)
theorem HN.glue {D : va_G} {b n : Nat} {es es' : List va_E} {e : va_E} {H H1 : Heap} (h : HN D b (es ++ [e]) H) (hn : es.length = n) (h' : HN D (b + n) es' H1) (o : ∀ q : Nat, q < H.size → ¬ b + n ≤ q → H1[q]? = H[q]?) : HN D b (es ++ es') H1 := by
  obtain ⟨h1, h2⟩ := h
  obtain ⟨g1, g2⟩ := h'
  refine ⟨by rw [g1, List.length_append, hn]; omega, fun i x hi => ?_⟩
  by_cases hl : i < es.length
  · rw [List.getElem?_append_left hl] at hi
    refine (h2 i x (by rw [List.getElem?_append_left hl]; exact hi)).kept (o (b + i) ?_ (by omega))
    rw [h1, List.length_append]
    omega
  · rw [List.getElem?_append_right (by omega)] at hi
    have := g2 _ x hi
    rw [show b + n + (i - es.length) = b + i by omega] at this
    exact this
theorem SN_push {A : Nat → Prop} {H0 H H1 : Heap} {locs : List Loc} (h : va_S A H0 H locs) (z : H.size ≤ H1.size) (o : ∀ q : Nat, q < H.size → H1[q]? = H[q]?) : va_S A H0 H1 locs :=
  ⟨Nat.le_trans h.1 z, fun x h1 h2 => (o x (Nat.lt_of_lt_of_le h1 h.1)).trans (h.2.1 x h1 h2), h.2.2⟩
theorem arrV_congr {c : ClassId} {n : Nat} {f g : Nat → Value} (h : ∀ j, j < n → f j = g j) : arrV c n f = arrV c n g := by
  unfold arrV
  congr 1
  congr 1
  funext j
  exact h j.val j.isLt
theorem cell_congr {c : ClassId} {n : Nat} {f g : Nat → Int32} (h : ∀ j, j < n → f j = g j) : vp_cell c (n, .inl f) = vp_cell c (n, .inl g) := by
  rw [vp_cell_i, vp_cell_i]
  exact arrV_congr (fun j hj => by rw [h j hj])
theorem cell_congrq {c : ClassId} {n : Nat} {f g : Nat → Option Nat} (h : ∀ j, j < n → f j = g j) : vp_cell c (n, .inr (.inr (.inr (.inr f)))) = vp_cell c (n, .inr (.inr (.inr (.inr g)))) := by
  rw [vp_cell_q, vp_cell_q]
  exact arrV_congr (fun j hj => by rw [h j hj])
def Cn (μ : cMi) (p : Program) (s : State) (m : MethodId) (args : Array Value) (meth : Method) (c : Code) (D : va_G) (kA : Nat → ClassId) (b : Nat) : Prop :=
  p.tables.exec = Jvm.exec ∧ c.code = μ.2.1 ∧ c.maxLocals = μ.2.2.1 ∧ s.vm.findClass μ.1.cls = some m.cls ∧ (∀ w ∈ bw, w.before args s = true) ∧ Kn D kA s ∧ b ≤ s.heap.size ∧ meth.name = μ.1.name
abbrev SN (b : Nat) (s : State) (H : Heap) (locs : List Loc) : Prop := va_S (fun q : Nat => b ≤ q) s.heap H locs
section BN
variable {p : Program} {l : Launch} {e : Env} {R : Room} {s : State} {m : MethodId} {args : Array Value} {below : List Frame} {meth : Method} {c : Code} {H : Heap} {locs : List Loc} {cells slots : Nat} {Q : State → Prop}
variable {μ : cMi} {D : va_G} {kA : Nat → ClassId} {b pc : Nat} {ls : Array Slot} {rest : List Value} {es : List va_E}
/-- new int[n], byte[n], boolean[n] -/
theorem n_newa (hC : Cn μ p s m args meth c D kA b) (hH : HN D b es H) (hS : SN b s H locs) (k : Nat) (atype : ArrayType) {ty : FieldType} {v : Int32} (N n : Nat) (hty : newarray.typeOf atype = ty) (hk : (nty kA)[k - 1]? = some (kA k, ty)) (hw : Cond.arrayClass ty ∈ bw) (hz : defaultValue ty = .int (Int32.ofInt 0))
    (hv : ¬ v < 0) (hN : v.toNatClampNeg = N) (hbytes : N * componentBytes ty ≤ 536870912) (hcells : cells + 1 ≤ R.cells) (hslots : slots + N ≤ R.slots) (hd : decode μ.2.1 pc = .ok (.newarray atype, 2)) (hn : es.length = n)
    (kk : ∀ H1 : Heap, HN D b (es ++ [.inl (kA k, (N, .inl (fun _ => Int32.ofInt 0)))]) H1 → SN b s H1 locs → W p l e R s m args below meth c H1 locs (cells + 1) (slots + N) Q (F0 m (pc + 2) ls (.ref (b + n) :: rest))) : W p l e R s m args below meth c H locs cells slots Q (F0 m pc ls (.int v :: rest)) := by
  obtain ⟨hx, hb, -, -, hts, hK, -, -⟩ := hC
  subst hty
  refine va_newaK hx hb (hts _ hw) rfl hd rfl hv hN hbytes hcells hslots rfl fun H1 cA e1 z1 o1 hAr hNm => ?_
  have hcA : cA = kA k := by
    have h1 := (hK.1.2 _ _ hk).2
    have h2 : s.vm.findClass ("[" ++ (newarray.typeOf atype).toString) = some (kA k) := by cases atype <;> exact h1
    exact Option.some.inj (hNm.symm.trans h2)
  subst hcA
  rw [show H.size = b + n by rw [hH.1, hn]]
  refine kk H1 (hH.push z1 o1 ?_) (SN_push hS (by omega) o1)
  show H1[H.size]? = some (vp_cell _ _)
  rw [e1, hz]
  rfl
/-- new C -/
theorem n_new (hC : Cn μ p s m args meth c D kA b) (hH : HN D b es H) (hS : SN b s H locs) (ci : Nat) {C : String} {T : u_T} {N idx n : Nat} (Y : Nat → FieldType) (hc : ccl[ci]? = some (C, T, N)) (hin : ∀ w ∈ u_ws C T N, w ∈ bw) (hY : ∀ k, k < N → parseFieldDescriptor (T k).2.2.1 = some (Y k)) {fs : List Value} (hfs : ∀ j, j < N → defaultValue (Y j) = vp_V fs j)
    (hcl : Cond.classLink μ.1.cls idx C ∈ bw) (hins : Cond.instantiable C N ∈ bw) (hini : Cond.initialized C ∈ bw) (hcells : cells + 1 ≤ R.cells) (hslots : slots + N ≤ R.slots) (hd : decode μ.2.1 pc = .ok (.new idx, 3)) (hn : es.length = n)
    (kk : ∀ H1 : Heap, HN D b (es ++ [.inr (ci, fs)]) H1 → SN b s H1 locs → W p l e R s m args below meth c H1 locs (cells + 1) (slots + N) Q (F0 m (pc + 3) ls (.ref (b + n) :: rest))) : W p l e R s m args below meth c H locs cells slots Q (F0 m pc ls rest) := by
  obtain ⟨hx, hb, -, hown, hts, hK, -, -⟩ := hC
  have hKn := hK.1.1 ci _ hc
  refine W.newcK hx hb hown (hts _ hcl) (hts _ hins) (hts _ hini) rfl hd hcells hslots hKn.2.1 rfl fun H1 kC hkC e1 z1 o1 => ?_
  rw [show H.size = b + n by rw [hH.1, hn]]
  refine kk H1 (hH.push z1 o1 ?_) (SN_push hS (by omega) o1)
  exact ⟨_, hc, (u_born Y hts hin hKn hkC e1 hY).to hfs⟩
/-- new Row[n] -/
theorem n_newq (hC : Cn μ p s m args meth c D kA b) (hH : HN D b es H) (hS : SN b s H locs) {idx : Nat} {v : Int32} (N n : Nat) (hcl : Cond.classLink μ.1.cls idx "SlantSheets$Row" ∈ bw)
    (hv : ¬ v < 0) (hN : v.toNatClampNeg = N) (hbytes : N * 4 ≤ 536870912) (hcells : cells + 1 ≤ R.cells) (hslots : slots + N ≤ R.slots) (hd : decode μ.2.1 pc = .ok (.anewarray idx, 3)) (hn : es.length = n)
    (kk : ∀ H1 : Heap, HN D b (es ++ [.inl (kA 4, (N, .inr (.inr (.inr (.inr (fun _ => none))))))]) H1 → SN b s H1 locs → W p l e R s m args below meth c H1 locs (cells + 1) (slots + N) Q (F0 m (pc + 3) ls (.ref (b + n) :: rest))) : W p l e R s m args below meth c H locs cells slots Q (F0 m pc ls (.int v :: rest)) := by
  obtain ⟨hx, hb, -, hown, hts, hK, -, -⟩ := hC
  subst hN
  refine W.anew hx hb hown (hts _ hcl) (va_AO.use hK.2.2.1) rfl hd rfl hv hbytes hcells hslots fun cA kC comp f1 f2 f3 f4 => ?_
  generalize hH1 : H.push ({ cls := cA, slots := Array.replicate v.toNatClampNeg .null, vm := .none } : Cell) = H1
  have z1 : H1.size = H.size + 1 := by rw [← hH1, Array.size_push]
  have o1 : ∀ q : Nat, q < H.size → H1[q]? = H[q]? := fun q hq => by rw [← hH1, Array.getElem?_push, if_neg (Nat.ne_of_lt hq)]
  have hcA : cA = kA 4 := by
    obtain ⟨_, _, _, _, _, h1⟩ := (hK.1.2 3 (kA 4, .object "SlantSheets$Row") rfl).2
    exact Option.some.inj (f1.symm.trans h1)
  subst hcA
  have e1 : H1[H.size]? = some (arrV (kA 4) v.toNatClampNeg (fun _ => .null)) := by rw [← hH1, Array.getElem?_push_size, ← arrV_new]
  rw [show H.size = b + n by rw [hH.1, hn]]
  exact kk H1 (hH.push z1 o1 e1) (SN_push hS (by omega) o1)
/-- new int[4][6] -/
theorem n_grid (hC : Cn μ p s m args meth c D kA b) (hH : HN D b es H) (hS : SN b s H locs) {idx : Nat} (n : Nat) (hcl : Cond.classLink μ.1.cls idx "[[I" ∈ bw) (hw : Cond.arrayClass .int ∈ bw)
    (hcells : cells + 5 ≤ R.cells) (hslots : slots + 28 ≤ R.slots) (hd : decode μ.2.1 pc = .ok (.multianewarray idx 2, 4)) (hn : es.length = n)
    (kk : ∀ H1 : Heap, HN D b (es ++ [.inl (kA 5, (4, .inr (.inr (.inr (.inr (fun j => some (b + n + 1 + j))))))), .inl (kA 1, (6, .inl (fun _ => Int32.ofInt 0))), .inl (kA 1, (6, .inl (fun _ => Int32.ofInt 0))), .inl (kA 1, (6, .inl (fun _ => Int32.ofInt 0))), .inl (kA 1, (6, .inl (fun _ => Int32.ofInt 0)))]) H1 → SN b s H1 locs →
      W p l e R s m args below meth c H1 locs (cells + 5) (slots + 28) Q (F0 m (pc + 4) ls (.ref (b + n) :: rest))) : W p l e R s m args below meth c H locs cells slots Q (F0 m pc ls (.int 6 :: .int 4 :: rest)) := by
  obtain ⟨hx, hb, -, hown, hts, hK, -, -⟩ := hC
  refine W_grid hx hb hown (hts _ hcl) hK.2.1 (hts _ hw) hd hcells hslots fun cA cI H1 f1 f2 _ _ z1 o1 eo ei => ?_
  have hcI : cI = kA 1 := Option.some.inj (f2.symm.trans (va_nm_int (hK.1.2 0 (kA 1, .int) rfl).2))
  have hcA : cA = kA 5 := by
    have h1 : s.vm.findClass "[[I" = some (kA 5) := (hK.1.2 4 (kA 5, .array .int) rfl).2
    exact Option.some.inj (f1.symm.trans h1)
  subst hcI
  subst hcA
  have hs : H.size = b + n := by rw [hH.1, hn]
  rw [hs] at eo ei ⊢
  refine kk H1 ⟨?_, fun i x hi => ?_⟩ (SN_push hS (by omega) o1)
  · rw [z1, hs, List.length_append, hn]
    show b + n + 5 = b + (n + 5)
    omega
  · by_cases hl : i < es.length
    · rw [List.getElem?_append_left hl] at hi
      exact (hH.2 i x hi).kept (o1 (b + i) (by omega))
    · rw [List.getElem?_append_right (by omega)] at hi
      have hz : i - es.length < 5 := (List.getElem?_eq_some_iff.mp hi).1
      have hin : va_at D ccl (b + i, .inl (kA 1, (6, .inl (fun _ => Int32.ofInt 0)))) H1 ∨ i - es.length = 0 := by
        by_cases h0 : i - es.length = 0
        · exact Or.inr h0
        · refine Or.inl ?_
          have := ei (i - es.length - 1) (by omega)
          rw [show b + n + 1 + (i - es.length - 1) = b + i by omega] at this
          exact this
      rcases (show i - es.length = 0 ∨ i - es.length = 1 ∨ i - es.length = 2 ∨ i - es.length = 3 ∨ i - es.length = 4 by omega) with h | h | h | h | h
      · rw [h] at hi
        cases hi
        rw [show b + i = b + n by omega]
        show H1[b + n]? = some (vp_cell _ _)
        rw [eo, vp_cell_q]
        exact congrArg some (arrV_congr (fun j hj => by rw [if_pos hj]))
      · rw [h] at hi
        cases hi
        exact hin.resolve_right (by omega)
      · rw [h] at hi
        cases hi
        exact hin.resolve_right (by omega)
      · rw [h] at hi
        cases hi
        exact hin.resolve_right (by omega)
      · rw [h] at hi
        cases hi
        exact hin.resolve_right (by omega)
theorem SN_put {H1 : Heap} {a k : Nat} (h : SN b s H locs) (z : H1.size = H.size) (o : ∀ q : Nat, q ≠ a → H1[q]? = H[q]?) (ha : b ≤ a) : SN b s H1 (locs ++ [⟨a, k⟩]) := va_S.put h z o ha
/-- a field that is not final -/
theorem n_put (hC : Cn μ p s m args meth c D kA b) (hH : HN D b es H) (hS : SN b s H locs) (i ci k : Nat) {a : Nat} (ha : b + i = a) {fs : List Value} (he : es[i]? = some (.inr (ci, fs))) {C : String} {T : u_T} {N idx : Nat} (Y : Nat → FieldType) (hc : ccl[ci]? = some (C, T, N)) (hin : ∀ w ∈ u_ws C T N, w ∈ bw) (hY : ∀ k, k < N → parseFieldDescriptor (T k).2.2.1 = some (Y k)) (hnm : ∀ a, a < N → ∀ b, b < N → a ≠ b → (T a).2.1 ≠ (T b).2.1)
    (hk : k < N) (hlink : Cond.fieldLink μ.1.cls idx (T k).1 (T k).2.1 (T k).2.2.1 ∈ bw) (hfin : (T k).2.2.2 = false) {v : Value} (hn : narrow (Y k) v = v) (hfit : fits (Y k) v = true) (hl : k < fs.length) (hd : decode μ.2.1 pc = .ok (.putfield idx, 3))
    (kk : ∀ (H1 : Heap) (locs1 : List Loc), HN D b (es.set i (.inr (ci, fs.set k v))) H1 → SN b s H1 locs1 → W p l e R s m args below meth c H1 locs1 cells slots Q (F0 m (pc + 3) ls rest)) : W p l e R s m args below meth c H locs cells slots Q (F0 m pc ls (v :: .ref a :: rest)) := by
  obtain ⟨hx, hb, -, hown, hts, hK, -, -⟩ := hC
  subst ha
  have hap := va_apart (own := μ.1.cls) hts hin Y hY hnm hK.1 hc
  obtain ⟨r, h1, cell, q1, q2, q3, q4⟩ := hH.2 i _ he
  obtain rfl : r = (C, T, N) := Option.some.inj (h1.symm.trans hc)
  obtain ⟨hSl, hfc, kC, hkC, hkind⟩ := hK.1.1 ci _ hc
  obtain ⟨cf, kf, fi, f, hi, hsl⟩ := hSl k hk
  have hlay := hts _ (hin _ (u_in_lay hk))
  unfold u_lay at hlay
  rw [if_neg (by rw [hfin]; decide)] at hlay
  have hst := (u_facts hfc hkC (u_lays hts hin hk) hi).1
  have h6 := u_store hfc hkC hkind hlay hi (hY k hk) hn hfit
  refine W.putK hx hb (f := f) ⟨hown, hts _ hlink, ⟨_, _, _, hi⟩, hst⟩ (by rw [q2]; exact h6) q1 q3 (by rw [hsl]; exact k2_hasslot (q4 k hk)) rfl rfl hd fun H' e1 e2 e3 => ?_
  rw [hsl] at e1 ⊢
  exact kk H' _ (hH.set he e2 e3 ⟨_, hc, t_OB.to (V := updV (vp_V fs) k v) ⟨_, e1, q2, q3, t_set q4 hap hk v⟩ (fun j _ => vp_updV_set hl v j)⟩) (SN_put hS e2 e3 (Nat.le_add_right b i))
/-- a final field, in its class's own constructor -/
theorem n_putF (hC : Cn μ p s m args meth c D kA b) (hH : HN D b es H) (hS : SN b s H locs) (i ci k : Nat) {a : Nat} (ha : b + i = a) {fs : List Value} (he : es[i]? = some (.inr (ci, fs))) {C : String} {T : u_T} {N idx : Nat} (Y : Nat → FieldType) (hc : ccl[ci]? = some (C, T, N)) (hin : ∀ w ∈ u_ws C T N, w ∈ bw) (hY : ∀ k, k < N → parseFieldDescriptor (T k).2.2.1 = some (Y k)) (hnm : ∀ a, a < N → ∀ b, b < N → a ≠ b → (T a).2.1 ≠ (T b).2.1)
    (hk : k < N) (hlink : Cond.fieldLink μ.1.cls idx (T k).1 (T k).2.1 (T k).2.2.1 ∈ bw) (hfin : (T k).2.2.2 = true) (hini : μ.1.name = "<init>") (hdecl : (T k).1 = μ.1.cls) {v : Value} (hn : narrow (Y k) v = v) (hfit : fits (Y k) v = true) (hl : k < fs.length) (hd : decode μ.2.1 pc = .ok (.putfield idx, 3))
    (kk : ∀ (H1 : Heap) (locs1 : List Loc), HN D b (es.set i (.inr (ci, fs.set k v))) H1 → SN b s H1 locs1 → W p l e R s m args below meth c H1 locs1 cells slots Q (F0 m (pc + 3) ls rest)) : W p l e R s m args below meth c H locs cells slots Q (F0 m pc ls (v :: .ref a :: rest)) := by
  obtain ⟨hx, hb, -, hown, hts, hK, -, hname⟩ := hC
  subst ha
  have hap := va_apart (own := μ.1.cls) hts hin Y hY hnm hK.1 hc
  obtain ⟨r, h1, cell, q1, q2, q3, q4⟩ := hH.2 i _ he
  obtain rfl : r = (C, T, N) := Option.some.inj (h1.symm.trans hc)
  obtain ⟨hSl, hfc, kC, hkC, hkind⟩ := hK.1.1 ci _ hc
  obtain ⟨cf, kf, fi, f, hi, hsl⟩ := hSl k hk
  have hlay := hts _ (hin _ (u_in_lay hk))
  unfold u_lay at hlay
  rw [if_pos hfin] at hlay
  have hst := (u_facts hfc hkC (u_lays hts hin hk) hi).1
  have hcf : m.cls = cf := by
    obtain ⟨_, _, c', _, _, _, -, -, hf', -, -, -, hown2, -⟩ := Cond.laysFinal_spec hlay
    have e1 : c' = cf := by have := hi.symm.trans hf'; simp at this; exact this.1.symm
    rw [hdecl] at hown2
    rw [← e1]
    exact Option.some.inj (hown.symm.trans hown2)
  have h6 := u_fits hfc hkC hkind (Or.inr hlay) hi (hY k hk) hn hfit
  refine W.putFinK hx hb hown (hts _ hlink) hi hst hcf (hname.trans hini) (by rw [q2]; exact h6) q1 q3 (by rw [hsl]; exact k2_hasslot (q4 k hk)) rfl rfl hd fun H' e1 e2 e3 => ?_
  rw [hsl] at e1 ⊢
  exact kk H' _ (hH.set he e2 e3 ⟨_, hc, t_OB.to (V := updV (vp_V fs) k v) ⟨_, e1, q2, q3, t_set q4 hap hk v⟩ (fun j _ => vp_updV_set hl v j)⟩) (SN_put hS e2 e3 (Nat.le_add_right b i))
theorem HN.one {D : va_G} {b i : Nat} {es : List va_E} {H : Heap} {e : va_E} (h : HN D b es H) (hi : es[i]? = some e) : va_P D ccl [(b + i, e)] H := fun k q hk => by
  have hz : k < 1 := (List.getElem?_eq_some_iff.mp hk).1
  rw [show k = 0 by omega] at hk
  cases hk
  exact h.2 i e hi
theorem n_get (hC : Cn μ p s m args meth c D kA b) (hH : HN D b es H) (i ci k : Nat) {a : Nat} (ha : b + i = a) {fs : List Value} (he : es[i]? = some (.inr (ci, fs))) {C : String} {T : u_T} {N idx : Nat} (hc : ccl[ci]? = some (C, T, N)) (hin : ∀ w ∈ u_ws C T N, w ∈ bw)
    (hk : k < N) (hlink : Cond.fieldLink μ.1.cls idx (T k).1 (T k).2.1 (T k).2.2.1 ∈ bw) {v : Value} (hv : fs[k]? = some v) (hd : decode μ.2.1 pc = .ok (.getfield idx, 3))
    (kk : W p l e R s m args below meth c H locs cells slots Q (F0 m (pc + 3) ls (v :: rest))) : W p l e R s m args below meth c H locs cells slots Q (F0 m pc ls (.ref a :: rest)) := by
  obtain ⟨hx, hb, -, hown, hts, hK, -, -⟩ := hC
  subst ha
  exact va_get hx hb hts hin hown hK.1 (hH.one he) 0 rfl hc k hk (hts _ hlink) (fun _ h => h) hv hd kk
theorem n_alen (hC : Cn μ p s m args meth c D kA b) (hH : HN D b es H) (i : Nat) {a n : Nat} {f : Nat → Int32} (ha : b + i = a) (he : es[i]? = some (.inl (kA 1, (n, .inl f)))) {v : Int32} (hv : Int32.ofNat n = v) (hd : decode μ.2.1 pc = .ok (.arraylength, 1))
    (kk : W p l e R s m args below meth c H locs cells slots Q (F0 m (pc + 1) ls (.int v :: rest))) : W p l e R s m args below meth c H locs cells slots Q (F0 m pc ls (.ref a :: rest)) := by
  obtain ⟨hx, hb, -, hown, hts, hK, -, -⟩ := hC
  subst ha
  exact va_alen hx hb hK.1 (hH.one he) 0 0 rfl (ty := .int) rfl hv hd kk
theorem n_iast (hC : Cn μ p s m args meth c D kA b) (hH : HN D b es H) (hS : SN b s H locs) (i : Nat) {a n : Nat} {f : Nat → Int32} (ha : b + i = a) (he : es[i]? = some (.inl (kA 1, (n, .inl f)))) {j x : Int32} (hin : vp_in j n) (hd : decode μ.2.1 pc = .ok (.iastore, 1))
    (kk : ∀ (H1 : Heap) (locs1 : List Loc), HN D b (es.set i (.inl (kA 1, (n, .inl (fun k => if k = j.toNatClampNeg then x else f k))))) H1 → SN b s H1 locs1 → W p l e R s m args below meth c H1 locs1 cells slots Q (F0 m (pc + 1) ls rest)) : W p l e R s m args below meth c H locs cells slots Q (F0 m pc ls (.int x :: .int j :: .ref a :: rest)) := by
  obtain ⟨hx, hb, -, hown, hts, hK, -, -⟩ := hC
  subst ha
  refine W.iast hx hb (hH.2 i _ he) ((hK.1.2 0 (kA 1, .int) rfl).1 n (fun j => .int (f j))) (fun q => by cases q) (by show ¬ (j < 0 ∨ (arrV _ _ _).slots.size ≤ _); rw [arrV_size]; exact hin) rfl rfl hd fun H1 e1 z o => ?_
  refine kk H1 _ (hH.set he z o ?_) (SN_put hS z o (Nat.le_add_right b i))
  show H1[b + i]? = some (vp_cell _ _)
  rw [e1, vp_cell_i, vp_cell_i, arrV_store]
  refine congrArg some (arrV_congr (fun k _ => ?_))
  unfold updV
  by_cases hq : k = j.toNatClampNeg
  · rw [if_pos hq, if_pos hq]
  · rw [if_neg hq, if_neg hq]
theorem n_astq (hC : Cn μ p s m args meth c D kA b) (hH : HN D b es H) (hS : SN b s H locs) (i i2 : Nat) {a a2 n : Nat} {vs : List Value} {f : Nat → Option Nat} (ha : b + i = a) (he : es[i]? = some (.inl (kA 4, (n, .inr (.inr (.inr (.inr f))))))) (ha2 : b + i2 = a2) (he2 : es[i2]? = some (.inr (5, vs))) {j : Int32} (hin : vp_in j n) (hd : decode μ.2.1 pc = .ok (.aastore, 1))
    (kk : ∀ (H1 : Heap) (locs1 : List Loc), HN D b (es.set i (.inl (kA 4, (n, .inr (.inr (.inr (.inr (fun k => if k = j.toNatClampNeg then some a2 else f k)))))))) H1 → SN b s H1 locs1 → W p l e R s m args below meth c H1 locs1 cells slots Q (F0 m (pc + 1) ls rest)) : W p l e R s m args below meth c H locs cells slots Q (F0 m pc ls (.ref a2 :: .int j :: .ref a :: rest)) := by
  obtain ⟨hx, hb, -, hown, hts, hK, -, -⟩ := hC
  subst ha
  subst ha2
  have hlt : j.toNatClampNeg < n := Nat.not_le.mp fun q => hin (Or.inr q)
  have h0 : ¬ j < 0 := fun q => hin (Or.inl q)
  obtain ⟨r', hr', cellV, g1, g2, g3, -⟩ := hH.2 i2 _ he2
  have hcls := (hK.1.1 5 (cR_W, cF_W, 3) rfl).2
  obtain ⟨kC, comp, k1, k2, k3, -⟩ := (hK.1.2 3 (kA 4, .object "SlantSheets$Row") rfl).2
  have hcomp : comp = D.1 5 := Option.some.inj (k3.symm.trans hcls.1)
  subst hcomp
  obtain ⟨kR, hkR, -⟩ := hcls.2
  refine W.aast hx hb (hH.2 i _ he) (fun q h => by cases h) (fun h => by cases h) k1 k2 rfl hkR ⟨h0, by show _ < (arrV _ _ _).slots.size; rw [arrV_size]; exact hlt⟩ g1 (fun q h => by rw [g3] at h; cases h) (by rw [g2]; exact hkR) (by rw [g2]; exact va_assign hcls) rfl rfl hd fun H1 e1 z o => ?_
  refine kk H1 _ (hH.set he z o ?_) (SN_put hS z o (Nat.le_add_right b i))
  show H1[b + i]? = some (vp_cell _ _)
  rw [e1, vp_cell_q, vp_cell_q, arrV_store]
  refine congrArg some (arrV_congr (fun k _ => ?_))
  unfold updV
  by_cases hq : k = j.toNatClampNeg
  · rw [if_pos hq, if_pos hq]
    rfl
  · rw [if_neg hq, if_neg hq]
end BN
