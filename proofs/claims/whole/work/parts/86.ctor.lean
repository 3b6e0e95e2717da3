/-! Contracts of the constructors (and of Arrays.fill): from one cell at b to the cells es' from b on -/
def rmn (d mc ms : Nat) : Room := { frames := d, cells := mc, slots := ms, locals := 64 * d }
def Qn (D : va_G) (b : Nat) (es' : List va_E) : Array Value → State → Outcome → State → Prop := va_Qv (fun _ : Unit => True) (fun _ T => HN D b es' T.heap) (fun q : Nat => b ≤ q)
def Pn (D : va_G) (kA : Nat → ClassId) (b : Nat) (as : List Value) (o : va_E) : Array Value → State → Prop := va_Pc (.ref b :: as) (fun U => Kn D kA U ∧ HN D b [o] U.heap)
def Cc (μ : cMi) (d mc ms : Nat) (as : List Value) (o : va_E) (es' : List va_E) (D : va_G) (kA : Nat → ClassId) (b : Nat) : Prop :=
  ∀ l : Launch, Met l μ.1 (cwd μ) (rmn d mc ms) (Pn D kA b as o) (Qn D b es') mc ms (fun q : Nat => b ≤ q)
theorem Cc_of {μ : cMi} {d mc ms : Nat} {as : List Value} {o : va_E} {es' : List va_E} {D : va_G} {kA : Nat → ClassId} {b : Nat} (hy : plainFor μ.1 = true) (hret : μ.2.2.2.1 = none) (hlen : (lg_sl (.ref b :: as)).length ≤ μ.2.2.1)
    (h : ∀ (p : Program) (l : Launch) (e : Env) (s : State) (m : MethodId) (args : Array Value) (below : List Frame) (meth : Method) (c : Code) (ls : Array Slot), Cn μ p s m args meth c D kA b → meth.locks = false → meth.sig.returnType = none → HN D b [o] s.heap → SN b s s.heap [] → lv_has ls μ.2.2.1 (lv_args 0 (.ref b :: as)) →
      W p l e (rmn d mc ms) s m args below meth c s.heap [] 0 0 (MQ below (Qn D b es') args s mc ms (fun q : Nat => b ≤ q)) (F0 m 0 ls [])) : Cc μ d mc ms as o es' D kA b := by
  intro l
  refine met_body (cc := μ.2.1) (maxL := μ.2.2.1) (ret := μ.2.2.2.1) hy ?_
  intro p e s m args below meth c s₁ B hml hv
  obtain ⟨rfl, hK, hP⟩ := hv
  have hts := atoms_spec (ws := cwd μ) B.pre
  have hl := lv_entry (.ref b :: as) (n := μ.2.2.1) hlen
  rw [lg_entry_eq]
  generalize (lg_sl (.ref b :: as) ++ List.replicate (μ.2.2.1 - (lg_sl (.ref b :: as)).length) Slot.unset).toArray = ls at hl ⊢
  exact h p l e s m _ below meth c ls ⟨B.exec, B.bytes, hml, findClass_of_methodNamed B.named, fun w hw => hts w (List.mem_cons_of_mem _ hw), hK, by rw [hP.1]; exact Nat.le_add_right _ _, (name_of_methodNamed B.named B.method).1⟩ B.notSynchronized (B.returns.trans hret) hP va_S.rf hl
section CN
variable {p : Program} {l : Launch} {e : Env} {R : Room} {s : State} {m : MethodId} {args : Array Value} {below : List Frame} {meth : Method} {c : Code} {H : Heap} {locs : List Loc} {cells slots : Nat} {Q : State → Prop}
variable {μ : cMi} {D : va_G} {kA : Nat → ClassId} {b pc : Nat} {ls : Array Slot} {rest : List Value} {es : List va_E}
theorem n_vret {es' : List va_E} (hC : Cn μ p s m args meth c D kA b) (hr : meth.sig.returnType = none) (hlocks : meth.locks = false) (hH : HN D b es' H) (hS : SN b s H locs) (hd : decode μ.2.1 pc = .ok (.return_, 1)) :
    W p l e R s m args below meth c H locs cells slots (MQ below (Qn D b es') args s cells slots (fun q : Nat => b ≤ q)) (F0 m pc ls []) :=
  W.vret hC.1 hC.2.1 hr (fun t ht _ => ⟨⟨(), rfl, trivial, by show HN D b es' t.heap; rw [ht]; exact hH⟩, hS.F ht⟩) hS.2.2 hd hlocks
/-- Object's own constructor -/
theorem n_obj {idx : Nat} {a : Addr} {lv : List (Nat × Value)} (hC : Cn μ p s m args meth c D kA b) (hlink : Cond.methodLink μ.1.cls idx Lib.objectInit ∈ bw) (hl : lv_has ls μ.2.2.1 lv) (hd : decode μ.2.1 pc = .ok (.invokespecial idx, 3)) (hfr : 1 ≤ R.frames) (hlo : 12 ≤ R.locals)
    (kk : W p l e R s m args below meth c H locs cells slots Q (F0 m (pc + 3) ls [])) : W p l e R s m args below meth c H locs cells slots Q (F0 m pc ls [.ref a]) := by
  obtain ⟨hx, hb, hml, hown, hts, -, -, -⟩ := hC
  exact W.objInit hx hb hown (hts _ hlink) (hts (.instanceMethod Lib.objectInit) (bw_t (i := 23) (by decide +kernel) rfl)) (hts (.code Lib.objectInit ⟨#[0xb1]⟩ 1 none) (bw_t (i := 24) (by decide +kernel) rfl)) rfl (by rw [hml]; exact hl.1) rfl hd hfr hlo kk
theorem Pn_blind {as : List Value} {o : va_E} : FrameBlind (Pn D kA b as o) := fun a _ g mk q => ⟨q.1, q.2.1.blind g mk a, q.2.2⟩
theorem Pn_hold {n : Nat} {as : List Value} {o : va_E} (hC : Cn μ p s m args meth c D kA b) (hH : HN D b (es ++ [o]) H) (hn : es.length = n) : PreS s H (Pn D kA (b + n) as o) (.ref (b + n) :: as) :=
  ⟨Pn_blind, fun _ hU hW => ⟨rfl, hC.2.2.2.2.2.1.moved hW, by rw [hU]; exact hH.last hn⟩⟩
theorem n_back {ν : cMi} {mc ms n : Nat} {st0 : List Value} {a : Array Value} {o : va_E} {es' : List va_E} (hH : HN D b (es ++ [o]) H) (hS : SN b s H locs) (hn : es.length = n)
    (hrun : va_Run p l e R s m args below meth c H locs cells slots mc ms (F0 m pc ls st0) rest (Qn D (b + n) es' a) (fun q : Nat => b + n ≤ q))
    (kk : ∀ (H1 : Heap) (locs1 : List Loc), HN D b (es ++ es') H1 → SN b s H1 locs1 → W p l e R s m args below meth c H1 locs1 (cells + mc) (slots + ms) Q (F0 m (pc + 3) ls rest)) : W p l e R s m args below meth c H locs cells slots Q (F0 m pc ls st0) :=
  va_callv (A1 := fun q : Nat => b + n ≤ q) hrun hS (fun _ _ h => Nat.le_trans (Nat.le_add_right b n) h) (fun _ h => Nat.le_trans (Nat.le_add_right b n) h) (fun _ t H1 locs1 ht _ _ hB _ hk hS1 => by
    rw [ht] at hB
    exact kk H1 locs1 (hH.glue hn hB hk) hS1)
theorem n_init {ν : cMi} {d mc ms n idx k : Nat} {as : List Value} {o : va_E} {es' : List va_E} {lv : List (Nat × Value)} (hC : Cn μ p s m args meth c D kA b) (hH : HN D b (es ++ [o]) H) (hS : SN b s H locs) (hl : lv_has ls μ.2.2.1 lv) (hn : es.length = n)
    (hK : Cc ν d mc ms as o es' D kA (b + n)) (hcode : Cond.code ν.1 ν.2.1 ν.2.2.1 ν.2.2.2.1 ∈ bw) (hret : ν.2.2.2.1 = none) (hini : Cond.initialized ν.1.cls ∈ bw) (hlink : Cond.methodLink μ.1.cls idx ν.1 ∈ bw) (hins : Cond.instanceMethod ν.1 ∈ bw) (hname : ν.1.name = "<init>")
    (hdesc : ν.1.cls ≠ "java/lang/invoke/MethodHandle" ∧ ν.1.cls ≠ "java/lang/invoke/VarHandle" ∧ (parseMethodDescriptor ν.1.desc).map (fun d => d.parameters.length) = some k) (hk : as.length = k) (hfr : d + 1 ≤ R.frames) (hlo : 8 + (ν.2.2.1 + 11) + 64 * d ≤ R.locals) (hcat : (rest.map fun v => v.category).sum ≤ 8) (hcells : cells + mc ≤ R.cells) (hslots : slots + ms ≤ R.slots)
    (hd : decode μ.2.1 pc = .ok (.invokespecial idx, 3)) {st0 : List Value} (hst : st0 = as.reverse ++ .ref (b + n) :: rest)
    (kk : ∀ (H1 : Heap) (locs1 : List Loc), HN D b (es ++ es') H1 → SN b s H1 locs1 → W p l e R s m args below meth c H1 locs1 (cells + mc) (slots + ms) Q (F0 m (pc + 3) ls rest)) : W p l e R s m args below meth c H locs cells slots Q (F0 m pc ls st0) := by
  obtain ⟨hx, hb, hml, hown, hts, hKn, -, -⟩ := id hC
  subst hst
  obtain ⟨nm, by', ml, rt, rk, np⟩ := ν
  obtain rfl : rt = none := hret
  refine n_back (ν := (nm, by', ml, none, rk, np)) (a := (Value.ref (b + n) :: as).toArray) hH hS hn ?_ kk
  exact va_runI (As := as) (b := b + n) (n := k) ⟨hx, hb, hml, hown, hts⟩ (hK l) (cwI k hts (gi_of (fun w hw => by
    rcases List.mem_cons.mp hw with rfl | q
    · exact hcode
    · exact q)) rfl rfl rfl (hts _ hini) (hts _ hlink) (hts _ hins) hname hdesc ⟨hfr, hlo⟩) (Pn_hold hC hH hn) rfl hk hl.1 rfl (lv_room hcat) hd ⟨hcells, hslots⟩
theorem n_initN {ν : cMi} {d mc ms n idx k : Nat} {as : List Value} {o : va_E} {es' : List va_E} {lv : List (Nat × Value)} {host : String} (hC : Cn μ p s m args meth c D kA b) (hH : HN D b (es ++ [o]) H) (hS : SN b s H locs) (hl : lv_has ls μ.2.2.1 lv) (hn : es.length = n)
    (hK : Cc ν d mc ms as o es' D kA (b + n)) (hcode : Cond.code ν.1 ν.2.1 ν.2.2.1 ν.2.2.2.1 ∈ bw) (hret : ν.2.2.2.1 = none) (hini : Cond.initialized ν.1.cls ∈ bw) (hlink : va_Nw (.methodLinkNest μ.1.cls idx ν.1 host) s) (hins : Cond.instanceMethod ν.1 ∈ bw) (hname : ν.1.name = "<init>")
    (hdesc : ν.1.cls ≠ "java/lang/invoke/MethodHandle" ∧ ν.1.cls ≠ "java/lang/invoke/VarHandle" ∧ (parseMethodDescriptor ν.1.desc).map (fun d => d.parameters.length) = some k) (hk : as.length = k) (hfr : d + 1 ≤ R.frames) (hlo : 8 + (ν.2.2.1 + 11) + 64 * d ≤ R.locals) (hcat : (rest.map fun v => v.category).sum ≤ 8) (hcells : cells + mc ≤ R.cells) (hslots : slots + ms ≤ R.slots)
    (hd : decode μ.2.1 pc = .ok (.invokespecial idx, 3)) {st0 : List Value} (hst : st0 = as.reverse ++ .ref (b + n) :: rest)
    (kk : ∀ (H1 : Heap) (locs1 : List Loc), HN D b (es ++ es') H1 → SN b s H1 locs1 → W p l e R s m args below meth c H1 locs1 (cells + mc) (slots + ms) Q (F0 m (pc + 3) ls rest)) : W p l e R s m args below meth c H locs cells slots Q (F0 m pc ls st0) := by
  obtain ⟨hx, hb, hml, hown, hts, hKn, -, -⟩ := id hC
  subst hst
  obtain ⟨nm, by', ml, rt, rk, np⟩ := ν
  obtain rfl : rt = none := hret
  refine n_back (ν := (nm, by', ml, none, rk, np)) (a := (Value.ref (b + n) :: as).toArray) hH hS hn ?_ kk
  exact va_runIN (As := as) (b := b + n) (n := k) ⟨hx, hb, hml, hown, hts⟩ (hK l) ⟨va_cnB k hts (gi_of (fun w hw => by
    rcases List.mem_cons.mp hw with rfl | q
    · exact hcode
    · exact q)) rfl rfl rfl hlink (hts _ hini) hdesc ⟨hfr, hlo⟩, hname, hts _ hins⟩ (Pn_hold hC hH hn) rfl hk hl.1 rfl (lv_room hcat) hd ⟨hcells, hslots⟩
/-- a static method whose first argument is the last cell -/
theorem n_callS {ν : cMi} {d mc ms n idx k : Nat} {as : List Value} {o : va_E} {es' : List va_E} {lv : List (Nat × Value)} (hC : Cn μ p s m args meth c D kA b) (hH : HN D b (es ++ [o]) H) (hS : SN b s H locs) (hl : lv_has ls μ.2.2.1 lv) (hn : es.length = n)
    (hK : Cc ν d mc ms as o es' D kA (b + n)) (hcode : Cond.code ν.1 ν.2.1 ν.2.2.1 ν.2.2.2.1 ∈ bw) (hret : ν.2.2.2.1 = none) (hini : Cond.initialized ν.1.cls ∈ bw) (hlink : Cond.methodLink μ.1.cls idx ν.1 ∈ bw) (hsta : Cond.static ν.1 ∈ bw)
    (hdesc : ν.1.cls ≠ "java/lang/invoke/MethodHandle" ∧ ν.1.cls ≠ "java/lang/invoke/VarHandle" ∧ (parseMethodDescriptor ν.1.desc).map (fun d => d.parameters.length) = some k) (hk : (Value.ref (b + n) :: as).length = k) (hfr : d + 1 ≤ R.frames) (hlo : 8 + (ν.2.2.1 + 11) + 64 * d ≤ R.locals) (hcat : (rest.map fun v => v.category).sum ≤ 8) (hcells : cells + mc ≤ R.cells) (hslots : slots + ms ≤ R.slots)
    (hd : decode μ.2.1 pc = .ok (.invokestatic idx, 3)) {st0 : List Value} (hst : st0 = (Value.ref (b + n) :: as).reverse ++ rest)
    (kk : ∀ (H1 : Heap) (locs1 : List Loc), HN D b (es ++ es') H1 → SN b s H1 locs1 → W p l e R s m args below meth c H1 locs1 (cells + mc) (slots + ms) Q (F0 m (pc + 3) ls rest)) : W p l e R s m args below meth c H locs cells slots Q (F0 m pc ls st0) := by
  obtain ⟨hx, hb, hml, hown, hts, hKn, -, -⟩ := id hC
  subst hst
  obtain ⟨nm, by', ml, rt, rk, np⟩ := ν
  obtain rfl : rt = none := hret
  refine n_back (ν := (nm, by', ml, none, rk, np)) (a := (Value.ref (b + n) :: as).toArray) hH hS hn ?_ kk
  refine va_runS (As := Value.ref (b + n) :: as) (n := k) ⟨hx, hb, hml, hown, hts⟩ (hK l) (va_cwS k hts (gi_of (fun w hw => ?_)) rfl rfl rfl hdesc ⟨hfr, hlo⟩) (Pn_hold hC hH hn) rfl hk hl.1 rfl (lv_room hcat) hd ⟨hcells, hslots⟩
  rcases List.mem_append.mp (show w ∈ [Cond.methodLink μ.1.cls idx nm, .static nm, .initialized nm.cls] ++ cwd (nm, by', ml, none, rk, np) from hw) with q | q
  · simp only [List.mem_cons, List.not_mem_nil, or_false] at q
    rcases q with rfl | rfl | rfl
    · exact hlink
    · exact hsta
    · exact hini
  · rcases List.mem_cons.mp q with rfl | q
    · exact hcode
    · exact q
end CN
