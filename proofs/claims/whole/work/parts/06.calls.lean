/-! Contracts of methods in the abstract machine's words, and calls. -/
def rmo (d : Nat) : Room := { frames := d, cells := 0, slots := 0, locals := 64 * d }
def cwd (μ : cMi) : List Cond := Cond.code μ.1 μ.2.1 μ.2.2.1 μ.2.2.2.1 :: bw
def rty : Nat → Option FieldType
  | 0 => none
  | 1 => some .int
  | 2 => some .long
  | 3 => some (.object "java/lang/String")
  | 4 => some .boolean
  | 5 => some .byte
  | _ => some .char
def Qk (D : va_G) (t : cT) (A : Nat → Prop) (Q : cV → cM → Prop) (k : Nat) : Array Value → State → Outcome → State → Prop := match k with
  | 0 => va_Qv (fun u : cM => Q vU u ∧ wfM u) (fun u T => RW D t u T.heap) A
  | 2 => va_Ql (fun r (u : Int × cM) => r = Int64.ofInt u.1 ∧ lR u.1 ∧ Q (vL u.1) u.2 ∧ wfM u.2) (fun u T => RW D t u.2 T.heap) A
  | 3 => va_Qr (fun u : Nat × cM => Q (vS (u.1 : Nat)) u.2 ∧ wfM u.2) (fun u a T => a = t.2.2.1 u.1 ∧ RW D t u.2 T.heap) A
  | _ => va_Qi (fun r (u : Int × cM) => r = Int32.ofInt u.1 ∧ iR u.1 ∧ Q (vI u.1) u.2 ∧ wfM u.2) (fun u T => RW D t u.2 T.heap) A
/-- THE CONTRACT: from these arguments and ints the method returns, with Q -/
def Ct (μ : cMi) (d : Nat) (Q : cV → cM → Prop) (as : List cV) (M : cM) : Prop :=
  wfL as → wfM M → ∀ (l : Launch) (t : cT) (A : Nat → Prop) (D : va_G), Met l μ.1 (cwd μ) (rmo d) (va_Pc (as.map (tr t)) (fun U => Kx D t A U ∧ RW D t M U.heap)) (Qk D t A Q μ.2.2.2.2.1) 0 0 A
/-- what the tables say of a method -/
def Mok (μ : cMi) : Prop := plainFor μ.1 = true ∧ Cond.code μ.1 μ.2.1 μ.2.2.1 μ.2.2.2.1 ∈ bw ∧ Cond.initialized μ.1.cls ∈ bw ∧ (μ.1.cls ≠ "java/lang/invoke/MethodHandle" ∧ μ.1.cls ≠ "java/lang/invoke/VarHandle" ∧ (parseMethodDescriptor μ.1.desc).map (fun d => d.parameters.length) = some μ.2.2.2.2.2) ∧ μ.2.2.1 ≤ 40 ∧ μ.2.2.2.1 = rty μ.2.2.2.2.1
def entL : List cV → List cV
  | [] => []
  | v :: l => if v.1 = 1 then v :: vU :: entL l else v :: entL l
theorem entL_at {t : cT} (hcat : ∀ u : cV, (tr t u).category = if u.1 = 1 then 2 else 1) : ∀ (as : List cV) (k i : Nat) (v : cV), (entL as)[i]? = some v → v.1 ≠ 9 → (k + i, tr t v) ∈ lv_args k (as.map (tr t)) := by
  intro as
  induction as with
  | nil => intro k i v h; cases h
  | cons a l ih =>
    intro k i v h h9
    unfold entL at h
    rw [List.map_cons]
    unfold lv_args
    rw [hcat a]
    by_cases ha : a.1 = 1
    · rw [if_pos ha] at h
      rw [if_pos ha, if_pos rfl]
      match i, h with
      | 0, h => cases h; exact List.mem_cons_self
      | 1, h => cases h; exact absurd rfl h9
      | i + 2, h =>
        have := ih (k + 2) i v h h9
        rw [show k + 2 + i = k + (i + 2) by omega] at this
        exact List.mem_cons_of_mem _ this
    · rw [if_neg ha] at h
      rw [if_neg ha, if_neg (by decide)]
      match i, h with
      | 0, h => cases h; exact List.mem_cons_self
      | i + 1, h =>
        have := ih (k + 1) i v h h9
        rw [show k + 1 + i = k + (i + 1) by omega] at this
        exact List.mem_cons_of_mem _ this
theorem entL_len {t : cT} (hcat : ∀ u : cV, (tr t u).category = if u.1 = 1 then 2 else 1) : ∀ as : List cV, (lg_sl (as.map (tr t))).length = (entL as).length := by
  intro as
  induction as with
  | nil => rfl
  | cons a l ih =>
    unfold lg_sl at ih ⊢
    unfold entL
    rw [List.map_cons, List.flatMap_cons, List.length_append, ih]
    rw [hcat a]
    by_cases ha : a.1 = 1
    · rw [if_pos ha, if_pos ha, if_pos rfl]; simp only [List.length_cons, List.length_nil]; omega
    · rw [if_neg ha, if_neg ha, if_neg (by decide)]; simp only [List.length_cons, List.length_nil]; omega
theorem wfL.ent : ∀ {as : List cV}, wfL as → wfL (entL as)
  | [], _ => fun v hv => by cases hv
  | a :: l, h => by
    unfold entL
    split
    · exact wfL.c h.h (wfL.c vok_u (wfL.ent h.t))
    · exact wfL.c h.h (wfL.ent h.t)
section XRET
variable {p : Program} {l : Launch} {e : Env} {R : Room} {s : State} {m : MethodId} {args : Array Value} {below : List Frame} {meth : Method} {c : Code} {H : Heap} {locs : List Loc} {cells slots : Nat}
/-- a return whose int is narrowed -/
theorem W_xret {cc : ByteArray} {Qc : Array Value → State → Outcome → State → Prop} {free : Addr → Prop} {v v' : Int32} {ty : FieldType} (hexec : p.tables.exec = Jvm.exec) (hb : c.code = cc) (hr : meth.sig.returnType = some ty) (hn : narrow ty (.int v) = .int v')
    (hq : ∀ t : State, t.heap = H → s.WarmedH t.vm → Qc args s (.returned (some (.int v'))) t) (hf : ∀ q ∈ locs, free q.base)
    {pc : Nat} {ls : Array Slot} (hdg : decode cc pc = .ok (.ireturn, 1)) (hlocks : meth.locks = false) : W p l e R s m args below meth c H locs cells slots (MQ below Qc args s cells slots free) (F0 m pc ls [.int v]) := by
  intro T hT X
  obtain ⟨fs, hret, hrun, hended, hW, hframe⟩ := X.leave (v := some (.int v')) (hlocks := hlocks) (fun h => by rw [hr] at h; cases h)
  have hmeth' : T.vm.method? m = some meth := X.method'
  refine ⟨T.setFrames fs, ?_, .returned (some (.int v')), hrun, hended, hq _ hT hW, locs, ⟨⟨_, rfl⟩, hW, hframe⟩, hf⟩
  jvm_step X.here [X.here.top, hexec, hb, hdg, hmeth', hr, hn]
  (try refine ⟨rfl, ?_⟩); (try refine ⟨rfl, ?_⟩)
  first | (intro acts; rw [hret _ acts rfl rfl rfl]) | rw [hret _ _ rfl rfl rfl]
  exact Steps.refl _
end XRET
theorem narK_e (k : Nat) (hk : k = 1 ∨ k = 4 ∨ k = 5 ∨ k = 6) (x : Int) : ∃ ty, rty k = some ty ∧ narrow ty (.int (Int32.ofInt x)) = .int (Int32.ofInt (narK k x)) := by
  rcases hk with rfl | rfl | rfl | rfl
  · exact ⟨_, rfl, by rw [show Int32.ofInt (narK 1 x) = vp_nar .int (Int32.ofInt x) from oI_of _]; rfl⟩
  · exact ⟨_, rfl, by rw [show Int32.ofInt (narK 4 x) = vp_nar .boolean (Int32.ofInt x) from oI_of _]; rfl⟩
  · exact ⟨_, rfl, by rw [show Int32.ofInt (narK 5 x) = vp_nar .byte (Int32.ofInt x) from oI_of _]; rfl⟩
  · exact ⟨_, rfl, by rw [show Int32.ofInt (narK 6 x) = vp_nar .char (Int32.ofInt x) from oI_of _]; rfl⟩
/-- a contract from a walk of the body, for a method that no native stands for -/
theorem met_body {l : Launch} {y : MethodName} {ws' : List Cond} {rm : Room} {Pc : Array Value → State → Prop} {Qc : Array Value → State → Outcome → State → Prop} {mc ms : Nat} {free : Addr → Prop} {cc : ByteArray} {maxL : Nat} {ret : Option FieldType} (hy : plainFor y = true)
    (body : ∀ p e s m args below meth c s₁, BodyLoose p l y (headSpec (Cond.code y cc maxL ret :: ws') rm) cc maxL ret e s m args below meth c s₁ → c.maxLocals = maxL → Pc args s → W p l e rm s m args below meth c s.heap [] 0 0 (MQ below Qc args s mc ms free) (entryFrame m args maxL)) : Met l y (Cond.code y cc maxL ret :: ws') rm Pc Qc mc ms free := by
  refine MetFree.of_bodySF (code := cc) (maxLocals := maxL) (ret := ret) hy (fun args s m h hn => ?_) (fun p e s m args below meth c s₁ B hml hP _ => ?_)
  · obtain ⟨meth, c, h1, h2, h3, h4, h5, h6, -, -⟩ := Cond.code_spec hn (atoms_spec (ws := Cond.code y cc maxL ret :: ws') h _ List.mem_cons_self)
    exact ⟨meth, c, h1, h2, h3, h4, h5, h6⟩
  · obtain ⟨t, a1, o, b1, b2, b3⟩ := body p e s m args below meth c s₁ B hml hP s₁ (by rw [B.state]; rfl) (Stand.of_body B)
    exact ⟨t, o, a1, b1, b2, b3⟩
/-- a contract out of a walk from the entry -/
theorem Ct_of {μ : cMi} {d : Nat} {Q : cV → cM → Prop} {as : List cV} {M : cM} (hok : Mok μ) (hn : (entL as).length ≤ μ.2.2.1) (h : Wa μ d Q 0 (entL as ++ List.replicate (μ.2.2.1 - (entL as).length) vU) [] M) : Ct μ d Q as M := by
  intro hwa hM l t A D
  refine met_body (cc := μ.2.1) (maxL := μ.2.2.1) (ret := μ.2.2.2.1) hok.1 ?_
  intro p e s m args below meth c s₁ B hml hv
  obtain ⟨rfl, hK, hP⟩ := hv
  have hts := atoms_spec (ws := cwd μ) B.pre
  have hcat := tr_cat hK
  have hlen : (lg_sl (as.map (tr t))).length ≤ μ.2.2.1 := by rw [entL_len hcat]; exact hn
  have hl := lv_entry (as.map (tr t)) (n := μ.2.2.1) hlen
  rw [lg_entry_eq]
  generalize (lg_sl (as.map (tr t)) ++ List.replicate (μ.2.2.1 - (lg_sl (as.map (tr t))).length) Slot.unset).toArray = ls at hl ⊢
  have hR : meth.sig.returnType = rty μ.2.2.2.2.1 := B.returns.trans hok.2.2.2.2.2
  have hx := B.exec
  have hb := B.bytes
  have hlocks := B.notSynchronized
  refine h p l e _ s m _ below meth c s.heap [] 0 0 _ t A D ls ⟨hx, hb, hml, findClass_of_methodNamed B.named, fun w hw => hts w (List.mem_cons_of_mem _ hw), ⟨Nat.le_refl _, Nat.le_refl _⟩, hK⟩ ⟨⟨Nat.zero_le _, Nat.zero_le _⟩, ?_⟩ hP va_S.rf ⟨hl.1, hl.2.1, ?_⟩ ?_ (fun v hv => by cases hv) hM
  · intro M1 H1 locs1 pc1 ls1 hM1 hP1 hS1
    refine ⟨fun x hk hQ hd => ?_, fun x hk hx1 hQ hd => ?_, fun k hk hQ hd => ?_, fun hk hQ hd => ?_⟩
    · obtain ⟨ty, e1, e2⟩ := narK_e _ hk x
      refine W_xret hx hb (hR.trans e1) e2 (fun T hT hW => ?_) hS1.2.2 hd hlocks
      have g : va_Qi (fun r (u : Int × cM) => r = Int32.ofInt u.1 ∧ iR u.1 ∧ Q (vI u.1) u.2 ∧ wfM u.2) (fun u T => RW D t u.2 T.heap) A (as.map (tr t)).toArray s (.returned (some (.int (Int32.ofInt (narK μ.2.2.2.2.1 x))))) T :=
        ⟨⟨_, (narK μ.2.2.2.2.1 x, M1), rfl, ⟨rfl, narK_R _ _, hQ, hM1⟩, (hT ▸ hP1 : RW D t M1 T.heap)⟩, hS1.F hT⟩
      rcases hk with e | e | e | e <;> (rw [e] at g ⊢; exact g)
    · rw [hk] at hR ⊢
      exact W.lret hx hb hR (fun T hT hW => ⟨⟨_, (x, M1), rfl, ⟨rfl, hx1, hQ, hM1⟩, (hT ▸ hP1 : RW D t M1 T.heap)⟩, hS1.F hT⟩) hS1.2.2 hd hlocks
    · rw [hk] at hR ⊢
      exact W.aret hx hb hR (Or.inl ⟨_, rfl⟩) (Or.inr ⟨_, rfl⟩) (fun T hT hW => ⟨⟨(k, M1), _, rfl, ⟨hQ, hM1⟩, rfl, (hT ▸ hP1 : RW D t M1 T.heap)⟩, hS1.F hT⟩) hS1.2.2 hd hlocks
    · rw [hk] at hR ⊢
      exact W.vret hx hb hR (fun T hT hW => ⟨⟨M1, rfl, ⟨hQ, hM1⟩, (hT ▸ hP1 : RW D t M1 T.heap)⟩, hS1.F hT⟩) hS1.2.2 hd hlocks
  · intro i v hi h9
    by_cases hlt : i < (entL as).length
    · rw [List.getElem?_append_left hlt] at hi
      have := entL_at hcat as 0 i v hi h9
      rw [Nat.zero_add] at this
      exact hl.2.2 _ this
    · rw [List.getElem?_append_right (by omega)] at hi
      have := List.mem_of_getElem? hi
      rw [List.eq_of_mem_replicate this] at h9
      exact absurd rfl h9
  · intro v hv
    rcases List.mem_append.mp hv with q | q
    · exact hwa.ent v q
    · rw [List.eq_of_mem_replicate q]
      exact vok_u
theorem gi_of {ws : List Cond} (h : ∀ w ∈ ws, w ∈ bw) : GoodIn bw ws := fun w hw => bw_self w (h w hw)
theorem ct_blind {D : va_G} {t : cT} {A : Nat → Prop} {M : cM} {vs : List Value} : FrameBlind (va_Pc vs (fun U => Kx D t A U ∧ RW D t M U.heap)) := fun a U g mk q => ⟨q.1, q.2.1.blind g mk a, q.2.2⟩
theorem cat_sum {D : va_G} {t : cT} {A : Nat → Prop} {s : State} (hK : Kx D t A s) {st : List cV} (h : (st.map fun v => if v.1 = 1 then 2 else 1).sum ≤ 8) : ((st.map (tr t)).map fun v => v.category).sum ≤ 8 := by
  rw [List.map_map]
  have : ((fun v : Value => v.category) ∘ tr t) = (fun v : cV => if v.1 = 1 then 2 else 1) := funext fun v => tr_cat hK v
  rw [this]
  exact h
theorem wfL.app {a b : List cV} (h : wfL (a ++ b)) : wfL a ∧ wfL b := ⟨fun v hv => h v (List.mem_append_left _ hv), fun v hv => h v (List.mem_append_right _ hv)⟩
theorem wfL.rev {a : List cV} (h : wfL a.reverse) : wfL a := fun v hv => h v (List.mem_reverse.mpr hv)
/-- what is owed behind a call -/
def kon (k : Nat) (Q1 : cV → cM → Prop) (P : List cV → cM → Prop) (st : List cV) : Prop := match k with
  | 0 => ∀ M, Q1 vU M → P st M
  | 2 => ∀ x M, Q1 (vL x) M → P (vL x :: st) M
  | 3 => ∀ (x : Nat) M, Q1 (vS (x : Nat)) M → P (vS (x : Nat) :: st) M
  | _ => ∀ x M, Q1 (vI x) M → P (vI x :: st) M
/-- behind a call -/
theorem s_back {μ ν : cMi} {d : Nat} {Q Q1 : cV → cM → Prop} {pc : Nat} {L st : List cV} {p : Program} {l : Launch} {e : Env} {R : Room} {s : State} {m : MethodId} {args : Array Value} {below : List Frame} {meth : Method} {c : Code} {H : Heap} {locs : List Loc} {cells slots : Nat} {Qf : State → Prop} {t : cT} {A : Nat → Prop} {D : va_G} {ls : Array Slot} {st0 : List Value} {a : Array Value}
    (hC : Cx μ d p R s m args c t A D) (hr : Rx μ Q p l e R s m args below meth c cells slots Qf t A D) (hS : va_S A s.heap H locs) (hl : RL t ls μ.2.2.1 L) (hL : wfL L) (hst : wfL st) (hk : kon ν.2.2.2.2.1 Q1 (fun st' M' => Wa μ d Q (pc + 3) L st' M') st)
    (hrun : va_Run p l e R s m args below meth c H locs cells slots 0 0 (F0 m pc ls st0) (st.map (tr t)) (Qk D t A Q1 ν.2.2.2.2.1 a) A) :
    W p l e R s m args below meth c H locs cells slots Qf (F0 m pc ls st0) := by
  obtain ⟨nm, b, ml, rt, rk, np⟩ := ν
  have gen : ∀ (hk : ∀ x M, Q1 (vI x) M → Wa μ d Q (pc + 3) L (vI x :: st) M) (hq : va_Run p l e R s m args below meth c H locs cells slots 0 0 (F0 m pc ls st0) (st.map (tr t)) (va_Qi (fun r (u : Int × cM) => r = Int32.ofInt u.1 ∧ iR u.1 ∧ Q1 (vI u.1) u.2 ∧ wfM u.2) (fun u T => RW D t u.2 T.heap) A a) A), W p l e R s m args below meth c H locs cells slots Qf (F0 m pc ls st0) := fun hk hq =>
    va_calli (a := a) hq hS (fun q _ h => h) (fun q h => h) (fun r u T H1 locs1 hT _ hp hB _ _ hS1 => by
      obtain ⟨rfl, h1, h2, h3⟩ := hp
      rw [hT] at hB
      exact hk _ _ h2 p l e R s m args below meth c H1 locs1 cells slots Qf t A D ls hC hr hB hS1 hl hL (hst.i h1) h3)
  match rk, hk, hrun with
  | 0, hk, hq => exact va_callv (a := a) hq hS (fun q _ h => h) (fun q h => h) (fun u T H1 locs1 hT _ hp hB _ _ hS1 => by
      rw [hT] at hB
      exact hk _ hp.1 p l e R s m args below meth c H1 locs1 cells slots Qf t A D ls hC hr hB hS1 hl hL hst hp.2)
  | 1, hk, hq => exact gen hk hq
  | 2, hk, hq => exact va_calll (a := a) hq hS (fun q _ h => h) (fun q h => h) (fun r u T H1 locs1 hT _ hp hB _ _ hS1 => by
      obtain ⟨rfl, h1, h2, h3⟩ := hp
      rw [hT] at hB
      exact hk _ _ h2 p l e R s m args below meth c H1 locs1 cells slots Qf t A D ls hC hr hB hS1 hl hL (hst.l h1) h3)
  | 3, hk, hq => exact va_callr (a := a) hq hS (fun q _ h => h) (fun q h => h) (fun u r T H1 locs1 hT _ hp hB _ _ hS1 => by
      obtain ⟨e1, hB⟩ := hB
      rw [hT] at hB
      rw [e1]
      exact hk _ _ hp.1 p l e R s m args below meth c H1 locs1 cells slots Qf t A D ls hC hr hB hS1 hl hL (hst.o (by decide)) hp.2)
  | n + 4, hk, hq => exact gen hk hq
theorem s_callS {μ ν : cMi} {d d' : Nat} {Q Q1 : cV → cM → Prop} {pc idx : Nat} {L st st0 As : List cV} {M : cM} (hν : Mok ν) (hd : decode μ.2.1 pc = .ok (.invokestatic idx, 3)) (hlink : Cond.methodLink μ.1.cls idx ν.1 ∈ bw) (hsta : Cond.static ν.1 ∈ bw) (hdd : d' < d) (hn : As.length = ν.2.2.2.2.2) (hA : As.reverse ++ st = st0) (hcat : (st.map fun v => if v.1 = 1 then 2 else 1).sum ≤ 8)
    (h : Ct ν d' Q1 As M) (hkon : kon ν.2.2.2.2.1 Q1 (fun st' M' => Wa μ d Q (pc + 3) L st' M') st) : Wa μ d Q pc L st0 M := by
  intro p l e R s m args below meth c H locs cells slots Qf t A D ls hC hr hP hS hl hL hst hM
  obtain ⟨hx, hb, hml, hown, hts, hR, hK⟩ := id hC
  subst hA
  obtain ⟨hw1, hw2⟩ := hst.app
  obtain ⟨o1, o2, o3, o4, o5, o6⟩ := id hν
  refine s_back (ν := ν) hC hr hS hl hL hw2 hkon (a := (As.map (tr t)).toArray) ?_
  refine va_runS (As := As.map (tr t)) (n := ν.2.2.2.2.2) ⟨hx, hb, hml, hown, hts⟩ (h hw1.rev hM l t A D) (va_cwS ν.2.2.2.2.2 hts (gi_of ?_) rfl rfl rfl o4 ⟨?_, ?_⟩) ⟨ct_blind, fun U hU hW => ⟨rfl, hK.moved hW (by rw [hU]; exact hS.2.1), by rw [hU]; exact hP⟩⟩ rfl (by rw [List.length_map]; exact hn) hl.1 ?_ (lv_room (cat_sum hK hcat)) hd ⟨hr.1.1, hr.1.2⟩
  · intro w hw
    rcases List.mem_append.mp (show w ∈ [Cond.methodLink μ.1.cls idx ν.1, .static ν.1, .initialized ν.1.cls] ++ cwd ν from hw) with q | q
    · simp only [List.mem_cons, List.not_mem_nil, or_false] at q
      rcases q with rfl | rfl | rfl
      · exact hlink
      · exact hsta
      · exact o3
    · rcases List.mem_cons.mp q with rfl | q
      · exact o2
      · exact q
  · have := hR.1
    show d' + 1 ≤ R.frames
    omega
  · have := hR.2
    show 8 + (ν.2.2.1 + 11) + 64 * d' ≤ R.locals
    omega
  · show List.map (tr t) (As.reverse ++ st) = (As.map (tr t)).reverse ++ st.map (tr t)
    rw [List.map_append, List.map_reverse]
theorem s_callV {μ ν : cMi} {d d' : Nat} {Q Q1 : cV → cM → Prop} {pc idx ci N : Nat} {T : u_T} {k : Int} {L st st0 As : List cV} {M : cM} (hν : Mok ν) (hd : decode μ.2.1 pc = .ok (.invokevirtual idx, 3)) (hk : (k, (0, ci)) ∈ ctab) (hc : ccl[ci]? = some (ν.1.cls, T, N)) (hlink : Cond.methodLink μ.1.cls idx ν.1 ∈ bw) (hins : Cond.instanceMethod ν.1 ∈ bw) (hsel : Cond.selects ν.1.cls ν.1 ν.1 ∈ bw) (hdd : d' < d) (hn : As.length = ν.2.2.2.2.2) (hA : As.reverse ++ vR k :: st = st0) (hcat : (st.map fun v => if v.1 = 1 then 2 else 1).sum ≤ 8)
    (h : Ct ν d' Q1 (vR k :: As) M) (hkon : kon ν.2.2.2.2.1 Q1 (fun st' M' => Wa μ d Q (pc + 3) L st' M') st) : Wa μ d Q pc L st0 M := by
  intro p l e R s m args below meth c H locs cells slots Qf t A D ls hC hr hP hS hl hL hst hM
  obtain ⟨hx, hb, hml, hown, hts, hR, hK⟩ := id hC
  subst hA
  obtain ⟨hw1, hw2⟩ := hst.app
  obtain ⟨o1, o2, o3, o4, o5, o6⟩ := id hν
  obtain ⟨q0, hq0, he⟩ := cws_at (t := t) (M := M) hk
  refine s_back (ν := ν) hC hr hS hl hL hw2.t hkon (a := (Value.ref (t.1 k) :: As.map (tr t)).toArray) ?_
  refine va_runV (As := As.map (tr t)) (b := t.1 k) (C := ν.1.cls) (n := ν.2.2.2.2.2) ⟨hx, hb, hml, hown, hts⟩ (h (wfL.o (by decide) hw1.rev) hM l t A D) (cwV ν.2.2.2.2.2 hts (gi_of ?_) rfl rfl rfl ⟨rfl, o4⟩ ⟨?_, ?_⟩) ⟨ct_blind, va_recv hK.1 hP.1 (ci := ci) (q0 := q0) hc he, fun U hU hW => ⟨rfl, hK.moved hW (by rw [hU]; exact hS.2.1), by rw [hU]; exact hP⟩⟩ rfl (by rw [List.length_map]; exact hn) hl.1 ?_ (lv_room (cat_sum hK hcat)) hd ⟨hr.1.1, hr.1.2⟩
  · intro w hw
    rcases List.mem_append.mp (show w ∈ [Cond.methodLink μ.1.cls idx ν.1, .instanceMethod ν.1, .selects ν.1.cls ν.1 ν.1, .initialized ν.1.cls] ++ cwd ν from hw) with q | q
    · simp only [List.mem_cons, List.not_mem_nil, or_false] at q
      rcases q with rfl | rfl | rfl | rfl
      · exact hlink
      · exact hins
      · exact hsel
      · exact o3
    · rcases List.mem_cons.mp q with rfl | q
      · exact o2
      · exact q
  · have := hR.1
    show d' + 1 ≤ R.frames
    omega
  · have := hR.2
    show 8 + (ν.2.2.1 + 11) + 64 * d' ≤ R.locals
    omega
  · show List.map (tr t) (As.reverse ++ vR k :: st) = (As.map (tr t)).reverse ++ Value.ref (t.1 k) :: st.map (tr t)
    rw [List.map_append, List.map_reverse]
    rfl
/-- a call of a String constant's method -/
theorem s_callT {μ ν : cMi} {d d' : Nat} {Q Q1 : cV → cM → Prop} {pc idx k : Nat} {L st st0 As : List cV} {M : cM} (hν : Mok ν) (hd : decode μ.2.1 pc = .ok (.invokevirtual idx, 3)) (hk : k < 14) (hcl : ν.1.cls = "java/lang/String") (hlink : Cond.methodLink μ.1.cls idx ν.1 ∈ bw) (hins : Cond.instanceMethod ν.1 ∈ bw) (hsel : Cond.selects ν.1.cls ν.1 ν.1 ∈ bw) (hdd : d' < d) (hn : As.length = ν.2.2.2.2.2) (hA : As.reverse ++ vS (k : Nat) :: st = st0) (hcat : (st.map fun v => if v.1 = 1 then 2 else 1).sum ≤ 8)
    (h : Ct ν d' Q1 (vS (k : Nat) :: As) M) (hkon : kon ν.2.2.2.2.1 Q1 (fun st' M' => Wa μ d Q (pc + 3) L st' M') st) : Wa μ d Q pc L st0 M := by
  intro p l e R s m args below meth c H locs cells slots Qf t A D ls hC hr hP hS hl hL hst hM
  obtain ⟨hx, hb, hml, hown, hts, hR, hK⟩ := id hC
  subst hA
  obtain ⟨hw1, hw2⟩ := hst.app
  obtain ⟨o1, o2, o3, o4, o5, o6⟩ := id hν
  have hrc := vk_recv hK.2.2.2.2.2.1 hk hS
  rw [← hcl] at hrc
  refine s_back (ν := ν) hC hr hS hl hL hw2.t hkon (a := (Value.ref (t.2.2.1 k) :: As.map (tr t)).toArray) ?_
  refine va_runV (As := As.map (tr t)) (b := t.2.2.1 k) (C := ν.1.cls) (n := ν.2.2.2.2.2) ⟨hx, hb, hml, hown, hts⟩ (h (wfL.o (by decide) hw1.rev) hM l t A D) (cwV ν.2.2.2.2.2 hts (gi_of ?_) rfl rfl rfl ⟨rfl, o4⟩ ⟨?_, ?_⟩) ⟨ct_blind, hrc, fun U hU hW => ⟨rfl, hK.moved hW (by rw [hU]; exact hS.2.1), by rw [hU]; exact hP⟩⟩ rfl (by rw [List.length_map]; exact hn) hl.1 ?_ (lv_room (cat_sum hK hcat)) hd ⟨hr.1.1, hr.1.2⟩
  · intro w hw
    rcases List.mem_append.mp (show w ∈ [Cond.methodLink μ.1.cls idx ν.1, .instanceMethod ν.1, .selects ν.1.cls ν.1 ν.1, .initialized ν.1.cls] ++ cwd ν from hw) with q | q
    · simp only [List.mem_cons, List.not_mem_nil, or_false] at q
      rcases q with rfl | rfl | rfl | rfl
      · exact hlink
      · exact hins
      · exact hsel
      · exact o3
    · rcases List.mem_cons.mp q with rfl | q
      · exact o2
      · exact q
  · have := hR.1
    show d' + 1 ≤ R.frames
    omega
  · have := hR.2
    show 8 + (ν.2.2.1 + 11) + 64 * d' ≤ R.locals
    omega
  · show List.map (tr t) (As.reverse ++ vS (k : Nat) :: st) = (As.map (tr t)).reverse ++ Value.ref (t.2.2.1 k) :: st.map (tr t)
    rw [List.map_append, List.map_reverse]
    rfl
/-- fewer locals known -/
def mkL : List cV → List Bool → List cV
  | v :: l, b :: m => (cond b v vU) :: mkL l m
  | l, _ => l
theorem mkL_at : ∀ (L : List cV) (m : List Bool) (i : Nat) (v : cV), (mkL L m)[i]? = some v → v.1 ≠ 9 → L[i]? = some v
  | [], m, i, v, h, _ => by
    have : mkL [] m = [] := by cases m <;> rfl
    rw [this] at h; cases h
  | u :: l, [], i, v, h, _ => h
  | u :: l, b :: m, 0, v, h, h9 => by
    have h : some (cond b u vU) = some v := h
    cases b with
    | true => exact h
    | false => cases h; exact absurd rfl h9
  | u :: l, b :: m, i + 1, v, h, h9 => mkL_at l m i v h h9
theorem mkL_wf : ∀ (L : List cV) (m : List Bool), wfL L → wfL (mkL L m)
  | [], m, h => by
    have : mkL [] m = [] := by cases m <;> rfl
    rw [this]; exact h
  | u :: l, [], h => h
  | u :: l, b :: m, h => by
    show wfL ((cond b u vU) :: mkL l m)
    cases b with
    | true => exact wfL.c h.h (mkL_wf l m h.t)
    | false => exact wfL.c vok_u (mkL_wf l m h.t)
theorem s_mask {μ : cMi} {d : Nat} {Q : cV → cM → Prop} {pc : Nat} {L st : List cV} {M : cM} (m : List Bool) (h : Wa μ d Q pc (mkL L m) st M) : Wa μ d Q pc L st M :=
  fun p l e R s mm args below meth c H locs cells slots Qf t A D ls hC hr hP hS hl hL hst hM =>
    h p l e R s mm args below meth c H locs cells slots Qf t A D ls hC hr hP hS ⟨hl.1, hl.2.1, fun i v hi h9 => hl.2.2 i v (mkL_at L m i v hi h9) h9⟩ (mkL_wf L m hL) hst hM
/-- the ints that a walk may take as in range -/
theorem s_wf {μ : cMi} {d : Nat} {Q : cV → cM → Prop} {pc : Nat} {L st : List cV} {M : cM} (h : wfM M → Wa μ d Q pc L st M) : Wa μ d Q pc L st M :=
  fun p l e R s mm args below meth c H locs cells slots Qf t A D ls hC hr hP hS hl hL hst hM => h hM p l e R s mm args below meth c H locs cells slots Qf t A D ls hC hr hP hS hl hL hst hM
theorem s_iret1 {μ : cMi} {d : Nat} {Q : cV → cM → Prop} {pc : Nat} {L : List cV} {M : cM} {x : Int} (hd : decode μ.2.1 pc = .ok (.ireturn, 1)) (hk : μ.2.2.2.2.1 = 1) (h : Q (vI x) M) : Wa μ d Q pc L [vI x] M :=
  fun p l e R s mm args below meth c H locs cells slots Qf t A D ls hC hr hP hS hl hL hst hM =>
    s_iret hd (Or.inl hk) (by rw [hk, narK_1 hst.hi]; exact h) p l e R s mm args below meth c H locs cells slots Qf t A D ls hC hr hP hS hl hL hst hM
theorem ite_t {c : Prop} {A B : Prop} {i : Decidable c} (h : @ite Prop c i A B) (hc : c) : A := by rw [if_pos hc] at h; exact h
theorem ite_f {c : Prop} {A B : Prop} {i : Decidable c} (h : @ite Prop c i A B) (hc : ¬ c) : B := by rw [if_neg hc] at h; exact h
theorem dlt {k d : Nat} (h : k + 1 ≤ d) : d - 1 < d := by omega
theorem dle {k g d : Nat} (h : k + 1 ≤ d) (hg : g ≤ k) : g ≤ d - 1 := by omega
