/-! A call of an int behind which the constant cells are known to be what they were. -/
theorem s_backc {μ ν : cMi} {d : Nat} {Q Q1 : cV → cM → Prop} {pc : Nat} {L st : List cV} {M : cM} {p : Program} {l : Launch} {e : Env} {R : Room} {s : State} {m : MethodId} {args : Array Value} {below : List Frame} {meth : Method} {c : Code} {H : Heap} {locs : List Loc} {cells slots : Nat} {Qf : State → Prop} {t : cT} {A : Nat → Prop} {D : va_G} {ls : Array Slot} {st0 : List Value} {a : Array Value}
    (hC : Cx μ d p R s m args c t A D) (hr : Rx μ Q p l e R s m args below meth c cells slots Qf t A D) (hP : RW D t M H) (hS : va_S A s.heap H locs) (hl : RL t ls μ.2.2.1 L) (hL : wfL L) (hst : wfL st) (hk : ∀ x M', Q1 (vI x) M' → (∀ c j, 1000 ≤ c → M' c j = M c j) → Wa μ d Q (pc + 3) L (vI x :: st) M') (h1 : ν.2.2.2.2.1 = 1)
    (hrun : va_Run p l e R s m args below meth c H locs cells slots 0 0 (F0 m pc ls st0) (st.map (tr t)) (Qk D t A Q1 ν.2.2.2.2.1 a) A) :
    W p l e R s m args below meth c H locs cells slots Qf (F0 m pc ls st0) := by
  rw [h1] at hrun
  exact va_calli (a := a) hrun hS (fun q _ h => h) (fun q h => h) (fun r u T H1 locs1 hT _ hp hB _ _ hS1 => by
      obtain ⟨rfl, g1, g2, g3⟩ := hp
      rw [hT] at hB
      exact hk _ _ g2 (fun c j hc => (hB.2 c j hc).trans (hP.2 c j hc).symm) p l e R s m args below meth c H1 locs1 cells slots Qf t A D ls hC hr hB hS1 hl hL (hst.i g1) g3)
theorem s_callVc {μ ν : cMi} {d d' : Nat} {Q Q1 : cV → cM → Prop} {pc idx ci N : Nat} {T : u_T} {k : Int} {L st st0 As : List cV} {M : cM} (hν : Mok ν) (hd : decode μ.2.1 pc = .ok (.invokevirtual idx, 3)) (hk : (k, (0, ci)) ∈ ctab) (hc : ccl[ci]? = some (ν.1.cls, T, N)) (hlink : Cond.methodLink μ.1.cls idx ν.1 ∈ bw) (hins : Cond.instanceMethod ν.1 ∈ bw) (hsel : Cond.selects ν.1.cls ν.1 ν.1 ∈ bw) (hdd : d' < d) (hn : As.length = ν.2.2.2.2.2) (hA : As.reverse ++ vR k :: st = st0) (hcat : (st.map fun v => if v.1 = 1 then 2 else 1).sum ≤ 8)
    (h : Ct ν d' Q1 (vR k :: As) M) (hkon : ∀ x M', Q1 (vI x) M' → (∀ c j, 1000 ≤ c → M' c j = M c j) → Wa μ d Q (pc + 3) L (vI x :: st) M') (h1 : ν.2.2.2.2.1 = 1 := by rfl) : Wa μ d Q pc L st0 M := by
  intro p l e R s m args below meth c H locs cells slots Qf t A D ls hC hr hP hS hl hL hst hM
  obtain ⟨hx, hb, hml, hown, hts, hR, hK⟩ := id hC
  subst hA
  obtain ⟨hw1, hw2⟩ := hst.app
  obtain ⟨o1, o2, o3, o4, o5, o6⟩ := id hν
  obtain ⟨q0, hq0, he⟩ := cws_at (t := t) (M := M) hk
  refine s_backc (ν := ν) hC hr hP hS hl hL hw2.t hkon h1 (a := (Value.ref (t.1 k) :: As.map (tr t)).toArray) ?_
  refine va_runV (As := As.map (tr t)) (b := t.1 k) (C := ν.1.cls) (n := ν.2.2.2.2.2) ⟨hx, hb, hml, hown, hts⟩ (h (wfL.o (by decide) hw1.rev) hM l t A D) (cwV ν.2.2.2.2.2 hts (gi_of ?_) rfl rfl rfl ⟨rfl, o4⟩ ⟨?_, ?_⟩) ⟨ct_blind, va_recv hK.1 hP.1 (ci := ci) (q0 := q0) hc he, fun U hU hW => ⟨rfl, hK.moved hW (by rw [hU]; exact hS.2.1), by rw [hU]; exact hP⟩⟩ rfl (by rw [List.length_map]; exact hn) hl.1 ?_ (lv_room (cat_sum hK hcat)) hd ⟨hr.1.1, hr.1.2⟩
  · intro w hw
    rcases List.mem_append.mp (show w ∈ [Cond.methodLink μ.1.cls idx ν.1, .instanceMethod ν.1, .selects ν.1.cls ν.1 ν.1, .initialized ν.1.cls] ++ cwd ν from hw) with q | q
    · simp only [List.mem_cons, List.not_mem_nil, or_false] at q
      rcases q with rfl | rfl | rfl | rfl
      · exact hlink
      · exact hins
      · exact hsel
      · exact o3
    · rcases List.mem_cons.mp q with rfl | q
      · exact o2
      · exact q
  · have := hR.1
    show d' + 1 ≤ R.frames
    omega
  · have := hR.2
    show 8 + (ν.2.2.1 + 11) + 64 * d' ≤ R.locals
    omega
  · show List.map (tr t) (As.reverse ++ vR k :: st) = (As.map (tr t)).reverse ++ Value.ref (t.1 k) :: st.map (tr t)
    rw [List.map_append, List.map_reverse]
    rfl
