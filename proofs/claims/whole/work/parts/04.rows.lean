theorem s_iconst {μ : cMi} {d : Nat} {Q : cV → cM → Prop} {pc : Nat} {L st : List cV} {M : cM} {n : Int} (hd : decode μ.2.1 pc = .ok (.iconst n, 1)) (hn : iR n) (h : Wa μ d Q (pc + 1) L (vI n :: st) M) : Wa μ d Q pc L (st) M := by
  intro p l e R s m args below meth c H locs cells slots Qf t A D ls hC hr hP hS hl hL hst hM
  obtain ⟨hx, hb, hml, hown, hts, hR, hK⟩ := id hC
  exact lv_iconst hx hb hd rfl (h p l e R s m args below meth c H locs cells slots Qf t A D ls hC hr hP hS hl hL (hst.i hn) hM)

theorem s_bipush {μ : cMi} {d : Nat} {Q : cV → cM → Prop} {pc : Nat} {L st : List cV} {M : cM} {n : Int} (hd : decode μ.2.1 pc = .ok (.bipush n, 2)) (hn : (Int8.ofInt n).toInt32 = Int32.ofInt n ∧ iR n) (h : Wa μ d Q (pc + 2) L (vI n :: st) M) : Wa μ d Q pc L (st) M := by
  intro p l e R s m args below meth c H locs cells slots Qf t A D ls hC hr hP hS hl hL hst hM
  obtain ⟨hx, hb, hml, hown, hts, hR, hK⟩ := id hC
  exact lv_bipush hx hb hd hn.1 (h p l e R s m args below meth c H locs cells slots Qf t A D ls hC hr hP hS hl hL (hst.i hn.2) hM)

theorem s_sipush {μ : cMi} {d : Nat} {Q : cV → cM → Prop} {pc : Nat} {L st : List cV} {M : cM} {n : Int} (hd : decode μ.2.1 pc = .ok (.sipush n, 3)) (hn : (Int16.ofInt n).toInt32 = Int32.ofInt n ∧ iR n) (h : Wa μ d Q (pc + 3) L (vI n :: st) M) : Wa μ d Q pc L (st) M := by
  intro p l e R s m args below meth c H locs cells slots Qf t A D ls hC hr hP hS hl hL hst hM
  obtain ⟨hx, hb, hml, hown, hts, hR, hK⟩ := id hC
  exact lv_sipush hx hb hd hn.1 (h p l e R s m args below meth c H locs cells slots Qf t A D ls hC hr hP hS hl hL (hst.i hn.2) hM)

theorem s_lconst {μ : cMi} {d : Nat} {Q : cV → cM → Prop} {pc : Nat} {L st : List cV} {M : cM} {k : Fin 2} {n : Int} (hd : decode μ.2.1 pc = .ok (.lconst k, 1)) (hn : Int64.ofNat (k : Nat) = Int64.ofInt n ∧ lR n) (h : Wa μ d Q (pc + 1) L (vL n :: st) M) : Wa μ d Q pc L (st) M := by
  intro p l e R s m args below meth c H locs cells slots Qf t A D ls hC hr hP hS hl hL hst hM
  obtain ⟨hx, hb, hml, hown, hts, hR, hK⟩ := id hC
  exact lv_lconst hx hb hd hn.1 (h p l e R s m args below meth c H locs cells slots Qf t A D ls hC hr hP hS hl hL (hst.l hn.2) hM)

theorem s_ldc {μ : cMi} {d : Nat} {Q : cV → cM → Prop} {pc : Nat} {L st : List cV} {M : cM} {i : Nat} {n : Int} (hd : decode μ.2.1 pc = .ok (.ldc i, 2)) (hw : Cond.constant μ.1.cls i (Int32.ofInt n) ∈ bw) (hn : iR n) (h : Wa μ d Q (pc + 2) L (vI n :: st) M) : Wa μ d Q pc L (st) M := by
  intro p l e R s m args below meth c H locs cells slots Qf t A D ls hC hr hP hS hl hL hst hM
  obtain ⟨hx, hb, hml, hown, hts, hR, hK⟩ := id hC
  exact lv_ldc hx hb hown (hts _ hw) hd (h p l e R s m args below meth c H locs cells slots Qf t A D ls hC hr hP hS hl hL (hst.i hn) hM)

theorem s_ldcw {μ : cMi} {d : Nat} {Q : cV → cM → Prop} {pc : Nat} {L st : List cV} {M : cM} {i : Nat} {n : Int} (hd : decode μ.2.1 pc = .ok (.ldc_w i, 3)) (hw : Cond.constant μ.1.cls i (Int32.ofInt n) ∈ bw) (hn : iR n) (h : Wa μ d Q (pc + 3) L (vI n :: st) M) : Wa μ d Q pc L (st) M := by
  intro p l e R s m args below meth c H locs cells slots Qf t A D ls hC hr hP hS hl hL hst hM
  obtain ⟨hx, hb, hml, hown, hts, hR, hK⟩ := id hC
  exact lv_ldcw hx hb hown (hts _ hw) hd (h p l e R s m args below meth c H locs cells slots Qf t A D ls hC hr hP hS hl hL (hst.i hn) hM)

theorem s_ldc2 {μ : cMi} {d : Nat} {Q : cV → cM → Prop} {pc : Nat} {L st : List cV} {M : cM} {i : Nat} {n : Int} (hd : decode μ.2.1 pc = .ok (.ldc2_w i, 3)) (hw : Cond.constantLong μ.1.cls i (Int64.ofInt n) ∈ bw) (hn : lR n) (h : Wa μ d Q (pc + 3) L (vL n :: st) M) : Wa μ d Q pc L (st) M := by
  intro p l e R s m args below meth c H locs cells slots Qf t A D ls hC hr hP hS hl hL hst hM
  obtain ⟨hx, hb, hml, hown, hts, hR, hK⟩ := id hC
  exact lv_ldc2 hx hb hown (hts _ hw) hd (h p l e R s m args below meth c H locs cells slots Qf t A D ls hC hr hP hS hl hL (hst.l hn) hM)

theorem s_ldcS {μ : cMi} {d : Nat} {Q : cV → cM → Prop} {pc : Nat} {L st : List cV} {M : cM} {i : Nat} {k : Nat} (hd : decode μ.2.1 pc = .ok (.ldc i, 2)) (hc : μ.1.cls = "SlantSheets$TextReader") (hk : k < 14 ∧ cidx.getD k 0 = i) (h : Wa μ d Q (pc + 2) L (vS k :: st) M) : Wa μ d Q pc L (st) M := by
  intro p l e R s m args below meth c H locs cells slots Qf t A D ls hC hr hP hS hl hL hst hM
  obtain ⟨hx, hb, hml, hown, hts, hR, hK⟩ := id hC
  obtain ⟨-, -, -, -, -, -, h10, -⟩ := hK
  obtain ⟨hk1, rfl⟩ := hk
  rw [hc] at hown
  exact va_ldcS hx hb hown (h10 k hk1) hd (by
    have z := h p l e R s m args below meth c H locs cells slots Qf t A D ls hC hr hP hS hl hL (hst.o (by decide)) hM
    exact z)

theorem s_iload_n {μ : cMi} {d : Nat} {Q : cV → cM → Prop} {pc : Nat} {L st : List cV} {M : cM} {k : Fin 4} {x : Int} (hd : decode μ.2.1 pc = .ok (.iload_n k, 1)) (hi : L[(k : Nat)]? = some (vI x)) (h : Wa μ d Q (pc + 1) L (vI x :: st) M) : Wa μ d Q pc L (st) M := by
  intro p l e R s m args below meth c H locs cells slots Qf t A D ls hC hr hP hS hl hL hst hM
  obtain ⟨hx, hb, hml, hown, hts, hR, hK⟩ := id hC
  exact lv_iload_n hx hb hd rfl (hl.2.2 _ _ hi (by show ¬ (0 : Nat) = 9; decide)) (h p l e R s m args below meth c H locs cells slots Qf t A D ls hC hr hP hS hl hL (hst.c (hL.at hi)) hM)

theorem s_iload {μ : cMi} {d : Nat} {Q : cV → cM → Prop} {pc : Nat} {L st : List cV} {M : cM} {k : Nat} {x : Int} (hd : decode μ.2.1 pc = .ok (.iload k, 2)) (hi : L[k]? = some (vI x)) (h : Wa μ d Q (pc + 2) L (vI x :: st) M) : Wa μ d Q pc L (st) M := by
  intro p l e R s m args below meth c H locs cells slots Qf t A D ls hC hr hP hS hl hL hst hM
  obtain ⟨hx, hb, hml, hown, hts, hR, hK⟩ := id hC
  exact lv_iload hx hb hd (hl.2.2 _ _ hi (by show ¬ (0 : Nat) = 9; decide)) (h p l e R s m args below meth c H locs cells slots Qf t A D ls hC hr hP hS hl hL (hst.c (hL.at hi)) hM)

theorem s_lload_n {μ : cMi} {d : Nat} {Q : cV → cM → Prop} {pc : Nat} {L st : List cV} {M : cM} {k : Fin 4} {x : Int} (hd : decode μ.2.1 pc = .ok (.lload_n k, 1)) (hi : L[(k : Nat)]? = some (vL x)) (h : Wa μ d Q (pc + 1) L (vL x :: st) M) : Wa μ d Q pc L (st) M := by
  intro p l e R s m args below meth c H locs cells slots Qf t A D ls hC hr hP hS hl hL hst hM
  obtain ⟨hx, hb, hml, hown, hts, hR, hK⟩ := id hC
  exact lv_lload_n hx hb hd rfl (hl.2.2 _ _ hi (by show ¬ (1 : Nat) = 9; decide)) (h p l e R s m args below meth c H locs cells slots Qf t A D ls hC hr hP hS hl hL (hst.c (hL.at hi)) hM)

theorem s_lload {μ : cMi} {d : Nat} {Q : cV → cM → Prop} {pc : Nat} {L st : List cV} {M : cM} {k : Nat} {x : Int} (hd : decode μ.2.1 pc = .ok (.lload k, 2)) (hi : L[k]? = some (vL x)) (h : Wa μ d Q (pc + 2) L (vL x :: st) M) : Wa μ d Q pc L (st) M := by
  intro p l e R s m args below meth c H locs cells slots Qf t A D ls hC hr hP hS hl hL hst hM
  obtain ⟨hx, hb, hml, hown, hts, hR, hK⟩ := id hC
  exact lv_lload hx hb hd (hl.2.2 _ _ hi (by show ¬ (1 : Nat) = 9; decide)) (h p l e R s m args below meth c H locs cells slots Qf t A D ls hC hr hP hS hl hL (hst.c (hL.at hi)) hM)

theorem s_aload_n {μ : cMi} {d : Nat} {Q : cV → cM → Prop} {pc : Nat} {L st : List cV} {M : cM} {k : Fin 4} {n : Nat} {x : Int} (hd : decode μ.2.1 pc = .ok (.aload_n k, 1)) (hi : L[(k : Nat)]? = some (n, x)) (hn : n = 2 ∨ n = 3 ∨ n = 4 ∨ n = 5) (h : Wa μ d Q (pc + 1) L ((n, x) :: st) M) : Wa μ d Q pc L (st) M := by
  intro p l e R s m args below meth c H locs cells slots Qf t A D ls hC hr hP hS hl hL hst hM
  obtain ⟨hx, hb, hml, hown, hts, hR, hK⟩ := id hC
  have hq : ∃ y : Nat, tr t (n, x) = .ref y := by
    rcases hn with rfl | rfl | rfl | rfl <;> exact ⟨_, rfl⟩
  obtain ⟨y, hy⟩ := hq
  have g := hl.2.2 _ _ hi (by show ¬ n = 9; omega)
  rw [hy] at g
  have z := h p l e R s m args below meth c H locs cells slots Qf t A D ls hC hr hP hS hl hL (hst.c (hL.at hi)) hM
  rw [List.map_cons, hy] at z
  exact lv_aload_n hx hb hd rfl g z

theorem s_aload {μ : cMi} {d : Nat} {Q : cV → cM → Prop} {pc : Nat} {L st : List cV} {M : cM} {k : Nat} {n : Nat} {x : Int} (hd : decode μ.2.1 pc = .ok (.aload k, 2)) (hi : L[k]? = some (n, x)) (hn : n = 2 ∨ n = 3 ∨ n = 4 ∨ n = 5) (h : Wa μ d Q (pc + 2) L ((n, x) :: st) M) : Wa μ d Q pc L (st) M := by
  intro p l e R s m args below meth c H locs cells slots Qf t A D ls hC hr hP hS hl hL hst hM
  obtain ⟨hx, hb, hml, hown, hts, hR, hK⟩ := id hC
  have hq : ∃ y : Nat, tr t (n, x) = .ref y := by
    rcases hn with rfl | rfl | rfl | rfl <;> exact ⟨_, rfl⟩
  obtain ⟨y, hy⟩ := hq
  have g := hl.2.2 _ _ hi (by show ¬ n = 9; omega)
  rw [hy] at g
  have z := h p l e R s m args below meth c H locs cells slots Qf t A D ls hC hr hP hS hl hL (hst.c (hL.at hi)) hM
  rw [List.map_cons, hy] at z
  exact lv_aload hx hb hd g z

/-- no long stands just below place i -/
def okst (L : List cV) (i : Nat) : Bool := match i with | 0 => true | j + 1 => match L[j]? with | some u => u.1 != 1 | none => true
theorem tr_cat {D : va_G} {t : cT} {A : Nat → Prop} {s : State} (hK : Kx D t A s) (v : cV) : (tr t v).category = if v.1 = 1 then 2 else 1 := by
  obtain ⟨-, -, -, -, -, -, -, hf, -⟩ := hK
  obtain ⟨n, x⟩ := v
  match n with
  | 0 => rfl
  | 1 => rfl
  | 2 => rfl
  | 3 => rfl
  | 4 => rfl
  | 5 => rfl
  | 6 => rfl
  | 7 =>
    show (t.2.2.2.2.1).category = _
    rcases hf with h | ⟨a, h⟩ <;> rw [h] <;> rfl
  | n + 8 => rw [if_neg (by show ¬ n + 8 = 1; omega)]; rfl
theorem RL.to {t : cT} {ls : Array Slot} {n : Nat} {L : List cV} (h : RL t ls n L) : lv_has ls n (L.zipIdx.filterMap (fun q => if q.1.1 = 9 then none else some (q.2, tr t q.1))) := by
  obtain ⟨h1, h2, h3⟩ := h
  refine ⟨h1, h2, fun q hq => ?_⟩
  obtain ⟨y, hy, e⟩ := List.mem_filterMap.mp hq
  by_cases h9 : y.1.1 = 9
  · rw [if_pos h9] at e; cases e
  · rw [if_neg h9] at e
    cases e
    have := List.mem_zipIdx_iff_getElem?.mp hy
    exact h3 y.2 y.1 this h9
theorem RL.set1 {t : cT} {ls' : Array Slot} {n : Nat} {L : List cV} {i : Nat} {v : cV} (hcat : ∀ u : cV, (tr t u).category = if u.1 = 1 then 2 else 1) (hok : okst L i = true) (h : lv_has ls' n ((i, tr t v) :: (L.zipIdx.filterMap (fun q => if q.1.1 = 9 then none else some (q.2, tr t q.1))).filter (fun q => !(q.1 == i) && !(q.1 + 1 == i && q.2.category == 2)))) : RL t ls' n (L.set i v) := by
  obtain ⟨h1, h2, h3⟩ := h
  refine ⟨h1, h2, fun j u hj h9 => ?_⟩
  by_cases hij : j = i
  · subst hij
    have hlt : j < (L.set j v).length := (List.getElem?_eq_some_iff.mp hj).1
    rw [List.length_set] at hlt
    rw [List.getElem?_set_self hlt] at hj
    cases hj
    exact h3 (j, tr t v) List.mem_cons_self
  · rw [List.getElem?_set_ne (Ne.symm hij)] at hj
    refine h3 (j, tr t u) (List.mem_cons_of_mem _ (List.mem_filter.mpr ⟨List.mem_filterMap.mpr ⟨(u, j), List.mem_zipIdx_iff_getElem?.mpr hj, by rw [if_neg h9]⟩, ?_⟩))
    show (!(j == i) && !(j + 1 == i && (tr t u).category == 2)) = true
    have e1 : (j == i) = false := by simpa using hij
    rw [e1]
    by_cases hk : j + 1 = i
    · subst hk
      have hok' : (match L[j]? with | some u => u.1 != 1 | none => true) = true := hok
      rw [hj] at hok'
      have hu : ¬ u.1 = 1 := by simpa using hok'
      rw [hcat u, if_neg hu]
      simp
    · have e2 : (j + 1 == i) = false := by simpa using hk
      rw [e2]
      rfl
theorem RL.set2 {t : cT} {ls' : Array Slot} {n : Nat} {L : List cV} {i : Nat} {v : cV} (hcat : ∀ u : cV, (tr t u).category = if u.1 = 1 then 2 else 1) (hok : okst L i = true) (h : lv_has ls' n ((i, tr t v) :: (L.zipIdx.filterMap (fun q => if q.1.1 = 9 then none else some (q.2, tr t q.1))).filter (fun q => !(q.1 == i) && (!(q.1 == i + 1) && !(q.1 + 1 == i && q.2.category == 2))))) : RL t ls' n ((L.set i v).set (i + 1) vU) := by
  obtain ⟨h1, h2, h3⟩ := h
  refine ⟨h1, h2, fun j u hj h9 => ?_⟩
  by_cases hi1 : j = i + 1
  · subst hi1
    have hlt : i + 1 < ((L.set i v).set (i + 1) vU).length := (List.getElem?_eq_some_iff.mp hj).1
    rw [List.length_set] at hlt
    rw [List.getElem?_set_self hlt] at hj
    cases hj
    exact absurd rfl h9
  · rw [List.getElem?_set_ne (Ne.symm hi1)] at hj
    by_cases hij : j = i
    · subst hij
      have hlt : j < (L.set j v).length := (List.getElem?_eq_some_iff.mp hj).1
      rw [List.length_set] at hlt
      rw [List.getElem?_set_self hlt] at hj
      cases hj
      exact h3 (j, tr t v) List.mem_cons_self
    · rw [List.getElem?_set_ne (Ne.symm hij)] at hj
      refine h3 (j, tr t u) (List.mem_cons_of_mem _ (List.mem_filter.mpr ⟨List.mem_filterMap.mpr ⟨(u, j), List.mem_zipIdx_iff_getElem?.mpr hj, by rw [if_neg h9]⟩, ?_⟩))
      show (!(j == i) && (!(j == i + 1) && !(j + 1 == i && (tr t u).category == 2))) = true
      have e1 : (j == i) = false := by simpa using hij
      have e3 : (j == i + 1) = false := by simpa using hi1
      rw [e1, e3]
      by_cases hk : j + 1 = i
      · subst hk
        have hok' : (match L[j]? with | some u => u.1 != 1 | none => true) = true := hok
        rw [hj] at hok'
        have hu : ¬ u.1 = 1 := by simpa using hok'
        rw [hcat u, if_neg hu]
        simp
      · have e2 : (j + 1 == i) = false := by simpa using hk
        rw [e2]
        rfl

theorem s_istore_n {μ : cMi} {d : Nat} {Q : cV → cM → Prop} {pc : Nat} {L st : List cV} {M : cM} {k : Fin 4} {x : Int} (hd : decode μ.2.1 pc = .ok (.istore_n k, 1)) (hn : (k : Nat) < μ.2.2.1 ∧ okst L (k : Nat) = true) (h : Wa μ d Q (pc + 1) (L.set (k : Nat) (vI x)) (st) M) : Wa μ d Q pc L (vI x :: st) M := by
  intro p l e R s m args below meth c H locs cells slots Qf t A D ls hC hr hP hS hl hL hst hM
  obtain ⟨hx, hb, hml, hown, hts, hR, hK⟩ := id hC
  exact lv_istore_n hx hb hd rfl hl.to hn.1 rfl (fun ls' hl' => h p l e R s m args below meth c H locs cells slots Qf t A D ls' hC hr hP hS (RL.set1 (v := vI x) (tr_cat hK) hn.2 hl') (hL.set hst.h) hst.t hM)

theorem s_istore {μ : cMi} {d : Nat} {Q : cV → cM → Prop} {pc : Nat} {L st : List cV} {M : cM} {k : Nat} {x : Int} (hd : decode μ.2.1 pc = .ok (.istore k, 2)) (hn : k < μ.2.2.1 ∧ okst L k = true) (h : Wa μ d Q (pc + 2) (L.set k (vI x)) (st) M) : Wa μ d Q pc L (vI x :: st) M := by
  intro p l e R s m args below meth c H locs cells slots Qf t A D ls hC hr hP hS hl hL hst hM
  obtain ⟨hx, hb, hml, hown, hts, hR, hK⟩ := id hC
  exact lv_istore hx hb hd hl.to hn.1 rfl (fun ls' hl' => h p l e R s m args below meth c H locs cells slots Qf t A D ls' hC hr hP hS (RL.set1 (v := vI x) (tr_cat hK) hn.2 hl') (hL.set hst.h) hst.t hM)

theorem s_lstore_n {μ : cMi} {d : Nat} {Q : cV → cM → Prop} {pc : Nat} {L st : List cV} {M : cM} {k : Fin 4} {x : Int} (hd : decode μ.2.1 pc = .ok (.lstore_n k, 1)) (hn : (k : Nat) + 1 < μ.2.2.1 ∧ okst L (k : Nat) = true) (h : Wa μ d Q (pc + 1) ((L.set (k : Nat) (vL x)).set ((k : Nat) + 1) vU) (st) M) : Wa μ d Q pc L (vL x :: st) M := by
  intro p l e R s m args below meth c H locs cells slots Qf t A D ls hC hr hP hS hl hL hst hM
  obtain ⟨hx, hb, hml, hown, hts, hR, hK⟩ := id hC
  exact lv_lstore_n hx hb hd rfl hl.to hn.1 rfl (fun ls' hl' => h p l e R s m args below meth c H locs cells slots Qf t A D ls' hC hr hP hS (RL.set2 (v := vL x) (tr_cat hK) hn.2 hl') ((hL.set hst.h).set vok_u) hst.t hM)

theorem s_lstore {μ : cMi} {d : Nat} {Q : cV → cM → Prop} {pc : Nat} {L st : List cV} {M : cM} {k : Nat} {x : Int} (hd : decode μ.2.1 pc = .ok (.lstore k, 2)) (hn : k + 1 < μ.2.2.1 ∧ okst L k = true) (h : Wa μ d Q (pc + 2) ((L.set k (vL x)).set (k + 1) vU) (st) M) : Wa μ d Q pc L (vL x :: st) M := by
  intro p l e R s m args below meth c H locs cells slots Qf t A D ls hC hr hP hS hl hL hst hM
  obtain ⟨hx, hb, hml, hown, hts, hR, hK⟩ := id hC
  exact lv_lstore hx hb hd hl.to hn.1 rfl (fun ls' hl' => h p l e R s m args below meth c H locs cells slots Qf t A D ls' hC hr hP hS (RL.set2 (v := vL x) (tr_cat hK) hn.2 hl') ((hL.set hst.h).set vok_u) hst.t hM)

theorem s_astore_n {μ : cMi} {d : Nat} {Q : cV → cM → Prop} {pc : Nat} {L st : List cV} {M : cM} {k : Fin 4} {n : Nat} {x : Int} (hd : decode μ.2.1 pc = .ok (.astore_n k, 1)) (hk : (k : Nat) < μ.2.2.1 ∧ okst L (k : Nat) = true) (hn : n = 2 ∨ n = 3 ∨ n = 4 ∨ n = 5) (h : Wa μ d Q (pc + 1) (L.set (k : Nat) (n, x)) (st) M) : Wa μ d Q pc L ((n, x) :: st) M := by
  intro p l e R s m args below meth c H locs cells slots Qf t A D ls hC hr hP hS hl hL hst hM
  obtain ⟨hx, hb, hml, hown, hts, hR, hK⟩ := id hC
  have hq : ∃ y : Nat, tr t (n, x) = .ref y := by
    rcases hn with rfl | rfl | rfl | rfl <;> exact ⟨_, rfl⟩
  obtain ⟨y, hy⟩ := hq
  rw [List.map_cons, hy]
  exact lv_astore_n hx hb hd rfl hl.to hk.1 rfl (fun ls' hl' => h p l e R s m args below meth c H locs cells slots Qf t A D ls' hC hr hP hS (RL.set1 (v := (n, x)) (tr_cat hK) hk.2 (by rw [hy]; exact hl')) (hL.set hst.h) hst.t hM)

theorem s_astore {μ : cMi} {d : Nat} {Q : cV → cM → Prop} {pc : Nat} {L st : List cV} {M : cM} {k : Nat} {n : Nat} {x : Int} (hd : decode μ.2.1 pc = .ok (.astore k, 2)) (hk : k < μ.2.2.1 ∧ okst L k = true) (hn : n = 2 ∨ n = 3 ∨ n = 4 ∨ n = 5) (h : Wa μ d Q (pc + 2) (L.set k (n, x)) (st) M) : Wa μ d Q pc L ((n, x) :: st) M := by
  intro p l e R s m args below meth c H locs cells slots Qf t A D ls hC hr hP hS hl hL hst hM
  obtain ⟨hx, hb, hml, hown, hts, hR, hK⟩ := id hC
  have hq : ∃ y : Nat, tr t (n, x) = .ref y := by
    rcases hn with rfl | rfl | rfl | rfl <;> exact ⟨_, rfl⟩
  obtain ⟨y, hy⟩ := hq
  rw [List.map_cons, hy]
  exact lv_astore hx hb hd hl.to hk.1 rfl (fun ls' hl' => h p l e R s m args below meth c H locs cells slots Qf t A D ls' hC hr hP hS (RL.set1 (v := (n, x)) (tr_cat hK) hk.2 (by rw [hy]; exact hl')) (hL.set hst.h) hst.t hM)

theorem s_iinc {μ : cMi} {d : Nat} {Q : cV → cM → Prop} {pc : Nat} {L st : List cV} {M : cM} {i : Nat} {n x : Int} (hd : decode μ.2.1 pc = .ok (.iinc i n, 3)) (hi : L[i]? = some (vI x)) (hn : i < μ.2.2.1 ∧ okst L i = true) (h : Wa μ d Q (pc + 3) (L.set i (vI (w32 (x + n)))) (st) M) : Wa μ d Q pc L (st) M := by
  intro p l e R s m args below meth c H locs cells slots Qf t A D ls hC hr hP hS hl hL hst hM
  obtain ⟨hx, hb, hml, hown, hts, hR, hK⟩ := id hC
  have hmem : (i, tr t (vI x)) ∈ (L.zipIdx.filterMap (fun q => if q.1.1 = 9 then none else some (q.2, tr t q.1))) := List.mem_filterMap.mpr ⟨(vI x, i), List.mem_zipIdx_iff_getElem?.mpr hi, by rw [if_neg (by show ¬ ((0 : Nat) = 9); decide)]⟩
  obtain ⟨k, hk⟩ := List.getElem?_of_mem hmem
  exact lv_iinc (v := Int32.ofInt (w32 (x + n))) hx hb hd hl.to hk (oI_add x n) hn.1 rfl (fun ls' hl' => h p l e R s m args below meth c H locs cells slots Qf t A D ls' hC hr hP hS (RL.set1 (v := vI (w32 (x + n))) (tr_cat hK) hn.2 hl') (hL.set ⟨fun _ => w32_R _, fun (z : (0 : Nat) = 1) => absurd z (by decide)⟩) hst hM)

theorem s_iadd {μ : cMi} {d : Nat} {Q : cV → cM → Prop} {pc : Nat} {L st : List cV} {M : cM} {x y : Int} (hd : decode μ.2.1 pc = .ok (.iadd, 1)) (h : Wa μ d Q (pc + 1) L (vI (w32 (x + y)) :: st) M) : Wa μ d Q pc L (vI y :: vI x :: st) M := by
  intro p l e R s m args below meth c H locs cells slots Qf t A D ls hC hr hP hS hl hL hst hM
  obtain ⟨hx, hb, hml, hown, hts, hR, hK⟩ := id hC
  have z := h p l e R s m args below meth c H locs cells slots Qf t A D ls hC hr hP hS hl hL (hst.t.t.i (w32_R _)) hM
  refine lv_iadd hx hb hd ?_
  rw [oI_add]
  exact z

theorem s_isub {μ : cMi} {d : Nat} {Q : cV → cM → Prop} {pc : Nat} {L st : List cV} {M : cM} {x y : Int} (hd : decode μ.2.1 pc = .ok (.isub, 1)) (h : Wa μ d Q (pc + 1) L (vI (w32 (x - y)) :: st) M) : Wa μ d Q pc L (vI y :: vI x :: st) M := by
  intro p l e R s m args below meth c H locs cells slots Qf t A D ls hC hr hP hS hl hL hst hM
  obtain ⟨hx, hb, hml, hown, hts, hR, hK⟩ := id hC
  have z := h p l e R s m args below meth c H locs cells slots Qf t A D ls hC hr hP hS hl hL (hst.t.t.i (w32_R _)) hM
  refine lv_isub hx hb hd ?_
  rw [oI_sub]
  exact z

theorem s_imul {μ : cMi} {d : Nat} {Q : cV → cM → Prop} {pc : Nat} {L st : List cV} {M : cM} {x y : Int} (hd : decode μ.2.1 pc = .ok (.imul, 1)) (h : Wa μ d Q (pc + 1) L (vI (w32 (x * y)) :: st) M) : Wa μ d Q pc L (vI y :: vI x :: st) M := by
  intro p l e R s m args below meth c H locs cells slots Qf t A D ls hC hr hP hS hl hL hst hM
  obtain ⟨hx, hb, hml, hown, hts, hR, hK⟩ := id hC
  have z := h p l e R s m args below meth c H locs cells slots Qf t A D ls hC hr hP hS hl hL (hst.t.t.i (w32_R _)) hM
  refine lv_imul hx hb hd ?_
  rw [oI_mul]
  exact z

theorem s_ladd {μ : cMi} {d : Nat} {Q : cV → cM → Prop} {pc : Nat} {L st : List cV} {M : cM} {x y : Int} (hd : decode μ.2.1 pc = .ok (.ladd, 1)) (h : Wa μ d Q (pc + 1) L (vL (w64 (x + y)) :: st) M) : Wa μ d Q pc L (vL y :: vL x :: st) M := by
  intro p l e R s m args below meth c H locs cells slots Qf t A D ls hC hr hP hS hl hL hst hM
  obtain ⟨hx, hb, hml, hown, hts, hR, hK⟩ := id hC
  have z := h p l e R s m args below meth c H locs cells slots Qf t A D ls hC hr hP hS hl hL (hst.t.t.l (w64_R _)) hM
  refine lv_ladd hx hb hd ?_
  rw [oL_add]
  exact z

theorem s_lmul {μ : cMi} {d : Nat} {Q : cV → cM → Prop} {pc : Nat} {L st : List cV} {M : cM} {x y : Int} (hd : decode μ.2.1 pc = .ok (.lmul, 1)) (h : Wa μ d Q (pc + 1) L (vL (w64 (x * y)) :: st) M) : Wa μ d Q pc L (vL y :: vL x :: st) M := by
  intro p l e R s m args below meth c H locs cells slots Qf t A D ls hC hr hP hS hl hL hst hM
  obtain ⟨hx, hb, hml, hown, hts, hR, hK⟩ := id hC
  have z := h p l e R s m args below meth c H locs cells slots Qf t A D ls hC hr hP hS hl hL (hst.t.t.l (w64_R _)) hM
  refine lv_lmul hx hb hd ?_
  rw [oL_mul]
  exact z

theorem s_ineg {μ : cMi} {d : Nat} {Q : cV → cM → Prop} {pc : Nat} {L st : List cV} {M : cM} {x : Int} (hd : decode μ.2.1 pc = .ok (.ineg, 1)) (h : Wa μ d Q (pc + 1) L (vI (w32 (-x)) :: st) M) : Wa μ d Q pc L (vI x :: st) M := by
  intro p l e R s m args below meth c H locs cells slots Qf t A D ls hC hr hP hS hl hL hst hM
  obtain ⟨hx, hb, hml, hown, hts, hR, hK⟩ := id hC
  have z := h p l e R s m args below meth c H locs cells slots Qf t A D ls hC hr hP hS hl hL (hst.t.i (w32_R _)) hM
  refine lv_ineg hx hb hd ?_
  rw [show (-Int32.ofInt x) = Int32.ofInt (w32 (-x)) by rw [oI_w, Int32.ofInt_neg]]
  exact z

theorem s_idiv {μ : cMi} {d : Nat} {Q : cV → cM → Prop} {pc : Nat} {L st : List cV} {M : cM} {x y : Int} (hd : decode μ.2.1 pc = .ok (.idiv, 1)) (h0 : ¬ y = 0) (h : Wa μ d Q (pc + 1) L (vI (w32 (x.tdiv y)) :: st) M) : Wa μ d Q pc L (vI y :: vI x :: st) M := by
  intro p l e R s m args below meth c H locs cells slots Qf t A D ls hC hr hP hS hl hL hst hM
  obtain ⟨hx, hb, hml, hown, hts, hR, hK⟩ := id hC
  have z := h p l e R s m args below meth c H locs cells slots Qf t A D ls hC hr hP hS hl hL (hst.t.t.i (w32_R _)) hM
  have hy := hst.hi
  have hx' := hst.t.hi
  refine lv_idiv hx hb hd (fun q => h0 ((oI_eq hy iR_0).mp q)) ?_
  rw [oI_div hx' hy]
  exact z

theorem s_irem {μ : cMi} {d : Nat} {Q : cV → cM → Prop} {pc : Nat} {L st : List cV} {M : cM} {x y : Int} (hd : decode μ.2.1 pc = .ok (.irem, 1)) (h0 : ¬ y = 0) (h : Wa μ d Q (pc + 1) L (vI (x.tmod y) :: st) M) : Wa μ d Q pc L (vI y :: vI x :: st) M := by
  intro p l e R s m args below meth c H locs cells slots Qf t A D ls hC hr hP hS hl hL hst hM
  obtain ⟨hx, hb, hml, hown, hts, hR, hK⟩ := id hC
  have hy := hst.hi
  have hx' := hst.t.hi
  have z := h p l e R s m args below meth c H locs cells slots Qf t A D ls hC hr hP hS hl hL (hst.t.t.i (tmod_R hx')) hM
  refine lv_irem hx hb hd (fun q => h0 ((oI_eq hy iR_0).mp q)) ?_
  rw [oI_mod hx' hy]
  exact z

theorem s_iand {μ : cMi} {d : Nat} {Q : cV → cM → Prop} {pc : Nat} {L st : List cV} {M : cM} {x y : Int} (hd : decode μ.2.1 pc = .ok (.iand, 1)) (h : Wa μ d Q (pc + 1) L (vI (zand x y) :: st) M) : Wa μ d Q pc L (vI y :: vI x :: st) M := by
  intro p l e R s m args below meth c H locs cells slots Qf t A D ls hC hr hP hS hl hL hst hM
  obtain ⟨hx, hb, hml, hown, hts, hR, hK⟩ := id hC
  have z := h p l e R s m args below meth c H locs cells slots Qf t A D ls hC hr hP hS hl hL (hst.t.t.i (iR_of _)) hM
  refine lv_iand hx hb hd ?_
  rw [List.map_cons] at z
  have e : tr t (vI (zand x y)) = _ := congrArg Value.int (oI_of _)
  rw [e] at z
  exact z

theorem s_ior {μ : cMi} {d : Nat} {Q : cV → cM → Prop} {pc : Nat} {L st : List cV} {M : cM} {x y : Int} (hd : decode μ.2.1 pc = .ok (.ior, 1)) (h : Wa μ d Q (pc + 1) L (vI (zor x y) :: st) M) : Wa μ d Q pc L (vI y :: vI x :: st) M := by
  intro p l e R s m args below meth c H locs cells slots Qf t A D ls hC hr hP hS hl hL hst hM
  obtain ⟨hx, hb, hml, hown, hts, hR, hK⟩ := id hC
  have z := h p l e R s m args below meth c H locs cells slots Qf t A D ls hC hr hP hS hl hL (hst.t.t.i (iR_of _)) hM
  refine lv_ior hx hb hd ?_
  rw [List.map_cons] at z
  have e : tr t (vI (zor x y)) = _ := congrArg Value.int (oI_of _)
  rw [e] at z
  exact z

theorem s_ixor {μ : cMi} {d : Nat} {Q : cV → cM → Prop} {pc : Nat} {L st : List cV} {M : cM} {x y : Int} (hd : decode μ.2.1 pc = .ok (.ixor, 1)) (h : Wa μ d Q (pc + 1) L (vI (zxor x y) :: st) M) : Wa μ d Q pc L (vI y :: vI x :: st) M := by
  intro p l e R s m args below meth c H locs cells slots Qf t A D ls hC hr hP hS hl hL hst hM
  obtain ⟨hx, hb, hml, hown, hts, hR, hK⟩ := id hC
  have z := h p l e R s m args below meth c H locs cells slots Qf t A D ls hC hr hP hS hl hL (hst.t.t.i (iR_of _)) hM
  refine lv_ixor hx hb hd ?_
  rw [List.map_cons] at z
  have e : tr t (vI (zxor x y)) = _ := congrArg Value.int (oI_of _)
  rw [e] at z
  exact z

theorem s_ishl {μ : cMi} {d : Nat} {Q : cV → cM → Prop} {pc : Nat} {L st : List cV} {M : cM} {x y : Int} (hd : decode μ.2.1 pc = .ok (.ishl, 1)) (h : Wa μ d Q (pc + 1) L (vI (zshl x y) :: st) M) : Wa μ d Q pc L (vI y :: vI x :: st) M := by
  intro p l e R s m args below meth c H locs cells slots Qf t A D ls hC hr hP hS hl hL hst hM
  obtain ⟨hx, hb, hml, hown, hts, hR, hK⟩ := id hC
  have z := h p l e R s m args below meth c H locs cells slots Qf t A D ls hC hr hP hS hl hL (hst.t.t.i (iR_of _)) hM
  refine lv_ishl hx hb hd ?_
  rw [List.map_cons] at z
  have e : tr t (vI (zshl x y)) = _ := congrArg Value.int (oI_of _)
  rw [e] at z
  exact z

theorem s_ishr {μ : cMi} {d : Nat} {Q : cV → cM → Prop} {pc : Nat} {L st : List cV} {M : cM} {x y : Int} (hd : decode μ.2.1 pc = .ok (.ishr, 1)) (h : Wa μ d Q (pc + 1) L (vI (zshr x y) :: st) M) : Wa μ d Q pc L (vI y :: vI x :: st) M := by
  intro p l e R s m args below meth c H locs cells slots Qf t A D ls hC hr hP hS hl hL hst hM
  obtain ⟨hx, hb, hml, hown, hts, hR, hK⟩ := id hC
  have z := h p l e R s m args below meth c H locs cells slots Qf t A D ls hC hr hP hS hl hL (hst.t.t.i (iR_of _)) hM
  refine lv_ishr hx hb hd ?_
  rw [List.map_cons] at z
  have e : tr t (vI (zshr x y)) = _ := congrArg Value.int (oI_of _)
  rw [e] at z
  exact z

theorem s_iushr {μ : cMi} {d : Nat} {Q : cV → cM → Prop} {pc : Nat} {L st : List cV} {M : cM} {x y : Int} (hd : decode μ.2.1 pc = .ok (.iushr, 1)) (h : Wa μ d Q (pc + 1) L (vI (zushr x y) :: st) M) : Wa μ d Q pc L (vI y :: vI x :: st) M := by
  intro p l e R s m args below meth c H locs cells slots Qf t A D ls hC hr hP hS hl hL hst hM
  obtain ⟨hx, hb, hml, hown, hts, hR, hK⟩ := id hC
  have z := h p l e R s m args below meth c H locs cells slots Qf t A D ls hC hr hP hS hl hL (hst.t.t.i (iR_of _)) hM
  exact lv_iushr hx hb hd (oI_of _).symm z

theorem s_i2b {μ : cMi} {d : Nat} {Q : cV → cM → Prop} {pc : Nat} {L st : List cV} {M : cM} {x : Int} (hd : decode μ.2.1 pc = .ok (.i2b, 1)) (h : Wa μ d Q (pc + 1) L (vI (zi2b x) :: st) M) : Wa μ d Q pc L (vI x :: st) M := by
  intro p l e R s m args below meth c H locs cells slots Qf t A D ls hC hr hP hS hl hL hst hM
  obtain ⟨hx, hb, hml, hown, hts, hR, hK⟩ := id hC
  have z := h p l e R s m args below meth c H locs cells slots Qf t A D ls hC hr hP hS hl hL (hst.t.i (iR_of _)) hM
  exact lv_i2b hx hb hd (oI_of _).symm z

theorem s_i2s {μ : cMi} {d : Nat} {Q : cV → cM → Prop} {pc : Nat} {L st : List cV} {M : cM} {x : Int} (hd : decode μ.2.1 pc = .ok (.i2s, 1)) (h : Wa μ d Q (pc + 1) L (vI (zi2s x) :: st) M) : Wa μ d Q pc L (vI x :: st) M := by
  intro p l e R s m args below meth c H locs cells slots Qf t A D ls hC hr hP hS hl hL hst hM
  obtain ⟨hx, hb, hml, hown, hts, hR, hK⟩ := id hC
  have z := h p l e R s m args below meth c H locs cells slots Qf t A D ls hC hr hP hS hl hL (hst.t.i (iR_of _)) hM
  exact lv_i2s hx hb hd (oI_of _).symm z

theorem s_i2c {μ : cMi} {d : Nat} {Q : cV → cM → Prop} {pc : Nat} {L st : List cV} {M : cM} {x : Int} (hd : decode μ.2.1 pc = .ok (.i2c, 1)) (h : Wa μ d Q (pc + 1) L (vI (zi2c x) :: st) M) : Wa μ d Q pc L (vI x :: st) M := by
  intro p l e R s m args below meth c H locs cells slots Qf t A D ls hC hr hP hS hl hL hst hM
  obtain ⟨hx, hb, hml, hown, hts, hR, hK⟩ := id hC
  have z := h p l e R s m args below meth c H locs cells slots Qf t A D ls hC hr hP hS hl hL (hst.t.i (iR_of _)) hM
  exact lv_i2c hx hb hd (oI_of _).symm z

theorem s_i2l {μ : cMi} {d : Nat} {Q : cV → cM → Prop} {pc : Nat} {L st : List cV} {M : cM} {x : Int} (hd : decode μ.2.1 pc = .ok (.i2l, 1)) (h : Wa μ d Q (pc + 1) L (vL x :: st) M) : Wa μ d Q pc L (vI x :: st) M := by
  intro p l e R s m args below meth c H locs cells slots Qf t A D ls hC hr hP hS hl hL hst hM
  obtain ⟨hx, hb, hml, hown, hts, hR, hK⟩ := id hC
  have hx' := hst.hi
  have hl' : lR x := by unfold iR at hx'; unfold lR; omega
  have z := h p l e R s m args below meth c H locs cells slots Qf t A D ls hC hr hP hS hl hL (hst.t.l hl') hM
  exact lv_i2l hx hb hd (by apply Int64.toInt_inj.mp; rw [Int32.toInt_toInt64, oI_id hx', oL_id hl']) z

def zlcmp (x y : Int) : Int := if y < x then 1 else if x = y then 0 else -1
theorem zlcmp_R (x y : Int) : iR (zlcmp x y) := by unfold zlcmp iR; split <;> (try split) <;> omega

theorem s_lcmp {μ : cMi} {d : Nat} {Q : cV → cM → Prop} {pc : Nat} {L st : List cV} {M : cM} {x y : Int} (hd : decode μ.2.1 pc = .ok (.lcmp, 1)) (h : Wa μ d Q (pc + 1) L (vI (zlcmp x y) :: st) M) : Wa μ d Q pc L (vL y :: vL x :: st) M := by
  intro p l e R s m args below meth c H locs cells slots Qf t A D ls hC hr hP hS hl hL hst hM
  obtain ⟨hx, hb, hml, hown, hts, hR, hK⟩ := id hC
  have hy := hst.hl
  have hx' := hst.t.hl
  have z := h p l e R s m args below meth c H locs cells slots Qf t A D ls hC hr hP hS hl hL (hst.t.t.i (zlcmp_R x y)) hM
  have e : lg_cmp (Int64.ofInt x) (Int64.ofInt y) = Int32.ofInt (zlcmp x y) := by
    unfold lg_cmp zlcmp
    by_cases h1 : y < x
    · rw [if_pos ((oL_lt hy hx').mpr h1), if_pos h1]; rfl
    · rw [if_neg (fun q => h1 ((oL_lt hy hx').mp q)), if_neg h1]
      by_cases h2 : x = y
      · rw [if_pos ((oL_eq hx' hy).mpr h2), if_pos h2]; rfl
      · rw [if_neg (fun q => h2 ((oL_eq hx' hy).mp q)), if_neg h2]; rfl
  refine W.lcmp hx hb hd ?_
  rw [e]
  exact z

theorem s_icmp_eq {μ : cMi} {d : Nat} {Q : cV → cM → Prop} {pc : Nat} {L st : List cV} {M : cM} {off : Int} {x y : Int} (tgt : Nat) (hd : decode μ.2.1 pc = .ok (.if_icmp .eq off, 3)) (ht : (pc : Int) + off = (tgt : Int)) (kt : x = y → Wa μ d Q tgt L (st) M) (kf : ¬ x = y → Wa μ d Q (pc + 3) L (st) M) : Wa μ d Q pc L (vI y :: vI x :: st) M := by
  intro p l e R s m args below meth c H locs cells slots Qf t A D ls hC hr hP hS hl hL hst hM
  obtain ⟨hx, hb, hml, hown, hts, hR, hK⟩ := id hC
  have hy := hst.hi
  have hx' := hst.t.hi
  exact lv_icmp_eq hx hb hd ht (fun q => (kt ((oI_eq hx' hy).mp q)) p l e R s m args below meth c H locs cells slots Qf t A D ls hC hr hP hS hl hL hst.t.t hM) (fun q => (kf (fun z => q ((oI_eq hx' hy).mpr z))) p l e R s m args below meth c H locs cells slots Qf t A D ls hC hr hP hS hl hL hst.t.t hM)

theorem s_if_eq {μ : cMi} {d : Nat} {Q : cV → cM → Prop} {pc : Nat} {L st : List cV} {M : cM} {off : Int} {x : Int} (tgt : Nat) (hd : decode μ.2.1 pc = .ok (.ifCond .eq off, 3)) (ht : (pc : Int) + off = (tgt : Int)) (kt : x = 0 → Wa μ d Q tgt L (st) M) (kf : ¬ x = 0 → Wa μ d Q (pc + 3) L (st) M) : Wa μ d Q pc L (vI x :: st) M := by
  intro p l e R s m args below meth c H locs cells slots Qf t A D ls hC hr hP hS hl hL hst hM
  obtain ⟨hx, hb, hml, hown, hts, hR, hK⟩ := id hC
  have hx' := hst.hi
  have hy := iR_0
  exact lv_if_eq hx hb hd ht (fun q => (kt ((oI_eq hx' hy).mp q)) p l e R s m args below meth c H locs cells slots Qf t A D ls hC hr hP hS hl hL hst.t hM) (fun q => (kf (fun z => q ((oI_eq hx' hy).mpr z))) p l e R s m args below meth c H locs cells slots Qf t A D ls hC hr hP hS hl hL hst.t hM)

theorem s_icmp_ne {μ : cMi} {d : Nat} {Q : cV → cM → Prop} {pc : Nat} {L st : List cV} {M : cM} {off : Int} {x y : Int} (tgt : Nat) (hd : decode μ.2.1 pc = .ok (.if_icmp .ne off, 3)) (ht : (pc : Int) + off = (tgt : Int)) (kt : ¬ x = y → Wa μ d Q tgt L (st) M) (kf : x = y → Wa μ d Q (pc + 3) L (st) M) : Wa μ d Q pc L (vI y :: vI x :: st) M := by
  intro p l e R s m args below meth c H locs cells slots Qf t A D ls hC hr hP hS hl hL hst hM
  obtain ⟨hx, hb, hml, hown, hts, hR, hK⟩ := id hC
  have hy := hst.hi
  have hx' := hst.t.hi
  exact lv_icmp_ne hx hb hd ht (fun q => (kt (fun z => q ((oI_eq hx' hy).mpr z))) p l e R s m args below meth c H locs cells slots Qf t A D ls hC hr hP hS hl hL hst.t.t hM) (fun q => (kf ((oI_eq hx' hy).mp q)) p l e R s m args below meth c H locs cells slots Qf t A D ls hC hr hP hS hl hL hst.t.t hM)

theorem s_if_ne {μ : cMi} {d : Nat} {Q : cV → cM → Prop} {pc : Nat} {L st : List cV} {M : cM} {off : Int} {x : Int} (tgt : Nat) (hd : decode μ.2.1 pc = .ok (.ifCond .ne off, 3)) (ht : (pc : Int) + off = (tgt : Int)) (kt : ¬ x = 0 → Wa μ d Q tgt L (st) M) (kf : x = 0 → Wa μ d Q (pc + 3) L (st) M) : Wa μ d Q pc L (vI x :: st) M := by
  intro p l e R s m args below meth c H locs cells slots Qf t A D ls hC hr hP hS hl hL hst hM
  obtain ⟨hx, hb, hml, hown, hts, hR, hK⟩ := id hC
  have hx' := hst.hi
  have hy := iR_0
  exact lv_if_ne hx hb hd ht (fun q => (kt (fun z => q ((oI_eq hx' hy).mpr z))) p l e R s m args below meth c H locs cells slots Qf t A D ls hC hr hP hS hl hL hst.t hM) (fun q => (kf ((oI_eq hx' hy).mp q)) p l e R s m args below meth c H locs cells slots Qf t A D ls hC hr hP hS hl hL hst.t hM)

theorem s_icmp_lt {μ : cMi} {d : Nat} {Q : cV → cM → Prop} {pc : Nat} {L st : List cV} {M : cM} {off : Int} {x y : Int} (tgt : Nat) (hd : decode μ.2.1 pc = .ok (.if_icmp .lt off, 3)) (ht : (pc : Int) + off = (tgt : Int)) (kt : x < y → Wa μ d Q tgt L (st) M) (kf : ¬ x < y → Wa μ d Q (pc + 3) L (st) M) : Wa μ d Q pc L (vI y :: vI x :: st) M := by
  intro p l e R s m args below meth c H locs cells slots Qf t A D ls hC hr hP hS hl hL hst hM
  obtain ⟨hx, hb, hml, hown, hts, hR, hK⟩ := id hC
  have hy := hst.hi
  have hx' := hst.t.hi
  exact lv_icmp_lt hx hb hd ht (fun q => (kt ((oI_lt hx' hy).mp q)) p l e R s m args below meth c H locs cells slots Qf t A D ls hC hr hP hS hl hL hst.t.t hM) (fun q => (kf (fun z => q ((oI_lt hx' hy).mpr z))) p l e R s m args below meth c H locs cells slots Qf t A D ls hC hr hP hS hl hL hst.t.t hM)

theorem s_if_lt {μ : cMi} {d : Nat} {Q : cV → cM → Prop} {pc : Nat} {L st : List cV} {M : cM} {off : Int} {x : Int} (tgt : Nat) (hd : decode μ.2.1 pc = .ok (.ifCond .lt off, 3)) (ht : (pc : Int) + off = (tgt : Int)) (kt : x < 0 → Wa μ d Q tgt L (st) M) (kf : ¬ x < 0 → Wa μ d Q (pc + 3) L (st) M) : Wa μ d Q pc L (vI x :: st) M := by
  intro p l e R s m args below meth c H locs cells slots Qf t A D ls hC hr hP hS hl hL hst hM
  obtain ⟨hx, hb, hml, hown, hts, hR, hK⟩ := id hC
  have hx' := hst.hi
  have hy := iR_0
  exact lv_if_lt hx hb hd ht (fun q => (kt ((oI_lt hx' hy).mp q)) p l e R s m args below meth c H locs cells slots Qf t A D ls hC hr hP hS hl hL hst.t hM) (fun q => (kf (fun z => q ((oI_lt hx' hy).mpr z))) p l e R s m args below meth c H locs cells slots Qf t A D ls hC hr hP hS hl hL hst.t hM)

theorem s_icmp_ge {μ : cMi} {d : Nat} {Q : cV → cM → Prop} {pc : Nat} {L st : List cV} {M : cM} {off : Int} {x y : Int} (tgt : Nat) (hd : decode μ.2.1 pc = .ok (.if_icmp .ge off, 3)) (ht : (pc : Int) + off = (tgt : Int)) (kt : y ≤ x → Wa μ d Q tgt L (st) M) (kf : ¬ y ≤ x → Wa μ d Q (pc + 3) L (st) M) : Wa μ d Q pc L (vI y :: vI x :: st) M := by
  intro p l e R s m args below meth c H locs cells slots Qf t A D ls hC hr hP hS hl hL hst hM
  obtain ⟨hx, hb, hml, hown, hts, hR, hK⟩ := id hC
  have hy := hst.hi
  have hx' := hst.t.hi
  exact lv_icmp_ge hx hb hd ht (fun q => (kt ((oI_le hy hx').mp q)) p l e R s m args below meth c H locs cells slots Qf t A D ls hC hr hP hS hl hL hst.t.t hM) (fun q => (kf (fun z => q ((oI_le hy hx').mpr z))) p l e R s m args below meth c H locs cells slots Qf t A D ls hC hr hP hS hl hL hst.t.t hM)

theorem s_if_ge {μ : cMi} {d : Nat} {Q : cV → cM → Prop} {pc : Nat} {L st : List cV} {M : cM} {off : Int} {x : Int} (tgt : Nat) (hd : decode μ.2.1 pc = .ok (.ifCond .ge off, 3)) (ht : (pc : Int) + off = (tgt : Int)) (kt : 0 ≤ x → Wa μ d Q tgt L (st) M) (kf : ¬ 0 ≤ x → Wa μ d Q (pc + 3) L (st) M) : Wa μ d Q pc L (vI x :: st) M := by
  intro p l e R s m args below meth c H locs cells slots Qf t A D ls hC hr hP hS hl hL hst hM
  obtain ⟨hx, hb, hml, hown, hts, hR, hK⟩ := id hC
  have hx' := hst.hi
  have hy := iR_0
  exact lv_if_ge hx hb hd ht (fun q => (kt ((oI_le hy hx').mp q)) p l e R s m args below meth c H locs cells slots Qf t A D ls hC hr hP hS hl hL hst.t hM) (fun q => (kf (fun z => q ((oI_le hy hx').mpr z))) p l e R s m args below meth c H locs cells slots Qf t A D ls hC hr hP hS hl hL hst.t hM)

theorem s_icmp_gt {μ : cMi} {d : Nat} {Q : cV → cM → Prop} {pc : Nat} {L st : List cV} {M : cM} {off : Int} {x y : Int} (tgt : Nat) (hd : decode μ.2.1 pc = .ok (.if_icmp .gt off, 3)) (ht : (pc : Int) + off = (tgt : Int)) (kt : y < x → Wa μ d Q tgt L (st) M) (kf : ¬ y < x → Wa μ d Q (pc + 3) L (st) M) : Wa μ d Q pc L (vI y :: vI x :: st) M := by
  intro p l e R s m args below meth c H locs cells slots Qf t A D ls hC hr hP hS hl hL hst hM
  obtain ⟨hx, hb, hml, hown, hts, hR, hK⟩ := id hC
  have hy := hst.hi
  have hx' := hst.t.hi
  exact lv_icmp_gt hx hb hd ht (fun q => (kt ((oI_lt hy hx').mp q)) p l e R s m args below meth c H locs cells slots Qf t A D ls hC hr hP hS hl hL hst.t.t hM) (fun q => (kf (fun z => q ((oI_lt hy hx').mpr z))) p l e R s m args below meth c H locs cells slots Qf t A D ls hC hr hP hS hl hL hst.t.t hM)

theorem s_if_gt {μ : cMi} {d : Nat} {Q : cV → cM → Prop} {pc : Nat} {L st : List cV} {M : cM} {off : Int} {x : Int} (tgt : Nat) (hd : decode μ.2.1 pc = .ok (.ifCond .gt off, 3)) (ht : (pc : Int) + off = (tgt : Int)) (kt : 0 < x → Wa μ d Q tgt L (st) M) (kf : ¬ 0 < x → Wa μ d Q (pc + 3) L (st) M) : Wa μ d Q pc L (vI x :: st) M := by
  intro p l e R s m args below meth c H locs cells slots Qf t A D ls hC hr hP hS hl hL hst hM
  obtain ⟨hx, hb, hml, hown, hts, hR, hK⟩ := id hC
  have hx' := hst.hi
  have hy := iR_0
  exact lv_if_gt hx hb hd ht (fun q => (kt ((oI_lt hy hx').mp q)) p l e R s m args below meth c H locs cells slots Qf t A D ls hC hr hP hS hl hL hst.t hM) (fun q => (kf (fun z => q ((oI_lt hy hx').mpr z))) p l e R s m args below meth c H locs cells slots Qf t A D ls hC hr hP hS hl hL hst.t hM)

theorem s_icmp_le {μ : cMi} {d : Nat} {Q : cV → cM → Prop} {pc : Nat} {L st : List cV} {M : cM} {off : Int} {x y : Int} (tgt : Nat) (hd : decode μ.2.1 pc = .ok (.if_icmp .le off, 3)) (ht : (pc : Int) + off = (tgt : Int)) (kt : x ≤ y → Wa μ d Q tgt L (st) M) (kf : ¬ x ≤ y → Wa μ d Q (pc + 3) L (st) M) : Wa μ d Q pc L (vI y :: vI x :: st) M := by
  intro p l e R s m args below meth c H locs cells slots Qf t A D ls hC hr hP hS hl hL hst hM
  obtain ⟨hx, hb, hml, hown, hts, hR, hK⟩ := id hC
  have hy := hst.hi
  have hx' := hst.t.hi
  exact lv_icmp_le hx hb hd ht (fun q => (kt ((oI_le hx' hy).mp q)) p l e R s m args below meth c H locs cells slots Qf t A D ls hC hr hP hS hl hL hst.t.t hM) (fun q => (kf (fun z => q ((oI_le hx' hy).mpr z))) p l e R s m args below meth c H locs cells slots Qf t A D ls hC hr hP hS hl hL hst.t.t hM)

theorem s_if_le {μ : cMi} {d : Nat} {Q : cV → cM → Prop} {pc : Nat} {L st : List cV} {M : cM} {off : Int} {x : Int} (tgt : Nat) (hd : decode μ.2.1 pc = .ok (.ifCond .le off, 3)) (ht : (pc : Int) + off = (tgt : Int)) (kt : x ≤ 0 → Wa μ d Q tgt L (st) M) (kf : ¬ x ≤ 0 → Wa μ d Q (pc + 3) L (st) M) : Wa μ d Q pc L (vI x :: st) M := by
  intro p l e R s m args below meth c H locs cells slots Qf t A D ls hC hr hP hS hl hL hst hM
  obtain ⟨hx, hb, hml, hown, hts, hR, hK⟩ := id hC
  have hx' := hst.hi
  have hy := iR_0
  exact lv_if_le hx hb hd ht (fun q => (kt ((oI_le hx' hy).mp q)) p l e R s m args below meth c H locs cells slots Qf t A D ls hC hr hP hS hl hL hst.t hM) (fun q => (kf (fun z => q ((oI_le hx' hy).mpr z))) p l e R s m args below meth c H locs cells slots Qf t A D ls hC hr hP hS hl hL hst.t hM)

theorem s_goto {μ : cMi} {d : Nat} {Q : cV → cM → Prop} {pc : Nat} {L st : List cV} {M : cM} {off : Int} (tgt : Nat) (hd : decode μ.2.1 pc = .ok (.goto off, 3)) (ht : (pc : Int) + off = (tgt : Int)) (h : Wa μ d Q tgt L (st) M) : Wa μ d Q pc L (st) M := by
  intro p l e R s m args below meth c H locs cells slots Qf t A D ls hC hr hP hS hl hL hst hM
  obtain ⟨hx, hb, hml, hown, hts, hR, hK⟩ := id hC
  exact lv_goto hx hb hd ht (h p l e R s m args below meth c H locs cells slots Qf t A D ls hC hr hP hS hl hL hst hM)

theorem s_tabIn {μ : cMi} {d : Nat} {Q : cV → cM → Prop} {pc : Nat} {L st : List cV} {M : cM} {dflt lo hi : Int} {offs : Array Int} {len : Nat} {x off : Int} (tgt : Nat) (hd : decode μ.2.1 pc = .ok (.tableswitch dflt lo hi offs, len)) (h1 : ¬ x < lo) (h2 : ¬ hi < x) (ho : offs[(x - lo).toNat]? = some off) (ht : (pc : Int) + off = (tgt : Int)) (h : Wa μ d Q tgt L (st) M) : Wa μ d Q pc L (vI x :: st) M := by
  intro p l e R s m args below meth c H locs cells slots Qf t A D ls hC hr hP hS hl hL hst hM
  obtain ⟨hx, hb, hml, hown, hts, hR, hK⟩ := id hC
  have hx' := hst.hi
  exact lv_tableIn hx hb hd (by rw [oI_id hx']; exact h1) (by rw [oI_id hx']; exact h2) (by rw [oI_id hx']; exact ho) ht (h p l e R s m args below meth c H locs cells slots Qf t A D ls hC hr hP hS hl hL hst.t hM)

theorem s_tabOut {μ : cMi} {d : Nat} {Q : cV → cM → Prop} {pc : Nat} {L st : List cV} {M : cM} {dflt lo hi : Int} {offs : Array Int} {len : Nat} {x : Int} (tgt : Nat) (hd : decode μ.2.1 pc = .ok (.tableswitch dflt lo hi offs, len)) (h1 : x < lo ∨ hi < x) (ht : (pc : Int) + dflt = (tgt : Int)) (h : Wa μ d Q tgt L (st) M) : Wa μ d Q pc L (vI x :: st) M := by
  intro p l e R s m args below meth c H locs cells slots Qf t A D ls hC hr hP hS hl hL hst hM
  obtain ⟨hx, hb, hml, hown, hts, hR, hK⟩ := id hC
  have hx' := hst.hi
  exact lv_tableOut hx hb hd (by rw [oI_id hx']; exact h1) ht (h p l e R s m args below meth c H locs cells slots Qf t A D ls hC hr hP hS hl hL hst.t hM)

theorem s_dup {μ : cMi} {d : Nat} {Q : cV → cM → Prop} {pc : Nat} {L st : List cV} {M : cM} {v : cV} (hd : decode μ.2.1 pc = .ok (.dup, 1)) (hv : ¬ v.1 = 1) (h : Wa μ d Q (pc + 1) L (v :: v :: st) M) : Wa μ d Q pc L (v :: st) M := by
  intro p l e R s m args below meth c H locs cells slots Qf t A D ls hC hr hP hS hl hL hst hM
  obtain ⟨hx, hb, hml, hown, hts, hR, hK⟩ := id hC
  exact lv_dup hx hb hd (by rw [tr_cat hK v, if_neg hv]) (h p l e R s m args below meth c H locs cells slots Qf t A D ls hC hr hP hS hl hL (hst.c hst.h) hM)

theorem s_dup2 {μ : cMi} {d : Nat} {Q : cV → cM → Prop} {pc : Nat} {L st : List cV} {M : cM} {v u : cV} (hd : decode μ.2.1 pc = .ok (.dup2, 1)) (hv : ¬ v.1 = 1 ∧ ¬ u.1 = 1) (h : Wa μ d Q (pc + 1) L (v :: u :: v :: u :: st) M) : Wa μ d Q pc L (v :: u :: st) M := by
  intro p l e R s m args below meth c H locs cells slots Qf t A D ls hC hr hP hS hl hL hst hM
  obtain ⟨hx, hb, hml, hown, hts, hR, hK⟩ := id hC
  exact lv_dup2_11 hx hb hd (by rw [tr_cat hK v, if_neg hv.1]) (by rw [tr_cat hK u, if_neg hv.2]) (h p l e R s m args below meth c H locs cells slots Qf t A D ls hC hr hP hS hl hL ((hst.c hst.t.h).c hst.h) hM)

theorem s_pop {μ : cMi} {d : Nat} {Q : cV → cM → Prop} {pc : Nat} {L st : List cV} {M : cM} {v : cV} (hd : decode μ.2.1 pc = .ok (.pop, 1)) (hv : ¬ v.1 = 1) (h : Wa μ d Q (pc + 1) L (st) M) : Wa μ d Q pc L (v :: st) M := by
  intro p l e R s m args below meth c H locs cells slots Qf t A D ls hC hr hP hS hl hL hst hM
  obtain ⟨hx, hb, hml, hown, hts, hR, hK⟩ := id hC
  exact lv_pop hx hb hd (by rw [tr_cat hK v, if_neg hv]) (h p l e R s m args below meth c H locs cells slots Qf t A D ls hC hr hP hS hl hL hst.t hM)

theorem s_iret {μ : cMi} {d : Nat} {Q : cV → cM → Prop} {pc : Nat} {L : List cV} {M : cM} {x : Int} (hd : decode μ.2.1 pc = .ok (.ireturn, 1)) (hk : μ.2.2.2.2.1 = 1 ∨ μ.2.2.2.2.1 = 4 ∨ μ.2.2.2.2.1 = 5 ∨ μ.2.2.2.2.1 = 6) (h : Q (vI (narK μ.2.2.2.2.1 x)) M) : Wa μ d Q pc L [vI x] M := by
  intro p l e R s m args below meth c H locs cells slots Qf t A D ls hC hr hP hS hl hL hst hM
  obtain ⟨hx, hb, hml, hown, hts, hR, hK⟩ := id hC
  exact (hr.2 M H locs pc ls hM hP hS).1 x hk h hd

theorem s_lret {μ : cMi} {d : Nat} {Q : cV → cM → Prop} {pc : Nat} {L : List cV} {M : cM} {x : Int} (hd : decode μ.2.1 pc = .ok (.lreturn, 1)) (hk : μ.2.2.2.2.1 = 2) (h : Q (vL x) M) : Wa μ d Q pc L ([vL x]) M := by
  intro p l e R s m args below meth c H locs cells slots Qf t A D ls hC hr hP hS hl hL hst hM
  obtain ⟨hx, hb, hml, hown, hts, hR, hK⟩ := id hC
  exact (hr.2 M H locs pc ls hM hP hS).2.1 x hk hst.hl h hd

theorem s_aret {μ : cMi} {d : Nat} {Q : cV → cM → Prop} {pc : Nat} {L : List cV} {M : cM} {k : Nat} (hd : decode μ.2.1 pc = .ok (.areturn, 1)) (hk : μ.2.2.2.2.1 = 3) (h : Q (vS (k : Nat)) M) : Wa μ d Q pc L ([vS (k : Nat)]) M := by
  intro p l e R s m args below meth c H locs cells slots Qf t A D ls hC hr hP hS hl hL hst hM
  obtain ⟨hx, hb, hml, hown, hts, hR, hK⟩ := id hC
  exact (hr.2 M H locs pc ls hM hP hS).2.2.1 k hk h hd

theorem s_vret {μ : cMi} {d : Nat} {Q : cV → cM → Prop} {pc : Nat} {L : List cV} {M : cM}  (hd : decode μ.2.1 pc = .ok (.return_, 1)) (hk : μ.2.2.2.2.1 = 0) (h : Q vU M) : Wa μ d Q pc L ([]) M := by
  intro p l e R s m args below meth c H locs cells slots Qf t A D ls hC hr hP hS hl hL hst hM
  obtain ⟨hx, hb, hml, hown, hts, hR, hK⟩ := id hC
  exact (hr.2 M H locs pc ls hM hP hS).2.2.2 hk h hd
