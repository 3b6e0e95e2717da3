theorem cl_of {i : Int} (h : iR i) (h0 : 0 ≤ i) : ((Int32.ofInt i).toNatClampNeg : Int) = i := by
  show (((Int32.ofInt i).toInt.toNat : Nat) : Int) = i
  rw [oI_id h]
  omega
theorem in_of {i : Int} {n : Nat} (h : iR i) (h0 : 0 ≤ i ∧ i < n) : vp_in (Int32.ofInt i) n := vp_in_iff.mpr (by rw [oI_id h]; exact h0)
theorem wr_o {M : cM} {k j v : Int} : ∀ k' j', k' ≠ k → wr M k j v k' j' = M k' j' := fun k' j' h => by
  unfold wr
  rw [if_neg (fun q => h q.1)]
theorem ctab_lt : ∀ q ∈ ctab, q.1 < 1000 := by decide +kernel
theorem RW.wr {D : va_G} {t : cT} {M : cM} {H1 : Heap} {k j v : Int} {sh : Nat × Nat} {q : Nat} {e : va_E} (hk : (k, sh) ∈ ctab) (hq : ctab[q]? = some (k, sh)) (he : e = cent t (wr M k j v) k sh) (hro : ∀ c j, 1000 ≤ c → M c j = t.2.2.2.2.2.2 c j) (hP : va_P D ccl ((cws t M).set q (t.1 k, e)) H1) : RW D t (wr M k j v) H1 := by
  refine ⟨?_, fun c i hc => ?_⟩
  · rw [← cws_set hq he wr_o]
    exact hP
  · have h1 := ctab_lt _ hk
    rw [wr_o c i (by have : k < 1000 := h1; omega)]
    exact hro c i hc
theorem upd_wr {M : cM} {k i x : Int} (h : iR i) (h0 : 0 ≤ i) : upd (fun j : Nat => Int32.ofInt (M k j)) (Int32.ofInt i).toNatClampNeg (Int32.ofInt x) = (fun j : Nat => Int32.ofInt (wr M k i x k j)) := by
  funext j
  have hc := cl_of h h0
  unfold upd wr
  by_cases hj : j = (Int32.ofInt i).toNatClampNeg
  · rw [if_pos hj, if_pos ⟨rfl, by rw [hj]; exact hc⟩]
  · rw [if_neg hj, if_neg (fun q => hj (by have := q.2; omega))]
theorem cf_at {t : cT} {M : cM} {k : Int} {ci j : Nat} {b : Bool} (h : (cfk.getD ci [])[j]? = some b) : ((cfk.getD ci []).mapIdx (fun j b => cfield t M k j b))[j]? = some (cfield t M k j b) := by
  rw [List.getElem?_mapIdx, h]
  rfl
theorem cf_set {t : cT} {M : cM} {k x : Int} {ci j : Nat} (h : (cfk.getD ci [])[j]? = some true) : ((cfk.getD ci []).mapIdx (fun j b => cfield t M k j b)).set j (.int (Int32.ofInt x)) = (cfk.getD ci []).mapIdx (fun i b => cfield t (wr M k (j : Nat) x) k i b) := by
  apply List.ext_getElem?
  intro i
  by_cases hi : i = j
  · subst hi
    rw [List.getElem?_set_self (by rw [List.length_mapIdx]; exact (List.getElem?_eq_some_iff.mp h).1), List.getElem?_mapIdx, h]
    unfold cfield wr
    simp
  · rw [List.getElem?_set_ne (Ne.symm hi), List.getElem?_mapIdx, List.getElem?_mapIdx]
    cases (cfk.getD ci [])[i]? with
    | none => rfl
    | some b =>
      unfold cfield wr
      have : ¬ ((i : Int) = (j : Int)) := by omega
      simp [this]

theorem s_getI {μ : cMi} {d : Nat} {Q : cV → cM → Prop} {pc : Nat} {L st : List cV} {M : cM} {idx ci j N : Nat} {C : String} {T : u_T} {k jz : Int} (hk : (k, (0, ci)) ∈ ctab) (hc : ccl[ci]? = some (C, T, N)) (hin : ∀ w ∈ u_ws C T N, w ∈ bw) (hj : j < N) (hd : decode μ.2.1 pc = .ok (.getfield idx, 3)) (hlink : Cond.fieldLink μ.1.cls idx (T j).1 (T j).2.1 (T j).2.2.1 ∈ bw) (hb1 : (cfk.getD ci [])[j]? = some true ∧ ((j : Nat) : Int) = jz) (h : Wa μ d Q (pc + 3) L (vI (M k jz) :: st) M) : Wa μ d Q pc L (vR k :: st) M := by
  intro p l e R s m args below meth c H locs cells slots Qf t A D ls hC hr hP hS hl hL hst hM
  obtain ⟨hx, hb, hml, hown, hts, hR, hK⟩ := id hC
  obtain ⟨hb1, rfl⟩ := hb1
  obtain ⟨q, hq, he⟩ := cws_at (t := t) (M := M) hk
  exact va_get (D := D) (ci := ci) (v := .int (Int32.ofInt (M k j))) (C := C) (T := T) (N := N) hx hb hts hin hown hK.1 hP.1 q he hc j hj (hts _ hlink) (fun _ h9 => h9) (cf_at hb1) hd (h p l e R s m args below meth c H locs cells slots Qf t A D ls hC hr hP hS hl hL (hst.t.i (hM k j)) hM)

theorem s_getR {μ : cMi} {d : Nat} {Q : cV → cM → Prop} {pc : Nat} {L st : List cV} {M : cM} {idx ci j N : Nat} {C : String} {T : u_T} {k k2 : Int} (hk : (k, (0, ci)) ∈ ctab) (hc : ccl[ci]? = some (C, T, N)) (hin : ∀ w ∈ u_ws C T N, w ∈ bw) (hj : j < N) (hd : decode μ.2.1 pc = .ok (.getfield idx, 3)) (hlink : Cond.fieldLink μ.1.cls idx (T j).1 (T j).2.1 (T j).2.2.1 ∈ bw) (hb1 : (cfk.getD ci [])[j]? = some false) (hm : cmr k (j : Nat) = k2) (h : Wa μ d Q (pc + 3) L (vR k2 :: st) M) : Wa μ d Q pc L (vR k :: st) M := by
  intro p l e R s m args below meth c H locs cells slots Qf t A D ls hC hr hP hS hl hL hst hM
  obtain ⟨hx, hb, hml, hown, hts, hR, hK⟩ := id hC
  subst hm
  obtain ⟨q, hq, he⟩ := cws_at (t := t) (M := M) hk
  exact va_get (D := D) (ci := ci) (v := .ref (t.1 (cmr k (j : Nat)))) (C := C) (T := T) (N := N) hx hb hts hin hown hK.1 hP.1 q he hc j hj (hts _ hlink) (fun _ h9 => h9) (cf_at hb1) hd (h p l e R s m args below meth c H locs cells slots Qf t A D ls hC hr hP hS hl hL (hst.t.o (by decide)) hM)

theorem s_putI {μ : cMi} {d : Nat} {Q : cV → cM → Prop} {pc : Nat} {L st : List cV} {M : cM} {idx ci j N : Nat} {C : String} {T : u_T} {k jz x : Int} (Y : Nat → FieldType) (hk : (k, (0, ci)) ∈ ctab) (hc : ccl[ci]? = some (C, T, N)) (hin : ∀ w ∈ u_ws C T N, w ∈ bw) (hj : j < N) (hd : decode μ.2.1 pc = .ok (.putfield idx, 3)) (hlink : Cond.fieldLink μ.1.cls idx (T j).1 (T j).2.1 (T j).2.2.1 ∈ bw) (hY : ∀ k, k < N → parseFieldDescriptor (T k).2.2.1 = some (Y k)) (hnm : ∀ a, a < N → ∀ b, b < N → a ≠ b → (T a).2.1 ≠ (T b).2.1) (hb1 : (cfk.getD ci [])[j]? = some true ∧ ((j : Nat) : Int) = jz) (hfin : (T j).2.2.2 = false) (hx1 : Y j = .int ∨ (Y j = .boolean ∧ (x = 0 ∨ x = 1))) (h : Wa μ d Q (pc + 3) L (st) (wr M k jz x)) : Wa μ d Q pc L (vI x :: vR k :: st) M := by
  intro p l e R s m args below meth c H locs cells slots Qf t A D ls hC hr hP hS hl hL hst hM
  obtain ⟨hx, hb, hml, hown, hts, hR, hK⟩ := id hC
  obtain ⟨hb1, rfl⟩ := hb1
  obtain ⟨q, hq, he⟩ := cws_at (t := t) (M := M) hk
  have hl9 : j < ((cfk.getD ci []).mapIdx (fun j b => cfield t M k j b)).length := by rw [List.length_mapIdx]; exact (List.getElem?_eq_some_iff.mp hb1).1
  have hn : narrow (Y j) (.int (Int32.ofInt x)) = .int (Int32.ofInt x) ∧ fits (Y j) (.int (Int32.ofInt x)) = true := by
    rcases hx1 with e | ⟨e, rfl | rfl⟩
    · rw [e]; exact ⟨rfl, rfl⟩
    · rw [e]; exact ⟨by decide +kernel, by decide +kernel⟩
    · rw [e]; exact ⟨by decide +kernel, by decide +kernel⟩
  exact va_put (D := D) (ci := ci) (v := .int (Int32.ofInt x)) (ty := Y j) (C := C) (T := T) (N := N) hx hb hts hin Y hY hnm hown hK.1 hP.1 (hK.apart M) hS q he hc j hj (hts _ hlink) (fun _ h9 => h9) hfin (hY j hj) hn.1 hn.2 hl9 hd (fun H1 locs1 hP1 hD1 hS1 => h p l e R s m args below meth c H1 locs1 cells slots Qf t A D ls hC hr (RW.wr hk hq (by rw [cf_set hb1]; rfl) hP.2 hP1) hS1 hl hL hst.t.t (hM.w hst.hi))

theorem s_iald {μ : cMi} {d : Nat} {Q : cV → cM → Prop} {pc : Nat} {L st : List cV} {M : cM} {n : Nat} {k i : Int} (hd : decode μ.2.1 pc = .ok (.iaload, 1)) (hk : (k, (1, n)) ∈ ctab) (hi : 0 ≤ i ∧ i < (n : Nat)) (h : Wa μ d Q (pc + 1) L (vI (M k i) :: st) M) : Wa μ d Q pc L (vI i :: vR k :: st) M := by
  intro p l e R s m args below meth c H locs cells slots Qf t A D ls hC hr hP hS hl hL hst hM
  obtain ⟨hx, hb, hml, hown, hts, hR, hK⟩ := id hC
  obtain ⟨q, hq, he⟩ := cws_at (t := t) (M := M) hk
  have hii : iR i := hst.hi
  have z := h p l e R s m args below meth c H locs cells slots Qf t A D ls hC hr hP hS hl hL (hst.t.t.i (hM k i)) hM
  refine va_iald hx hb hK.1 hP.1 q 0 he rfl (in_of hii hi) hd ?_
  rw [cl_of hii hi.1]
  exact z

theorem s_bald {μ : cMi} {d : Nat} {Q : cV → cM → Prop} {pc : Nat} {L st : List cV} {M : cM} {n : Nat} {k i : Int} (hd : decode μ.2.1 pc = .ok (.baload, 1)) (hk : (k, (2, n)) ∈ ctab) (hi : 0 ≤ i ∧ i < (n : Nat)) (h : Wa μ d Q (pc + 1) L (vI (M k i) :: st) M) : Wa μ d Q pc L (vI i :: vR k :: st) M := by
  intro p l e R s m args below meth c H locs cells slots Qf t A D ls hC hr hP hS hl hL hst hM
  obtain ⟨hx, hb, hml, hown, hts, hR, hK⟩ := id hC
  obtain ⟨q, hq, he⟩ := cws_at (t := t) (M := M) hk
  have hii : iR i := hst.hi
  have z := h p l e R s m args below meth c H locs cells slots Qf t A D ls hC hr hP hS hl hL (hst.t.t.i (hM k i)) hM
  refine va_bald hx hb hK.1 hP.1 q 1 he rfl (in_of hii hi) hd ?_
  rw [cl_of hii hi.1]
  exact z

theorem s_zald {μ : cMi} {d : Nat} {Q : cV → cM → Prop} {pc : Nat} {L st : List cV} {M : cM} {n : Nat} {k i : Int} (hd : decode μ.2.1 pc = .ok (.baload, 1)) (hk : (k, (3, n)) ∈ ctab) (hi : 0 ≤ i ∧ i < (n : Nat)) (h : Wa μ d Q (pc + 1) L (vI (M k i) :: st) M) : Wa μ d Q pc L (vI i :: vR k :: st) M := by
  intro p l e R s m args below meth c H locs cells slots Qf t A D ls hC hr hP hS hl hL hst hM
  obtain ⟨hx, hb, hml, hown, hts, hR, hK⟩ := id hC
  obtain ⟨q, hq, he⟩ := cws_at (t := t) (M := M) hk
  have hii : iR i := hst.hi
  have z := h p l e R s m args below meth c H locs cells slots Qf t A D ls hC hr hP hS hl hL (hst.t.t.i (hM k i)) hM
  refine va_zald hx hb hK.1 hP.1 q 2 he rfl (in_of hii hi) hd ?_
  rw [cl_of hii hi.1]
  exact z

theorem s_iast {μ : cMi} {d : Nat} {Q : cV → cM → Prop} {pc : Nat} {L st : List cV} {M : cM} {n : Nat} {k i x : Int} (hd : decode μ.2.1 pc = .ok (.iastore, 1)) (hk : (k, (1, n)) ∈ ctab) (hi : 0 ≤ i ∧ i < (n : Nat)) (h : Wa μ d Q (pc + 1) L (st) (wr M k i x)) : Wa μ d Q pc L (vI x :: vI i :: vR k :: st) M := by
  intro p l e R s m args below meth c H locs cells slots Qf t A D ls hC hr hP hS hl hL hst hM
  obtain ⟨hx, hb, hml, hown, hts, hR, hK⟩ := id hC
  obtain ⟨q, hq, he⟩ := cws_at (t := t) (M := M) hk
  have hii : iR i := hst.t.hi
  exact va_iast hx hb hK.1 hP.1 (hK.apart M) hS q 0 he rfl (in_of hii hi) hd (fun H1 locs1 hP1 hD1 hS1 => h p l e R s m args below meth c H1 locs1 cells slots Qf t A D ls hC hr (RW.wr hk hq (by rw [upd_wr hii hi.1]; rfl) hP.2 hP1) hS1 hl hL hst.t.t.t (hM.w hst.hi))

theorem s_bast {μ : cMi} {d : Nat} {Q : cV → cM → Prop} {pc : Nat} {L st : List cV} {M : cM} {n : Nat} {k i x : Int} (hd : decode μ.2.1 pc = .ok (.bastore, 1)) (hk : (k, (2, n)) ∈ ctab) (hi : 0 ≤ i ∧ i < (n : Nat)) (h : Wa μ d Q (pc + 1) L (st) (wr M k i (narK 5 x))) : Wa μ d Q pc L (vI x :: vI i :: vR k :: st) M := by
  intro p l e R s m args below meth c H locs cells slots Qf t A D ls hC hr hP hS hl hL hst hM
  obtain ⟨hx, hb, hml, hown, hts, hR, hK⟩ := id hC
  obtain ⟨q, hq, he⟩ := cws_at (t := t) (M := M) hk
  have hii : iR i := hst.t.hi
  exact va_bast hx hb hK.1 hP.1 (hK.apart M) hS q 1 he rfl (in_of hii hi) hd (fun H1 locs1 hP1 hD1 hS1 => h p l e R s m args below meth c H1 locs1 cells slots Qf t A D ls hC hr (RW.wr hk hq (by rw [show vp_nar .byte (Int32.ofInt x) = Int32.ofInt (narK 5 x) from (oI_of _).symm, upd_wr hii hi.1]; rfl) hP.2 hP1) hS1 hl hL hst.t.t.t (hM.w (narK_R 5 x)))

theorem s_zast {μ : cMi} {d : Nat} {Q : cV → cM → Prop} {pc : Nat} {L st : List cV} {M : cM} {n : Nat} {k i x : Int} (hd : decode μ.2.1 pc = .ok (.bastore, 1)) (hk : (k, (3, n)) ∈ ctab) (hi : 0 ≤ i ∧ i < (n : Nat)) (h : Wa μ d Q (pc + 1) L (st) (wr M k i (narK 4 x))) : Wa μ d Q pc L (vI x :: vI i :: vR k :: st) M := by
  intro p l e R s m args below meth c H locs cells slots Qf t A D ls hC hr hP hS hl hL hst hM
  obtain ⟨hx, hb, hml, hown, hts, hR, hK⟩ := id hC
  obtain ⟨q, hq, he⟩ := cws_at (t := t) (M := M) hk
  have hii : iR i := hst.t.hi
  exact va_zast hx hb hK.1 hP.1 (hK.apart M) hS q 2 he rfl (in_of hii hi) hd (fun H1 locs1 hP1 hD1 hS1 => h p l e R s m args below meth c H1 locs1 cells slots Qf t A D ls hC hr (RW.wr hk hq (by rw [show vp_nar .boolean (Int32.ofInt x) = Int32.ofInt (narK 4 x) from (oI_of _).symm, upd_wr hii hi.1]; rfl) hP.2 hP1) hS1 hl hL hst.t.t.t (hM.w (narK_R 4 x)))

theorem s_aald4 {μ : cMi} {d : Nat} {Q : cV → cM → Prop} {pc : Nat} {L st : List cV} {M : cM} {n : Nat} {k i k2 : Int} (hd : decode μ.2.1 pc = .ok (.aaload, 1)) (hk : (k, (4, n)) ∈ ctab) (hi : 0 ≤ i ∧ i < (n : Nat)) (hm : cmr k i = k2) (h : Wa μ d Q (pc + 1) L (vR k2 :: st) M) : Wa μ d Q pc L (vI i :: vR k :: st) M := by
  intro p l e R s m args below meth c H locs cells slots Qf t A D ls hC hr hP hS hl hL hst hM
  obtain ⟨hx, hb, hml, hown, hts, hR, hK⟩ := id hC
  subst hm
  obtain ⟨q, hq, he⟩ := cws_at (t := t) (M := M) hk
  have hii : iR i := hst.hi
  have hin := in_of hii hi
  have hlt : (Int32.ofInt i).toNatClampNeg < n := Nat.not_le.mp fun q => hin (Or.inr q)
  have z := h p l e R s m args below meth c H locs cells slots Qf t A D ls hC hr hP hS hl hL (hst.t.t.o (by decide)) hM
  refine W.aald (v := .ref (t.1 (cmr k i))) (ty := .object "SlantSheets$Row") hx hb (hP.1 q _ he) ((hK.1.2 3 _ rfl).1 n (fun j => va_rf (some (t.1 (cmr k j))))) rfl (fun q => by cases q) (by show ¬ (Int32.ofInt i < 0 ∨ (arrV _ _ _).slots.size ≤ _); rw [arrV_size]; exact hin) (by show (arrV _ _ _).slots[_]? = _; rw [arrV_read _ _ hlt]; show some (Value.ref (t.1 (cmr k ((Int32.ofInt i).toNatClampNeg : Nat)))) = _; rw [cl_of hii hi.1]) rfl rfl hd z

theorem s_aald5 {μ : cMi} {d : Nat} {Q : cV → cM → Prop} {pc : Nat} {L st : List cV} {M : cM} {n : Nat} {k i k2 : Int} (hd : decode μ.2.1 pc = .ok (.aaload, 1)) (hk : (k, (5, n)) ∈ ctab) (hi : 0 ≤ i ∧ i < (n : Nat)) (hm : cmr k i = k2) (h : Wa μ d Q (pc + 1) L (vR k2 :: st) M) : Wa μ d Q pc L (vI i :: vR k :: st) M := by
  intro p l e R s m args below meth c H locs cells slots Qf t A D ls hC hr hP hS hl hL hst hM
  obtain ⟨hx, hb, hml, hown, hts, hR, hK⟩ := id hC
  subst hm
  obtain ⟨q, hq, he⟩ := cws_at (t := t) (M := M) hk
  have hii : iR i := hst.hi
  have hin := in_of hii hi
  have hlt : (Int32.ofInt i).toNatClampNeg < n := Nat.not_le.mp fun q => hin (Or.inr q)
  have z := h p l e R s m args below meth c H locs cells slots Qf t A D ls hC hr hP hS hl hL (hst.t.t.o (by decide)) hM
  refine W.aald (v := .ref (t.1 (cmr k i))) (ty := .array .int) hx hb (hP.1 q _ he) ((hK.1.2 4 _ rfl).1 n (fun j => va_rf (some (t.1 (cmr k j))))) rfl (fun q => by cases q) (by show ¬ (Int32.ofInt i < 0 ∨ (arrV _ _ _).slots.size ≤ _); rw [arrV_size]; exact hin) (by show (arrV _ _ _).slots[_]? = _; rw [arrV_read _ _ hlt]; show some (Value.ref (t.1 (cmr k ((Int32.ofInt i).toNatClampNeg : Nat)))) = _; rw [cl_of hii hi.1]) rfl rfl hd z

theorem s_alen {μ : cMi} {d : Nat} {Q : cV → cM → Prop} {pc : Nat} {L st : List cV} {M : cM} {n : Nat} {k nz : Int} (hd : decode μ.2.1 pc = .ok (.arraylength, 1)) (hk : (k, (1, n)) ∈ ctab) (hn : (n : Int) = nz ∧ iR nz) (h : Wa μ d Q (pc + 1) L (vI nz :: st) M) : Wa μ d Q pc L (vR k :: st) M := by
  intro p l e R s m args below meth c H locs cells slots Qf t A D ls hC hr hP hS hl hL hst hM
  obtain ⟨hx, hb, hml, hown, hts, hR, hK⟩ := id hC
  obtain ⟨rfl, hn⟩ := hn
  obtain ⟨q, hq, he⟩ := cws_at (t := t) (M := M) hk
  exact va_alen hx hb hK.1 hP.1 q 0 he rfl (show Int32.ofNat n = Int32.ofInt (n : Int) from (Int32.ofInt_eq_ofNat).symm) hd (h p l e R s m args below meth c H locs cells slots Qf t A D ls hC hr hP hS hl hL (hst.t.i hn) hM)

theorem s_getsA {μ : cMi} {d : Nat} {Q : cV → cM → Prop} {pc : Nat} {L st : List cV} {M : cM} {idx : Nat} (hd : decode μ.2.1 pc = .ok (.getstatic idx, 3)) (hlink : Cond.fieldLink μ.1.cls idx "SlantSheets" "ABOVE" "[I" ∈ bw) (h : Wa μ d Q (pc + 3) L (vT 1 :: st) M) : Wa μ d Q pc L (st) M := by
  intro p l e R s m args below meth c H locs cells slots Qf t A D ls hC hr hP hS hl hL hst hM
  obtain ⟨hx, hb, hml, hown, hts, hR, hK⟩ := id hC
  exact va_gets hx hb hK.2.2.2.1.2.1 hS hown (hts _ hlink) (fun _ h9 => h9) hd (h p l e R s m args below meth c H locs cells slots Qf t A D ls hC hr hP hS hl hL (hst.o (by decide)) hM)

theorem s_getsC {μ : cMi} {d : Nat} {Q : cV → cM → Prop} {pc : Nat} {L st : List cV} {M : cM} {idx : Nat} (hd : decode μ.2.1 pc = .ok (.getstatic idx, 3)) (hlink : Cond.fieldLink μ.1.cls idx "SlantSheets" "COS" "[I" ∈ bw) (h : Wa μ d Q (pc + 3) L (vT 0 :: st) M) : Wa μ d Q pc L (st) M := by
  intro p l e R s m args below meth c H locs cells slots Qf t A D ls hC hr hP hS hl hL hst hM
  obtain ⟨hx, hb, hml, hown, hts, hR, hK⟩ := id hC
  exact va_gets hx hb hK.2.2.2.1.1 hS hown (hts _ hlink) (fun _ h9 => h9) hd (h p l e R s m args below meth c H locs cells slots Qf t A D ls hC hr hP hS hl hL (hst.o (by decide)) hM)

theorem s_getsN {μ : cMi} {d : Nat} {Q : cV → cM → Prop} {pc : Nat} {L st : List cV} {M : cM}  (hd : decode μ.2.1 pc = .ok (.getstatic 20, 3)) (hc : μ.1.cls = "SlantSheets$Light") (h : Wa μ d Q (pc + 3) L (vT 0 :: st) M) : Wa μ d Q pc L (st) M := by
  intro p l e R s m args below meth c H locs cells slots Qf t A D ls hC hr hP hS hl hL hst hM
  obtain ⟨hx, hb, hml, hown, hts, hR, hK⟩ := id hC
  rw [hc] at hown
  have hl0 : (Cond.fieldLinkNest "SlantSheets$Light" 20 "SlantSheets" "COS" "[I" "SlantSheets").before args s = true := va_Nw.use rfl hK.2.2.2.2.2.2.2.2.2
  exact va_getsN hx hb hK.2.2.2.1.1 hS hown hl0 (fun _ h9 => h9) hd (h p l e R s m args below meth c H locs cells slots Qf t A D ls hC hr hP hS hl hL (hst.o (by decide)) hM)

theorem s_getsS {μ : cMi} {d : Nat} {Q : cV → cM → Prop} {pc : Nat} {L st : List cV} {M : cM} {idx : Nat} (hd : decode μ.2.1 pc = .ok (.getstatic idx, 3)) (hlink : Cond.fieldLink μ.1.cls idx "java/lang/String" "COMPACT_STRINGS" "Z" ∈ bw) (h : Wa μ d Q (pc + 3) L (vI 1 :: st) M) : Wa μ d Q pc L (st) M := by
  intro p l e R s m args below meth c H locs cells slots Qf t A D ls hC hr hP hS hl hL hst hM
  obtain ⟨hx, hb, hml, hown, hts, hR, hK⟩ := id hC
  exact va_gets hx hb hK.2.2.2.1.2.2.1 hS hown (hts _ hlink) (fun _ h9 => h9) hd (h p l e R s m args below meth c H locs cells slots Qf t A D ls hC hr hP hS hl hL (hst.i (by unfold iR; omega)) hM)

theorem s_getsF {μ : cMi} {d : Nat} {Q : cV → cM → Prop} {pc : Nat} {L st : List cV} {M : cM} {idx : Nat} (hd : decode μ.2.1 pc = .ok (.getstatic idx, 3)) (hlink : Cond.fieldLink μ.1.cls idx "jdk/internal/util/Preconditions" "SIOOBE_FORMATTER" "Ljava/util/function/BiFunction;" ∈ bw) (h : Wa μ d Q (pc + 3) L (vF :: st) M) : Wa μ d Q pc L (st) M := by
  intro p l e R s m args below meth c H locs cells slots Qf t A D ls hC hr hP hS hl hL hst hM
  obtain ⟨hx, hb, hml, hown, hts, hR, hK⟩ := id hC
  exact va_gets hx hb hK.2.2.2.1.2.2.2 hS hown (hts _ hlink) (fun _ h9 => h9) hd (h p l e R s m args below meth c H locs cells slots Qf t A D ls hC hr hP hS hl hL (hst.o (by decide)) hM)

theorem s_tald {μ : cMi} {d : Nat} {Q : cV → cM → Prop} {pc : Nat} {L st : List cV} {M : cM} {k i : Int} (hd : decode μ.2.1 pc = .ok (.iaload, 1)) (hk : 0 ≤ k ∧ k < 3) (hi : 0 ≤ i ∧ i < M (1000 + k) (-1)) (h : Wa μ d Q (pc + 1) L (vI (M (1000 + k) i) :: st) M) : Wa μ d Q pc L (vI i :: vT k :: st) M := by
  intro p l e R s m args below meth c H locs cells slots Qf t A D ls hC hr hP hS hl hL hst hM
  obtain ⟨hx, hb, hml, hown, hts, hR, hK⟩ := id hC
  have hii : iR i := hst.hi
  obtain ⟨hT, h0⟩ := hK.2.2.2.2.1 k hk.1 hk.2
  have ro := hP.2 (1000 + k)
  rw [ro _ (by omega)] at hi
  have z := h p l e R s m args below meth c H locs cells slots Qf t A D ls hC hr hP hS hl hL (hst.t.t.i (hM (1000 + k) i)) hM
  have hi9 : 0 ≤ i ∧ i < ((t.2.2.2.2.2.2 (1000 + k) (-1)).toNat : Int) := ⟨hi.1, by omega⟩
  refine va_ti hx hb hT hS (in_of hii hi9) (v := .int (Int32.ofInt (M (1000 + k) i))) ?_ hd z
  show Value.int _ = _
  rw [cl_of hii hi.1, ro _ (by omega)]

theorem s_tlen {μ : cMi} {d : Nat} {Q : cV → cM → Prop} {pc : Nat} {L st : List cV} {M : cM} {k : Int} (hd : decode μ.2.1 pc = .ok (.arraylength, 1)) (hk : 0 ≤ k ∧ k < 3) (h : Wa μ d Q (pc + 1) L (vI (M (1000 + k) (-1)) :: st) M) : Wa μ d Q pc L (vT k :: st) M := by
  intro p l e R s m args below meth c H locs cells slots Qf t A D ls hC hr hP hS hl hL hst hM
  obtain ⟨hx, hb, hml, hown, hts, hR, hK⟩ := id hC
  obtain ⟨hT, h0⟩ := hK.2.2.2.2.1 k hk.1 hk.2
  have ro := hP.2 (1000 + k) (-1) (by omega)
  have z := h p l e R s m args below meth c H locs cells slots Qf t A D ls hC hr hP hS hl hL (hst.t.i (hM (1000 + k) (-1))) hM
  refine va_tlen hx hb hT hS (v := Int32.ofInt (M (1000 + k) (-1))) ?_ hd z
  rw [ro, ← Int32.ofInt_eq_ofNat, Int.toNat_of_nonneg h0]

theorem s_strv {μ : cMi} {d : Nat} {Q : cV → cM → Prop} {pc : Nat} {L st : List cV} {M : cM} {idx k : Nat} (hd : decode μ.2.1 pc = .ok (.getfield idx, 3)) (hlink : Cond.fieldLink μ.1.cls idx "java/lang/String" "value" "[B" ∈ bw) (hk : k < 14) (h : Wa μ d Q (pc + 3) L (vB k :: st) M) : Wa μ d Q pc L (vS k :: st) M := by
  intro p l e R s m args below meth c H locs cells slots Qf t A D ls hC hr hP hS hl hL hst hM
  obtain ⟨hx, hb, hml, hown, hts, hR, hK⟩ := id hC
  have hE := (hK.2.2.2.2.2.1.1 k hk).2.2.1
  exact vk_getf hx hb hE hS hown (hts _ hlink) (fun _ h9 => h9) hd (h p l e R s m args below meth c H locs cells slots Qf t A D ls hC hr hP hS hl hL (hst.t.o (by decide)) hM)

theorem s_strc {μ : cMi} {d : Nat} {Q : cV → cM → Prop} {pc : Nat} {L st : List cV} {M : cM} {idx k : Nat} (hd : decode μ.2.1 pc = .ok (.getfield idx, 3)) (hlink : Cond.fieldLink μ.1.cls idx "java/lang/String" "coder" "B" ∈ bw) (hk : k < 14) (h : Wa μ d Q (pc + 3) L (vI 0 :: st) M) : Wa μ d Q pc L (vS k :: st) M := by
  intro p l e R s m args below meth c H locs cells slots Qf t A D ls hC hr hP hS hl hL hst hM
  obtain ⟨hx, hb, hml, hown, hts, hR, hK⟩ := id hC
  have hE := (hK.2.2.2.2.2.1.1 k hk).2.1
  exact vk_getf hx hb hE hS hown (hts _ hlink) (fun _ h9 => h9) hd (h p l e R s m args below meth c H locs cells slots Qf t A D ls hC hr hP hS hl hL (hst.t.i iR_0) hM)

theorem s_sbald {μ : cMi} {d : Nat} {Q : cV → cM → Prop} {pc : Nat} {L st : List cV} {M : cM} {k : Nat} {i : Int} (hd : decode μ.2.1 pc = .ok (.baload, 1)) (hk : k < 14) (hi : 0 ≤ i ∧ i < M (2000 + (k : Nat)) (-1)) (h : Wa μ d Q (pc + 1) L (vI (M (2000 + (k : Nat)) i) :: st) M) : Wa μ d Q pc L (vI i :: vB k :: st) M := by
  intro p l e R s m args below meth c H locs cells slots Qf t A D ls hC hr hP hS hl hL hst hM
  obtain ⟨hx, hb, hml, hown, hts, hR, hK⟩ := id hC
  have hii : iR i := hst.hi
  have hT := (hK.2.2.2.2.2.1.1 k hk).2.2.2
  obtain ⟨e1, e2⟩ := hK.2.2.2.2.2.2.2.2.1 k hk
  have ro := hP.2 (2000 + (k : Nat))
  rw [ro _ (by omega), e1] at hi
  have z := h p l e R s m args below meth c H locs cells slots Qf t A D ls hC hr hP hS hl hL (hst.t.t.i (hM (2000 + (k : Nat)) i)) hM
  refine va_tb hx hb hT hS (in_of hii hi) (v := .int (Int32.ofInt (M (2000 + (k : Nat)) i))) ?_ hd z
  show Value.int _ = _
  have hc := cl_of hii hi.1
  have hlt : (Int32.ofInt i).toNatClampNeg < clen.getD k 0 := by omega
  rw [ro _ (by omega), ← e2 _ hlt, hc]

theorem s_blen {μ : cMi} {d : Nat} {Q : cV → cM → Prop} {pc : Nat} {L st : List cV} {M : cM} {k : Nat} (hd : decode μ.2.1 pc = .ok (.arraylength, 1)) (hk : k < 14) (h : Wa μ d Q (pc + 1) L (vI (M (2000 + (k : Nat)) (-1)) :: st) M) : Wa μ d Q pc L (vB k :: st) M := by
  intro p l e R s m args below meth c H locs cells slots Qf t A D ls hC hr hP hS hl hL hst hM
  obtain ⟨hx, hb, hml, hown, hts, hR, hK⟩ := id hC
  have hT := (hK.2.2.2.2.2.1.1 k hk).2.2.2
  obtain ⟨e1, e2⟩ := hK.2.2.2.2.2.2.2.2.1 k hk
  have ro := hP.2 (2000 + (k : Nat)) (-1) (by omega)
  have z := h p l e R s m args below meth c H locs cells slots Qf t A D ls hC hr hP hS hl hL (hst.t.i (hM (2000 + (k : Nat)) (-1))) hM
  refine va_tlen hx hb hT hS (v := Int32.ofInt (M (2000 + (k : Nat)) (-1))) ?_ hd z
  rw [ro, e1, Int32.ofInt_eq_ofNat]

/-- n ints of cell a from place sp on come to cell b from place dp on -/
def cpyM (M : cM) (a sp b dp n : Int) : cM := fun c j => if c = b ∧ dp ≤ j ∧ j < dp + n then M a (sp + (j - dp)) else M c j
theorem cpyM_o {M : cM} {a sp b dp n : Int} : ∀ k' j', k' ≠ b → cpyM M a sp b dp n k' j' = M k' j' := fun k' j' h => by
  unfold cpyM
  rw [if_neg (fun q => h q.1)]
theorem cpyM_wf {M : cM} {a sp b dp n : Int} (h : wfM M) : wfM (cpyM M a sp b dp n) := fun c j => by
  unfold cpyM
  split
  · exact h _ _
  · exact h _ _

theorem s_copy {μ : cMi} {d : Nat} {Q : cV → cM → Prop} {pc : Nat} {L st : List cV} {M : cM} {idx n1 n2 : Nat} {a sp b dp n : Int} (hd : decode μ.2.1 pc = .ok (.invokestatic idx, 3)) (hlink : Cond.methodLink μ.1.cls idx arraycopyName ∈ bw) (hd1 : 1 ≤ d) (ha : (a, (1, n1)) ∈ ctab) (hb2 : (b, (1, n2)) ∈ ctab) (hi : 0 ≤ sp ∧ 0 ≤ dp ∧ 0 ≤ n ∧ sp + n ≤ n1 ∧ dp + n ≤ n2) (hcat : (st.map fun v => if v.1 = 1 then 2 else 1).sum ≤ 8) (h : Wa μ d Q (pc + 3) L (st) (cpyM M a sp b dp n)) : Wa μ d Q pc L (vI n :: vI dp :: vR b :: vI sp :: vR a :: st) M := by
  intro p l e R s m args below meth c H locs cells slots Qf t A D ls hC hr hP hS hl hL hst hM
  obtain ⟨hx, hb, hml, hown, hts, hR, hK⟩ := id hC
  obtain ⟨i1, i2, i3, i4, i5⟩ := hi
  obtain ⟨q0, hq0, he0⟩ := cws_at (t := t) (M := M) ha
  obtain ⟨q1, hq1, he1⟩ := cws_at (t := t) (M := M) hb2
  have r1 : iR n := hst.hi
  have r2 : iR dp := hst.t.hi
  have r3 : iR sp := hst.t.t.t.hi
  have c1 := cl_of r1 i3
  have c2 := cl_of r2 i2
  have c3 := cl_of r3 i1
  have ng : ∀ {z : Int}, iR z → 0 ≤ z → ¬ Int32.ofInt z < 0 := fun hz h0 q => by have := (oI_lt hz iR_0).mp q; omega
  have hcs : ((st.map (tr t)).map fun v => v.category).sum ≤ 8 := by
    rw [List.map_map]
    have : ((fun v : Value => v.category) ∘ tr t) = (fun v : cV => if v.1 = 1 then 2 else 1) := funext fun v => tr_cat hK v
    rw [this]
    exact hcat
  have hloc : ((st.map (tr t)).map fun v => v.category).sum + (nativeFrameWords "java/lang/System" "arraycopy" 5 + 11) ≤ R.locals := by
    have h1 := hR.2
    have e : nativeFrameWords "java/lang/System" "arraycopy" 5 ≤ 40 := by decide +kernel
    omega
  have h4 : (Int32.ofInt sp).toNatClampNeg + (Int32.ofInt n).toNatClampNeg ≤ n1 := by omega
  have h5 : (Int32.ofInt dp).toNatClampNeg + (Int32.ofInt n).toNatClampNeg ≤ n2 := by omega
  have hfr : 1 ≤ R.frames := by have := hR.1; omega
  refine va_copyi hx hb (hml.trans hl.1.symm) hown (hts _ hlink) (hts (.native arraycopyName) ?_) (hts (.static arraycopyName) ?_) (hts (.initialized "java/lang/System") ?_) hK.1 hP.1 (hK.apart M) hS q0 q1 0 0 he0 he1 rfl rfl rfl (ng r3 i1) (ng r2 i2) (ng r1 i3) h4 h5 (fun _ _ => rfl) hfr hloc hd (fun H1 locs1 hP1 hD1 hS1 => h p l e R s m args below meth c H1 locs1 cells slots Qf t A D ls hC hr ?_ hS1 hl hL hst.t.t.t.t.t (cpyM_wf hM))
  · decide +kernel
  · decide +kernel
  · decide +kernel
  · refine ⟨?_, fun c i hc => ?_⟩
    · rw [← cws_set (M' := cpyM M a sp b dp n) hq1 ?_ cpyM_o]
      · exact hP1
      · show Sum.inl _ = Sum.inl _
        congr 2
        congr 1
        congr 1
        funext j
        unfold va_cpy cpyM
        by_cases hj : (Int32.ofInt dp).toNatClampNeg ≤ j ∧ j < (Int32.ofInt dp).toNatClampNeg + (Int32.ofInt n).toNatClampNeg
        · rw [if_pos hj, if_pos ⟨rfl, by omega, by omega⟩]
          have e : (((Int32.ofInt sp).toNatClampNeg + (j - (Int32.ofInt dp).toNatClampNeg) : Nat) : Int) = sp + ((j : Int) - dp) := by omega
          rw [← e]
        · rw [if_neg hj, if_neg (fun q => hj ⟨by have := q.2.1; omega, by have := q.2.2; omega⟩)]
    · have hlt : b < 1000 := ctab_lt _ hb2
      rw [cpyM_o c i (by omega)]
      exact hP.2 c i hc
