/-! What the Statement gives of the start: tables, statics, constants. -/
abbrev gvn : List Cond := flatC (Jvm.Cond.and given_1 narrow_1)
def tCOS : Term := .static "SlantSheets" "COS" "[I"
def tABO : Term := .static "SlantSheets" "ABOVE" "[I"
def tSTR (i : Nat) : Term := .string "SlantSheets$TextReader" (cidx.getD i 0)
theorem gv_cos : Cond.arrayOf tCOS .int ∈ gvn ∧ Cond.eq (.length tCOS) (.int (Int32.ofNat 7)) ∈ gvn ∧ ∀ j, j < 7 → Cond.eq (.elem tCOS (.int (Int32.ofNat j))) (.int (cosL.getD j 0)) ∈ gvn := by decide +kernel
theorem gv_abo : Cond.arrayOf tABO .int ∈ gvn ∧ Cond.eq (.length tABO) (.int (Int32.ofNat 7)) ∈ gvn ∧ ∀ j, j < 7 → Cond.eq (.elem tABO (.int (Int32.ofNat j))) (.int (aboL.getD j 0)) ∈ gvn := by decide +kernel
theorem gv_com : Cond.eq (.static "java/lang/String" "COMPACT_STRINGS" "Z") (.int 1) ∈ gvn ∧ Cond.isRef (.static "jdk/internal/util/Preconditions" "SIOOBE_FORMATTER" "Ljava/util/function/BiFunction;") ∈ gvn := by decide +kernel
theorem gv_str : ∀ i, i < 14 → Cond.exactly (tSTR i) "java/lang/String" ∈ gvn ∧ Cond.eq (.field (tSTR i) "java/lang/String" "coder" "B") (.int 0) ∈ gvn ∧ Cond.arrayOf (.field (tSTR i) "java/lang/String" "value" "[B") .byte ∈ gvn ∧ Cond.eq (.length (.field (tSTR i) "java/lang/String" "value" "[B")) (.int (Int32.ofNat (clen.getD i 0))) ∈ gvn := by decide +kernel
theorem gv_byt : ∀ i, i < 14 → ∀ j, j < clen.getD i 0 → Cond.eq (.elem (.field (tSTR i) "java/lang/String" "value" "[B") (.int (Int32.ofNat j))) (.int ((cbyt.getD i []).getD j 0)) ∈ gvn := by decide +kernel
theorem gv_ne : ∀ j, j < 14 → ∀ i, i < j → Cond.not (Cond.eq (tSTR i) (tSTR j)) ∈ gvn := by decide +kernel
def spl : List Nat := [578, 651, 656, 657, 658, 674, 675, 676, 677, 678, 679, 680, 681, 682]
theorem gv_ref : ∀ i, i < 14 → tables_1[spl.getD i 0]? = some (Cond.stringRef "SlantSheets$TextReader" (cidx.getD i 0) (ctxt.getD i "")) := by decide +kernel
theorem gv_sta : tables_1[341]? = some (Cond.laysStatic "SlantSheets" "COS" "[I") ∧ tables_1[697]? = some (Cond.laysStatic "SlantSheets" "ABOVE" "[I") ∧ tables_1[596]? = some (Cond.laysStatic "java/lang/String" "COMPACT_STRINGS" "Z") ∧ tables_1[612]? = some (Cond.laysStatic "jdk/internal/util/Preconditions" "SIOOBE_FORMATTER" "Ljava/util/function/BiFunction;") ∧
    tables_1[1]? = some (Cond.initialized "SlantSheets") ∧ tables_1[13]? = some (Cond.initialized "java/lang/String") ∧ tables_1[15]? = some (Cond.initialized "jdk/internal/util/Preconditions") ∧ tables_1[340]? = some (Cond.fieldLinkNest "SlantSheets$Light" 20 "SlantSheets" "COS" "[I" "SlantSheets") := by decide +kernel
theorem gv_arr : tables_1[95]? = some (Cond.arrayClass .int) ∧ tables_1[112]? = some (Cond.arrayClass .byte) ∧ tables_1[835]? = some (Cond.arrayClass .boolean) ∧ tables_1[139]? = some (Cond.arrayOver (.object "SlantSheets$Row")) ∧ tables_1[32]? = some (Cond.arrayOver (.array .int)) := by decide +kernel
theorem gv_nest : tables_1[98]? = some (Cond.methodLinkNest "SlantSheets" 28 ⟨"SlantSheets$Tape", "<init>", "()V"⟩ "SlantSheets") ∧ tables_1[142]? = some (Cond.methodLinkNest "SlantSheets" 54 ⟨"SlantSheets$Arrangement", "<init>", "()V"⟩ "SlantSheets") ∧ tables_1[156]? = some (Cond.methodLinkNest "SlantSheets" 74 ⟨"SlantSheets$Row", "<init>", "()V"⟩ "SlantSheets") := by decide +kernel
theorem lw_of {i : Nat} {w : Cond} (h : tables_1[i]? = some w) : w ∈ lw_tbl := List.mem_append_right _ (List.mem_of_getElem? h)
theorem wi_S : Cond.instantiable "SlantSheets" 14 ∈ bw := bw_t (i := 18) (by decide +kernel) rfl
theorem wi_M : Cond.instantiable "SlantSheetsModel" 21 ∈ bw := bw_t (i := 766) (by decide +kernel) rfl
/-- an array class of a plain type, as the tables have it -/
theorem arr_at {args : Array Value} {s : State} {ty : FieldType} (h : (Cond.arrayClass ty).before args s = true) (hty : ty = .int ∨ ty = .byte ∨ ty = .boolean) : ∃ cA : ClassId, ArrOfT s cA ty ∧ va_RA s cA ty := by
  obtain ⟨cA, k, comp, h1, h2, h3⟩ := Cond.arrayClass_spec h
  refine ⟨cA, fun n z => ⟨(fun q hq => by cases hq), k, h2, comp, h3⟩, ?_⟩
  rcases hty with rfl | rfl | rfl <;> exact h1
theorem Kn_first {args : Array Value} {s : State} (hts : ∀ w ∈ lw_tbl, w.before args s = true) : ∃ (D : va_G) (kA : Nat → ClassId), Kn D kA s := by
  have htb : ∀ w ∈ bw, w.before args s = true := fun w hw => hts w (bw_good w hw).1
  obtain ⟨c0, i0, k0⟩ := u_known (C := cR_S) (T := cF_S) (N := 14) (n := 14) htb ci_S (htb _ wi_S)
  obtain ⟨c1, i1, k1⟩ := u_known (C := cR_G) (T := cF_G) (N := 14) (n := 14) htb ci_G (htb _ wi_G)
  obtain ⟨c2, i2, k2⟩ := u_known (C := cR_P) (T := cF_P) (N := 2) (n := 2) htb ci_P (htb _ wi_P)
  obtain ⟨c3, i3, k3⟩ := u_known (C := cR_Q) (T := cF_Q) (N := 6) (n := 6) htb ci_Q (htb _ wi_Q)
  obtain ⟨c4, i4, k4⟩ := u_known (C := cR_A) (T := cF_A) (N := 2) (n := 2) htb ci_A (htb _ wi_A)
  obtain ⟨c5, i5, k5⟩ := u_known (C := cR_W) (T := cF_W) (N := 3) (n := 3) htb ci_W (htb _ wi_W)
  obtain ⟨c6, i6, k6⟩ := u_known (C := cR_M) (T := cF_M) (N := 21) (n := 21) htb ci_M (htb _ wi_M)
  obtain ⟨x1, y1⟩ := arr_at (hts _ (lw_of gv_arr.1)) (Or.inl rfl)
  obtain ⟨x2, y2⟩ := arr_at (hts _ (lw_of gv_arr.2.1)) (Or.inr (Or.inl rfl))
  obtain ⟨x3, y3⟩ := arr_at (hts _ (lw_of gv_arr.2.2.1)) (Or.inr (Or.inr rfl))
  have hAO : va_AO "SlantSheets$Row" s := va_AO.of (hts _ (lw_of gv_arr.2.2.2.1))
  have hGO : mr_AO s := mr_AO.of (hts _ (lw_of gv_arr.2.2.2.2))
  obtain ⟨comp, x4, k4', hcomp, hidx, hk4, hkind4, hname4⟩ := Cond.arrayOver_spec (hts _ (lw_of gv_arr.2.2.2.1))
  obtain ⟨cI, x5, k5', hcI, hname5, hk5, hkind5⟩ := id hGO
  refine ⟨(fun k => if k = 0 then c0 else if k = 1 then c1 else if k = 2 then c2 else if k = 3 then c3 else if k = 4 then c4 else if k = 5 then c5 else c6, fun k => if k = 0 then i0 else if k = 1 then i1 else if k = 2 then i2 else if k = 3 then i3 else if k = 4 then i4 else if k = 5 then i5 else i6),
    fun k => if k = 1 then x1 else if k = 2 then x2 else if k = 3 then x3 else if k = 4 then x4 else x5, ⟨fun k q hq => ?_, fun k q hq => ?_⟩, hGO, hAO, va_Nw.of rfl (hts _ (lw_of gv_nest.1)), va_Nw.of rfl (hts _ (lw_of gv_nest.2.1)), va_Nw.of rfl (hts _ (lw_of gv_nest.2.2))⟩
  · have hk : k < 7 := (List.getElem?_eq_some_iff.mp hq).1
    rcases (show k = 0 ∨ k = 1 ∨ k = 2 ∨ k = 3 ∨ k = 4 ∨ k = 5 ∨ k = 6 by omega) with rfl | rfl | rfl | rfl | rfl | rfl | rfl
    · cases hq; exact k0
    · cases hq; exact k1
    · cases hq; exact k2
    · cases hq; exact k3
    · cases hq; exact k4
    · cases hq; exact k5
    · cases hq; exact k6
  · have hk : k < 5 := (List.getElem?_eq_some_iff.mp hq).1
    rcases (show k = 0 ∨ k = 1 ∨ k = 2 ∨ k = 3 ∨ k = 4 by omega) with rfl | rfl | rfl | rfl | rfl
    · cases hq; exact y1
    · cases hq; exact y2
    · cases hq; exact y3
    · cases hq
      exact ⟨fun n z => ⟨fun k h => (by cases h), k4', hk4, comp, hkind4⟩, k4', comp, hk4, hkind4, hcomp, hname4⟩
    · cases hq
      exact ⟨fun n z => ⟨fun k h => (by cases h), k5', hk5, cI, hkind5⟩, hname5⟩
theorem K_first {args : Array Value} {s : State} {D : va_G} {kA : Nat → ClassId} {b L : Nat} {xs : Nat → Int32} (hts : ∀ w ∈ lw_tbl, w.before args s = true) (hg : (Jvm.Cond.and given_1 narrow_1).before args s = true) (hKn : Kn D kA s) (hX : va_X b L xs s s.heap) (hbl : b < s.heap.size) :
    ∃ (tt : Int → Nat) (a3 a4 : Nat → Nat) (v : Value), tt 2 = b ∧ Kx D (zt s.heap.size tt a3 a4 v kA L xs) (fun q : Nat => s.heap.size ≤ q) s := by
  have hq : ∀ w ∈ gvn, w.before args s = true := flat_of_before _ hg
  have hA : ∀ a : Nat, a < s.heap.size → ¬ (fun q : Nat => s.heap.size ≤ q) a := fun a h => Nat.not_le.mpr h
  have hst := gv_sta
  obtain ⟨t0, e0, T0⟩ := va_Tof (f := fun j => .int (cosL.getD j 0)) (A := fun q : Nat => s.heap.size ≤ q) (N := 7) (by decide) (hq _ gv_cos.1) (va_eqt (hq _ gv_cos.2.1)) (fun j hj => va_eqt (hq _ (gv_cos.2.2 j hj))) hA
  obtain ⟨t1, e1, T1⟩ := va_Tof (f := fun j => .int (aboL.getD j 0)) (A := fun q : Nat => s.heap.size ≤ q) (N := 7) (by decide) (hq _ gv_abo.1) (va_eqt (hq _ gv_abo.2.1)) (fun j hj => va_eqt (hq _ (gv_abo.2.2 j hj))) hA
  have Z0 : va_Z "SlantSheets" "COS" "[I" (.ref t0) (fun q : Nat => s.heap.size ≤ q) s s.heap := va_Zof (hts _ (lw_of hst.1)) (hts _ (lw_of hst.2.2.2.2.1)) e0 hA
  have Z1 : va_Z "SlantSheets" "ABOVE" "[I" (.ref t1) (fun q : Nat => s.heap.size ≤ q) s s.heap := va_Zof (hts _ (lw_of hst.2.1)) (hts _ (lw_of hst.2.2.2.2.1)) e1 hA
  have Z2 : va_Z "java/lang/String" "COMPACT_STRINGS" "Z" (.int 1) (fun q : Nat => s.heap.size ≤ q) s s.heap := va_Zof (hts _ (lw_of hst.2.2.1)) (hts _ (lw_of hst.2.2.2.2.2.1)) (va_eqi (hq _ gv_com.1)) hA
  have Z3 : ∃ v : Value, va_Z "jdk/internal/util/Preconditions" "SIOOBE_FORMATTER" "Ljava/util/function/BiFunction;" v (fun q : Nat => s.heap.size ≤ q) s s.heap ∧ (v = .null ∨ ∃ a, v = .ref a) := by
    rcases va_Zqof (hts _ (lw_of hst.2.2.2.1)) (hts _ (lw_of hst.2.2.2.2.2.2.1)) (hq _ gv_com.2) hA with h | ⟨t, h⟩
    · exact ⟨_, h, Or.inl rfl⟩
    · exact ⟨_, h, Or.inr ⟨t, rfl⟩⟩
  obtain ⟨v, Z3, hv⟩ := Z3
  obtain ⟨a3, a4, hS, hSe⟩ := vk_Sof (N := 14) (tm := tSTR) (len := clen) (byt := cbyt) (A := fun q : Nat => s.heap.size ≤ q) (fun i _ => by have := clen_b i; omega) (fun i hi => hq _ (gv_str i hi).1) (fun i hi => hq _ (gv_str i hi).2.1) (fun i hi => hq _ (gv_str i hi).2.2.1) (fun i hi => hq _ (gv_str i hi).2.2.2) (fun i hi j hj => hq _ (gv_byt i hi j hj)) (fun i j hi hj hij => by
    rcases Nat.lt_or_ge i j with h | h
    · exact Or.inl (hq _ (gv_ne j hj i h))
    · exact Or.inr (hq _ (gv_ne i hi j (by omega)))) hA
  refine ⟨fun i => if i = 0 then t0 else if i = 1 then t1 else b, a3, a4, v, rfl, hKn.1, fun q _ => Nat.le_add_right _ _, fun q h q' h' e => ?_, ⟨Z0, Z1, Z2, Z3⟩, fun i h0 h3 => ?_, hS, fun i hi => vk_R.of (hts _ (lw_of (gv_ref i hi))) (hSe i hi), hv, fun i hi => ⟨zcm_l (L := L) (xs := xs) i, fun j hj => ?_⟩, va_Nw.of rfl (hts _ (lw_of hst.2.2.2.2.2.2.2))⟩
  · obtain ⟨i, hi⟩ := List.getElem?_of_mem h
    obtain ⟨j, hj⟩ := List.getElem?_of_mem h'
    have e2 : s.heap.size + zpos q.1 = s.heap.size + zpos q'.1 := e
    have hij : i = j := by rw [← zpos_at hi, ← zpos_at hj]; omega
    subst hij
    rw [hi] at hj
    cases hj
    rfl
  · rcases (show i = 0 ∨ i = 1 ∨ i = 2 by omega) with rfl | rfl | rfl
    · refine ⟨?_, by show (0 : Int) ≤ 7; decide⟩
      have e3 : (fun j : Nat => Value.int (Int32.ofInt (zcm L xs (1000 + 0) (j : Nat)))) = fun j => .int (cosL.getD j 0) := funext fun j => by
        rw [show (1000 : Int) + 0 = 1000 from rfl, zcm_x (Or.inl rfl) _ (by omega), if_pos rfl, oI_of, Int.toNat_natCast]
      show va_T .int t0 7 (fun j : Nat => Value.int (Int32.ofInt (zcm L xs (1000 + 0) (j : Nat)))) _ s s.heap
      rw [e3]
      exact T0
    · refine ⟨?_, by show (0 : Int) ≤ 7; decide⟩
      have e3 : (fun j : Nat => Value.int (Int32.ofInt (zcm L xs (1000 + 1) (j : Nat)))) = fun j => .int (aboL.getD j 0) := funext fun j => by
        rw [show (1000 : Int) + 1 = 1001 from rfl, zcm_x (Or.inr rfl) _ (by omega), if_neg (by decide), oI_of, Int.toNat_natCast]
      show va_T .int t1 7 (fun j : Nat => Value.int (Int32.ofInt (zcm L xs (1000 + 1) (j : Nat)))) _ s s.heap
      rw [e3]
      exact T1
    · refine ⟨?_, by show (0 : Int) ≤ (L : Int); omega⟩
      have e3 : (fun j : Nat => Value.int (Int32.ofInt (zcm L xs (1000 + 2) (j : Nat)))) = fun j => .int (xs j) := funext fun j => by
        have e4 : zcm L xs (1000 + 2) (j : Nat) = (xs j).toInt := by
          unfold zcm
          rw [if_neg (by omega), if_neg (by decide), if_neg (by decide), if_pos (by decide), Int.toNat_natCast]
        rw [e4, oI_of]
      show va_T .int b ((L : Int)).toNat (fun j : Nat => Value.int (Int32.ofInt (zcm L xs (1000 + 2) (j : Nat)))) _ s s.heap
      rw [e3, Int.toNat_natCast]
      obtain ⟨scr, h1, h2, h4, h5, h6⟩ := hX
      exact ⟨scr, h1, h2, h4, by omega, by rw [h5] <;> rfl, h6, Nat.not_le.mpr hbl⟩
  · show Int32.ofInt (zcm L xs (2000 + (i : Nat)) (j : Nat)) = _
    rw [zcm_s hi _ (by omega), oI_of, Int.toNat_natCast]
