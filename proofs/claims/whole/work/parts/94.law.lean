/-! The law from its entry; then the claim (what follows the law's own part began as the skeleton's text). -/
theorem nd_L_0 : decode xw_law.2.1 0 = .ok (.new 7, 3) := by decide +kernel
theorem nd_L_3 : decode xw_law.2.1 3 = .ok (.dup, 1) := by decide +kernel
theorem nd_L_4 : decode xw_law.2.1 4 = .ok (.invokespecial 9, 3) := by decide +kernel
theorem nd_L_7 : decode xw_law.2.1 7 = .ok (.astore_n 1, 1) := by decide +kernel
theorem nd_L_8 : decode xw_law.2.1 8 = .ok (.new 10, 3) := by decide +kernel
theorem nd_L_11 : decode xw_law.2.1 11 = .ok (.dup, 1) := by decide +kernel
theorem nd_L_12 : decode xw_law.2.1 12 = .ok (.invokespecial 12, 3) := by decide +kernel
theorem nd_L_15 : decode xw_law.2.1 15 = .ok (.astore_n 2, 1) := by decide +kernel
theorem wc_L_7 : Cond.classLink "SlantSheetsLaw" 7 "SlantSheets" ∈ bw := bw_t (i := 17) (by decide +kernel) rfl
theorem wc_L_10 : Cond.classLink "SlantSheetsLaw" 10 "SlantSheetsModel" ∈ bw := bw_t (i := 765) (by decide +kernel) rfl
theorem nm_L_9 : Cond.methodLink "SlantSheetsLaw" 9 yi_S.1 ∈ bw := bw_t (i := 19) (by decide +kernel) rfl
theorem nm_L_12 : Cond.methodLink "SlantSheetsLaw" 12 yi_M.1 ∈ bw := bw_t (i := 767) (by decide +kernel) rfl
theorem zS_len (kA : Nat → ClassId) (b : Nat) : (zS kA b).length = 61 := by
  simp only [zS, zG, zP, zQ, zA, zW, List.length_append, List.length_cons, List.length_nil]
/-! THE CLAIM OUT OF ONE WALK OF THE LAW'S BODY. Your part is whole_start (and what it stands on); all else here is the same for every law, but numbers. -/
def R_law : String := "SlantSheetsLaw"
def lw_P (b : Addr) (xs : List Int32) (args : Array Value) (s : State) : Prop := args = #[.ref b] ∧ s.IntsAt b xs ∧ xs.length ≤ 384 ∧ (Jvm.Cond.and given_1 narrow_1).before args s = true
def lw_Q (_ : Array Value) (s : State) (o : Outcome) (t : State) : Prop := o = .returned (some (.int 1)) ∧ Framed s o t [] 600000 7302250
def lw_Z (below : List Frame) (a : Array Value) (s : State) : State → Prop := fun t => ∃ o, t.status = .running ∧ Ended t below o ∧ lw_Q a s o t
/-- the law's own end, with 1 on the stack, nothing written that was there before, its room as the claim has it -/
theorem lw_ret {p : Program} {l : Launch} {e : Env} {s : State} {m : MethodId} {below : List Frame} {meth : Method} {c : Code} {b : Nat} (hx : p.tables.exec = Jvm.exec) (hb : c.code = code) (hr : meth.sig.returnType = ret) (hlocks : meth.locks = false) {pc : Nat} {H : Heap} {ls : Array Slot} (hdg : decode code pc = .ok (.ireturn, 1)) : W p l e room_1 s m #[Value.ref b] below meth c H [] 600000 7302250 (lw_Z below #[Value.ref b] s) (F0 m pc ls [.int 1]) := by
  intro T hT X
  obtain ⟨fs, hret, hrun, hended, hW, hframe⟩ := X.leave (v := some (.int 1)) (hlocks := hlocks) (fun h => by rw [hr] at h; cases h)
  have hmeth' : T.vm.method? m = some meth := X.method'
  refine ⟨T.setFrames fs, ?_, .returned (some (.int 1)), hrun, hended, rfl, ⟨_, rfl⟩, hW, hframe⟩
  jvm_step X.here [X.here.top, hx, hb, hdg, hmeth', hr, ret, narrow_b1]
  (try refine ⟨rfl, ?_⟩); (try refine ⟨rfl, ?_⟩)
  first | (intro acts; rw [hret _ acts rfl rfl rfl]) | rw [hret _ _ rfl rfl rfl]
  exact Steps.refl _
/-- what holds at the law's entry: the machine, the code, the tables' words (any of lw_tbl by 'hts w (by decide +kernel)'), the script of L ints xs at the cell b, what the Statement gives of the start (any of its parts by flat_of_before) -/
def lw_At (p : Program) (s : State) (m : MethodId) (meth : Method) (c : Code) (b L : Nat) (xs : Nat → Int32) : Prop :=
  p.tables.exec = Jvm.exec ∧ c.code = code ∧ meth.sig.returnType = ret ∧ c.maxLocals = 4 ∧ s.vm.findClass R_law = some m.cls ∧ (∀ w ∈ lw_tbl, w.before #[Value.ref b] s = true) ∧ va_X b L xs s s.heap ∧ b < s.heap.size ∧ meth.locks = false ∧ (Jvm.Cond.and given_1 narrow_1).before #[Value.ref b] s = true
/-- the law's end, with an int that narrows to 1 -/
theorem lw_retx {p : Program} {l : Launch} {e : Env} {s : State} {m : MethodId} {below : List Frame} {meth : Method} {c : Code} {b : Nat} (hx : p.tables.exec = Jvm.exec) (hb : c.code = code) (hr : meth.sig.returnType = ret) (hlocks : meth.locks = false) {pc : Nat} {H : Heap} {ls : Array Slot} {v : Int32} (hn : narrow .boolean (.int v) = .int 1) (hdg : decode code pc = .ok (.ireturn, 1)) : W p l e room_1 s m #[Value.ref b] below meth c H [] 600000 7302250 (lw_Z below #[Value.ref b] s) (F0 m pc ls [.int v]) := by
  intro T hT X
  obtain ⟨fs, hret, hrun, hended, hW, hframe⟩ := X.leave (v := some (.int 1)) (hlocks := hlocks) (fun h => by rw [hr] at h; cases h)
  have hmeth' : T.vm.method? m = some meth := X.method'
  refine ⟨T.setFrames fs, ?_, .returned (some (.int 1)), hrun, hended, rfl, ⟨_, rfl⟩, hW, hframe⟩
  jvm_step X.here [X.here.top, hx, hb, hdg, hmeth', hr, ret, hn]
  (try refine ⟨rfl, ?_⟩); (try refine ⟨rfl, ?_⟩)
  first | (intro acts; rw [hret _ acts rfl rfl rfl]) | rw [hret _ _ rfl rfl rfl]
  exact Steps.refl _
/-- what is owed at a return of the law -/
theorem Rx_law {p : Program} {l : Launch} {e : Env} {s : State} {m : MethodId} {below : List Frame} {meth : Method} {c : Code} {b : Nat} {cells slots : Nat} {t : cT} {D : va_G} (hx : p.tables.exec = Jvm.exec) (hb : c.code = code) (hr : meth.sig.returnType = ret) (hlocks : meth.locks = false) (h1 : cells ≤ 600000) (h2 : slots ≤ 7302250) :
    Rx xw_law (fun r _ => r.2 = 1) p l e room_1 s m #[Value.ref b] below meth c cells slots (lw_Z below #[Value.ref b] s) t (fun q : Nat => s.heap.size ≤ q) D := by
  refine ⟨⟨h1, h2⟩, fun M H locs pc ls hM hP hS => ⟨fun x hk hQ hd => ?_, fun x hk => ?_, fun k hk => ?_, fun hk => ?_⟩⟩
  · refine va_forget hS.2.2 ?_
    refine W.widen (k := 600000) (n := 7302250) h1 h2 ?_
    obtain ⟨ty, e1, e2⟩ := narK_e 4 (Or.inr (Or.inl rfl)) x
    cases e1
    have hQ : narK 4 x = 1 := hQ
    rw [hQ] at e2
    exact lw_retx hx hb hr hlocks e2 hd
  · exact absurd hk (by decide)
  · exact absurd hk (by decide)
  · exact absurd hk (by decide)
set_option maxHeartbeats 4000000 in
set_option maxRecDepth 100000 in
theorem whole_start {p : Program} {e : Env} {s : State} {m : MethodId} {below : List Frame} {meth : Method} {c : Code} (l : Launch) (hname : meth.name = "law") {b L : Nat} {xs : Nat → Int32} (hL : L ≤ 384) (C0 : lw_At p s m meth c b L xs) : W p l e room_1 s m #[Value.ref b] below meth c s.heap [] 0 0 (lw_Z below #[Value.ref b] s) (entryFrame m ([Value.ref b] : List Value).toArray 4) := by
  obtain ⟨hx, hb, hr, hml, hown, hts, hX, hbl, hlocks, hgv⟩ := id C0
  obtain ⟨D, kA, hKn⟩ := Kn_first hts
  obtain ⟨tt, a3, a4, v, htt, hKx⟩ := K_first (L := L) (xs := xs) hts hgv hKn hX hbl
  have htb : ∀ w ∈ bw, w.before #[Value.ref b] s = true := fun w hw => hts w (bw_good w hw).1
  have hC : Cn xw_law p s m #[Value.ref b] meth c D kA s.heap.size := ⟨hx, hb, hml, hown, htb, hKn, Nat.le_refl _, hname⟩
  obtain ⟨B, hB⟩ : ∃ B : Nat, B = s.heap.size := ⟨_, rfl⟩
  rw [← hB] at hC hKx
  have hl := lv_entry ([.ref b]) (n := 4) (Nat.le_of_ble_eq_true rfl)
  rw [lg_entry_eq]
  generalize (lg_sl ([.ref b]) ++ List.replicate (4 - (lg_sl ([.ref b])).length) Slot.unset).toArray = ls at hl ⊢
  have hl : lv_has ls 4 [(0, .ref b)] := hl
  obtain ⟨H, hHe⟩ : ∃ H, H = s.heap := ⟨_, rfl⟩
  have hH : HN D B [] H := ⟨by rw [hB, hHe]; rfl, fun i e h => by cases h⟩
  have hS : SN B s H [] := by rw [hHe]; exact va_S.rf
  rw [← hHe]
  refine n_new hC hH hS 0 cY_S rfl ci_S cy_S zd_S wc_L_7 wi_S yi_S_ii (Nat.le_of_ble_eq_true rfl) (Nat.le_of_ble_eq_true rfl) nd_L_0 (n := 0) rfl (fun H hH hS => ?_)
  refine lv_dup hx hb nd_L_3 rfl ?_
  refine n_init (ν := yi_S) (as := []) (es := []) (n := 0) hC hH hS hl rfl (c_S D kA (B + 0)) yi_S_co rfl yi_S_ii nm_L_9 yi_S_im rfl yi_S_de rfl (Nat.le_of_ble_eq_true rfl) (Nat.le_of_ble_eq_true rfl) (Nat.le_of_ble_eq_true rfl) (Nat.le_of_ble_eq_true rfl) (Nat.le_of_ble_eq_true rfl) nd_L_4 rfl (fun H locs hH hS => ?_)
  have hH : HN D B (zS kA B) H := hH
  refine lv_astore_n (lv' := [(1, .ref B), (0, .ref b)]) hx hb nd_L_7 rfl hl (by decide) rfl (fun ls hl => ?_)
  refine n_new hC hH hS 6 cY_M rfl ci_M cy_M zd_M wc_L_10 wi_M yi_M_ii (Nat.le_of_ble_eq_true rfl) (Nat.le_of_ble_eq_true rfl) nd_L_8 (zS_len kA B) (fun H hH hS => ?_)
  refine lv_dup hx hb nd_L_11 rfl ?_
  refine n_init (ν := yi_M) (as := []) (es := zS kA B) (n := 61) hC hH hS hl (zS_len kA B) (c_M D kA (B + 61)) yi_M_co rfl yi_M_ii nm_L_12 yi_M_im rfl yi_M_de rfl (Nat.le_of_ble_eq_true rfl) (Nat.le_of_ble_eq_true rfl) (Nat.le_of_ble_eq_true rfl) (Nat.le_of_ble_eq_true rfl) (Nat.le_of_ble_eq_true rfl) nd_L_12 rfl (fun H locs hH hS => ?_)
  refine lv_astore_n (lv' := [(2, .ref (B + 61)), (1, .ref B), (0, .ref b)]) hx hb nd_L_15 rfl hl (by decide) rfl (fun ls hl => ?_)
  have hRW := RW_first (tt := tt) (a3 := a3) (a4 := a4) (v := v) (L := L) (xs := xs) hH
  have hlen : zM0 L xs 1002 (-1) = (L : Int) := rfl
  have hWa := A_yw_law 11 (Nat.le_refl 11) (Q := fun r _ => r = 1) (zM0 L xs) (X_yw_law (fun _ => rfl) (by omega) (RR_first (by omega)) hlen)
  have z0 : zpos 0 = 0 := by decide +kernel
  have z100 : zpos 100 = 61 := by decide +kernel
  subst hB
  refine hWa p l e room_1 s m #[Value.ref b] below meth c H locs _ _ _ (zt s.heap.size tt a3 a4 v kA L xs) (fun q : Nat => s.heap.size ≤ q) D ls ⟨hx, hb, hml, hown, htb, ⟨Nat.le_of_ble_eq_true rfl, Nat.le_of_ble_eq_true rfl⟩, hKx⟩ (Rx_law hx hb hr hlocks (Nat.le_of_ble_eq_true rfl) (Nat.le_of_ble_eq_true rfl)) hRW hS ⟨hl.1, hl.2.1, fun i v' hi h9 => ?_⟩ (fun v' hv => ?_) (fun v' hv => by cases hv) (zM0_R (by omega))
  · match i, hi with
    | 0, hi =>
      cases hi
      have := hl.2.2 (0, .ref b) (by simp)
      show ls[0]? = some (.val (.ref (tt 2)))
      rw [htt]
      exact this
    | 1, hi =>
      cases hi
      have := hl.2.2 (1, .ref s.heap.size) (by simp)
      show ls[1]? = some (.val (.ref (s.heap.size + zpos 0)))
      rw [z0]
      exact this
    | 2, hi =>
      cases hi
      have := hl.2.2 (2, .ref (s.heap.size + 61)) (by simp)
      show ls[2]? = some (.val (.ref (s.heap.size + zpos 100)))
      rw [z100]
      exact this
    | 3, hi =>
      cases hi
      exact absurd rfl h9
    | i + 4, hi => simp at hi
  · simp only [List.mem_cons, List.not_mem_nil, or_false] at hv
    rcases hv with rfl | rfl | rfl | rfl <;> exact ⟨fun h => absurd h (by decide), fun h => absurd h (by decide)⟩
set_option maxHeartbeats 4000000 in
theorem lw_walk (l : Launch) (b : Addr) (xs : List Int32) : MetFree l x (headSpec (Jvm.Cond.code x code maxLocals ret :: tables_1) room_1) (lw_P b xs) (fun _ _ _ _ _ => True) lw_Q := by
  refine MetFree.of_bodyS (code := code) (maxLocals := maxLocals) (ret := ret) (by decide) ?_ ?_
  · intro args s m h hn
    obtain ⟨meth, c, h1, h2, h3, h4, h5, h6, -, -⟩ := Cond.code_spec hn (atoms_spec (ws := Jvm.Cond.code x code maxLocals ret :: tables_1) h _ List.mem_cons_self)
    exact ⟨meth, c, h1, h2, h3, h4, h5, h6⟩
  · intro p e s m args below meth c s₁ B hml0 hP _
    obtain ⟨rfl, hx, hbd, hgv⟩ := hP
    obtain ⟨scr, harrAt, hlist, hof, hsmall⟩ := hx
    obtain ⟨hcb, hkn, -, -⟩ := State.arrayAt?_spec harrAt
    have hown : s.vm.findClass R_law = some m.cls := findClass_of_methodNamed B.named
    have hts0 : ∀ c ∈ (Jvm.Cond.code x code maxLocals ret :: tables_1), c.before #[Value.ref b] s = true := atoms_spec (ws := Jvm.Cond.code x code maxLocals ret :: tables_1) B.pre
    have hts : ∀ w ∈ lw_tbl, w.before #[Value.ref b] s = true := k2_hts_sels lw_privs (fun w hw => hts0 w (List.mem_cons_of_mem _ hw)) lw_privs_ok
    have hml : c.maxLocals = 4 := B.maxLocals_eq (hts0 _ List.mem_cons_self)
    have X₀ : Stand p l e room_1 s m #[Value.ref b] below meth c s₁ [] 0 0 := Stand.of_body B
    have hh0 : s₁.heap = s.heap := by rw [B.state]; rfl
    have hsz : scr.slots.size = xs.length := by rw [← Array.length_toList, hlist, List.length_map]
    have hval : ∀ j : Nat, j < xs.length → scr.slots[j]? = some (.int (xs.getD j 0)) := fun j hj => by
      rw [← Array.getElem?_toList, hlist]
      simp [hj]
    have hbl : b < s.heap.size := (Array.getElem?_eq_some_iff.mp hcb).1
    have hX : va_X b xs.length (fun j => xs.getD j 0) s s.heap := ⟨scr, hcb, hof, hkn, hsz, hval⟩
    have K : W p l e room_1 s m #[Value.ref b] below meth c s₁.heap [] 0 0 (lw_Z below #[Value.ref b] s) (entryFrame m ([Value.ref b] : List Value).toArray 4) := by
      rw [hh0]
      exact whole_start l (name_of_methodNamed B.named B.method).1 hbd ⟨B.exec, B.bytes, B.returns, hml, hown, hts, hX, hbl, B.notSynchronized, hgv⟩
    obtain ⟨t, a1, o, b1, b2, b3⟩ := K s₁ rfl X₀
    exact ⟨t, o, a1, b1, b2, b3⟩
theorem lw_pre_spec {args : Array Value} {s : State} (h : (Jvm.Cond.and given_1 narrow_1).before args s = true) (hr : rest_1_c.before args s = true) : ∃ (b : Addr) (xs : List Int32), lw_P b xs args s := by
  have hs := flat_of_before _ h
  have hq := flat_of_before _ hr
  have hc : (Cond.count 1).before args s = true := hs _ (by decide +kernel)
  have harr : (Cond.arrayOf (.arg 0) .int).before args s = true := hs _ (by decide +kernel)
  have hle : (Cond.le (.length (.arg 0)) (.int 384)).before args s = true := hs _ (by decide +kernel)
  have hlen : (Cond.isInt (.length (.arg 0))).before args s = true := hq _ (by decide +kernel)
  have hall : (Cond.all (.arg 0) (.isInt (.elem (.arg 0) (.index 0)))).before args s = true := hq _ (by decide +kernel)
  obtain ⟨b, xs, hb, hx⟩ := State.ints_of_pre rfl harr hlen hall
  have hsm : xs.length < 2 ^ 31 := hx.choose_spec.2.2.2
  have hev : (Term.length (.arg 0)).eval args s none [] s = some (.int xs.length.toInt32) := hx.length_eval hb
  have hv := Cond.le_ints hev (show (Term.int 384).eval args s none [] s = some (.int 384) from rfl)
  have hd : xs.length.toInt32 ≤ 384 := by
    simpa [Cond.before, Cond.holds, hv] using hle
  have hN : xs.length ≤ 384 := (Int32.ofNat_le_ofNat hsm (by decide)).mp (show Int32.ofNat xs.length ≤ Int32.ofNat 384 from hd)
  exact ⟨b, xs, Cond.one_arg hc (show args[0]? = some (.ref b) from hb), hx, hN, h⟩
theorem lw_comes (l : Launch) : Comes l x (Jvm.Cond.code x code maxLocals ret :: tables_1) room_1 (fun tb e args s => Calls_1 tb e args s ∧ rest_1 tb e args s ∧ Pre_1 tb e args s)
    (fun _ _ args s o t => lw_Q args s o t) := by
  intro p e ha hc hk s m args below hf hfit hheap happ hpre
  obtain ⟨b, xs, hP⟩ := lw_pre_spec hpre.2.2 hpre.2.1
  obtain ⟨k, o, h1, h2, h3, hQ⟩ := lw_walk l b xs p e ha hc hk s m args below hf ((Spec.applies_iff_loose hf).mp happ).1 hP trivial
  exact ⟨k, o, h1, h2, h3, hQ⟩
theorem lw_frame {s t : State} {o : Outcome} {args : Array Value} (h : Framed s o t [] 600000 7302250) :
    Framed s o t (fieldLocs frame_1_writes args s ++ arrayLocs frame_1_arrays args s ++ staticLocs frame_1_statics s) 600000 7302250 := h
theorem lw_limb (L : Cond) (hL : ∀ (args : Array Value) (s t : State), L.after args s (.returned (some (.int 1))) t = true) :
    ArmFor flags0 classFile x code maxLocals ret World_1 tables_1 room_1 Calls_1 rest_1 Pre_1
      (fun tb e a s o t => postC L tb e a s o t ∧ Framed s o t (fieldLocs frame_1_writes a s ++ arrayLocs frame_1_arrays a s ++ staticLocs frame_1_statics s) 600000 7302250) := by
  intro l _ _ _ p e ha hc hk s m args below hf hfit hheap happ hpre
  obtain ⟨k, o, h1, h2, h3, rfl, hF⟩ := lw_comes l p e ha hc hk s m args below hf hfit hheap happ hpre
  exact ⟨k, _, h1, h2, h3, hL args s _, lw_frame hF⟩
theorem i_vc : Claimed_1_1 ∧ Claimed_1_2 := ⟨lw_limb limb_1_1 (fun args s t => by simp [limb_1_1, Cond.after, Cond.holds, Cond.value]), lw_limb limb_1_2 (fun args s t => Cond.after_iff.mpr (by
  first | (rw [show limb_1_2 = Cond.eq .result (.int 1) from rfl, Cond.eq_ints (x := 1) (y := 1) rfl rfl]; simp; done) | (simp [limb_1_2, Cond.value, Term.eval]; done)))⟩
