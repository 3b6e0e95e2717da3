/-! spare. -/
/-- a light through a stack without one place -/
def xwo (M : cM) (a p : Int) (l : Int × Int) : Int × Int := thr (fun j x => if (j : Int) = p then x else xst M 10 0 (M (10 + 5 + a) j) x) (M (10 + 9) a).toNat l
def mwo (M : cM) (a p : Int) (l : Int × Int) : Int × Int := thr (fun j x => if (j : Int) = p then x else mst M 0 (M 101 (45 + 7 * a + j)) x) (M 101 (44 + 7 * a)).toNat l
theorem xwo_ok {M : cM} {a p : Int} {l : Int × Int} (hs : stok M 10 a) (h : lok l.1 l.2) (n : Nat) (hn : (n : Int) ≤ M (10 + 9) a) : lok (thr (fun j x => if (j : Int) = p then x else xst M 10 0 (M (10 + 5 + a) j) x) n l).1 (thr (fun j x => if (j : Int) = p then x else xst M 10 0 (M (10 + 5 + a) j) x) n l).2 := by
  refine thr_ok h n (fun i hi x hx => ?_)
  show lok (if (i : Int) = p then x else xst M 10 0 (M (10 + 5 + a) i) x).1 (if (i : Int) = p then x else xst M 10 0 (M (10 + 5 + a) i) x).2
  split
  · exact hx
  · exact xst_ok hx (hs.2.2 _ (by omega) (by omega))
theorem mwo_ok {M : cM} {a p : Int} {l : Int × Int} (hs : mtok M a) (h : lok l.1 l.2) (n : Nat) (hn : (n : Int) ≤ M 101 (44 + 7 * a)) : lok (thr (fun j x => if (j : Int) = p then x else mst M 0 (M 101 (45 + 7 * a + j)) x) n l).1 (thr (fun j x => if (j : Int) = p then x else mst M 0 (M 101 (45 + 7 * a + j)) x) n l).2 := by
  refine thr_ok h n (fun i hi x hx => ?_)
  show lok (if (i : Int) = p then x else mst M 0 (M 101 (45 + 7 * a + i)) x).1 (if (i : Int) = p then x else mst M 0 (M 101 (45 + 7 * a + i)) x).2
  split
  · exact hx
  · exact mst_ok hx (hs.2.2 _ (by omega) (by omega))
theorem wo_eq {M : cM} (h : SC 10 101 M) {a p : Int} (ha : 0 ≤ a ∧ a < 4) (l : Int × Int) : xwo M a p l = mwo M a p l := by
  have g := h.2.2.2.2.2.2.2.2.1 a ha.1 ha.2
  unfold xwo mwo
  rw [g.1]
  refine thr_eq _ (fun i hi x => ?_)
  have r := h.2.2.2.2.2.2.2.2.2.1 a i ha.1 ha.2 (by omega) (by omega)
  rw [r.1, h.sp r.2.1 r.2.2]
theorem L_without {Q : Int → cM → Prop} {a p : Int} {l : Int × Int} {M : cM} (hT : cosT M) (hs : stok M 10 a) (h : lok l.1 l.2) (H : Q (encp (xwo M a p l)) M) : ∀ (m n : Nat), (n : Int) + m = M (10 + 9) a → F_xg_frontLightWithout_8 Q 10 (m + 1) a p (encp (thr (fun j x => if (j : Int) = p then x else xst M 10 0 (M (10 + 5 + a) j) x) n l)) n M := by
  obtain ⟨h1, h2, h3⟩ := id hs
  intro m
  induction m with
  | zero =>
    intro n hn
    unfold F_xg_frontLightWithout_8
    refine ⟨h1, ?_⟩
    rw [if_pos (by omega)]
    unfold xwo at H
    rw [show (M (10 + 9) a).toNat = n by omega] at H
    exact H
  | succ m ih =>
    intro n hn
    have hs' := ih (n + 1) (by omega)
    have o := xwo_ok (p := p) hs h n (by omega)
    unfold F_xg_frontLightWithout_8
    refine ⟨h1, ?_⟩
    rw [if_neg (by omega)]
    unfold F_xg_frontLightWithout_41
    rw [w32_e (x := (n : Int) + 1) (by omega) (by omega)]
    rw [show ((n + 1 : Nat) : Int) = (n : Int) + 1 from rfl] at hs'
    unfold thr at hs'
    by_cases hp : (n : Int) = p
    · rw [if_pos hp] at hs' ⊢; exact hs'
    · rw [if_neg hp] at hs' ⊢
      refine ⟨h1, by omega, ?_⟩
      unfold encp at hs' ⊢
      rw [E_bS hT o (h3 _ (by omega) (by omega))]
      exact hs'
def xsp (M : cM) (a t w : Int) (p : Int) : Int := zabs (zsee (xwo M a p (lampP M 10)).1 (xwo M a p (lampP M 10)).2 t - w)
def msp (M : cM) (a t w : Int) (p : Int) : Int := zabs (zsee (mwo M a p (M 101 2, M 101 3)).1 (mwo M a p (M 101 2, M 101 3)).2 t - w)
theorem L_xs_spare {Q : Int → cM → Prop} {a t w : Int} {M : cM} (hT : cosT M) (hS : SC 10 101 M) (ha : 0 ≤ a ∧ a < 4) (ht : 0 ≤ t ∧ t ≤ 11) (hw : 0 ≤ w ∧ w ≤ 1000) (H : Q (nrx (xsp M a t w) (M 101 (44 + 7 * a)).toNat).1 M) : ∀ (m n : Nat), (n : Int) + m = M 101 (44 + 7 * a) → F_xs_spare_66 Q (m + 1) a t w (nrx (xsp M a t w) n).1 (nrx (xsp M a t w) n).2 n M := by
  have g : M 19 a = M 101 (44 + 7 * a) ∧ 0 ≤ M 101 (44 + 7 * a) ∧ M 101 (44 + 7 * a) ≤ 6 := hS.2.2.2.2.2.2.2.2.1 a ha.1 ha.2
  have st := hS.st ha
  intro m
  induction m with
  | zero =>
    intro n hn
    unfold F_xs_spare_66
    refine ⟨ha, ?_⟩
    rw [if_pos (by omega)]
    rw [show (M 101 (44 + 7 * a)).toNat = n by omega] at H; exact H
  | succ m ih =>
    intro n hn
    have hs := ih (n + 1) (by omega)
    have o := xwo_ok (p := n) st hS.lk (l := lampP M 10) (M (10 + 9) a).toNat (by rw [show M (10 + 9) a = M 19 a from rfl]; omega)
    have b := zsee_b (t := t) o
    have c := o.2.1
    unfold F_xs_spare_66 F_xg_frontLightWithout
    refine ⟨ha, ?_⟩
    rw [if_neg (by omega), E_xs_lamp hS.lk]
    refine ⟨_, L_without (l := lampP M 10) hT st hS.lk ?_ (M 101 (44 + 7 * a)).toNat 0 (by rw [show M (10 + 9) a = M 19 a from rfl]; omega)⟩
    unfold encp
    unfold xwo
    rw [E_xl_seenAt hT o ht, w32_e (by omega) (by omega), E_xj_abs (by omega)]
    unfold F_xs_spare_116
    rw [w32_e (x := (n : Int) + 1) (by omega) (by omega)]
    rw [show ((n + 1 : Nat) : Int) = (n : Int) + 1 from rfl] at hs
    unfold nrx at hs
    rw [show zabs (zsee (thr (fun j x => if (j : Int) = (n : Int) then x else xst M 10 0 (M (10 + 5 + a) j) x) (M (10 + 9) a).toNat (lampP M 10)).1 (thr (fun j x => if (j : Int) = (n : Int) then x else xst M 10 0 (M (10 + 5 + a) j) x) (M (10 + 9) a).toNat (lampP M 10)).2 t - w) = xsp M a t w n from rfl]
    by_cases hc : (nrx (xsp M a t w) n).2 ≤ xsp M a t w n
    · rw [if_pos hc] at hs ⊢; exact hs
    · rw [if_neg hc] at hs ⊢; exact hs
theorem L_xm_spare2 {Q : Int → cM → Prop} {k37 : Int → Int → Int → Int → Int → Int → cM → Prop} {a t w be ga p : Int} {M : cM} (hS : SC 10 101 M) (ha : 0 ≤ a ∧ a < 4) (ht : 0 ≤ t ∧ t ≤ 11) (hw : 0 ≤ w ∧ w ≤ 1000) (H : ∀ M', Lt M M' → k37 a t w (if be < 0 then (p, msp M a t w p) else if ga ≤ msp M a t w p then (be, ga) else (p, msp M a t w p)).1 (if be < 0 then (p, msp M a t w p) else if ga ≤ msp M a t w p then (be, ga) else (p, msp M a t w p)).2 (w32 (p + 1)) M') : ∀ (m n : Nat), (n : Int) + m = M 101 (44 + 7 * a) → ∀ M', Lt M M' → ml M' = thr (fun j x => if (j : Int) = p then x else mst M 0 (M 101 (45 + 7 * a + j)) x) n (M 101 2, M 101 3) → F_xm_spare_54 Q k37 (m + 1) a t w be ga p n M' := by
  have g := hS.2.2.2.2.2.2.2.2.1 a ha.1 ha.2
  have mt := hS.mt ha
  intro m
  induction m with
  | zero =>
    intro n hn M' L hm
    have e1 : ∀ j, M' 101 j = M 101 j := fun j => L.at (by decide) j
    have o := mwo_ok (p := p) mt hS.mlok (l := (M 101 2, M 101 3)) n (by omega)
    have b := zsee_b (t := t) o
    have c := o.2.1
    have q1 : M' 100 6 = _ := congrArg Prod.fst hm
    have q2 : M' 100 7 = _ := congrArg Prod.snd hm
    unfold F_xm_spare_54
    rw [E_xm_manyIn ha, e1, if_pos (by omega), Y_seenAt (by rw [q1, q2]; exact o) ht, q1, q2, w32_e (by omega) (by omega), E_xm_size (by omega)]
    have em : zabs (zsee (thr (fun j x => if (j : Int) = p then x else mst M 0 (M 101 (45 + 7 * a + j)) x) n (M 101 2, M 101 3)).1 (thr (fun j x => if (j : Int) = p then x else mst M 0 (M 101 (45 + 7 * a + j)) x) n (M 101 2, M 101 3)).2 t - w) = msp M a t w p := by
      unfold msp mwo
      rw [show (M 101 (44 + 7 * a)).toNat = n by omega]
    rw [em]
    have hs := H M' L
    unfold F_xm_spare_113 F_xm_spare_121
    by_cases hc : be < 0
    · rw [if_pos hc] at hs ⊢; exact hs
    · rw [if_neg hc] at hs ⊢
      by_cases hd : ga ≤ msp M a t w p
      · rw [if_pos hd] at hs ⊢; exact hs
      · rw [if_neg hd] at hs ⊢; exact hs
  | succ m ih =>
    intro n hn M' L hm
    have e1 : ∀ j, M' 101 j = M 101 j := fun j => L.at (by decide) j
    have o := mwo_ok (p := p) mt hS.mlok (l := (M 101 2, M 101 3)) n (by omega)
    have q1 : M' 100 6 = _ := congrArg Prod.fst hm
    have q2 : M' 100 7 = _ := congrArg Prod.snd hm
    unfold F_xm_spare_54 F_xm_spare_83
    rw [E_xm_manyIn ha, e1, if_neg (by omega), w32_e (x := (n : Int) + 1) (by omega) (by omega)]
    by_cases hp : (n : Int) = p
    · rw [if_pos hp]
      refine ih (n + 1) (by omega) M' L ?_
      show _ = (if (n : Int) = p then _ else _)
      rw [if_pos hp]; exact hm
    · rw [if_neg hp, E_xm_sheetIn ha (by omega), e1]
      refine Y_goes (by rw [q1, q2]; exact o) (mok_kp e1 (mt.2.2 _ (by omega) (by omega))) (fun M2 L2 m2 => ih (n + 1) (by omega) M2 (L.tr L2) ?_)
      rw [m2, mst_kp e1, hm]
      show _ = (if (n : Int) = p then _ else _)
      rw [if_neg hp]
theorem L_xm_spare {Q : Int → cM → Prop} {a t w : Int} {M : cM} (hS : SC 10 101 M) (ha : 0 ≤ a ∧ a < 4) (ht : 0 ≤ t ∧ t ≤ 11) (hw : 0 ≤ w ∧ w ≤ 1000) (H : ∀ M', Lt M M' → if 0 ≤ (nrm (msp M a t w) (M 101 (44 + 7 * a)).toNat).1 then Q (nrm (msp M a t w) (M 101 (44 + 7 * a)).toNat).1 M' else F_xm_finds (fun x M2 => Q x M2) (-1000004) M') : ∀ (m n : Nat), (n : Int) + m = M 101 (44 + 7 * a) → ∀ M', Lt M M' → F_xm_spare_37 Q (m + 1) a t w (nrm (msp M a t w) n).1 (nrm (msp M a t w) n).2 n M' := by
  have g := hS.2.2.2.2.2.2.2.2.1 a ha.1 ha.2
  intro m
  induction m with
  | zero =>
    intro n hn M' L
    have e1 : ∀ j, M' 101 j = M 101 j := fun j => L.at (by decide) j
    unfold F_xm_spare_37
    rw [E_xm_manyIn ha, e1, if_pos (by omega)]
    rw [show (M 101 (44 + 7 * a)).toNat = n by omega] at H
    exact H M' L
  | succ m ih =>
    intro n hn M' L
    have e1 : ∀ j, M' 101 j = M 101 j := fun j => L.at (by decide) j
    unfold F_xm_spare_37
    rw [E_xm_manyIn ha, e1, if_neg (by omega)]
    refine Y_lights (fun M1 L1 m1 => ?_)
    rw [e1, e1] at m1
    refine ⟨_, L_xm_spare2 hS ha ht hw (fun M2 L2 => ?_) (M 101 (44 + 7 * a)).toNat 0 (by omega) M1 (L.tr L1) m1⟩
    rw [w32_e (x := (n : Int) + 1) (by omega) (by omega)]
    exact ih (n + 1) (by omega) M2 L2
theorem Z_spare {P : Int → Int → cM → Prop} {M : cM} {a t : Int} (hR : RR M) (H : ∀ r M', RR M' → P r r M') : F_xs_spare (fun x M1 => F_xm_spare (fun y M2 => P x y M2) a t M1) a t M := by
  unfold F_xs_spare F_xs_spare_16
  have hn := hR.hn
  have hz := hR.n10.1
  simp only [E_xs_isStack, E_xs_isSheet, E_xs_isShare, E_xs_within, ite01]
  by_cases h1 : 0 ≤ a ∧ a < 4
  rotate_left
  · rw [if_neg h1]
    refine Z_err 0 (by decide) (by decide) hR (fun M1 e1 hR1 => ?_)
    have e101 := fun j => e1 101 j (by decide)
    unfold F_xm_spare F_xm_spare_14
    simp only [E_xm_isStack, E_xm_isSlant, E_xm_isShare, E_xm_in, E_xm_isOne, E_xm_isSheet (e101 0) hn, ite01, e101]
    rw [if_neg (by omega), E_xm_fin 0 (by decide) (by decide)]
    exact H _ _ hR1
  rw [if_pos h1]
  by_cases h2 : 0 ≤ t ∧ t < 12
  rotate_left
  · rw [if_neg h2]
    refine Z_err 0 (by decide) (by decide) hR (fun M1 e1 hR1 => ?_)
    have e101 := fun j => e1 101 j (by decide)
    unfold F_xm_spare F_xm_spare_14
    simp only [E_xm_isStack, E_xm_isSlant, E_xm_isShare, E_xm_in, E_xm_isOne, E_xm_isSheet (e101 0) hn, ite01, e101]
    rw [if_pos (by omega), if_neg (by omega), E_xm_fin 0 (by decide) (by decide)]
    exact H _ _ hR1
  rw [if_pos h2]

  refine ⟨h1, ?_⟩
  have g := hR.h19 h1
  have o1 := hR.xok h1 0
  have b1 := zsee_b (t := t) o1
  have c1 := o1.2.1
  by_cases h4 : M 19 a = 0
  · rw [if_pos h4]
    refine Z_err 3 (by decide) (by decide) hR (fun M1 e1 hR1 => ?_)
    have e101 := fun j => e1 101 j (by decide)
    unfold F_xm_spare
    simp only [E_xm_isStack, E_xm_isSlant, E_xm_isShare, E_xm_in, E_xm_isOne, E_xm_isSheet (e101 0) hn, ite01]
    rw [if_pos (by omega), if_pos (by omega)]
    refine Y_seenThrough (mtok_kp e101 (hR.1.mt h1)) (by rw [e101, e101]; exact hR.1.mlok) (by omega) (fun M2 L2 => ?_)
    refine ⟨1, ?_⟩
    unfold F_xm_spare_37
    have e2 : ∀ j, M2 101 j = M 101 j := fun j => (L2.at (by decide) j).trans (e101 j)
    rw [E_xm_manyIn h1, e2, if_pos (by omega), if_neg (by decide), E_xm_fin 3 (by decide) (by decide)]
    have := (L2.wr 104 3 (w32 (M1 104 3 + 1))).kp
    rw [← L2.at (c := 104) (by decide) 3] at this hR1
    exact H _ _ (hR1.kp this)
  rw [if_neg h4]
  refine X_frontLight hR.cos (hR.1.st h1) hR.1.lk ?_
  unfold encp
  rw [E_xl_seenAt hR.cos o1 (by omega)]
  refine ⟨_, L_xs_spare hR.cos hR.1 h1 (by omega) (by omega) ?_ (M 101 (44 + 7 * a)).toNat 0 (by omega)⟩
  unfold F_xm_spare 
  simp only [E_xm_isStack, E_xm_isSlant, E_xm_isShare, E_xm_in, E_xm_isOne, ite01]
  rw [if_pos (by omega), if_pos (by omega)]
  refine Y_seenThrough (hR.1.mt h1) hR.1.mlok (by omega) (fun M1 L1 => ?_)
  rw [← hR.1.lmp, ← hR.1.xm h1]
  have S1 : SC 10 101 M1 := SC.kp (fun k j _ _ => L1.at (by omega) j) (fun j => L1.at (by decide) j) hR.1
  have e1 : ∀ j, M1 101 j = M 101 j := fun j => L1.at (by decide) j
  have K1 := hR.kp L1.kp
  obtain ⟨k, hk⟩ : ∃ k : Nat, (M 101 (44 + 7 * a)).toNat = k + 1 := ⟨(M 101 (44 + 7 * a)).toNat - 1, by omega⟩
  have e : nrm (msp M1 a t (zsee (xth M 10 a 0 (lampP M 10)).1 (xth M 10 a 0 (lampP M 10)).2 t)) (M1 101 (44 + 7 * a)).toNat = nrx (xsp M a t (zsee (xth M 10 a 0 (lampP M 10)).1 (xth M 10 a 0 (lampP M 10)).2 t)) (M 101 (44 + 7 * a)).toNat := by
    rw [e1, hk]
    refine nr_eq k (fun i hi => ?_)
    have o := xwo_ok (p := i) (hR.1.st h1) hR.1.lk (l := lampP M 10) (M (10 + 9) a).toNat (by rw [show M (10 + 9) a = M 19 a from rfl]; omega)
    have b := zsee_b (t := t) o
    have c := o.2.1
    have ew : mwo M1 a i (M1 101 2, M1 101 3) = xwo M a i (lampP M 10) := by
      rw [wo_eq hR.1 h1, hR.1.lmp, e1, e1]
      unfold mwo
      rw [e1]
      refine thr_eq _ (fun j _ x => ?_)
      rw [e1, mst_kp e1]
    unfold xsp msp
    rw [ew]
    exact ⟨rfl, (zabs_b (n := 1000) (by unfold xwo; omega) (by unfold xwo; omega)).2⟩
  have hb := nrx_b (xsp M a t (zsee (xth M 10 a 0 (lampP M 10)).1 (xth M 10 a 0 (lampP M 10)).2 t)) (M 101 (44 + 7 * a)).toNat
  refine ⟨_, L_xm_spare S1 h1 (by omega) (by omega) (fun M' L => ?_) (M 101 (44 + 7 * a)).toNat 0 (by rw [e1]; omega) M1 (Lt.rf M1)⟩
  rw [e, if_pos hb]
  exact H _ _ (K1.kp L.kp)

