/-! nearest, spare. -/
/-- the nearest: the class's way, and the model's -/
def nrx (f : Int → Int) : Nat → Int × Int
  | 0 => (0, 1001)
  | n + 1 => if (nrx f n).2 ≤ f n then nrx f n else ((n : Int), f n)
def nrm (f : Int → Int) : Nat → Int × Int
  | 0 => (-1, 0)
  | n + 1 => if (nrm f n).1 < 0 then ((n : Int), f n) else if (nrm f n).2 ≤ f n then nrm f n else ((n : Int), f n)
theorem nrx_b (f : Int → Int) : ∀ n : Nat, 0 ≤ (nrx f n).1
  | 0 => Int.le_refl _
  | n + 1 => by
    have := nrx_b f n
    unfold nrx
    split
    · exact this
    · exact Int.natCast_nonneg n
theorem nr_eq {f g : Int → Int} : ∀ n : Nat, (∀ i : Nat, i < n + 1 → f i = g i ∧ f i ≤ 1000) → nrm g (n + 1) = nrx f (n + 1)
  | 0, h => by
    have := h 0 (by omega)
    unfold nrm nrx nrm nrx
    rw [if_pos (by decide), if_neg (by show ¬ ((1001 : Int) ≤ _); omega), this.1]
  | n + 1, h => by
    have ih := nr_eq n (fun i hi => h i (Nat.lt_succ_of_lt hi))
    have b := nrx_b f (n + 1)
    have hn := h (n + 1) (by omega)
    have e1 : nrm g (n + 1 + 1) = if (nrm g (n + 1)).1 < 0 then (((n + 1 : Nat) : Int), g ((n + 1 : Nat) : Int)) else if (nrm g (n + 1)).2 ≤ g ((n + 1 : Nat) : Int) then nrm g (n + 1) else (((n + 1 : Nat) : Int), g ((n + 1 : Nat) : Int)) := rfl
    have e2 : nrx f (n + 1 + 1) = if (nrx f (n + 1)).2 ≤ f ((n + 1 : Nat) : Int) then nrx f (n + 1) else (((n + 1 : Nat) : Int), f ((n + 1 : Nat) : Int)) := rfl
    rw [e1, e2, ih, if_neg (by omega), hn.1]
/-- the model's light behind a stack and up to three sheets more -/
def wsh (M : cM) (k : Int) (l : Int × Int) : Int × Int := if k < 0 then l else mst M 0 k l
theorem wsh_ok {M : cM} {k : Int} {l : Int × Int} (h : lok l.1 l.2) (hk : k < 0 ∨ mok M k) : lok (wsh M k l).1 (wsh M k l).2 := by
  unfold wsh
  split
  · exact h
  · exact mst_ok h (hk.resolve_left (by assumption))
theorem Y_seenWith {Q : Int → cM → Prop} {a c1 c2 c3 t : Int} {M : cM} (hs : mtok M a) (hl : lok (M 101 2) (M 101 3)) (h1 : c1 < 0 ∨ mok M c1) (h2 : c2 < 0 ∨ mok M c2) (h3 : c3 < 0 ∨ mok M c3) (ht : 0 ≤ t ∧ t ≤ 11) (H : ∀ M', Lt M M' → Q (zsee (wsh M c3 (wsh M c2 (wsh M c1 (mth M a 0 (M 101 2, M 101 3))))).1 (wsh M c3 (wsh M c2 (wsh M c1 (mth M a 0 (M 101 2, M 101 3))))).2 t) M') : F_xm_seenWith Q a c1 c2 c3 t M := by
  have o0 := mth_ok (bh := 0) (l := (M 101 2, M 101 3)) hs hl
  have o1 := wsh_ok o0 h1
  have o2 := wsh_ok o1 h2
  have o3 := wsh_ok o2 h3
  have step : ∀ (k : Int) (l : Int × Int) (R : cM → Prop) (M1 : cM), (k < 0 ∨ mok M k) → lok l.1 l.2 → Lt M M1 → ml M1 = l → (∀ M2, Lt M M2 → ml M2 = wsh M k l → R M2) → (if k < 0 then R M1 else F_xm_goes R k 0 M1) := by
    intro k l R M1 hk hl L m HR
    have e1 : ∀ j, M1 101 j = M 101 j := fun j => L.at (by decide) j
    have q : ml M1 = (M1 100 6, M1 100 7) := rfl
    by_cases hn : k < 0
    · rw [if_pos hn]
      exact HR M1 L (by unfold wsh; rw [if_pos hn]; exact m)
    · rw [if_neg hn]
      have hl1 : lok (M1 100 6) (M1 100 7) := by
        have a1 : M1 100 6 = l.1 := congrArg Prod.fst m
        have a2 : M1 100 7 = l.2 := congrArg Prod.snd m
        rw [a1, a2]; exact hl
      refine Y_goes hl1 (mok_kp e1 (hk.resolve_left hn)) (fun M2 L2 m2 => HR M2 (L.tr L2) ?_)
      rw [m2, mst_kp e1, m]
      unfold wsh
      rw [if_neg hn]
  unfold F_xm_seenWith
  refine Y_thru hs hl (fun M1 L1 m1 => ?_)
  refine step c1 _ (fun M2 => F_xm_seenWith_20 Q c2 c3 t M2) M1 h1 o0 L1 m1 (fun M2 L2 m2 => ?_)
  unfold F_xm_seenWith_20
  refine step c2 _ (fun M3 => F_xm_seenWith_30 Q c3 t M3) M2 h2 o1 L2 m2 (fun M3 L3 m3 => ?_)
  unfold F_xm_seenWith_30
  refine step c3 _ (fun M4 => F_xm_seenWith_42 Q t M4) M3 h3 o2 L3 m3 (fun M4 L4 m4 => ?_)
  unfold F_xm_seenWith_42
  have r1 : M4 100 6 = _ := congrArg Prod.fst m4
  have r2 : M4 100 7 = _ := congrArg Prod.snd m4
  rw [Y_seenAt (by rw [r1, r2]; exact o3) ht, r1, r2]
  exact H M4 L4
def xgp (M : cM) (l : Int × Int) (t v : Int) (k : Int) : Int := zabs (zsee (xst M 10 0 k l).1 (xst M 10 0 k l).2 t - v)
def mgp (M : cM) (l : Int × Int) (t v : Int) (k : Int) : Int := zabs (zsee (mst M 0 k l).1 (mst M 0 k l).2 t - v)
theorem L_xs_nearest {Q : Int → cM → Prop} {t v : Int} {l : Int × Int} {M : cM} (hT : cosT M) (hS : SC 10 101 M) (hl : lok l.1 l.2) (ht : 0 ≤ t ∧ t ≤ 11) (hv : 0 ≤ v ∧ v ≤ 1000) (H : Q (nrx (xgp M l t v) (M 101 0).toNat).1 M) : ∀ (m n : Nat), (n : Int) + m = M 101 0 → F_xs_nearest_68 Q (m + 1) t v (encp l) (nrx (xgp M l t v) n).1 (nrx (xgp M l t v) n).2 n M := by
  have h0 := hS.1
  intro m
  induction m with
  | zero =>
    intro n hn
    unfold F_xs_nearest_68
    rw [if_pos (by omega)]
    rw [show (M 101 0).toNat = n by omega] at H; exact H
  | succ m ih =>
    intro n hn
    have hs := ih (n + 1) (by omega)
    have sk := hS.sk (k := n) (by omega) (by omega)
    have o := xst_ok (bh := 0) hl sk
    have b := zsee_b (t := t) o
    have c := o.2.1
    unfold F_xs_nearest_68
    unfold encp at hs ⊢
    rw [if_neg (by omega), E_bS hT hl sk, E_xl_seenAt hT o ht, w32_e (by omega) (by omega), E_xj_abs (by omega)]
    unfold F_xs_nearest_118
    rw [w32_e (x := (n : Int) + 1) (by omega) (by omega)]
    rw [show ((n + 1 : Nat) : Int) = (n : Int) + 1 from rfl] at hs
    unfold nrx at hs
    rw [show zabs (zsee (xst M 10 0 n l).1 (xst M 10 0 n l).2 t - v) = xgp M l t v n from rfl]
    by_cases hc : (nrx (xgp M l t v) n).2 ≤ xgp M l t v n
    · rw [if_pos hc] at hs ⊢; exact hs
    · rw [if_neg hc] at hs ⊢; exact hs
theorem L_xm_nearest {Q : Int → cM → Prop} {a t v : Int} {M : cM} (hS : SC 10 101 M) (ha : 0 ≤ a ∧ a < 4) (ht : 0 ≤ t ∧ t ≤ 11) (hv : 0 ≤ v ∧ v ≤ 1000) (hb : 0 ≤ (nrm (mgp M (mth M a 0 (M 101 2, M 101 3)) t v) (M 101 0).toNat).1) (H : ∀ M', Lt M M' → Q (nrm (mgp M (mth M a 0 (M 101 2, M 101 3)) t v) (M 101 0).toNat).1 M') : ∀ (m n : Nat), (n : Int) + m = M 101 0 → ∀ M', Lt M M' → F_xm_nearest_37 Q (m + 1) a t v (nrm (mgp M (mth M a 0 (M 101 2, M 101 3)) t v) n).1 (nrm (mgp M (mth M a 0 (M 101 2, M 101 3)) t v) n).2 n M' := by
  have h0 := hS.1
  have mt := hS.mt ha
  have o0 := mth_ok (bh := 0) (l := (M 101 2, M 101 3)) mt hS.mlok
  intro m
  induction m with
  | zero =>
    intro n hn M' L
    have e1 : ∀ j, M' 101 j = M 101 j := fun j => L.at (by decide) j
    unfold F_xm_nearest_37
    rw [show (M 101 0).toNat = n by omega] at H hb
    rw [e1, if_pos (by omega), if_pos hb]
    exact H M' L
  | succ m ih =>
    intro n hn M' L
    have e1 : ∀ j, M' 101 j = M 101 j := fun j => L.at (by decide) j
    have mk := hS.mk (k := n) (by omega) (by omega)
    have o := mst_ok (bh := 0) o0 mk
    have b := zsee_b (t := t) o
    have c := o.2.1
    unfold F_xm_nearest_37
    rw [e1, if_neg (by omega)]
    refine Y_seenWith (mtok_kp e1 mt) (by rw [e1, e1]; exact hS.mlok) (Or.inr (mok_kp e1 mk)) (Or.inl (by decide)) (Or.inl (by decide)) ht (fun M2 L2 => ?_)
    rw [mth_kp e1, e1, e1]
    have ew : ∀ l, wsh M' (-1) (wsh M' (-1) (wsh M' n l)) = mst M 0 n l := by
      intro l
      unfold wsh
      rw [if_pos (by decide), if_pos (by decide), if_neg (by omega), mst_kp e1]
    rw [ew, w32_e (by omega) (by omega), E_xm_size (by omega)]
    have hs := ih (n + 1) (by omega) M2 (L.tr L2)
    unfold F_xm_nearest_77 F_xm_nearest_85
    rw [w32_e (x := (n : Int) + 1) (by omega) (by omega)]
    rw [show ((n + 1 : Nat) : Int) = (n : Int) + 1 from rfl] at hs
    unfold nrm at hs
    rw [show zabs (zsee (mst M 0 n (mth M a 0 (M 101 2, M 101 3))).1 (mst M 0 n (mth M a 0 (M 101 2, M 101 3))).2 t - v) = mgp M (mth M a 0 (M 101 2, M 101 3)) t v n from rfl]
    by_cases hc : (nrm (mgp M (mth M a 0 (M 101 2, M 101 3)) t v) n).1 < 0
    · rw [if_pos hc] at hs ⊢; exact hs
    · rw [if_neg hc] at hs ⊢
      by_cases hd : (nrm (mgp M (mth M a 0 (M 101 2, M 101 3)) t v) n).2 ≤ mgp M (mth M a 0 (M 101 2, M 101 3)) t v n
      · rw [if_pos hd] at hs ⊢; exact hs
      · rw [if_neg hd] at hs ⊢; exact hs
theorem Z_nearest {P : Int → Int → cM → Prop} {M : cM} {a t v : Int} (hR : RR M) (H : ∀ r M', RR M' → P r r M') : F_xs_nearest (fun x M1 => F_xm_nearest (fun y M2 => P x y M2) a t v M1) a t v M := by
  unfold F_xs_nearest F_xs_nearest_23
  have hn := hR.hn
  have hz := hR.n10.1
  simp only [E_xs_isStack, E_xs_isSheet, E_xs_isShare, E_xs_within, ite01]
  by_cases h1 : 0 ≤ a ∧ a < 4
  rotate_left
  · rw [if_neg h1]
    refine Z_err 0 (by decide) (by decide) hR (fun M1 e1 hR1 => ?_)
    have e101 := fun j => e1 101 j (by decide)
    unfold F_xm_nearest F_xm_nearest_21
    simp only [E_xm_isStack, E_xm_isSlant, E_xm_isShare, E_xm_in, E_xm_isOne, E_xm_isSheet (e101 0) hn, ite01, e101]
    rw [if_neg (by omega), E_xm_fin 0 (by decide) (by decide)]
    exact H _ _ hR1
  rw [if_pos h1]
  by_cases h2 : 0 ≤ t ∧ t < 12
  rotate_left
  · rw [if_neg h2]
    refine Z_err 0 (by decide) (by decide) hR (fun M1 e1 hR1 => ?_)
    have e101 := fun j => e1 101 j (by decide)
    unfold F_xm_nearest F_xm_nearest_21
    simp only [E_xm_isStack, E_xm_isSlant, E_xm_isShare, E_xm_in, E_xm_isOne, E_xm_isSheet (e101 0) hn, ite01, e101]
    rw [if_pos (by omega), if_neg (by omega), E_xm_fin 0 (by decide) (by decide)]
    exact H _ _ hR1
  rw [if_pos h2]
  by_cases h3 : 0 ≤ v ∧ v < 1001
  rotate_left
  · rw [if_neg h3]
    refine Z_err 0 (by decide) (by decide) hR (fun M1 e1 hR1 => ?_)
    have e101 := fun j => e1 101 j (by decide)
    unfold F_xm_nearest F_xm_nearest_21
    simp only [E_xm_isStack, E_xm_isSlant, E_xm_isShare, E_xm_in, E_xm_isOne, E_xm_isSheet (e101 0) hn, ite01, e101]
    rw [if_pos (by omega), if_pos (by omega), if_neg (by omega), E_xm_fin 0 (by decide) (by decide)]
    exact H _ _ hR1
  rw [if_pos h3]

  by_cases h4 : M 10 0 = 0
  · rw [if_pos h4]
    refine Z_err 3 (by decide) (by decide) hR (fun M1 e1 hR1 => ?_)
    have e101 := fun j => e1 101 j (by decide)
    unfold F_xm_nearest
    simp only [E_xm_isStack, E_xm_isSlant, E_xm_isShare, E_xm_in, E_xm_isOne, E_xm_isSheet (e101 0) hn, ite01, e101]
    rw [if_pos (by omega), if_pos (by omega), if_pos (by omega)]
    refine ⟨1, ?_⟩
    unfold F_xm_nearest_37
    rw [e101, if_pos (by omega), if_neg (by decide), E_xm_fin 3 (by decide) (by decide)]
    exact H _ _ hR1
  rw [if_neg h4]
  have o1 := hR.xok h1 0
  refine X_frontLight hR.cos (hR.1.st h1) hR.1.lk ⟨_, L_xs_nearest (l := xth M 10 a 0 (lampP M 10)) hR.cos hR.1 o1 (by omega) (by omega) ?_ (M 101 0).toNat 0 (by omega)⟩
  unfold F_xm_nearest 
  simp only [E_xm_isStack, E_xm_isSlant, E_xm_isShare, E_xm_in, E_xm_isOne, ite01]
  rw [if_pos (by omega), if_pos (by omega), if_pos (by omega)]
  obtain ⟨k, hk⟩ : ∃ k : Nat, (M 101 0).toNat = k + 1 := ⟨(M 101 0).toNat - 1, by omega⟩
  have e : nrm (mgp M (mth M a 0 (M 101 2, M 101 3)) t v) (M 101 0).toNat = nrx (xgp M (xth M 10 a 0 (lampP M 10)) t v) (M 101 0).toNat := by
    rw [hk]
    refine nr_eq k (fun i hi => ?_)
    have sk := hR.1.sk (k := i) (by omega) (by omega)
    have o := xst_ok (bh := 0) o1 sk
    have b := zsee_b (t := t) o
    have c := o.2.1
    unfold xgp mgp
    rw [hR.1.xm h1, hR.1.lmp] at *
    rw [hR.1.sp (by omega) (by omega)] at *
    exact ⟨rfl, (zabs_b (n := 1000) (by omega) (by omega)).2⟩
  have hb := nrx_b (xgp M (xth M 10 a 0 (lampP M 10)) t v) (M 101 0).toNat
  refine ⟨_, L_xm_nearest hR.1 h1 (by omega) (by omega) (by rw [e]; exact hb) (fun M' L => ?_) (M 101 0).toNat 0 (by omega) M (Lt.rf M)⟩
  rw [e]
  exact H _ _ (hR.kp L.kp)

