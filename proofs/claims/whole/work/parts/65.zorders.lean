/-! orders, order. -/
theorem Kp.st {M M1 : cM} {c : Int} {g : Int → Int} (h : Kp M M1) (hn : ∀ j, ¬ keep c j) : Kp M (stc M1 c g) := fun c' j hk => by
  rw [stc_ne (fun q => hn j (by rw [← q]; exact hk))]
  exact h c' j hk
theorem nk76 (j : Int) : ¬ keep 76 j := by unfold keep; omega
theorem nk77 (j : Int) : ¬ keep 77 j := by unfold keep; omega
theorem nk78 (j : Int) : ¬ keep 78 j := by unfold keep; omega
theorem nk79 (j : Int) : ¬ keep 79 j := by unfold keep; omega
theorem nk80 (j : Int) : ¬ keep 80 j := by unfold keep; omega
theorem nk81 (j : Int) : ¬ keep 81 j := by unfold keep; omega
theorem nk82 (j : Int) : ¬ keep 82 j := by unfold keep; omega
theorem nk105 (j : Int) : ¬ keep 105 j := by unfold keep; omega
theorem nk106 (j : Int) : ¬ keep 106 j := by unfold keep; omega
theorem nk107 (j : Int) : ¬ keep 107 j := by unfold keep; omega
theorem nk108 (j : Int) : ¬ keep 108 j := by unfold keep; omega
theorem Kp.m {M M1 : cM} (h : Kp M M1) (j : Int) : M1 101 j = M 101 j := h 101 j (by unfold keep; omega)
/-- a stack's height and how many orders it has -/
def OK (M : cM) (a : Int) (n K : Nat) : Prop := n ≤ 6 ∧ M 101 (44 + 7 * a) = n ∧ K ≤ 720 ∧ ∀ s' p : Int → Int, agr n (msr M a) s' → ordK n (srt s' p n) K
theorem RR.ok {M : cM} (hR : RR M) {a : Int} (ha : 0 ≤ a ∧ a < 4) : ∃ n K : Nat, OK M a n K := by
  have h := hR.h19 ha
  obtain ⟨n, hn⟩ := Int.eq_ofNat_of_zero_le h.2.1
  obtain ⟨K, h1, h2⟩ := srt_ordK (msr M a) (fun _ => 0) (n := n) (by omega)
  exact ⟨n, K, by omega, hn, h1, h2⟩
def ogr (M : cM) (a : Int) (n : Nat) : Int → Int := srt (msr M a) (fun _ => 0) n
theorem OK.g {M : cM} {a : Int} {n K : Nat} (h : OK M a n K) : ordK n (ogr M a n) K := h.2.2.2 _ _ (fun _ _ _ => rfl)
theorem OK.v {M : cM} {a : Int} {n K : Nat} (hR : RR M) (ha : 0 ≤ a ∧ a < 4) (h : OK M a n K) {s' p : Int → Int} (hs : agr n (msr M a) s') : ∀ k : Nat, k < K → rvl M n (orb n (srt s' p n) k) := by
  have hk := h.2.2.2 s' p hs
  refine orb_P (P := fun z => 0 ≤ z ∧ z < M 101 0) (srt_P (P := fun z => 0 ≤ z ∧ z < M 101 0) n (fun i i0 i1 => ?_)) hk.2.1
  show 0 ≤ s' i ∧ s' i < M 101 0
  rw [← hs i i0 i1]
  exact (hR.row ha ⟨i0, by rw [h.2.1]; exact i1⟩).2
theorem OK.a {M : cM} {a : Int} {n K : Nat} (h : OK M a n K) {s' p : Int → Int} (hs : agr n (msr M a) s') : ∀ k : Nat, k < K → agr n (orb n (srt s' p n) k) (orb n (ogr M a n) k) := by
  have hs2 : agr n s' (msr M a) := fun i i0 i1 => (hs i i0 i1).symm
  exact orb_agr (srt_agr n hs2) (h.2.2.2 s' p hs).2.1
theorem L_reckon {Q : Int → cM → Prop} {M : cM} {n K : Nat} {g : Int → Int} (hR : RR M) (hn : n ≤ 6) (hK : ordK n g K) (hK7 : K ≤ 720) (hg : ∀ k, k < K → rvl M n (orb n g k)) (H : ∀ M', Kp M M' → (∀ j : Nat, j < K → M' 78 j = encp (olt M n (orb n g j))) → Q K M') : ∀ (m k : Nat) (M1 : cM), k + m + 1 = K → Kp M M1 → M1 76 1 = n → M1 77 = orb n g k → (∀ j : Nat, j < k → M1 78 j = encp (olt M n (orb n g j))) → F_xs_reckonOrderLights_29 Q (m + 1) k k M1 := by
  intro m
  induction m with
  | zero =>
    intro k M1 hk hp h76 h77 h78
    unfold F_xs_reckonOrderLights_29 F_xs_reckonOrderLights_85
    rw [if_neg (by omega), h76]
    refine X_behindRow (hR.kp hp) hn (by rw [h77]; unfold rvl; rw [hp.m]; exact hg k (by omega)) ?_
    rw [olt_kp (hp.m) (p := orb n g k) (fun i _ _ => by rw [h77]), wE (by omega)]
    refine ⟨by omega, ?_⟩
    have e77 : (wr M1 78 k (encp (olt M n (orb n g k)))) 77 = orb n g k := by rw [← h77]; funext j; exact wr_ne (by decide)
    rw [← stc_id (wr M1 78 k (encp (olt M n (orb n g k)))) 77, e77]
    refine X_advance hn (by rw [wr_ne (by decide)]; exact h76) (fun q => ?_) (fun q => ?_)
    · have := hK.2.2
      rw [show K - 1 = k by omega] at this
      omega
    · rw [if_pos rfl, show k + 1 = K by omega]
      refine H _ ((hp.w (nk78 _)).st nk77) (fun j hj => ?_)
      rw [stc_ne (by decide)]
      by_cases e : j = k
      · subst e; rw [wr_eq]
      · rw [wr_nj (by omega)]; exact h78 j (by omega)
  | succ m ih =>
    intro k M1 hk hp h76 h77 h78
    unfold F_xs_reckonOrderLights_29 F_xs_reckonOrderLights_85
    rw [if_neg (by omega), h76]
    refine X_behindRow (hR.kp hp) hn (by rw [h77]; unfold rvl; rw [hp.m]; exact hg k (by omega)) ?_
    rw [olt_kp (hp.m) (p := orb n g k) (fun i _ _ => by rw [h77]), wE (by omega)]
    refine ⟨by omega, ?_⟩
    have e77 : (wr M1 78 k (encp (olt M n (orb n g k)))) 77 = orb n g k := by rw [← h77]; funext j; exact wr_ne (by decide)
    rw [← stc_id (wr M1 78 k (encp (olt M n (orb n g k)))) 77, e77]
    refine X_advance hn (by rw [wr_ne (by decide)]; exact h76) (fun q => ?_) (fun q => ?_)
    · rw [if_neg (by decide)]
      refine ih (k + 1) _ (by omega) ((hp.w (nk78 _)).st nk77) (by rw [stc_ne (by decide), wr_ne (by decide)]; exact h76) stc_row (fun j hj => ?_)
      rw [stc_ne (by decide)]
      by_cases e : j = k
      · subst e; rw [wr_eq]
      · rw [wr_nj (by omega)]; exact h78 j (by omega)
    · have := hK.2.1 k (by omega)
      omega
theorem agr_src {M M1 : cM} {a : Int} {n K : Nat} (hR : RR M) (ha : 0 ≤ a ∧ a < 4) (hO : OK M a n K) (hp : ∀ j, M1 (15 + a) j = M (15 + a) j) : agr n (msr M a) (M1 (15 + a)) := fun i i0 i1 => by
  rw [hp, (hR.row ha ⟨i0, by rw [hO.2.1]; exact i1⟩).1]
  rfl
theorem X_reckon {Q : Int → cM → Prop} {M : cM} {a : Int} {n K : Nat} (hR : RR M) (ha : 0 ≤ a ∧ a < 4) (hO : OK M a n K) (H : ∀ M', Kp M M' → (∀ j : Nat, j < K → M' 78 j = encp (olt M n (orb n (ogr M a n) j))) → Q K M') : F_xs_reckonOrderLights Q a M := by
  have h19 := hR.h19 ha
  unfold F_xs_reckonOrderLights
  refine ⟨ha, ha, ?_⟩
  rw [h19.1, hO.2.1]
  refine X_start hO.1 (by omega) ?_
  have hs := agr_src (M1 := wr M 76 1 n) hR ha hO (fun j => wr_ne (by omega))
  have hK := hO.2.2.2 _ ((wr M 76 1 n) 77) hs
  refine ⟨_, L_reckon hR hO.1 hK hO.2.2.1 (hO.v hR ha hs) (fun M' hp h78 => ?_) (K - 1) 0 _ (by have := hK.1; omega) (((Kp.rf M).w (nk76 _)).st nk77) (by rw [stc_ne (by decide), wr_eq]) stc_row (fun j hj => by omega)⟩
  refine H M' hp (fun j hj => ?_)
  rw [h78 j hj, olt_kp (fun _ => rfl) (hO.a hs j hj)]
def odp (M : cM) (n : Nat) (g : Int → Int) (j : Nat) : Bool := fpb M (olt M n (orb n g j))
theorem fpb_kp {M M' : cM} (h : ∀ j, M' 101 j = M 101 j) (l : Int × Int) : fpb M' l = fpb M l := by
  unfold fpb
  rw [h]
  refine alN_eq _ (fun i _ => ?_)
  unfold flk
  rw [h, h]
theorem L_xs_orders {Q : Int → cM → Prop} {M M1 : cM} {a : Int} {n K : Nat} (hR : RR M) (ha : 0 ≤ a ∧ a < 4) (hO : OK M a n K) (hp : Kp M M1) (h78 : ∀ j : Nat, j < K → M1 78 j = encp (olt M n (orb n (ogr M a n) j))) (H : Q (cnb (odp M n (ogr M a n)) K) M1) : ∀ (m i : Nat), i + m = K → F_xs_orders_25 Q (m + 1) K (cnb (odp M n (ogr M a n)) i) i M1 := by
  have hK7 := hO.2.2.1
  intro m
  induction m with
  | zero =>
    intro i hi
    unfold F_xs_orders_25
    rw [if_pos (by omega)]
    rw [show K = i by omega] at H; exact H
  | succ m ih =>
    intro i hi
    have ih1 := ih (i + 1) (by omega)
    have hv := hO.v hR ha (s' := msr M a) (p := fun _ => 0) (fun _ _ _ => rfl) i (by omega)
    have hc := cnb_le (odp M n (ogr M a n)) i
    unfold F_xs_orders_25 F_xs_orders_51
    rw [if_neg (by omega), wE (by omega), h78 i (by omega)]
    refine ⟨by omega, X_fits (hR.kp hp) (olt_ok hR hv) ?_⟩
    rw [fpb_kp hp.m, ite01]
    have e : cnb (odp M n (ogr M a n)) (i + 1) = cnb (odp M n (ogr M a n)) i + if odp M n (ogr M a n) i = true then 1 else 0 := rfl
    rw [e] at ih1
    by_cases q : odp M n (ogr M a n) i = true
    · rw [if_pos q] at ih1
      rw [if_pos (show fpb M (olt M n (orb n (ogr M a n) i)) = true from q), wE (by omega)]
      exact ih1
    · rw [if_neg q] at ih1
      rw [if_neg (show ¬ fpb M (olt M n (orb n (ogr M a n) i)) = true from q)]
      exact ih1
theorem L_xm_orders {Q : Int → cM → Prop} {M : cM} {a : Int} {n K : Nat} {s' p : Int → Int} (hR : RR M) (ha : 0 ≤ a ∧ a < 4) (hO : OK M a n K) (hs : agr n (msr M a) s') {M0 : cM} (e0 : ∀ j, M0 101 j = M 101 j) (H : ∀ M', Lo M0 M' → Q (cnb (odp M n (ogr M a n)) K) M') : ∀ (m k : Nat) (M1 : cM), k + m + 1 = K → Lo M0 M1 → M1 105 = orb n (srt s' p n) k → F_xm_orders_30 Q (m + 2) n (cnb (odp M n (ogr M a n)) k) 1 M1 := by
  have hK7 := hO.2.2.1
  have hK := hO.2.2.2 s' p hs
  have key : ∀ (m k : Nat) (M1 : cM), k + m + 1 = K → Lo M0 M1 → M1 105 = orb n (srt s' p n) k → (∀ M', Lo M0 M' → M' 105 = orb n (srt s' p n) k → F_xm_nextOrder (fun x17 M16 => F_xm_orders_30 Q (m + 1) n (cnb (odp M n (ogr M a n)) (k + 1)) x17 M16) n M') → F_xm_orders_30 Q (m + 2) n (cnb (odp M n (ogr M a n)) k) 1 M1 := by
    intro m k M1 hk hp h105 G
    have hv := hO.v hR ha hs (p := p) k (by omega)
    have hc := cnb_le (odp M n (ogr M a n)) k
    unfold F_xm_orders_30 F_xm_orders_49
    rw [if_neg (by decide)]
    refine Y_isFit hR (fun j => by rw [hp.m, e0]) hO.1 (by rw [h105]; exact hv) (fun M2 L2 => ?_)
    rw [olt_kp (fun _ => rfl) (p := orb n (ogr M a n) k) (by rw [h105]; exact hO.a hs k (by omega)), ite01]
    have g105 : M2 105 = orb n (srt s' p n) k := by rw [← h105]; funext j; exact L2.at (by decide) j
    have G2 := G M2 (hp.tr L2.lo) g105
    have e : cnb (odp M n (ogr M a n)) (k + 1) = cnb (odp M n (ogr M a n)) k + if odp M n (ogr M a n) k = true then 1 else 0 := rfl
    rw [e] at G2
    by_cases q : odp M n (ogr M a n) k = true
    · rw [if_pos q] at G2
      rw [if_pos (show fpb M (olt M n (orb n (ogr M a n) k)) = true from q), wE (by omega)]
      exact G2
    · rw [if_neg q] at G2
      rw [if_neg (show ¬ fpb M (olt M n (orb n (ogr M a n) k)) = true from q), Int.add_zero, w32_e (by omega) (by omega)]
      exact G2
  intro m
  induction m with
  | zero =>
    intro k M1 hk hp h105
    refine key 0 k M1 hk hp h105 (fun M' hp' h' => ?_)
    rw [← stc_id M' 105, h']
    refine Y_nextOrder hO.1 (fun q => ?_) (fun q => ?_)
    · have := hK.2.2
      rw [show K - 1 = k by omega] at this
      omega
    · unfold F_xm_orders_30
      rw [if_pos rfl, show k + 1 = K by omega]
      exact H _ hp'.st
  | succ m ih =>
    intro k M1 hk hp h105
    refine key (m + 1) k M1 hk hp h105 (fun M' hp' h' => ?_)
    rw [← stc_id M' 105, h']
    refine Y_nextOrder hO.1 (fun q => ?_) (fun q => ?_)
    · exact ih (k + 1) _ (by omega) hp'.st stc_row
    · have := hK.2.1 k (by omega)
      omega
theorem Z_orders {P : Int → Int → cM → Prop} {M : cM} {a : Int} (hR : RR M) (H : ∀ r M', RR M' → P r r M') : F_xs_orders (fun x M1 => F_xm_orders (fun y M2 => P x y M2) a M1) a M := by
  unfold F_xs_orders
  rw [E_xs_isStack, ite01]
  by_cases h1 : 0 ≤ a ∧ a < 4
  rotate_left
  · rw [if_neg h1]
    refine Z_err 0 (by decide) (by decide) hR (fun M1 e1 hR1 => ?_)
    unfold F_xm_orders
    try dsimp only
    rw [E_xm_isStack, ite01, if_neg h1, E_xm_fin 0 (by decide) (by decide)]
    exact H _ _ hR1
  obtain ⟨n, K, hO⟩ := hR.ok h1
  rw [if_pos h1]
  refine X_reckon hR h1 hO (fun M1 hp h78 => ?_)
  refine ⟨_, L_xs_orders hR h1 hO hp h78 ?_ K 0 (by omega)⟩
  unfold F_xm_orders
  try dsimp only
  rw [E_xm_isStack, ite01, if_pos h1, E_xm_manyIn h1, hp.m, hO.2.1]
  refine Y_firstOrder h1 hO.1 (by rw [hp.m, hO.2.1]) ?_
  have hs : agr n (msr M a) (msr M1 a) := fun i _ _ => (hp.m _).symm
  have hK := hO.g
  exact ⟨_, L_xm_orders hR h1 hO hs hp.m (fun M' hp' => H _ _ (hR.kp (hp.tr hp'.kp))) (K - 1) 0 _ (by have := hK.1; omega) (Lo.rf M1).st stc_row⟩
/-- order: the first that fits, or none -/
theorem L_xs_order {Q : Int → cM → Prop} {M : cM} {a : Int} {n K : Nat} {s' p : Int → Int} (hR : RR M) (ha : 0 ≤ a ∧ a < 4) (hO : OK M a n K) (hs : agr n (msr M a) s') {k0 : Nat} (hk0 : k0 < K) (hn : ∀ j, j < k0 → odp M n (ogr M a n) j = false) (H1 : odp M n (ogr M a n) k0 = true → ∀ M', Kp M M' → agr n (M' 77) (orb n (ogr M a n) k0) → Q 1 (wr (cpyM M' 77 0 (10 + 5 + a) 0 n) (10 + 9) a n)) (H0 : odp M n (ogr M a n) k0 = false → k0 + 1 = K ∧ ∀ M', Kp M M' → F_xs_finding (fun x10 M9 => Q x10 M9) (-1000004) M') : ∀ (m k : Nat) (M1 : cM), k + m = k0 → Kp M M1 → M1 76 1 = n → M1 77 = orb n (srt s' p n) k → F_xs_order_41 Q (m + 1) a k M1 := by
  have hK7 := hO.2.2.1
  have hn6 := hO.1
  have hK := hO.2.2.2 s' p hs
  have key : ∀ (m k : Nat) (M1 : cM), k + m = k0 → Kp M M1 → M1 76 1 = n → M1 77 = orb n (srt s' p n) k → (odp M n (ogr M a n) k = true → k = k0) → (odp M n (ogr M a n) k = false → F_xa_advance (fun x20 M19 => if x20 = 0 then (F_xs_order_122 Q M19) else (F_xs_order_41 Q m a ((k + 1 : Nat) : Int) M19)) M1) → F_xs_order_41 Q (m + 1) a k M1 := by
    intro m k M1 hk hp h76 h77 g1 g0
    unfold F_xs_order_41 F_xg_setStack
    rw [if_neg (by omega), h76]
    refine X_behindRow (hR.kp hp) hO.1 (by rw [h77]; unfold rvl; rw [hp.m]; exact hO.v hR ha hs k (by omega)) ?_
    rw [olt_kp hp.m (p := orb n (ogr M a n) k) (by rw [h77]; exact hO.a hs k (by omega)), wE (by omega)]
    have hv := hO.v hR ha (s' := msr M a) (p := fun _ => 0) (fun _ _ _ => rfl) k (by omega)
    refine X_fits (hR.kp hp) (olt_ok hR hv) ?_
    rw [fpb_kp hp.m, ite01]
    by_cases q : odp M n (ogr M a n) k = true
    · rw [if_pos (show fpb M (olt M n (orb n (ogr M a n) k)) = true from q), h76]
      have e := g1 q
      subst e
      refine ⟨ha, ⟨by omega, by omega, by omega, by omega, by omega⟩, ha, ?_⟩
      exact H1 q M1 hp (by rw [h77]; exact hO.a hs k (by omega))
    · rw [if_neg (show ¬ fpb M (olt M n (orb n (ogr M a n) k)) = true from q)]
      exact g0 (Bool.eq_false_iff.mpr q)
  intro m
  induction m with
  | zero =>
    intro k M1 hk hp h76 h77
    have e : k = k0 := by omega
    subst e
    refine key 0 k M1 hk hp h76 h77 (fun _ => rfl) (fun q => ?_)
    obtain ⟨z1, z2⟩ := H0 q
    rw [← stc_id M1 77, h77]
    refine X_advance hn6 h76 (fun r => ?_) (fun r => ?_)
    · have := hK.2.2
      rw [show K - 1 = k by omega] at this
      omega
    · rw [if_pos rfl]
      exact z2 _ (hp.st nk77)
  | succ m ih =>
    intro k M1 hk hp h76 h77
    have hf := hn k (by omega)
    refine key (m + 1) k M1 hk hp h76 h77 (fun q => by rw [hf] at q; cases q) (fun q => ?_)
    rw [← stc_id M1 77, h77]
    refine X_advance hn6 h76 (fun r => ?_) (fun r => ?_)
    · rw [if_neg (by decide)]
      exact ih (k + 1) _ (by omega) (hp.st nk77) (by rw [stc_ne (by decide)]; exact h76) stc_row
    · have := hK.2.1 k (by omega)
      omega
theorem L_xm_order42 {Q : Int → cM → Prop} {a : Int} {n : Nat} (hs : 0 ≤ a ∧ a < 4) (hn : n ≤ 6) : ∀ (m k : Nat) (M : cM), k + m = n → (∀ M' : cM, (∀ c j, c ≠ 101 → M' c j = M c j) → (∀ j : Int, j < 45 + 7 * a + k ∨ 45 + 7 * a + n ≤ j → M' 101 j = M 101 j) → (∀ i : Int, k ≤ i → i < n → M' 101 (45 + 7 * a + i) = M 105 i) → Q 1 M') → F_xm_order_42 Q (m + 1) a n k M := by
  intro m
  induction m with
  | zero =>
    intro k M hk H
    unfold F_xm_order_42
    rw [if_pos (by omega)]
    exact H M (fun _ _ _ => rfl) (fun _ _ => rfl) (fun j j0 j1 => by omega)
  | succ m ih =>
    intro k M hk H
    unfold F_xm_order_42
    rw [if_neg (by omega), wE (by omega), ix45 hs (by omega)]
    refine ⟨by omega, by omega, ?_⟩
    refine ih (k + 1) _ (by omega) (fun M' a1 a2 a3 => H M' (fun c j hc => ?_) (fun j hj => ?_) (fun i i0 i1 => ?_))
    · rw [a1 c j hc, wr_ne hc]
    · rw [a2 j (by omega), wr_nj (by omega)]
    · by_cases e : i = k
      · subst e
        rw [a2 _ (by omega), wr_eq]
      · rw [a3 i (by omega) i1, wr_ne (by decide)]
theorem Kp.fin {M M' : cM} {k : Int} (h : Kp M M') (hk : 0 ≤ k ∧ k < 7) : Kp (wr M 104 k (w32 (M 104 k + 1))) (wr M' 104 k (w32 (M' 104 k + 1))) := fun c j hc => by
  rw [wr_at, wr_at, h 104 k (by unfold keep; omega)]
  by_cases q : c = 104 ∧ j = k
  · rw [if_pos q, if_pos q]
  · rw [if_neg q, if_neg q]; exact h c j hc
theorem L_xm_order {Q : Int → cM → Prop} {M : cM} {a : Int} {n K : Nat} {s' p : Int → Int} (hR : RR M) (ha : 0 ≤ a ∧ a < 4) (hO : OK M a n K) (hs : agr n (msr M a) s') {M0 : cM} (e0 : ∀ j, M0 101 j = M 101 j) {k0 : Nat} (hk0 : k0 < K) (hn : ∀ j, j < k0 → odp M n (ogr M a n) j = false) (H1 : odp M n (ogr M a n) k0 = true → ∀ M', Lo M0 M' → agr n (M' 105) (orb n (ogr M a n) k0) → ∃ e42, F_xm_order_42 Q e42 a n 0 M') (H0 : odp M n (ogr M a n) k0 = false → k0 + 1 = K ∧ ∀ M', Lo M0 M' → F_xm_finds (fun x10 M9 => Q x10 M9) (-1000004) M') : ∀ (m k : Nat) (M1 : cM), k + m = k0 → Lo M0 M1 → M1 105 = orb n (srt s' p n) k → F_xm_order_27 Q (m + 2) a n 1 M1 := by
  have hK7 := hO.2.2.1
  have hn6 := hO.1
  have hK := hO.2.2.2 s' p hs
  have key : ∀ (m k : Nat) (M1 : cM), k + m = k0 → Lo M0 M1 → M1 105 = orb n (srt s' p n) k → (odp M n (ogr M a n) k = true → k = k0) → (odp M n (ogr M a n) k = false → ∀ M', Lo M0 M' → M' 105 = orb n (srt s' p n) k → F_xm_nextOrder (fun x20 M19 => F_xm_order_27 Q (m + 1) a n x20 M19) n M') → F_xm_order_27 Q (m + 2) a n 1 M1 := by
    intro m k M1 hk hp h105 g1 g0
    unfold F_xm_order_27
    rw [if_neg (by decide)]
    refine Y_isFit hR (fun j => by rw [hp.m, e0]) hO.1 (by rw [h105]; exact hO.v hR ha hs k (by omega)) (fun M2 L2 => ?_)
    rw [olt_kp (fun _ => rfl) (p := orb n (ogr M a n) k) (by rw [h105]; exact hO.a hs k (by omega)), ite01]
    have g105 : M2 105 = orb n (srt s' p n) k := by rw [← h105]; funext j; exact L2.at (by decide) j
    by_cases q : odp M n (ogr M a n) k = true
    · rw [if_pos (show fpb M (olt M n (orb n (ogr M a n) k)) = true from q)]
      have e := g1 q
      subst e
      exact H1 q M2 (hp.tr L2.lo) (by rw [g105]; exact hO.a hs k (by omega))
    · rw [if_neg (show ¬ fpb M (olt M n (orb n (ogr M a n) k)) = true from q)]
      exact g0 (Bool.eq_false_iff.mpr q) M2 (hp.tr L2.lo) g105
  intro m
  induction m with
  | zero =>
    intro k M1 hk hp h105
    have e : k = k0 := by omega
    subst e
    refine key 0 k M1 hk hp h105 (fun _ => rfl) (fun q M' hp' h' => ?_)
    obtain ⟨z1, z2⟩ := H0 q
    rw [← stc_id M' 105, h']
    refine Y_nextOrder hn6 (fun r => ?_) (fun r => ?_)
    · have := hK.2.2
      rw [show K - 1 = k by omega] at this
      omega
    · unfold F_xm_order_27
      rw [if_pos rfl]
      exact z2 _ hp'.st
  | succ m ih =>
    intro k M1 hk hp h105
    have hf := hn k (by omega)
    refine key (m + 1) k M1 hk hp h105 (fun q => by rw [hf] at q; cases q) (fun q M' hp' h' => ?_)
    rw [← stc_id M' 105, h']
    refine Y_nextOrder hn6 (fun r => ?_) (fun r => ?_)
    · exact ih (k + 1) _ (by omega) hp'.st stc_row
    · have := hK.2.1 k (by omega)
      omega
theorem Z_order {P : Int → Int → cM → Prop} {M : cM} {a : Int} (hR : RR M) (H : ∀ r M', RR M' → P r r M') : F_xs_order (fun x M1 => F_xm_order (fun y M2 => P x y M2) a M1) a M := by
  unfold F_xs_order
  rw [E_xs_isStack, ite01]
  by_cases h1 : 0 ≤ a ∧ a < 4
  rotate_left
  · rw [if_neg h1]
    refine Z_err 0 (by decide) (by decide) hR (fun M1 e1 hR1 => ?_)
    unfold F_xm_order
    try dsimp only
    rw [E_xm_isStack, ite01, if_neg h1, E_xm_fin 0 (by decide) (by decide)]
    exact H _ _ hR1
  obtain ⟨n, K, hO⟩ := hR.ok h1
  have hn6 := hO.1
  have h19 := hR.h19 h1
  have hK := hO.g
  rw [if_pos h1, h19.1, hO.2.1]
  refine ⟨h1, h1, X_start hO.1 (by omega) ?_⟩
  have hs := agr_src (M1 := wr M 76 1 n) hR h1 hO (fun j => wr_ne (by omega))
  have hp0 : Kp M (stc (wr M 76 1 n) 77 (srt ((wr M 76 1 n) (15 + a)) ((wr M 76 1 n) 77) n)) := ((Kp.rf M).w (nk76 _)).st nk77
  have mdl : ∀ (Q : Int → cM → Prop) (M1 : cM), (∀ j, M1 101 j = M 101 j) → (∃ e27, F_xm_order_27 Q e27 a n 1 (stc M1 105 (srt (msr M1 a) (M1 105) n))) → F_xm_order Q a M1 := by
    intro Q M1 e101 G
    unfold F_xm_order
    rw [E_xm_isStack, ite01, if_pos h1, E_xm_manyIn h1, e101, hO.2.1]
    exact Y_firstOrder h1 hO.1 (by rw [e101, hO.2.1]) G
  rcases lst (odp M n (ogr M a n)) K with ⟨k0, k1, k2, k3⟩ | hnone
  · refine ⟨_, L_xs_order hR h1 hO hs k1 k3 (fun _ M1 hp ha1 => ?_) (fun q => by rw [k2] at q; cases q) k0 0 _ (by omega) hp0 (by rw [stc_ne (by decide), wr_eq]) stc_row⟩
    have eK : ∀ c j, c ≠ 10 + 9 → c ≠ 10 + 5 + a → (wr (cpyM M1 77 0 (10 + 5 + a) 0 n) (10 + 9) a n) c j = M1 c j := fun c j q1 q2 => by rw [wr_ne q1, cpyM_ne q2]
    have e101 : ∀ j, (wr (cpyM M1 77 0 (10 + 5 + a) 0 n) (10 + 9) a n) 101 j = M 101 j := fun j => by rw [eK _ _ (by decide) (by omega), hp.m]
    refine mdl _ _ e101 ?_
    have hR1 := hR.kp hp
    have hs1 : agr n (msr M a) (msr (wr (cpyM M1 77 0 (10 + 5 + a) 0 n) (10 + 9) a n) a) := fun i _ _ => (e101 _).symm
    have hv := hO.v hR h1 (s' := msr M a) (p := fun _ => 0) (fun _ _ _ => rfl) k0 k1
    refine ⟨_, L_xm_order hR h1 hO hs1 (M0 := wr (cpyM M1 77 0 (10 + 5 + a) 0 n) (10 + 9) a n) e101 k1 k3 (fun _ M2 hl ha2 => ?_) (fun q => by rw [k2] at q; cases q) k0 0 _ (by omega) (Lo.rf _).st stc_row⟩
    refine ⟨_, L_xm_order42 h1 hn6 n 0 M2 (by omega) (fun M3 b1 b2 b3 => ?_)⟩
    have eA : ∀ c j, ¬ (c = 100 ∧ (j = 6 ∨ j = 7)) → c ≠ 105 → c ≠ 101 → M3 c j = (wr (cpyM M1 77 0 (10 + 5 + a) 0 n) (10 + 9) a n) c j := fun c j q1 q2 q3 => by rw [b1 c j q3, hl c j q1 q2]
    have hSC : SC 10 101 M3 := by
      refine hR.1.stk (st := a) (h := n) (by decide) h1 (fun c j c1 c2 c3 c4 => ?_) (fun j hj => ?_) ⟨?_, ?_, by omega, by omega⟩ (fun i i0 i1 => ?_)
      · rw [eA c j (by omega) (by omega) (by omega), wr_at, if_neg c4, cpyM_ne c3]
        exact hp c j (by unfold keep; omega)
      · rw [b2 j (by omega), hl.m, e101]
      · rw [eA _ _ (by omega) (by decide) (by decide), wr_eq]
      · rw [b2 _ (by omega), hl.m, e101, hO.2.1]
      · rw [eA _ _ (by omega) (by omega) (by omega), wr_ne (by omega), cpyM_i0 ⟨i0, i1⟩, b3 i (by omega) i1, ha1 i i0 i1, ha2 i i0 i1]
        exact ⟨rfl, hv i i0 i1⟩
    refine H _ _ (hR.sc hSC (fun c j hk h3 h4 => ?_))
    rw [eA c j (fun q => by unfold keep at hk; omega) (fun q => by unfold keep at hk; omega) h4, eK c j (by omega) (by omega)]
    exact hp c j hk
  · refine ⟨_, L_xs_order hR h1 hO hs (k0 := K - 1) (by have := hK.1; omega) (fun j hj => hnone j (by omega)) (fun q => by rw [hnone _ (by have := hK.1; omega)] at q; cases q) (fun _ => ⟨by have := hK.1; omega, fun M1 hp => ?_⟩) (K - 1) 0 _ (by omega) hp0 (by rw [stc_ne (by decide), wr_eq]) stc_row⟩
    refine Z_err 3 (by decide) (by decide) (hR.kp hp) (fun M2 e2 hR2 => ?_)
    have e101 : ∀ j, M2 101 j = M 101 j := fun j => by rw [e2 _ _ (by decide), hp.m]
    refine mdl _ _ e101 ?_
    have hs1 : agr n (msr M a) (msr M2 a) := fun i _ _ => (e101 _).symm
    refine ⟨_, L_xm_order hR h1 hO hs1 (M0 := M2) e101 (k0 := K - 1) (by have := hK.1; omega) (fun j hj => hnone j (by omega)) (fun q => by rw [hnone _ (by have := hK.1; omega)] at q; cases q) (fun _ => ⟨by have := hK.1; omega, fun M3 hl => ?_⟩) (K - 1) 0 _ (by omega) (Lo.rf _).st stc_row⟩
    rw [E_xm_fin 3 (by decide) (by decide)]
    exact H _ _ (hR2.kp (hl.kp.fin (by decide)))
