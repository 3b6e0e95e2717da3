/-! pairs, signs. -/
/-- the light behind a sheet alone -/
def sol (M : cM) (j : Nat) : Int × Int := mst M 0 j (M 101 2, M 101 3)
theorem sol_kp {M M' : cM} (h : ∀ j, M' 101 j = M 101 j) (j : Nat) : sol M' j = sol M j := by
  unfold sol
  rw [mst_kp h, h, h]
theorem sol_ok {M : cM} (hR : RR M) {j : Nat} (hj : (j : Int) < M 101 0) : lok (sol M j).1 (sol M j).2 := mst_ok (l := (M 101 2, M 101 3)) hR.1.mlok (hR.1.mk (by omega) hj)
def vie (M : cM) (t : Int) (j : Nat) : Int := zsee (sol M j).1 (sol M j).2 t
theorem vie_b {M : cM} (hR : RR M) {j : Nat} (t : Int) (hj : (j : Int) < M 101 0) : 0 ≤ vie M t j ∧ vie M t j ≤ 1000 := by
  have hl := sol_ok hR hj
  have := zsee_b (t := t) hl
  have := hl.2.1
  unfold vie
  exact ⟨by omega, by omega⟩
/-- more than the haze apart -/
def apb (v : Nat → Int) (hz : Int) (a b : Nat) : Bool := decide (hz < zabs (v a - v b))
theorem zabs_s (x y : Int) : zabs (x - y) = zabs (y - x) := by
  unfold zabs
  repeat' split
  all_goals omega
theorem apb_s (v : Nat → Int) (hz : Int) (a b : Nat) : apb v hz a b = apb v hz b a := by
  unfold apb
  rw [zabs_s]
theorem apb_r (v : Nat → Int) {hz : Int} (h : 0 ≤ hz) (a : Nat) : apb v hz a a = false := by
  unfold apb zabs
  apply decide_eq_false
  rw [Int.sub_self, if_pos (Int.le_refl _)]
  omega
theorem L_sole {Q : cM → Prop} {M : cM} {N : Nat} (hR : RR M) (hN : M 101 0 = N) (H : ∀ M', (∀ c j, c ≠ 80 → M' c j = M c j) → (∀ j : Nat, j < N → M' 80 j = encp (sol M j)) → Q M') : ∀ (m i : Nat) (M1 : cM), i + m = N → (∀ c j, c ≠ 80 → M1 c j = M c j) → (∀ j : Nat, j < i → M1 80 j = encp (sol M j)) → F_xs_reckonSoleLights_10 Q (m + 1) (encp (lampP M 10)) i M1 := by
  have hn := hR.n10
  intro m
  induction m with
  | zero =>
    intro i M1 hi e1 e2
    unfold F_xs_reckonSoleLights_10
    rw [e1 _ _ (by decide), if_pos (by omega)]
    exact H M1 e1 (fun j hj => e2 j (by omega))
  | succ m ih =>
    intro i M1 hi e1 e2
    have hp : Kp M M1 := fun c j hk => e1 c j (fun q => nk80 j (by rw [← q]; exact hk))
    have hR1 := hR.kp hp
    have e101 : ∀ j, M1 101 j = M 101 j := fun j => e1 _ _ (by decide)
    unfold F_xs_reckonSoleLights_10
    rw [e1 _ _ (by decide), if_neg (by omega), wE (by omega)]
    have hl : lok (lampP M 10).1 (lampP M 10).2 := hR.1.lk
    have e : xst M1 10 0 (i : Int) (lampP M 10) = sol M i := by
      rw [hR1.1.sp (by omega) (by rw [e101]; omega), mst_kp e101, hR.1.lmp]
      rfl
    unfold encp at ih e2 ⊢
    rw [E_bS hR1.cos hl (hR1.1.sk (by omega) (by rw [e101]; omega)), e]
    refine ⟨by omega, ih (i + 1) _ (by omega) (fun c j hc => by rw [wr_ne hc]; exact e1 c j hc) (fun j hj => ?_)⟩
    by_cases z : j = i
    · subst z; rw [wr_eq]
    · rw [wr_nj (by omega)]; exact e2 j (by omega)
theorem X_sole {Q : cM → Prop} {M : cM} {N : Nat} (hR : RR M) (hN : M 101 0 = N) (H : ∀ M', (∀ c j, c ≠ 80 → M' c j = M c j) → (∀ j : Nat, j < N → M' 80 j = encp (sol M j)) → Q M') : F_xs_reckonSoleLights Q M := by
  unfold F_xs_reckonSoleLights
  rw [E_xs_lamp hR.1.lk]
  exact ⟨_, L_sole hR hN H N 0 M (by omega) (fun _ _ _ => rfl) (fun j hj => by omega)⟩
theorem L_part35 {Q : cM → Prop} {k6 : Int → Int → Int → cM → Prop} {M M1 : cM} {t hz : Int} {N one : Nat} (hR : RR M) (hN : M 101 0 = N) (hp : Kp M M1) (h80 : ∀ j : Nat, j < N → M1 80 j = encp (sol M j)) (ht : 0 ≤ t ∧ t ≤ 11) (ho : one < N) (H : k6 t hz ((one + 1 : Nat) : Int) (wr M1 81 one ((zset (apb (vie M t) hz one) N : Nat) : Int))) : ∀ (m i : Nat), i + m = N → F_xs_reckonPartners_35 Q k6 (m + 1) t hz one (vie M t one) ((zset (apb (vie M t) hz one) i : Nat) : Int) i M1 := by
  have hn := hR.n10
  have hR1 := hR.kp hp
  have e10 : M1 10 0 = N := by rw [hp 10 0 (by unfold keep; omega), hn.1, hN]
  intro m
  induction m with
  | zero =>
    intro i hi
    unfold F_xs_reckonPartners_35
    rw [e10, if_pos (by omega), wE (by omega)]
    rw [show N = i by omega] at H
    exact ⟨by omega, H⟩
  | succ m ih =>
    intro i hi
    have ih1 := ih (i + 1) (by omega)
    have b1 := vie_b hR t (j := one) (by omega)
    have b2 := vie_b hR t (j := i) (by omega)
    unfold F_xs_reckonPartners_35 F_xs_reckonPartners_77
    rw [e10, if_neg (by omega), h80 i (by omega), wE (by omega)]
    refine ⟨by omega, ?_⟩
    unfold encp
    rw [E_xl_seenAt hR1.cos (sol_ok hR (by omega)) ht, show zsee (sol M i).1 (sol M i).2 t = vie M t i from rfl, w32_e (x := vie M t one - vie M t i) (by omega) (by omega), E_xj_abs (by omega)]
    have e : zset (apb (vie M t) hz one) (i + 1) = zset (apb (vie M t) hz one) i + if apb (vie M t) hz one i = true then 2 ^ i else 0 := rfl
    rw [e] at ih1
    by_cases q : zabs (vie M t one - vie M t i) ≤ hz
    · rw [if_pos q]
      rw [if_neg (by rw [show apb (vie M t) hz one i = false from decide_eq_false (by omega)]; decide), Nat.add_zero] at ih1
      exact ih1
    · rw [if_neg q, zset_or _ (by omega)]
      rw [if_pos (show apb (vie M t) hz one i = true from decide_eq_true (by omega))] at ih1
      exact ih1
theorem L_part6 {Q : cM → Prop} {M : cM} {t hz : Int} {N : Nat} (hR : RR M) (hN : M 101 0 = N) (ht : 0 ≤ t ∧ t ≤ 11) (H : ∀ M', Kp M M' → (∀ j : Nat, j < N → M' 81 j = ((zset (apb (vie M t) hz j) N : Nat) : Int)) → Q M') : ∀ (m i : Nat) (M1 : cM), i + m = N → Kp M M1 → (∀ j : Nat, j < N → M1 80 j = encp (sol M j)) → (∀ j : Nat, j < i → M1 81 j = ((zset (apb (vie M t) hz j) N : Nat) : Int)) → F_xs_reckonPartners_6 Q (m + 1) t hz i M1 := by
  have hn := hR.n10
  intro m
  induction m with
  | zero =>
    intro i M1 hi hp h80 h81
    unfold F_xs_reckonPartners_6
    rw [hp 10 0 (by unfold keep; omega), if_pos (by omega)]
    exact H M1 hp (fun j hj => h81 j (by omega))
  | succ m ih =>
    intro i M1 hi hp h80 h81
    have hR1 := hR.kp hp
    unfold F_xs_reckonPartners_6
    rw [hp 10 0 (by unfold keep; omega), if_neg (by omega), h80 i (by omega)]
    refine ⟨by omega, ?_⟩
    unfold encp
    rw [E_xl_seenAt hR1.cos (sol_ok hR (by omega)) ht, show zsee (sol M i).1 (sol M i).2 t = vie M t i from rfl]
    refine ⟨_, L_part35 hR hN hp h80 ht (by omega) (ih (i + 1) _ (by omega) (hp.w (nk81 _)) (fun j hj => by rw [wr_ne (by decide)]; exact h80 j hj) (fun j hj => ?_)) N 0 (by omega)⟩
    by_cases z : j = i
    · subst z; rw [wr_eq]
    · rw [wr_nj (by omega)]; exact h81 j (by omega)
theorem X_partners {Q : cM → Prop} {M : cM} {t hz : Int} {N : Nat} (hR : RR M) (hN : M 101 0 = N) (ht : 0 ≤ t ∧ t ≤ 11) (H : ∀ M', Kp M M' → (∀ j : Nat, j < N → M' 81 j = ((zset (apb (vie M t) hz j) N : Nat) : Int)) → Q M') : F_xs_reckonPartners Q t hz M := by
  unfold F_xs_reckonPartners
  exact X_sole hR hN (fun M1 e1 e2 => ⟨_, L_part6 hR hN ht H N 0 M1 (by omega) (fun c j hk => e1 c j (fun q => nk80 j (by rw [← q]; exact hk))) e2 (fun j hj => by omega)⟩)
/-- the model's signs -/
def Ls (M M' : cM) : Prop := ∀ c j, ¬ (c = 100 ∧ (j = 6 ∨ j = 7)) → c ≠ 107 → M' c j = M c j
theorem Ls.kp {M M' : cM} (h : Ls M M') : Kp M M' := fun c j hk => h c j (fun q => by unfold keep at hk; omega) (fun q => by unfold keep at hk; omega)
theorem L_findSigns {Q : cM → Prop} {M R : cM} {t : Int} {N : Nat} (hR : RR R) (eR : ∀ j, M 101 j = R 101 j) (hN : R 101 0 = N) (ht : 0 ≤ t ∧ t ≤ 11) (H : ∀ M', Ls M M' → (∀ j : Nat, j < N → M' 107 j = vie R t j) → Q M') : ∀ (m i : Nat) (M1 : cM), i + m = N → Ls M M1 → (∀ j : Nat, j < i → M1 107 j = vie R t j) → F_xm_findSigns_2 Q (m + 1) t i M1 := by
  have hn := hR.n10
  intro m
  induction m with
  | zero =>
    intro i M1 hi hp h107
    unfold F_xm_findSigns_2
    rw [hp.kp.m, eR, if_pos (by omega)]
    exact H M1 hp (fun j hj => h107 j (by omega))
  | succ m ih =>
    intro i M1 hi hp h107
    unfold F_xm_findSigns_2
    rw [hp.kp.m, eR, if_neg (by omega), wE (by omega)]
    refine Y_lights (fun M2 L2 m2 => ?_)
    have e101 : ∀ j, M2 101 j = R 101 j := fun j => by rw [L2.at (by decide) j, hp.kp.m, eR]
    rw [hp.kp.m, hp.kp.m, eR, eR] at m2
    have hl2 : lok (M2 100 6) (M2 100 7) := by
      have q6 : M2 100 6 = R 101 2 := congrArg Prod.fst m2
      have q7 : M2 100 7 = R 101 3 := congrArg Prod.snd m2
      rw [q6, q7]; exact hR.1.mlok
    refine Y_goes hl2 (mok_kp e101 (hR.1.mk (by omega) (by omega))) (fun M3 L3 m3 => ?_)
    rw [mst_kp e101, m2] at m3
    have m6 : M3 100 6 = (sol R i).1 := congrArg Prod.fst m3
    have m7 : M3 100 7 = (sol R i).2 := congrArg Prod.snd m3
    rw [Y_seenAt (by rw [m6, m7]; exact sol_ok hR (by omega)) ht, m6, m7]
    refine ⟨by omega, ih (i + 1) _ (by omega) (fun c j h1 h2 => by rw [wr_ne h2, L3 c j h1, L2 c j h1]; exact hp c j h1 h2) (fun j hj => ?_)⟩
    by_cases z : j = i
    · subst z; rw [wr_eq]; rfl
    · rw [wr_nj (by omega), L3.at (by decide), L2.at (by decide)]; exact h107 j (by omega)
theorem Y_findSigns {Q : cM → Prop} {M R : cM} {t : Int} {N : Nat} (hR : RR R) (eR : ∀ j, M 101 j = R 101 j) (hN : R 101 0 = N) (ht : 0 ≤ t ∧ t ≤ 11) (H : ∀ M', Ls M M' → (∀ j : Nat, j < N → M' 107 j = vie R t j) → Q M') : F_xm_findSigns Q t M := by
  unfold F_xm_findSigns
  exact ⟨_, L_findSigns hR eR hN ht H N 0 M (by omega) (fun _ _ _ _ => rfl) (fun j hj => by omega)⟩
theorem E_areApart {Q : Int → cM → Prop} {M : cM} {v : Nat → Int} {hz : Int} {a b : Nat} (ha : a < 10) (hb : b < 10) (h1 : M 107 a = v a) (h2 : M 107 b = v b) (b1 : 0 ≤ v a ∧ v a ≤ 1000) (b2 : 0 ≤ v b ∧ v b ≤ 1000) : F_xm_areApart Q a b hz M = Q (if apb v hz a b = true then 1 else 0) M := by
  unfold F_xm_areApart
  rw [h1, h2, w32_e (x := v a - v b) (by omega) (by omega), E_xm_size (by omega), narK40, narK41]
  have e1 : ((0 : Int) ≤ (a : Int) ∧ (a : Int) < 10) = True := eq_true (by omega)
  have e2 : ((0 : Int) ≤ (b : Int) ∧ (b : Int) < 10) = True := eq_true (by omega)
  rw [e1, e2, true_and, true_and]
  by_cases q : zabs (v a - v b) ≤ hz
  · rw [if_pos q, if_neg (by rw [show apb v hz a b = false from decide_eq_false (by omega)]; decide)]
  · rw [if_neg q, if_pos (show apb v hz a b = true from decide_eq_true (by omega))]
/-- sums -/
def suN (f : Nat → Nat) : Nat → Nat
  | 0 => 0
  | n + 1 => suN f n + f n
theorem suN_eq {f g : Nat → Nat} : ∀ n : Nat, (∀ i, i < n → f i = g i) → suN f n = suN g n
  | 0, _ => rfl
  | n + 1, h => by
    unfold suN
    rw [suN_eq n (fun i hi => h i (by omega)), h n (by omega)]
theorem suN_le {f : Nat → Nat} {c : Nat} : ∀ n : Nat, (∀ i, i < n → f i ≤ c) → suN f n ≤ c * n
  | 0, _ => Nat.zero_le _
  | n + 1, h => by
    have a := suN_le n (fun i hi => h i (by omega))
    have b := h n (by omega)
    unfold suN
    rw [Nat.mul_succ]
    omega
theorem suN_add (f : Nat → Nat) (p : Nat → Bool) : ∀ n : Nat, suN (fun a => f a + if p a = true then 1 else 0) n = suN f n + cnb p n
  | 0 => rfl
  | n + 1 => by
    unfold suN cnb
    rw [suN_add f p n]
    omega
theorem pairs_2 {p : Nat → Nat → Bool} (hs : ∀ a b, p a b = p b a) (hr : ∀ a, p a a = false) : ∀ N : Nat, suN (fun a => cnb (p a) N) N = 2 * suN (fun a => cnb (p a) a) N
  | 0 => rfl
  | N + 1 => by
    have ih := pairs_2 hs hr N
    have e1 : suN (fun a => cnb (p a) (N + 1)) (N + 1) = suN (fun a => cnb (p a) N + if p a N = true then 1 else 0) N + (cnb (p N) N + if p N N = true then 1 else 0) := rfl
    have e2 : suN (fun a => cnb (p a) a) (N + 1) = suN (fun a => cnb (p a) a) N + cnb (p N) N := rfl
    have e3 : cnb (fun a => p a N) N = cnb (p N) N := cnb_eq N (fun i _ => hs i N)
    rw [e1, e2, suN_add, hr N, if_neg (by decide), e3, ih]
    omega
theorem L_xs_pairs {Q : Int → cM → Prop} {M M1 : cM} {t hz : Int} {N : Nat} (hR : RR M) (hN : M 101 0 = N) (hp : Kp M M1) (h81 : ∀ j : Nat, j < N → M1 81 j = ((zset (apb (vie M t) hz j) N : Nat) : Int)) (H : Q ((suN (fun a => cnb (apb (vie M t) hz a) N) N / 2 : Nat) : Int) M1) : ∀ (m i : Nat), i + m = N → F_xs_pairs_34 Q (m + 1) ((suN (fun a => cnb (apb (vie M t) hz a) N) i : Nat) : Int) i M1 := by
  have hn := hR.n10
  have e10 : M1 10 0 = N := by rw [hp 10 0 (by unfold keep; omega), hn.1, hN]
  intro m
  induction m with
  | zero =>
    intro i hi
    have hb := suN_le (f := fun a => cnb (apb (vie M t) hz a) N) (c := N) i (fun j _ => cnb_le _ _)
    have hb2 : N * i ≤ 10 * 10 := Nat.mul_le_mul (by omega) (by omega)
    unfold F_xs_pairs_34
    rw [e10, if_pos (by omega), tdn (by omega), w32_e (by omega) (by omega)]
    have ei : N = i := by omega
    rw [ei] at H ⊢
    exact H
  | succ m ih =>
    intro i hi
    have hb := suN_le (f := fun a => cnb (apb (vie M t) hz a) N) (c := N) i (fun j _ => cnb_le _ _)
    have hb2 : N * i ≤ 10 * 10 := Nat.mul_le_mul (by omega) (by omega)
    have hc := cnb_le (apb (vie M t) hz i) N
    have hz1 := zset_lt (apb (vie M t) hz i) N
    have h10 : 2 ^ N ≤ 2 ^ 10 := Nat.pow_le_pow_right (by decide) (by omega)
    unfold F_xs_pairs_34
    rw [e10, if_neg (by omega), h81 i (by omega), E_bitCount (by omega), bsm_zset _ (by omega), wE (by omega), w32_e (by omega) (by omega)]
    exact ⟨by omega, ih (i + 1) (by omega)⟩
theorem L_xm_pairs45 {Q : Int → cM → Prop} {k31 : Int → Int → Int → cM → Prop} {M1 : cM} {v : Nat → Int} {hz : Int} {N a c : Nat} (hN : N ≤ 10) (ha : a < N) (hc : c ≤ 100) (h107 : ∀ j : Nat, j < N → M1 107 j = v j) (hv : ∀ j : Nat, j < N → 0 ≤ v j ∧ v j ≤ 1000) (H : k31 hz ((c + cnb (apb v hz a) a : Nat) : Int) ((a + 1 : Nat) : Int) M1) : ∀ (m b : Nat), b + m = a → F_xm_pairs_45 Q k31 (m + 1) hz ((c + cnb (apb v hz a) b : Nat) : Int) a b M1 := by
  intro m
  induction m with
  | zero =>
    intro b hb
    unfold F_xm_pairs_45
    rw [if_pos (by omega), wE (by omega)]
    have e : a = b := by omega
    rw [e] at H ⊢; exact H
  | succ m ih =>
    intro b hb
    have ih1 := ih (b + 1) (by omega)
    have hcb := cnb_le (apb v hz a) b
    unfold F_xm_pairs_45 F_xm_pairs_70
    rw [if_neg (by omega), E_areApart (v := v) (by omega) (by omega) (h107 a (by omega)) (h107 b (by omega)) (hv a (by omega)) (hv b (by omega)), ite01, wE (n := b) (by omega)]
    have e : cnb (apb v hz a) (b + 1) = cnb (apb v hz a) b + if apb v hz a b = true then 1 else 0 := rfl
    rw [e] at ih1
    by_cases q : apb v hz a b = true
    · rw [if_pos q, show c + (cnb (apb v hz a) b + 1) = c + cnb (apb v hz a) b + 1 by omega] at ih1
      rw [if_pos q, wE (by omega)]
      exact ih1
    · rw [if_neg q, Nat.add_zero] at ih1
      rw [if_neg q, Int.add_zero, w32_e (by omega) (by omega)]
      exact ih1
theorem L_xm_pairs31 {Q : Int → cM → Prop} {M1 : cM} {v : Nat → Int} {hz : Int} {N : Nat} (hN : N ≤ 10) (e0 : M1 101 0 = N) (h107 : ∀ j : Nat, j < N → M1 107 j = v j) (hv : ∀ j : Nat, j < N → 0 ≤ v j ∧ v j ≤ 1000) (H : Q ((suN (fun a => cnb (apb v hz a) a) N : Nat) : Int) M1) : ∀ (m a : Nat), a + m = N → F_xm_pairs_31 Q (m + 1) hz ((suN (fun a => cnb (apb v hz a) a) a : Nat) : Int) a M1 := by
  intro m
  induction m with
  | zero =>
    intro a ha
    unfold F_xm_pairs_31
    rw [e0, if_pos (by omega)]
    rw [show N = a by omega] at H; exact H
  | succ m ih =>
    intro a ha
    have hb := suN_le (f := fun a => cnb (apb v hz a) a) (c := N) a (fun j hj => Nat.le_trans (cnb_le _ _) (by omega))
    have hb2 : N * a ≤ 10 * 10 := Nat.mul_le_mul (by omega) (by omega)
    unfold F_xm_pairs_31
    rw [e0, if_neg (by omega)]
    exact ⟨_, L_xm_pairs45 hN (by omega) (by omega) h107 hv (ih (a + 1) (by omega)) a 0 (by omega)⟩
theorem RR.N {M : cM} (hR : RR M) : ∃ N : Nat, N ≤ 10 ∧ M 101 0 = N := by
  have hn := hR.n10
  obtain ⟨N, hN⟩ := Int.eq_ofNat_of_zero_le hn.2.1
  exact ⟨N, by omega, hN⟩
theorem Z_pairs {P : Int → Int → cM → Prop} {M : cM} {t hz : Int} (hR : RR M) (H : ∀ r M', RR M' → P r r M') : F_xs_pairs (fun x M1 => F_xm_pairs (fun y M2 => P x y M2) t hz M1) t hz M := by
  unfold F_xs_pairs F_xs_pairs_16
  rw [E_xs_within, ite01]
  by_cases h1 : 0 ≤ t ∧ t < 12
  rotate_left
  · rw [if_neg h1]
    refine Z_err 0 (by decide) (by decide) hR (fun M1 e1 hR1 => ?_)
    unfold F_xm_pairs F_xm_pairs_14
    try dsimp only
    rw [E_xm_isSlant, ite01, if_neg h1, E_xm_fin 0 (by decide) (by decide)]
    exact H _ _ hR1
  rw [if_pos h1, E_xs_isShare, ite01]
  by_cases h2 : 0 ≤ hz ∧ hz < 1001
  rotate_left
  · rw [if_neg h2]
    refine Z_err 0 (by decide) (by decide) hR (fun M1 e1 hR1 => ?_)
    unfold F_xm_pairs F_xm_pairs_14
    try dsimp only
    rw [E_xm_isSlant, ite01, if_pos h1, E_xm_isShare, ite01, if_neg h2, E_xm_fin 0 (by decide) (by decide)]
    exact H _ _ hR1
  obtain ⟨N, hN10, hN⟩ := hR.N
  rw [if_pos h2]
  refine X_partners hR hN (by omega) (fun M1 hp h81 => ?_)
  refine ⟨_, L_xs_pairs hR hN hp h81 ?_ N 0 (by omega)⟩
  rw [pairs_2 (apb_s _ _) (apb_r _ h2.1), Nat.mul_div_cancel_left _ (by decide : 0 < 2)]
  unfold F_xm_pairs
  try dsimp only
  rw [E_xm_isSlant, ite01, if_pos h1, E_xm_isShare, ite01, if_pos h2]
  refine Y_findSigns hR hp.m hN (by omega) (fun M2 hs h107 => ?_)
  refine ⟨_, L_xm_pairs31 hN10 (by rw [hs.kp.m, hp.m, hN]) h107 (fun j hj => vie_b hR t (by omega)) (H _ _ (hR.kp (hp.tr hs.kp))) N 0 (by omega)⟩
