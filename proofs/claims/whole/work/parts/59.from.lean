/-! from, count, as. -/
def rws (A B : cM) (s : Int) : Prop := A (90 + 2 * s) 1 = B 111 s ∧ (0 ≤ B 111 s ∧ B 111 s ≤ 40) ∧ ∀ i, 0 ≤ i → i < B 111 s → A ((90 + 2 * s) + 1) i = B 112 (40 * s + i)
theorem rws.lay {A B : cM} {s st n v n' p q w w' : Int} (hs : 0 ≤ s ∧ s < 4) (ht : 0 ≤ st ∧ st < 4) (h : rws A B s) : rws (wr (wr A (10 + 5 + st) n v) (10 + 9) st n') (wr (wr B 101 p w) 101 q w') s := by
  obtain ⟨h1, h2, h3⟩ := h
  have e1 : ∀ c j, 90 ≤ c → (wr (wr A (10 + 5 + st) n v) (10 + 9) st n') c j = A c j := fun c j hc => by rw [wr_ne (by omega), wr_ne (by omega)]
  have e2 : ∀ c j, 102 ≤ c → (wr (wr B 101 p w) 101 q w') c j = B c j := fun c j hc => by rw [wr_ne (by omega), wr_ne (by omega)]
  refine ⟨by rw [e1 _ _ (by omega), e2 _ _ (by decide)]; exact h1, by rw [e2 _ _ (by decide)]; exact h2, fun i i0 i1 => ?_⟩
  rw [e2 _ _ (by decide)] at i1
  rw [e1 _ _ (by omega), e2 _ _ (by decide)]
  exact h3 i i0 i1
theorem E_xm_wrong {Q : Int → cM → Prop} {a : Int} {M : cM} : F_xm_wrong Q a M = if 0 ≤ a ∧ a < 4 then ((0 ≤ a ∧ a < 4) ∧ (if M 110 a = 0 then Q (-1000006) M else Q 0 M)) else Q (-1000001) M := by
  unfold F_xm_wrong
  rw [E_xm_isOne, ite01]
theorem E_xr_isMissing {Q : Int → cM → Prop} {r : Int} {M : cM} : F_xr_isMissing Q r M = Q (if M r 0 = 0 then 1 else 0) M := by
  unfold F_xr_isMissing
  rw [narK40, narK41]
  split <;> rfl
theorem S_from {s st : Int} (hr : 0 ≤ s ∧ s < 4) (hs : 0 ≤ st ∧ st < 4) : ∀ (m n : Nat) (A B : cM), SC 10 101 (mx A B) → rws A B s → (n : Int) + m = B 111 s → ∃ (A' B' : cM) (r : Int), SC 10 101 (mx A' B') ∧ fr A A' B B' ∧ (∀ (X : cM) (Q : Int → cM → Prop), Q r (mx A' X) → F_xs_from_54 Q (m + 1) s st n n (mx A X)) ∧ (∀ (X : cM) (Q : Int → cM → Prop), Q r (mx X B') → F_xm_from_36 Q (m + 1) s st n n (mx X B)) := by
  intro m
  induction m with
  | zero =>
    intro n A B hS hw hn
    have hw1 := hw.1
    refine ⟨A, B, n, hS, fr.rf A B, fun X Q H => ?_, fun X Q H => ?_⟩
    · unfold F_xs_from_54 F_xs_from_124
      rw [mx_lt (by omega), if_pos (by omega)]; exact ⟨hr, H⟩
    · unfold F_xm_from_36
      rw [mx_ge (by decide), if_pos (by omega)]; exact ⟨hr, H⟩
  | succ m ih =>
    intro n A B hS hw hn
    obtain ⟨hw1, hw2, hw3⟩ := id hw
    have h0 := mx_n hS
    have g := mx_h19 hS hs
    have hn9 : n < 1000 := by omega
    have e3 := hw3 n (by omega) (by omega)
    generalize hv : B 112 (40 * s + (n : Int)) = v at e3
    by_cases hsh : 0 ≤ v ∧ v < B 101 0
    rotate_left
    · refine ⟨A, B, n, hS, fr.rf A B, fun X Q H => ?_, fun X Q H => ?_⟩
      · unfold F_xs_from_54 F_xs_from_124
        rw [mx_lt (by omega), if_neg (by omega), mx_lt (by omega), e3, E_xs_isSheet, ite01, mx_lt (by decide), h0.1, if_neg hsh]
        exact ⟨hr, hr, by omega, H⟩
      · unfold F_xm_from_36 F_xm_from_80
        rw [mx_ge (by decide), if_neg (by omega), w32_e (x := 40 * s) (by omega) (by omega), w32_e (x := 40 * s + (n : Int)) (by omega) (by omega), mx_ge (by decide), hv, E_xm_isSheet (n := B 101 0) (mx_ge (by decide)) h0.2, ite01, if_neg hsh]
        exact ⟨hr, by omega, H⟩
    by_cases h6 : B 101 (44 + 7 * st) < 6
    rotate_left
    · refine ⟨A, B, n, hS, fr.rf A B, fun X Q H => ?_, fun X Q H => ?_⟩
      · unfold F_xs_from_54 F_xs_from_124
        rw [mx_lt (by omega), if_neg (by omega), mx_lt (by omega), e3, E_xs_isSheet, ite01, mx_lt (by decide), h0.1, if_pos hsh, X_hasRoom hs, ite01, if_neg (by omega)]
        exact ⟨hr, hr, by omega, H⟩
      · unfold F_xm_from_36 F_xm_from_80
        rw [mx_ge (by decide), if_neg (by omega), w32_e (x := 40 * s) (by omega) (by omega), w32_e (x := 40 * s + (n : Int)) (by omega) (by omega), mx_ge (by decide), hv, E_xm_isSheet (n := B 101 0) (mx_ge (by decide)) h0.2, ite01, if_pos hsh, X_manyIn hs, if_pos (by omega)]
        exact ⟨hr, by omega, H⟩
    have hS1 := mx_lay (st := st) (v := v) (n := B 101 (44 + 7 * st)) hS hs rfl h6 hsh
    obtain ⟨A', B', r, q1, q2, q3, q4⟩ := ih (n + 1) _ _ hS1 (hw.lay hr hs) (by rw [wr_ne (by decide), wr_ne (by decide)]; omega)
    refine ⟨A', B', r, q1, (fr_lay hs).tr q2, fun X Q H => ?_, fun X Q H => ?_⟩
    · have := q3 X Q H
      unfold F_xs_from_54
      rw [mx_lt (by omega), if_neg (by omega), mx_lt (by omega), e3, E_xs_isSheet, ite01, mx_lt (by decide), h0.1, if_pos hsh, X_hasRoom hs, ite01, if_pos (by omega), wE hn9]
      refine ⟨hr, hr, by omega, ?_⟩
      exact X_put hs (n := B 101 (44 + 7 * st)) g.1 (by omega) this
    · have := q4 X Q H
      unfold F_xm_from_36
      rw [mx_ge (by decide), if_neg (by omega), w32_e (x := 40 * s) (by omega) (by omega), w32_e (x := 40 * s + (n : Int)) (by omega) (by omega), mx_ge (by decide), hv, E_xm_isSheet (n := B 101 0) (mx_ge (by decide)) h0.2, ite01, if_pos hsh, X_manyIn hs, if_neg (by omega), wE hn9]
      refine ⟨hr, by omega, ?_⟩
      exact X_lays hs (n := B 101 (44 + 7 * st)) rfl (by omega) this
theorem Z_from {P : Int → Int → cM → Prop} {M : cM} {a b : Int} (hR : RR M) (H : ∀ r M', RR M' → P r r M') : F_xs_from (fun x M1 => F_xm_from (fun y M2 => P x y M2) a b M1) a b M := by
  unfold F_xs_from
  rw [E_xs_within, ite01]
  by_cases h1 : 0 ≤ a ∧ a < 4
  rotate_left
  · rw [if_neg h1]
    refine Z_err 0 (by decide) (by decide) hR (fun M1 e1 hR1 => ?_)
    unfold F_xm_from
    try dsimp only
    rw [E_xm_wrong, if_neg h1, if_neg (by decide), E_xm_fin 0 (by decide) (by decide)]
    exact H _ _ hR1
  have hro := hR.2.2.2.2.1 a h1.1 h1.2
  rw [if_pos h1, E_xr_isMissing, ite01]
  refine ⟨h1, ?_⟩
  by_cases h2 : M (90 + 2 * a) 0 = 0
  · rw [if_pos h2]
    refine Z_err 5 (by decide) (by decide) hR (fun M1 e1 hR1 => ?_)
    unfold F_xm_from
    try dsimp only
    rw [E_xm_wrong, if_pos h1, e1 110 a (by decide), ← hro.1.1, if_pos h2, if_neg (by decide), E_xm_fin 5 (by decide) (by decide)]
    exact ⟨h1, H _ _ hR1⟩
  rw [if_neg h2, E_xs_isStack, ite01]
  by_cases h3 : 0 ≤ b ∧ b < 4
  rotate_left
  · rw [if_neg h3]
    refine Z_err 0 (by decide) (by decide) hR (fun M1 e1 hR1 => ?_)
    unfold F_xm_from
    try dsimp only
    rw [E_xm_wrong, if_pos h1, e1 110 a (by decide), ← hro.1.1, if_neg h2, if_pos rfl, E_xm_isStack, ite01, if_neg h3, E_xm_fin 0 (by decide) (by decide)]
    exact ⟨h1, H _ _ hR1⟩
  rw [if_pos h3]
  obtain ⟨A', B', r, q1, q2, q3, q4⟩ := S_from h1 h3 (M 111 a).toNat 0 M M (by rw [mx_self]; exact hR.1) ⟨hro.2.1.1, hro.2.1.2, fun i i0 i1 => by have := hro.2.2 i i0 i1; rw [← this, show 90 + 2 * a + 1 = 91 + 2 * a by omega]⟩ (by have := hro.2.1.2; omega)
  have c1 := q3 M (fun x M1 => F_xm_from (fun y M2 => P x y M2) a b M1)
  rw [mx_self] at c1
  refine ⟨_, c1 ?_⟩
  unfold F_xm_from
  try dsimp only
  rw [E_xm_wrong, if_pos h1, mx_ge (by decide), ← hro.1.1, if_neg h2, if_pos rfl, E_xm_isStack, ite01, if_pos h3]
  exact ⟨h1, _, q4 A' _ (H _ _ (hR.fr q2 q1))⟩
theorem ssum_eq {f g : Int → Int} : ∀ n : Nat, (∀ i : Nat, i < n → f i = g i) → ssum f n = ssum g n
  | 0, _ => rfl
  | n + 1, h => by
    unfold ssum
    rw [ssum_eq n (fun i hi => h i (Nat.lt_succ_of_lt hi)), h n (Nat.lt_succ_self n)]
theorem ssum_R (f : Int → Int) : ∀ n : Nat, iR (ssum f n)
  | 0 => iR_0
  | _ + 1 => w32_R _
theorem ssum_0 {f : Int → Int} {n : Nat} (h : f n = 0) : ssum f (n + 1) = ssum f n := by
  show w32 (ssum f n + f n) = ssum f n
  rw [h, Int.add_zero, w32_id (ssum_R f n)]
theorem ssum_1 {f : Int → Int} {n : Nat} {v : Int} (h : f n = v) : ssum f (n + 1) = w32 (ssum f n + v) := by
  show w32 (ssum f n + f n) = _
  rw [h]
theorem L_xg_sis {Q : Int → cM → Prop} {M : cM} (H : Q (ssum (M (10 + 9)) 4) M) : ∀ (m n : Nat), n + m = 4 → F_xg_sheetsInStacks_4 Q 10 (m + 1) (ssum (M (10 + 9)) n) n M := by
  intro m
  induction m with
  | zero =>
    intro n hn
    unfold F_xg_sheetsInStacks_4
    rw [if_pos (by omega)]
    rw [show n = 4 by omega]; exact H
  | succ m ih =>
    intro n hn
    have := ih (n + 1) (by omega)
    unfold F_xg_sheetsInStacks_4
    rw [if_neg (by omega), wE (by omega)]
    exact ⟨by omega, this⟩
theorem L_xm_sis {Q : Int → cM → Prop} {M : cM} (H : Q (ssum (fun k => M 101 (44 + 7 * k)) 4) M) : ∀ (m n : Nat), n + m = 4 → F_xm_count_53 Q (m + 1) (ssum (fun k => M 101 (44 + 7 * k)) n) n M := by
  intro m
  induction m with
  | zero =>
    intro n hn
    unfold F_xm_count_53
    rw [if_pos (by omega)]
    rw [show n = 4 by omega]; exact H
  | succ m ih =>
    intro n hn
    have := ih (n + 1) (by omega)
    unfold F_xm_count_53
    rw [if_neg (by omega), E_xm_manyIn (by omega), wE (by omega)]
    exact this
def spu (f : Int → Int) (k : Int) : Int := if f k < 0 then 0 else 1
theorem L_xg_spu {Q : Int → cM → Prop} {M : cM} (H : Q (ssum (spu (M (10 + 12))) 10) M) : ∀ (m n : Nat), n + m = 10 → F_xg_spotsInUse_4 Q 10 (m + 1) (ssum (spu (M (10 + 12))) n) n M := by
  intro m
  induction m with
  | zero =>
    intro n hn
    unfold F_xg_spotsInUse_4
    rw [if_pos (by omega)]
    rw [show n = 10 by omega]; exact H
  | succ m ih =>
    intro n hn
    have := ih (n + 1) (by omega)
    unfold F_xg_spotsInUse_4 F_xg_spotsInUse_22
    rw [if_neg (by omega), wE (by omega)]
    refine ⟨by omega, ?_⟩
    by_cases h : M (10 + 12) n < 0
    · rw [if_pos h]
      rw [ssum_0 (by unfold spu; rw [if_pos h])] at this
      exact this
    · rw [if_neg h]
      rw [ssum_1 (v := 1) (by unfold spu; rw [if_neg h])] at this
      exact this
theorem L_xm_spu {Q : Int → cM → Prop} {M : cM} (H : Q (ssum (spu (fun k => M 101 (72 + k))) 10) M) : ∀ (m n : Nat), n + m = 10 → F_xm_count_102 Q (m + 1) (ssum (spu (fun k => M 101 (72 + k))) n) n M := by
  intro m
  induction m with
  | zero =>
    intro n hn
    unfold F_xm_count_102
    rw [if_pos (by omega)]
    rw [show n = 10 by omega]; exact H
  | succ m ih =>
    intro n hn
    have := ih (n + 1) (by omega)
    unfold F_xm_count_102 F_xm_count_126
    rw [if_neg (by omega), wE (by omega), w32_e (x := 72 + (n : Int)) (by omega) (by omega)]
    refine ⟨by omega, ?_⟩
    by_cases h : 0 ≤ M 101 (72 + (n : Int))
    · rw [if_pos h]
      rw [ssum_1 (v := 1) (by unfold spu; exact if_neg (fun q => by have : M 101 (72 + (n : Int)) < 0 := q; omega))] at this
      exact this
    · rw [if_neg h]
      rw [ssum_1 (v := 0) (by unfold spu; exact if_pos (show M 101 (72 + (n : Int)) < 0 by omega))] at this
      exact this
theorem RR.spot {M : cM} (h : RR M) {k : Int} (hk : 0 ≤ k ∧ k < 10) : M (10 + 12) k = M 101 (72 + k) ∧ -1 ≤ M 101 (72 + k) ∧ M 101 (72 + k) < M 101 0 := h.1.2.2.2.2.2.2.2.2.2.2 k hk.1 hk.2
theorem Z_count {P : Int → Int → cM → Prop} {M : cM} {a : Int} (hR : RR M) (H : ∀ r M', RR M' → P r r M') : F_xs_count (fun x M1 => F_xm_count (fun y M2 => P x y M2) a M1) a M := by
  unfold F_xs_count
  by_cases h0 : a = 0
  · rw [if_pos h0]
    unfold F_xm_count
    try dsimp only
    rw [if_pos h0, hR.n10.1]
    exact H _ _ hR
  rw [if_neg h0]
  by_cases h1 : a = 1
  · rw [if_pos h1]
    unfold F_xg_sheetsInStacks
    refine ⟨_, L_xg_sis ?_ 4 0 (by omega)⟩
    unfold F_xm_count
    try dsimp only
    rw [if_neg h0, if_pos h1]
    refine ⟨_, L_xm_sis ?_ 4 0 (by omega)⟩
    rw [ssum_eq 4 (f := M (10 + 9)) (g := fun k => M 101 (44 + 7 * k)) (fun i hi => (hR.h19 (k := i) (by omega)).1)]
    exact H _ _ hR
  rw [if_neg h1]
  by_cases h2 : a = 2
  · rw [if_pos h2]
    unfold F_xm_count
    try dsimp only
    rw [if_neg h0, if_neg h1, if_pos h2, hR.1.2.2.2.2.2.1.1]
    exact H _ _ hR
  rw [if_neg h2]
  by_cases h3 : a = 3
  · rw [if_pos h3]
    unfold F_xm_count
    try dsimp only
    rw [if_neg h0, if_neg h1, if_neg h2, if_pos h3, hR.ld.1]
    exact H _ _ hR
  rw [if_neg h3]
  by_cases h4 : a = 4
  · rw [if_pos h4]
    unfold F_xm_count
    try dsimp only
    rw [if_neg h0, if_neg h1, if_neg h2, if_neg h3, if_pos h4, hR.2.2.2.1.1.1]
    exact H _ _ hR
  rw [if_neg h4]
  by_cases h5 : a = 5
  · rw [if_pos h5]
    unfold F_xm_count
    try dsimp only
    rw [if_neg h0, if_neg h1, if_neg h2, if_neg h3, if_neg h4, if_pos h5, hR.1.2.2.2.2.1]
    exact H _ _ hR
  rw [if_neg h5]
  by_cases h6 : a = 6
  · rw [if_pos h6]
    unfold F_xg_spotsInUse
    refine ⟨_, L_xg_spu ?_ 10 0 (by omega)⟩
    unfold F_xm_count
    try dsimp only
    rw [if_neg h0, if_neg h1, if_neg h2, if_neg h3, if_neg h4, if_neg h5, if_pos h6]
    refine ⟨_, L_xm_spu ?_ 10 0 (by omega)⟩
    rw [ssum_eq 10 (f := spu (M (10 + 12))) (g := spu (fun k => M 101 (72 + k))) (fun i hi => by unfold spu; rw [(hR.spot (k := i) (by omega)).1])]
    exact H _ _ hR
  rw [if_neg h6]
  refine Z_err 0 (by decide) (by decide) hR (fun M1 e1 hR1 => ?_)
  unfold F_xm_count
  try dsimp only
  rw [if_neg h0, if_neg h1, if_neg h2, if_neg h3, if_neg h4, if_neg h5, if_neg h6, E_xm_fin 0 (by decide) (by decide)]
  exact H _ _ hR1
theorem U_st {Q : Int → cM → Prop} {n : Nat} {up k l : Int} {M : cM} (hk : 0 ≤ k ∧ k < 7) (hl : 0 ≤ l ∧ l < 7) (ht : M 1001 (-1) = 7) (H1 : k = up → Q 1 M) (H0 : k ≠ up → F_xs_isUnder_4 Q n up (M 1001 k) (l + 1) M) : F_xs_isUnder_4 Q (n + 1) up k l M := by
  unfold F_xs_isUnder_4
  rw [if_neg (by omega), E_xs_within, ite01, if_pos hk]
  by_cases h : k = up
  · rw [if_pos h, narK41]; exact H1 h
  · rw [if_neg h, ht, w32_e (by omega) (by omega)]; exact ⟨hk, H0 h⟩
theorem U_en {Q : Int → cM → Prop} {n : Nat} {up k l : Int} {M : cM} (hk : k = -1) (hl : 0 ≤ l ∧ l < 7) (H0 : Q 0 M) : F_xs_isUnder_4 Q (n + 1) up k l M := by
  unfold F_xs_isUnder_4 F_xs_isUnder_38
  rw [if_neg (by omega), E_xs_within, ite01, if_neg (by omega), narK40]
  exact H0
theorem X_isUnder {Q : Int → cM → Prop} {own up : Int} {M : cM} (hT : TB M) (ho : 0 ≤ own ∧ own ≤ 6) (H1 : (up = 0 ∨ own = up ∨ (up = 1 ∧ own = 5) ∨ (up = 2 ∧ (own = 3 ∨ own = 6))) → Q 1 M) (H0 : ¬ (up = 0 ∨ own = up ∨ (up = 1 ∧ own = 5) ∨ (up = 2 ∧ (own = 3 ∨ own = 6))) → Q 0 M) : F_xs_isUnder Q own up M := by
  obtain ⟨-, ⟨tn, t0, t1, t2, t3, t4, t5, t6⟩, -⟩ := hT
  unfold F_xs_isUnder
  have hc : own = 0 ∨ own = 1 ∨ own = 2 ∨ own = 3 ∨ own = 4 ∨ own = 5 ∨ own = 6 := by omega
  have z : ∀ (n : Nat) (l : Int), 0 ≤ l ∧ l < 6 → (up ≠ 0 → Q 0 M) → (up = 0 → Q 1 M) → F_xs_isUnder_4 Q (n + 2) up 0 l M := fun n l hl g0 g1 => U_st (by decide) (by omega) tn (fun h => g1 h.symm) (fun h => U_en t0 (by omega) (g0 (fun q => h q.symm)))
  refine ⟨8, ?_⟩
  rcases hc with rfl | rfl | rfl | rfl | rfl | rfl | rfl
  · exact z 6 0 (by decide) (fun h => H0 (by omega)) (fun h => H1 (by omega))
  · refine U_st (by decide) (by decide) tn (fun h => H1 (by omega)) (fun h => ?_)
    rw [t1]
    exact z 5 _ (by decide) (fun g => H0 (by omega)) (fun g => H1 (by omega))
  · refine U_st (by decide) (by decide) tn (fun h => H1 (by omega)) (fun h => ?_)
    rw [t2]
    exact z 5 _ (by decide) (fun g => H0 (by omega)) (fun g => H1 (by omega))
  · refine U_st (by decide) (by decide) tn (fun h => H1 (by omega)) (fun h => ?_)
    rw [t3]
    refine U_st (by decide) (by decide) tn (fun h2 => H1 (by omega)) (fun h2 => ?_)
    rw [t2]
    exact z 4 _ (by decide) (fun g => H0 (by omega)) (fun g => H1 (by omega))
  · refine U_st (by decide) (by decide) tn (fun h => H1 (by omega)) (fun h => ?_)
    rw [t4]
    exact z 5 _ (by decide) (fun g => H0 (by omega)) (fun g => H1 (by omega))
  · refine U_st (by decide) (by decide) tn (fun h => H1 (by omega)) (fun h => ?_)
    rw [t5]
    refine U_st (by decide) (by decide) tn (fun h2 => H1 (by omega)) (fun h2 => ?_)
    rw [t1]
    exact z 4 _ (by decide) (fun g => H0 (by omega)) (fun g => H1 (by omega))
  · refine U_st (by decide) (by decide) tn (fun h => H1 (by omega)) (fun h => ?_)
    rw [t6]
    refine U_st (by decide) (by decide) tn (fun h2 => H1 (by omega)) (fun h2 => ?_)
    rw [t2]
    exact z 4 _ (by decide) (fun g => H0 (by omega)) (fun g => H1 (by omega))
theorem Y_asK {Q : Int → cM → Prop} {k b own : Int} {M : cM} (H1 : (b = 0 ∨ own = b ∨ (b = 1 ∧ own = 5) ∨ (b = 2 ∧ (own = 3 ∨ own = 6))) → Q k M) (H0 : ¬ (b = 0 ∨ own = b ∨ (b = 1 ∧ own = 5) ∨ (b = 2 ∧ (own = 3 ∨ own = 6))) → F_xm_finds (fun x16 M15 => Q x16 M15) (-1000003) M) : if b = 0 then (F_xm_as_105 Q k M) else (if own = b then (F_xm_as_105 Q k M) else (if b = 1 then (if own = 5 then (F_xm_as_105 Q k M) else (F_xm_as_87 Q b k own M)) else (F_xm_as_87 Q b k own M))) := by
  have e5 : F_xm_as_105 Q k M = Q k M := by
    unfold F_xm_as_105 F_xm_as_110
    rw [if_neg (by decide)]
  have e9 : F_xm_as_109 Q k M = F_xm_finds (fun x16 M15 => Q x16 M15) (-1000003) M := by
    unfold F_xm_as_109 F_xm_as_110
    rw [if_pos rfl]
  unfold F_xm_as_87
  rw [e5, e9]
  repeat' split
  all_goals first | exact H1 (by omega) | exact H0 (by omega)
theorem Z_as {P : Int → Int → cM → Prop} {M : cM} {a b : Int} (hR : RR M) (H : ∀ r M', RR M' → P r r M') : F_xs_as (fun x M1 => F_xm_as (fun y M2 => P x y M2) a b M1) a b M := by
  have hn := hR.n10
  unfold F_xs_as F_xs_as_18
  rw [E_xs_within, ite01]
  by_cases h1 : 0 ≤ a ∧ a < 10
  rotate_left
  · rw [if_neg h1]
    refine Z_err 0 (by decide) (by decide) hR (fun M1 e1 hR1 => ?_)
    unfold F_xm_as F_xm_as_24
    try dsimp only
    rw [E_xm_in, ite01, if_neg (by omega), E_xm_fin 0 (by decide) (by decide)]
    exact H _ _ hR1
  have hs := hR.spot h1
  rw [show (10 : Int) + 12 = 22 from rfl] at hs
  rw [if_pos h1, E_xs_within, ite01]
  by_cases h2 : 0 ≤ b ∧ b < 7
  rotate_left
  · rw [if_neg h2]
    refine Z_err 0 (by decide) (by decide) hR (fun M1 e1 hR1 => ?_)
    unfold F_xm_as F_xm_as_24
    try dsimp only
    rw [E_xm_in, ite01, if_pos (by omega), E_xm_in, ite01, if_neg (by omega), E_xm_fin 0 (by decide) (by decide)]
    exact H _ _ hR1
  rw [if_pos h2]
  refine ⟨h1, ?_⟩
  rw [E_xs_isSheet, ite01]
  by_cases h3 : 0 ≤ M 22 a ∧ M 22 a < M 10 0
  rotate_left
  · rw [if_neg h3]
    refine Z_err 5 (by decide) (by decide) hR (fun M1 e1 hR1 => ?_)
    unfold F_xm_as F_xm_as_24
    try dsimp only
    rw [E_xm_in, ite01, if_pos (by omega), E_xm_in, ite01, if_pos (by omega), w32_e (x := 72 + a) (by omega) (by omega), e1 101 _ (by decide), if_neg (by omega), E_xm_fin 5 (by decide) (by decide)]
    exact ⟨by omega, H _ _ hR1⟩
  rw [if_pos h3]
  refine ⟨by omega, ?_⟩
  have hk := hR.sheet (k := M 22 a) (by omega)
  refine X_isUnder hR.2.2.2.2.2.2 (by rw [hk.1]; exact hk.2.2.2.1) (fun hu => ?_) (fun hu => ?_)
  · rw [if_neg (by decide)]
    unfold F_xm_as F_xm_as_24
    try dsimp only
    rw [E_xm_in, ite01, if_pos (by omega), E_xm_in, ite01, if_pos (by omega), w32_e (x := 72 + a) (by omega) (by omega), ← hs.1, if_pos h3.1, w32_e (x := 3 * M 22 a) (by omega) (by omega), w32_e (x := 14 + 3 * M 22 a) (by omega) (by omega)]
    refine ⟨by omega, by omega, ?_⟩
    rw [← hk.1]
    exact Y_asK (fun _ => H _ _ hR) (fun q => absurd hu q)
  · rw [if_pos rfl]
    refine Z_err 2 (by decide) (by decide) hR (fun M1 e1 hR1 => ?_)
    unfold F_xm_as F_xm_as_24
    try dsimp only
    rw [E_xm_in, ite01, if_pos (by omega), E_xm_in, ite01, if_pos (by omega), w32_e (x := 72 + a) (by omega) (by omega), e1 101 _ (by decide), ← hs.1, if_pos h3.1, w32_e (x := 3 * M 22 a) (by omega) (by omega), w32_e (x := 14 + 3 * M 22 a) (by omega) (by omega), e1 101 _ (by decide)]
    refine ⟨by omega, by omega, ?_⟩
    rw [← hk.1]
    exact Y_asK (fun q => absurd q hu) (fun _ => by rw [E_xm_fin 2 (by decide) (by decide)]; exact H _ _ hR1)
