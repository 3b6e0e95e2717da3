/-! fewest: the model's rounds, and both sides. -/
theorem L_few3 {Q : Int → cM → Prop} {k50 : Int → Int → Int → Int → Int → cM → Prop} {k64 : Int → Int → Int → Int → Int → Int → cM → Prop} {a t v A B x : Int} {M : cM} (hS : SC 10 101 M) (ha : 0 ≤ a ∧ a < 4) (ht : 0 ≤ t ∧ t ≤ 11) (hA : -1 ≤ A ∧ A < M 101 0) (hB : -1 ≤ B ∧ B < M 101 0) (H : ∀ M', Lt M M' → k64 a t v (g2 M t v (mth M a 0 (M 101 2, M 101 3)) ((M 101 0).toNat + 1) A B x) A (w32 (B + 1)) M') : ∀ (m n : Nat), (n : Int) + m = M 101 0 + 1 → ∀ M', Lt M M' → F_xm_fewest_78 Q k50 k64 (m + 1) a t v (fo (g3 M t v (mth M a 0 (M 101 2, M 101 3)) A B) n x) A B ((n : Int) - 1) M' := by
  have h0 := hS.1
  have mt := hS.mt ha
  intro m
  induction m with
  | zero =>
    intro n hn M' L
    have e1 : ∀ j, M' 101 j = M 101 j := fun j => L.at (by decide) j
    unfold F_xm_fewest_78
    rw [e1, if_pos (by omega)]
    unfold g2 at H
    rw [show (M 101 0).toNat + 1 = n by omega] at H
    exact H M' L
  | succ m ih =>
    intro n hn M' L
    have e1 : ∀ j, M' 101 j = M 101 j := fun j => L.at (by decide) j
    have next : ∀ M2, Lt M M2 → F_xm_fewest_78 Q k50 k64 (m + 1) a t v (g3 M t v (mth M a 0 (M 101 2, M 101 3)) A B ((n : Int) - 1) (fo (g3 M t v (mth M a 0 (M 101 2, M 101 3)) A B) n x)) A B (w32 ((n : Int) - 1 + 1)) M2 := by
      intro M2 L2
      have := ih (n + 1) (by omega) M2 L2
      rw [w32_e (by omega) (by omega)]
      rw [show ((n + 1 : Nat) : Int) - 1 = (n : Int) - 1 + 1 by omega] at this
      exact this
    have k120 : ∀ s0 s1, w32 (s1 + s0) = cnt A B ((n : Int) - 1) → F_xm_fewest_120 Q k50 k64 (F_xm_fewest_78 Q k50 k64 (m + 1)) a t v (fo (g3 M t v (mth M a 0 (M 101 2, M 101 3)) A B) n x) A B ((n : Int) - 1) s0 s1 M' := by
      intro s0 s1 hs
      have nx := next
      unfold g3 at nx
      unfold F_xm_fewest_120 F_xm_fewest_151 F_xm_fewest_153
      rw [hs]
      by_cases hc : fo (g3 M t v (mth M a 0 (M 101 2, M 101 3)) A B) n x ≤ cnt A B ((n : Int) - 1)
      · rw [if_pos hc]
        unfold g3 at hc ⊢
        rw [if_pos hc] at nx
        exact nx M' L
      · rw [if_neg hc]
        have mk : ∀ k : Int, -1 ≤ k → k < M 101 0 → k < 0 ∨ mok M' k := fun k h1 h2 => by
          by_cases hk : k < 0
          · exact Or.inl hk
          · exact Or.inr (mok_kp e1 (hS.mk (by omega) (by omega)))
        refine Y_seenWith (mtok_kp e1 mt) (by rw [e1, e1]; exact hS.mlok) (mk A hA.1 hA.2) (mk B hB.1 hB.2) (mk _ (by omega) (by omega)) ht (fun M2 L2 => ?_)
        have ew : ∀ (k : Int) (l : Int × Int), wsh M' k l = wsh M k l := fun k l => by unfold wsh; rw [mst_kp e1]
        rw [mth_kp e1, e1, e1, ew, ew, ew]
        unfold g3 at hc ⊢
        rw [if_neg hc] at nx
        by_cases hh : hit M t v (mth M a 0 (M 101 2, M 101 3)) A B ((n : Int) - 1)
        · rw [if_pos hh] at nx
          rw [if_pos hh]
          exact nx M2 (L.tr L2)
        · rw [if_neg hh] at nx
          rw [if_neg hh]
          exact nx M2 (L.tr L2)
    unfold F_xm_fewest_78 F_xm_fewest_99 F_xm_fewest_109
    rw [e1, if_neg (by omega)]
    by_cases c1 : 0 ≤ A <;> by_cases c2 : 0 ≤ B <;> by_cases c3 : 0 ≤ (n : Int) - 1
    · rw [if_pos c1, if_pos c2, if_pos c3]; exact k120 _ _ (by unfold cnt; rw [if_pos c1, if_pos c2, if_pos c3]; decide)
    · rw [if_pos c1, if_pos c2, if_neg c3]; exact k120 _ _ (by unfold cnt; rw [if_pos c1, if_pos c2, if_neg c3]; decide)
    · rw [if_pos c1, if_neg c2, if_pos c3]; exact k120 _ _ (by unfold cnt; rw [if_pos c1, if_neg c2, if_pos c3]; decide)
    · rw [if_pos c1, if_neg c2, if_neg c3]; exact k120 _ _ (by unfold cnt; rw [if_pos c1, if_neg c2, if_neg c3]; decide)
    · rw [if_neg c1, if_pos c2, if_pos c3]; exact k120 _ _ (by unfold cnt; rw [if_neg c1, if_pos c2, if_pos c3]; decide)
    · rw [if_neg c1, if_pos c2, if_neg c3]; exact k120 _ _ (by unfold cnt; rw [if_neg c1, if_pos c2, if_neg c3]; decide)
    · rw [if_neg c1, if_neg c2, if_pos c3]; exact k120 _ _ (by unfold cnt; rw [if_neg c1, if_neg c2, if_pos c3]; decide)
    · rw [if_neg c1, if_neg c2, if_neg c3]; exact k120 _ _ (by unfold cnt; rw [if_neg c1, if_neg c2, if_neg c3]; decide)
theorem L_few2 {Q : Int → cM → Prop} {k50 : Int → Int → Int → Int → Int → cM → Prop} {a t v A x : Int} {M : cM} (hS : SC 10 101 M) (ha : 0 ≤ a ∧ a < 4) (ht : 0 ≤ t ∧ t ≤ 11) (hA : -1 ≤ A ∧ A < M 101 0) (H : ∀ M', Lt M M' → k50 a t v (g1 M t v (mth M a 0 (M 101 2, M 101 3)) ((M 101 0).toNat + 1) A x) (w32 (A + 1)) M') : ∀ (m n : Nat), (n : Int) + m = M 101 0 + 1 → ∀ M', Lt M M' → F_xm_fewest_64 Q k50 (m + 1) a t v (fo (g2 M t v (mth M a 0 (M 101 2, M 101 3)) ((M 101 0).toNat + 1) A) n x) A ((n : Int) - 1) M' := by
  have h0 := hS.1
  intro m
  induction m with
  | zero =>
    intro n hn M' L
    have e1 : ∀ j, M' 101 j = M 101 j := fun j => L.at (by decide) j
    unfold F_xm_fewest_64
    rw [e1, if_pos (by omega)]
    unfold g1 at H
    have e : (M 101 0).toNat + 1 = n := by omega
    rw [e] at H ⊢
    exact H M' L
  | succ m ih =>
    intro n hn M' L
    have e1 : ∀ j, M' 101 j = M 101 j := fun j => L.at (by decide) j
    unfold F_xm_fewest_64
    rw [e1, if_neg (by omega)]
    refine ⟨_, L_few3 hS ha ht hA (B := (n : Int) - 1) (by omega) (fun M2 L2 => ?_) ((M 101 0).toNat + 1) 0 (by omega) M' L⟩
    have := ih (n + 1) (by omega) M2 L2
    rw [w32_e (by omega) (by omega)]
    rw [show ((n + 1 : Nat) : Int) - 1 = (n : Int) - 1 + 1 by omega] at this
    exact this
theorem L_few1 {Q : Int → cM → Prop} {a t v : Int} {M : cM} (hS : SC 10 101 M) (ha : 0 ≤ a ∧ a < 4) (ht : 0 ≤ t ∧ t ≤ 11) (H : ∀ M', Lt M M' → if lea (fun k => cbr M t v k (mth M a 0 (M 101 2, M 101 3))) ≤ 3 then Q (lea (fun k => cbr M t v k (mth M a 0 (M 101 2, M 101 3)))) M' else F_xm_finds (fun x M2 => Q x M2) (-1000004) M') : ∀ (m n : Nat), (n : Int) + m = M 101 0 + 1 → ∀ M', Lt M M' → F_xm_fewest_50 Q (m + 1) a t v (fo (g1 M t v (mth M a 0 (M 101 2, M 101 3)) ((M 101 0).toNat + 1)) n 4) ((n : Int) - 1) M' := by
  have h0 := hS.1
  intro m
  induction m with
  | zero =>
    intro n hn M' L
    have e1 : ∀ j, M' 101 j = M 101 j := fun j => L.at (by decide) j
    have fe := few_eq (M := M) (t := t) (v := v) (l := (mth M a 0 (M 101 2, M 101 3))) h0.2.1
    unfold F_xm_fewest_50
    rw [e1, if_pos (by omega)]
    rw [← fe] at H
    have e : (M 101 0).toNat + 1 = n := by omega
    rw [e] at H ⊢
    exact H M' L
  | succ m ih =>
    intro n hn M' L
    have e1 : ∀ j, M' 101 j = M 101 j := fun j => L.at (by decide) j
    unfold F_xm_fewest_50
    rw [e1, if_neg (by omega)]
    refine ⟨_, L_few2 hS ha ht (A := (n : Int) - 1) (by omega) (fun M2 L2 => ?_) ((M 101 0).toNat + 1) 0 (by omega) M' L⟩
    have := ih (n + 1) (by omega) M2 L2
    rw [w32_e (by omega) (by omega)]
    rw [show ((n + 1 : Nat) : Int) - 1 = (n : Int) - 1 + 1 by omega] at this
    exact this
theorem cbr_kp {M M' : cM} (h : ∀ j, M' 101 j = M 101 j) {t v : Int} : ∀ (k : Nat) (l : Int × Int), cbr M' t v k l = cbr M t v k l
  | 0, _ => rfl
  | k + 1, l => by
    show anyN (fun s => cbr M' t v k (mst M' 0 s l)) (M' 101 0).toNat = anyN (fun s => cbr M t v k (mst M 0 s l)) (M 101 0).toNat
    rw [h]
    congr 1
    funext s
    rw [cbr_kp h k, mst_kp h]
theorem lea_b (c : Nat → Bool) : lea c ≤ 3 ∨ lea c = 4 := by
  unfold lea
  repeat' split
  all_goals omega
theorem Z_fewest {P : Int → Int → cM → Prop} {M : cM} {a t v : Int} (hR : RR M) (H : ∀ r M', RR M' → P r r M') : F_xs_fewest (fun x M1 => F_xm_fewest (fun y M2 => P x y M2) a t v M1) a t v M := by
  unfold F_xs_fewest F_xs_fewest_23
  have hn := hR.hn
  have hz := hR.n10.1
  simp only [E_xs_isStack, E_xs_isSheet, E_xs_isShare, E_xs_within, ite01]
  by_cases h1 : 0 ≤ a ∧ a < 4
  rotate_left
  · rw [if_neg h1]
    refine Z_err 0 (by decide) (by decide) hR (fun M1 e1 hR1 => ?_)
    have e101 := fun j => e1 101 j (by decide)
    unfold F_xm_fewest F_xm_fewest_21
    simp only [E_xm_isStack, E_xm_isSlant, E_xm_isShare, E_xm_in, E_xm_isOne, E_xm_isSheet (e101 0) hn, ite01, e101]
    rw [if_neg (by omega), E_xm_fin 0 (by decide) (by decide)]
    exact H _ _ hR1
  rw [if_pos h1]
  by_cases h2 : 0 ≤ t ∧ t < 12
  rotate_left
  · rw [if_neg h2]
    refine Z_err 0 (by decide) (by decide) hR (fun M1 e1 hR1 => ?_)
    have e101 := fun j => e1 101 j (by decide)
    unfold F_xm_fewest F_xm_fewest_21
    simp only [E_xm_isStack, E_xm_isSlant, E_xm_isShare, E_xm_in, E_xm_isOne, E_xm_isSheet (e101 0) hn, ite01, e101]
    rw [if_pos (by omega), if_neg (by omega), E_xm_fin 0 (by decide) (by decide)]
    exact H _ _ hR1
  rw [if_pos h2]
  by_cases h3 : 0 ≤ v ∧ v < 1001
  rotate_left
  · rw [if_neg h3]
    refine Z_err 0 (by decide) (by decide) hR (fun M1 e1 hR1 => ?_)
    have e101 := fun j => e1 101 j (by decide)
    unfold F_xm_fewest F_xm_fewest_21
    simp only [E_xm_isStack, E_xm_isSlant, E_xm_isShare, E_xm_in, E_xm_isOne, E_xm_isSheet (e101 0) hn, ite01, e101]
    rw [if_pos (by omega), if_pos (by omega), if_neg (by omega), E_xm_fin 0 (by decide) (by decide)]
    exact H _ _ hR1
  rw [if_pos h3]

  refine ⟨h1, ?_⟩
  have g := hR.h19 h1
  by_cases h4 : M 19 a ≤ 3
  rotate_left
  · rw [if_neg h4]
    refine Z_err 6 (by decide) (by decide) hR (fun M1 e1 hR1 => ?_)
    have e101 := fun j => e1 101 j (by decide)
    unfold F_xm_fewest
    simp only [E_xm_isStack, E_xm_isSlant, E_xm_isShare, E_xm_in, E_xm_isOne, E_xm_isSheet (e101 0) hn, ite01]
    rw [if_pos (by omega), if_pos (by omega), if_pos (by omega), E_xm_manyIn h1, e101, if_neg (by omega), E_xm_fin 6 (by decide) (by decide)]
    exact H _ _ hR1
  rw [if_pos h4]
  have o1 := hR.xok h1 0
  have el : xth M 10 a 0 (lampP M 10) = mth M a 0 (M 101 2, M 101 3) := by rw [hR.1.xm h1, hR.1.lmp]
  have lb := lea_b (fun k => cbr M t v k (xth M 10 a 0 (lampP M 10)))
  refine X_frontLight hR.cos (hR.1.st h1) hR.1.lk ⟨5, L_xs_fewest (l := xth M 10 a 0 (lampP M 10)) hR.cos hR.1 o1 (by omega) (fun hle => ?_) (fun heq => ?_)⟩
  · unfold F_xm_fewest 
    simp only [E_xm_isStack, E_xm_isSlant, E_xm_isShare, E_xm_in, E_xm_isOne, ite01]
    rw [if_pos (by omega), if_pos (by omega), if_pos (by omega)]
    rw [E_xm_manyIn h1, if_pos (by omega)]
    refine ⟨_, L_few1 hR.1 h1 (by omega) (fun M' L => ?_) ((M 101 0).toNat + 1) 0 (by omega) M (Lt.rf M)⟩
    rw [← el, if_pos hle]
    exact H _ _ (hR.kp L.kp)
  · refine Z_err 3 (by decide) (by decide) hR (fun M1 e1 hR1 => ?_)
    have e101 := fun j => e1 101 j (by decide)
    have S1 : SC 10 101 M1 := SC.kp (fun k j _ _ => e1 _ _ (by omega)) (fun j => e1 _ _ (by decide)) hR.1
    unfold F_xm_fewest
    simp only [E_xm_isStack, E_xm_isSlant, E_xm_isShare, E_xm_in, E_xm_isOne, E_xm_isSheet (e101 0) hn, ite01]
    rw [if_pos (by omega), if_pos (by omega), if_pos (by omega), E_xm_manyIn h1, e101, if_pos (by omega)]
    refine ⟨_, L_few1 S1 h1 (by omega) (fun M2 L2 => ?_) ((M1 101 0).toNat + 1) 0 (by rw [e101]; omega) M1 (Lt.rf M1)⟩
    have ec : (fun k => cbr M1 t v k (mth M1 a 0 (M1 101 2, M1 101 3))) = (fun k => cbr M t v k (xth M 10 a 0 (lampP M 10))) := by
      funext k
      rw [cbr_kp e101, mth_kp e101, e101, e101, el]
    rw [ec, if_neg (by omega), E_xm_fin 3 (by decide) (by decide)]
    have := (L2.wr 104 3 (w32 (M1 104 3 + 1))).kp
    rw [← L2.at (c := 104) (by decide) 3] at this hR1
    exact H _ _ (hR1.kp this)

