theorem Z_seen {P : Int → Int → cM → Prop} {M : cM} {a b t : Int} (hR : RR M) (H : ∀ r M', RR M' → P r r M') : F_xs_seen (fun x M1 => F_xm_seen (fun y M2 => P x y M2) a b t M1) a b t M := by
  unfold F_xs_seen F_xs_seen_16
  simp only [E_xs_isStack, E_xs_isSheet, E_xs_isShare, E_xs_within, ite01]
  by_cases h1 : 0 ≤ a ∧ a < 4
  rotate_left
  · rw [if_neg h1]
    refine Z_err 0 (by decide) (by decide) hR (fun M1 e1 hR1 => ?_)
    have e101 := fun j => e1 101 j (by decide)
    unfold F_xm_seen F_xm_seen_14
    simp only [E_xm_isStack, E_xm_isSlant, E_xm_isShare, E_xm_in, E_xm_isOne, ite01, e101]
    rw [if_neg (by omega), E_xm_fin 0 (by decide) (by decide)]
    exact H _ _ hR1
  rw [if_pos h1]
  by_cases h2 : 0 ≤ t ∧ t < 12
  rotate_left
  · rw [if_neg h2]
    refine Z_err 0 (by decide) (by decide) hR (fun M1 e1 hR1 => ?_)
    have e101 := fun j => e1 101 j (by decide)
    unfold F_xm_seen F_xm_seen_14
    simp only [E_xm_isStack, E_xm_isSlant, E_xm_isShare, E_xm_in, E_xm_isOne, ite01, e101]
    rw [if_pos (by omega), if_neg (by omega), E_xm_fin 0 (by decide) (by decide)]
    exact H _ _ hR1
  rw [if_pos h2]

  rw [E_xs_lamp hR.1.lk]
  refine X_behindStack (l := lampP M 10) hR.cos (hR.1.st h1) hR.1.lk ?_
  have hl := hR.xok h1 b
  unfold encp
  rw [E_xl_seenAt hR.cos hl (by omega)]
  unfold F_xm_seen F_xm_seen_14
  simp only [E_xm_isStack, E_xm_isSlant, E_xm_isShare, E_xm_in, E_xm_isOne, ite01]
  rw [if_pos (by omega), if_pos (by omega)]
  refine hR.thru h1 (fun M2 L q1 q2 => ?_)
  rw [← q1, ← q2] at hl ⊢
  rw [Y_seenAt hl (by omega)]
  exact H _ _ (hR.kp L.kp)

theorem Z_bright {P : Int → Int → cM → Prop} {M : cM} {a b : Int} (hR : RR M) (H : ∀ r M', RR M' → P r r M') : F_xs_bright (fun x M1 => F_xm_bright (fun y M2 => P x y M2) a b M1) a b M := by
  unfold F_xs_bright 
  simp only [E_xs_isStack, E_xs_isSheet, E_xs_isShare, E_xs_within, ite01]
  by_cases h1 : 0 ≤ a ∧ a < 4
  rotate_left
  · rw [if_neg h1]
    refine Z_err 0 (by decide) (by decide) hR (fun M1 e1 hR1 => ?_)
    have e101 := fun j => e1 101 j (by decide)
    unfold F_xm_bright 
    simp only [E_xm_isStack, E_xm_isSlant, E_xm_isShare, E_xm_in, E_xm_isOne, ite01, e101]
    rw [if_neg (by omega), E_xm_fin 0 (by decide) (by decide)]
    exact H _ _ hR1
  rw [if_pos h1]

  rw [E_xs_lamp hR.1.lk]
  refine X_behindStack (l := lampP M 10) hR.cos (hR.1.st h1) hR.1.lk ?_
  have hl := hR.xok h1 b
  refine ⟨_, L_xs_bright hR.cos hl ?_ 11 0 (by omega)⟩
  unfold F_xm_bright 
  simp only [E_xm_isStack, E_xm_isSlant, E_xm_isShare, E_xm_in, E_xm_isOne, ite01]
  rw [if_pos (by omega)]
  refine hR.thru h1 (fun M2 L q1 q2 => ?_)
  rw [← q1, ← q2] at hl ⊢
  exact ⟨_, L_xm_bright hl (H _ _ (hR.kp L.kp)) 11 0 (by omega)⟩

theorem Z_dark {P : Int → Int → cM → Prop} {M : cM} {a b : Int} (hR : RR M) (H : ∀ r M', RR M' → P r r M') : F_xs_dark (fun x M1 => F_xm_dark (fun y M2 => P x y M2) a b M1) a b M := by
  unfold F_xs_dark 
  simp only [E_xs_isStack, E_xs_isSheet, E_xs_isShare, E_xs_within, ite01]
  by_cases h1 : 0 ≤ a ∧ a < 4
  rotate_left
  · rw [if_neg h1]
    refine Z_err 0 (by decide) (by decide) hR (fun M1 e1 hR1 => ?_)
    have e101 := fun j => e1 101 j (by decide)
    unfold F_xm_dark 
    simp only [E_xm_isStack, E_xm_isSlant, E_xm_isShare, E_xm_in, E_xm_isOne, ite01, e101]
    rw [if_neg (by omega), E_xm_fin 0 (by decide) (by decide)]
    exact H _ _ hR1
  rw [if_pos h1]

  rw [E_xs_lamp hR.1.lk]
  refine X_behindStack (l := lampP M 10) hR.cos (hR.1.st h1) hR.1.lk ?_
  have hl := hR.xok h1 b
  refine ⟨_, L_xs_dark hR.cos hl ?_ 11 0 (by omega)⟩
  unfold F_xm_dark 
  simp only [E_xm_isStack, E_xm_isSlant, E_xm_isShare, E_xm_in, E_xm_isOne, ite01]
  rw [if_pos (by omega)]
  refine hR.thru h1 (fun M2 L q1 q2 => ?_)
  rw [← q1, ← q2] at hl ⊢
  exact ⟨_, L_xm_dark hl (H _ _ (hR.kp L.kp)) 11 0 (by omega)⟩
