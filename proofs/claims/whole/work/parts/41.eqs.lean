/-! Small methods as rewriting rows. -/
theorem E_xs_within {Q : Int → cM → Prop} {v e : Int} {M : cM} : F_xs_within Q v e M = Q (if 0 ≤ v ∧ v < e then 1 else 0) M := by
  unfold F_xs_within F_xs_within_13
  rw [narK40, narK41]
  by_cases h1 : v < 0
  · rw [if_pos h1, if_neg (by omega)]
  · rw [if_neg h1]
    by_cases h2 : e ≤ v
    · rw [if_pos h2, if_neg (by omega)]
    · rw [if_neg h2, if_pos (by omega)]
theorem E_xs_isShare {Q : Int → cM → Prop} {v : Int} {M : cM} : F_xs_isShare Q v M = Q (if 0 ≤ v ∧ v < 1001 then 1 else 0) M := by
  unfold F_xs_isShare
  rw [E_xs_within, nar_ite]
theorem E_xs_isStack {Q : Int → cM → Prop} {v : Int} {M : cM} : F_xs_isStack Q v M = Q (if 0 ≤ v ∧ v < 4 then 1 else 0) M := by
  unfold F_xs_isStack
  rw [E_xs_within, nar_ite]
theorem E_xs_isSheet {Q : Int → cM → Prop} {v : Int} {M : cM} : F_xs_isSheet Q v M = Q (if 0 ≤ v ∧ v < M 10 0 then 1 else 0) M := by
  unfold F_xs_isSheet
  rw [E_xs_within, nar_ite]
theorem zl_lt {a b : Int} : zlcmp a b < 0 ↔ a < b := by unfold zlcmp; split <;> (try split) <;> omega
theorem zl_gt {a b : Int} : 0 < zlcmp a b ↔ b < a := by unfold zlcmp; split <;> (try split) <;> omega
theorem E_xm_in {Q : Int → cM → Prop} {v lo hi : Int} {M : cM} : F_xm_in Q v lo hi M = Q (if lo ≤ v ∧ v ≤ hi then 1 else 0) M := by
  unfold F_xm_in F_xm_in_17
  rw [narK40, narK41]
  by_cases h1 : v < lo
  · rw [if_pos (zl_lt.mpr h1), if_neg (by omega)]
  · rw [if_neg (fun q => h1 (zl_lt.mp q))]
    by_cases h2 : hi < v
    · rw [if_pos (zl_gt.mpr h2), if_neg (by omega)]
    · rw [if_neg (fun q => h2 (zl_gt.mp q)), if_pos (by omega)]
theorem if_iff {α : Sort _} {c d : Prop} {i : Decidable c} {j : Decidable d} (h : c ↔ d) (a b : α) : (if c then a else b) = if d then a else b := by
  by_cases hc : c
  · rw [if_pos hc, if_pos (h.mp hc)]
  · rw [if_neg hc, if_neg (fun q => hc (h.mpr q))]
theorem E_xm_isSlant {Q : Int → cM → Prop} {v : Int} {M : cM} : F_xm_isSlant Q v M = Q (if 0 ≤ v ∧ v < 12 then 1 else 0) M := by
  unfold F_xm_isSlant
  rw [E_xm_in, nar_ite, if_iff (d := 0 ≤ v ∧ v < 12) (by omega)]
theorem E_xm_isShare {Q : Int → cM → Prop} {v : Int} {M : cM} : F_xm_isShare Q v M = Q (if 0 ≤ v ∧ v < 1001 then 1 else 0) M := by
  unfold F_xm_isShare
  rw [E_xm_in, nar_ite, if_iff (d := 0 ≤ v ∧ v < 1001) (by omega)]
theorem E_xm_isStack {Q : Int → cM → Prop} {v : Int} {M : cM} : F_xm_isStack Q v M = Q (if 0 ≤ v ∧ v < 4 then 1 else 0) M := by
  unfold F_xm_isStack
  rw [E_xm_in, nar_ite, if_iff (d := 0 ≤ v ∧ v < 4) (by omega)]
theorem E_xm_isOne {Q : Int → cM → Prop} {v : Int} {M : cM} : F_xm_isOne Q v M = Q (if 0 ≤ v ∧ v < 4 then 1 else 0) M := by
  unfold F_xm_isOne
  rw [E_xm_in, nar_ite, if_iff (d := 0 ≤ v ∧ v < 4) (by omega)]
theorem E_xm_isSheet {Q : Int → cM → Prop} {v n : Int} {M : cM} (e : M 101 0 = n) (h : 0 ≤ n ∧ n ≤ 10) : F_xm_isSheet Q v M = Q (if 0 ≤ v ∧ v < n then 1 else 0) M := by
  unfold F_xm_isSheet
  rw [E_xm_in, nar_ite, e, w32_e (by omega) (by omega), if_iff (d := 0 ≤ v ∧ v < n) (by omega)]
/-- findings -/
theorem E_xs_fin {Q : Int → cM → Prop} {w : Int} {M : cM} (k : Int) (hk : 0 ≤ k ∧ k < 7) (hw : w = -1000001 - k) : F_xs_finding Q w M = Q w (wr M 75 k (w32 (M 75 k + 1))) := by
  subst hw
  have e : w32 ((-1000001) - (-1000001 - k)) = k := by rw [w32_e (by omega) (by omega)]; omega
  unfold F_xs_finding
  rw [e]
  simp only [hk, and_self, true_and]
theorem E_xm_fin {Q : Int → cM → Prop} {w : Int} {M : cM} (k : Int) (hk : 0 ≤ k ∧ k < 7) (hw : w = -1000001 - k) : F_xm_finds Q w M = Q w (wr M 104 k (w32 (M 104 k + 1))) := by
  subst hw
  have e : w32 ((-1000001) - (-1000001 - k)) = k := by rw [w32_e (by omega) (by omega)]; omega
  unfold F_xm_finds
  rw [e]
  simp only [hk, and_self, true_and]
/-- only cells outside a list have stayed -/
theorem wr_ne {M : cM} {c j v c' j' : Int} (h : c' ≠ c) : wr M c j v c' j' = M c' j' := by rw [wr_at, if_neg (fun q => h q.1)]
theorem wr_nj {M : cM} {c j v j' : Int} (h : j' ≠ j) : wr M c j v c j' = M c j' := by rw [wr_at, if_neg (fun q => h q.2)]
theorem wr_eq {M : cM} {c j v : Int} : wr M c j v c j = v := by rw [wr_at, if_pos ⟨rfl, rfl⟩]
/-- a finding counted on both sides -/
theorem RR.fin {M : cM} {k : Int} (hk : 0 ≤ k ∧ k < 7) (h : RR M) : RR (wr (wr M 75 k (w32 (M 75 k + 1))) 104 k (w32 (wr M 75 k (w32 (M 75 k + 1)) 104 k + 1))) := by
  obtain ⟨h1, h2, h3, h4, h5, h6, h7⟩ := h
  have e : ∀ c j, c ≠ 75 → c ≠ 104 → (wr (wr M 75 k (w32 (M 75 k + 1))) 104 k (w32 (wr M 75 k (w32 (M 75 k + 1)) 104 k + 1))) c j = M c j := fun c j a b => by rw [wr_ne b, wr_ne a]
  refine ⟨SC.kp (fun x j _ _ => e _ _ (by omega) (by omega)) (fun j => e _ _ (by decide) (by decide)) h1, ?_, fun z => ?_, ?_, ?_, fun x x0 x1 => ?_, ?_⟩
  · rw [e 0 2 (by decide) (by decide), e 100 4 (by decide) (by decide)]; exact h2
  · rw [e 0 2 (by decide) (by decide)] at z
    exact SC.kp (fun x j _ _ => e _ _ (by omega) (by omega)) (fun j => e _ _ (by decide) (by decide)) (h3 z)
  · exact TP.kp (e _ _ (by decide) (by decide)) (e _ _ (by decide) (by decide)) (fun j => e _ _ (by decide) (by decide)) (fun j => e _ _ (by decide) (by decide)) h4
  · exact RO.kp (fun c j _ _ => e _ _ (by omega) (by omega)) (fun c j _ _ => e _ _ (by omega) (by omega)) h5
  · have g := h6 x x0 x1
    have gk := h6 k hk.1 hk.2
    rw [wr_ne (by decide : (75 : Int) ≠ 104), wr_ne (by decide : (104 : Int) ≠ 75)]
    by_cases hx : x = k
    · subst hx
      rw [wr_eq, wr_eq, gk.1]
      exact ⟨rfl, w32_R _⟩
    · rw [wr_nj hx, wr_nj hx, wr_ne (by decide : (104 : Int) ≠ 75)]
      exact g
  · exact TB.kp (fun c j _ => e _ _ (by omega) (by omega)) h7
/-- both sides answer the same finding -/
theorem Z_fin {P : Int → Int → cM → Prop} {M : cM} {w : Int} (k : Int) (hk : 0 ≤ k ∧ k < 7) (hw : w = -1000001 - k) (hR : RR M) (H : ∀ r M', RR M' → P r r M') : F_xs_finding (fun x M1 => F_xm_finds (fun y M2 => P x y M2) w M1) w M := by
  rw [E_xs_fin k hk hw, E_xm_fin k hk hw]
  exact H _ _ (hR.fin hk)
/-- the same, where the model's side is still to be reduced: memory behind the class's finding -/
theorem fin_mem {M : cM} {k x c j : Int} (h : c ≠ 75) : wr M 75 k x c j = M c j := wr_ne h
theorem Z_finX {Q : Int → cM → Prop} {M : cM} {w : Int} (k : Int) (hk : 0 ≤ k ∧ k < 7) (hw : w = -1000001 - k) (h : ∀ M1 : cM, (∀ c j, c ≠ 75 → M1 c j = M c j) → M1 75 k = w32 (M 75 k + 1) → (∀ j, j ≠ k → M1 75 j = M 75 j) → Q w M1) : F_xs_finding Q w M := by
  rw [E_xs_fin k hk hw]
  exact h _ (fun c j hc => wr_ne hc) wr_eq (fun j hj => wr_nj hj)
theorem E_xs_lamp {b : Int} {Q : Int → cM → Prop} {M : cM} (h : lok (M b 5) (M b 6)) : F_xg_lampLight Q b M = Q (enc (M b 5) (M b 6)) M := by
  unfold F_xg_lampLight F_xl_of
  rw [enc_of h]
theorem E_xl_slant {Q : Int → cM → Prop} {sh sl : Int} {M : cM} (h : lok sh sl) : F_xl_slant Q (enc sh sl) M = Q sl M := by
  unfold F_xl_slant
  rw [enc_sl h]
theorem E_xl_share {Q : Int → cM → Prop} {sh sl : Int} {M : cM} (h : lok sh sl) : F_xl_share Q (enc sh sl) M = Q sh M := by
  unfold F_xl_share
  rw [enc_sh h]
theorem E_xl_of {Q : Int → cM → Prop} {sh sl : Int} {M : cM} (h : lok sh sl) : F_xl_of Q sh sl M = Q (enc sh sl) M := by
  unfold F_xl_of
  rw [enc_of h]
theorem E_xl_part {Q : Int → cM → Prop} {a b : Int} {M : cM} (h : 0 ≤ a ∧ a ≤ 1000) (h' : 0 ≤ b ∧ b ≤ 1000) : F_xl_part Q a b M = Q (a * b / 1000) M := by
  unfold F_xl_part
  obtain ⟨e1, e2⟩ := mul_b h.1 h.2 h'.1 h'.2
  have e3 := mul_d h.1 h.2 h'.1 h'.2
  rw [w32_e (x := a * b) (by omega) (by omega), tdn e1, w32_e (by omega) (by omega)]
def cosT (M : cM) : Prop := M 1000 (-1) = 7 ∧ ∀ d, 0 ≤ d → d ≤ 6 → M 1000 d = zcs d
theorem E_xl_cos {Q : Int → cM → Prop} {a b : Int} {M : cM} (hT : cosT M) (ha : 0 ≤ a ∧ a ≤ 11) (hb : 0 ≤ b ∧ b ≤ 11) : F_xl_cos Q a b M = Q (zcs (zdi a b)) M := by
  have key : ∀ s, 0 ≤ s → s ≤ 11 → (s = a - b ∨ s = b - a) → F_xl_cos_14 Q s M = Q (zcs (zdi a b)) M := by
    intro s s0 s1 hs
    unfold F_xl_cos_14 F_xl_cos_32
    rw [hT.1]
    by_cases h6 : s ≤ 6
    · rw [if_pos h6, hT.2 s s0 h6]
      have e : zdi a b = s := by unfold zdi; split <;> omega
      rw [e]
      simp only [show 0 ≤ s ∧ s < 7 from ⟨s0, by omega⟩, and_self, true_and]
    · rw [if_neg h6, w32_e (by omega) (by omega), hT.2 (12 - s) (by omega) (by omega)]
      have e : zdi a b = 12 - s := by unfold zdi; split <;> omega
      rw [e]
      simp only [show 0 ≤ 12 - s ∧ 12 - s < 7 from ⟨by omega, by omega⟩, and_self, true_and]
  unfold F_xl_cos
  by_cases h : a ≤ b
  · rw [if_pos h, w32_e (by omega) (by omega)]
    exact key _ (by omega) (by omega) (Or.inr rfl)
  · rw [if_neg h, w32_e (by omega) (by omega)]
    exact key _ (by omega) (by omega) (Or.inl rfl)
theorem E_xl_seenAt {Q : Int → cM → Prop} {sh sl t : Int} {M : cM} (hT : cosT M) (h : lok sh sl) (ht : 0 ≤ t ∧ t ≤ 11) : F_xl_seenAt Q (enc sh sl) t M = Q (zsee sh sl t) M := by
  unfold F_xl_seenAt
  obtain ⟨h1, h2, h3, h4⟩ := id h
  simp only [E_xl_slant h, E_xl_share h]
  unfold zsee
  by_cases hm : sl = -1
  · rw [if_pos hm, if_pos hm, tdn h1, w32_e (by omega) (by omega)]
  · rw [if_neg hm, if_neg hm, E_xl_cos hT ⟨by omega, h4⟩ ht, E_xl_part ⟨h1, h2⟩ (zcs_b _)]
theorem E_xl_filtered {Q : Int → cM → Prop} {sh sl t : Int} {M : cM} (hT : cosT M) (h : lok sh sl) (ht : 0 ≤ t ∧ t ≤ 11) : F_xl_filtered Q (enc sh sl) t M = Q (enc (zsee sh sl t) t) M := by
  unfold F_xl_filtered
  have hb := zsee_b (t := t) h
  have := h.2.1
  rw [E_xl_seenAt hT h ht, E_xl_of ⟨hb.1, by omega, by omega, by omega⟩]
theorem E_xl_dimmed {Q : Int → cM → Prop} {sh sl p : Int} {M : cM} (h : lok sh sl) (hp : 0 ≤ p ∧ p ≤ 1000) : F_xl_dimmed Q (enc sh sl) p M = Q (enc (sh * p / 1000) sl) M := by
  unfold F_xl_dimmed
  obtain ⟨h1, h2, h3, h4⟩ := id h
  have hb := mul_d h1 h2 hp.1 hp.2
  simp only [E_xl_slant h, E_xl_share h]
  rw [E_xl_part ⟨h1, h2⟩ hp, E_xl_of ⟨hb.1, by omega, h3, h4⟩]
theorem E_xl_turned {Q : Int → cM → Prop} {sh sl t : Int} {M : cM} (h : lok sh sl) (ht : 0 ≤ t ∧ t ≤ 11) : F_xl_turned Q (enc sh sl) t M = Q (enc sh (if sl = -1 then -1 else (sl + t) % 12)) M := by
  unfold F_xl_turned
  obtain ⟨h1, h2, h3, h4⟩ := id h
  simp only [E_xl_slant h, E_xl_share h]
  by_cases hm : sl = -1
  · rw [if_pos hm, if_pos hm, hm]
  · rw [if_neg hm, if_neg hm, w32_e (by omega) (by omega), tmn (by omega), E_xl_of ⟨h1, h2, by omega, by omega⟩]
theorem zxor_s {a : Int} (h : iR a) : 0 ≤ zxor a 12 ↔ 0 ≤ a := by
  have e : ∀ x : Int32, (x ^^^ 12).toBitVec.msb = x.toBitVec.msb := by
    intro x
    rw [Int32.toBitVec_xor, BitVec.msb_xor, show (12 : Int32).toBitVec.msb = false by decide, Bool.xor_false]
  have e2 := e (Int32.ofInt a)
  rw [BitVec.msb_eq_toInt, BitVec.msb_eq_toInt, Int32.toInt_toBitVec, Int32.toInt_toBitVec, oI_id h] at e2
  have e3 : zxor a 12 = (Int32.ofInt a ^^^ 12).toInt := rfl
  rw [e3]
  have e4 : ((Int32.ofInt a ^^^ 12).toInt < 0) ↔ (a < 0) := by simpa using e2
  omega
theorem E_fmod {Q : Int → cM → Prop} {a : Int} {M : cM} (h : -1000 ≤ a ∧ a ≤ 1000) : F_xj_Math_floorMod Q a 12 M = Q (a % 12) M := by
  unfold F_xj_Math_floorMod F_xj_Math_floorMod_18
  have hs := zxor_s (a := a) (by unfold iR; omega)
  simp only [show ¬ ((12 : Int) = 0) by decide, not_false_eq_true, true_and]
  by_cases h0 : 0 ≤ a
  · rw [if_pos (hs.mpr h0), tmn h0]
  · rw [if_neg (fun q => h0 (hs.mp q))]
    have e : Int.tmod a 12 = - ((-a) % 12) := by
      have e1 := Int.neg_tmod (-a) 12
      rw [Int.neg_neg] at e1
      rw [e1, tmn (by omega)]
    by_cases h1 : Int.tmod a 12 = 0
    · rw [if_pos h1, h1]
      congr 1
      omega
    · rw [if_neg h1, w32_e (by omega) (by omega)]
      congr 1
      omega
theorem E_xl_mirrored {Q : Int → cM → Prop} {sh sl t : Int} {M : cM} (h : lok sh sl) (ht : 0 ≤ t ∧ t ≤ 11) : F_xl_mirrored Q (enc sh sl) t M = Q (enc sh (if sl = -1 then -1 else (2 * t - sl) % 12)) M := by
  unfold F_xl_mirrored
  obtain ⟨h1, h2, h3, h4⟩ := id h
  simp only [E_xl_slant h, E_xl_share h]
  by_cases hm : sl = -1
  · rw [if_pos hm, if_pos hm, hm]
  · rw [if_neg hm, if_neg hm, w32_e (x := 2 * t) (by omega) (by omega), w32_e (by omega) (by omega), E_fmod (by omega), E_xl_of ⟨h1, h2, by omega, by omega⟩]
/-- what a sheet does with a light: kind, turn (as seen), pass -/
def goS (kd tn ps sh sl : Int) : Int := if kd = 1 then zsee sh sl tn else if kd = 4 then sh * ps / 1000 else if kd = 5 then zsee sh sl tn * ps / 1000 else sh
def goL (kd tn sl : Int) : Int := if kd = 1 ∨ kd = 5 then tn else if kd = 2 ∨ kd = 6 then (if sl = -1 then -1 else (sl + tn) % 12) else if kd = 3 then (if sl = -1 then -1 else (2 * tn - sl) % 12) else sl
/-- the turn as it is seen -/
def goT (kd tn ld bh : Int) : Int := if bh = 0 then (if kd = 6 then (tn + ld) % 12 else tn) else (12 - (if kd = 6 then (tn + ld) % 12 else tn)) % 12
theorem goT_b {kd tn ld bh : Int} (h : 0 ≤ tn ∧ tn ≤ 11) : 0 ≤ goT kd tn ld bh ∧ goT kd tn ld bh ≤ 11 := by
  unfold goT
  repeat' split
  all_goals omega
theorem go_ok {kd tn ps sh sl : Int} (h : lok sh sl) (ht : 0 ≤ tn ∧ tn ≤ 11) (hp : 0 ≤ ps ∧ ps ≤ 1000) : lok (goS kd tn ps sh sl) (goL kd tn sl) := by
  obtain ⟨h1, h2, h3, h4⟩ := id h
  have hz := zsee_b (t := tn) h
  have hd := mul_d h1 h2 hp.1 hp.2
  have hd2 := mul_d hz.1 (by omega) hp.1 hp.2
  refine ⟨?_, ?_, ?_, ?_⟩
  · unfold goS; repeat' split
    all_goals omega
  · unfold goS; repeat' split
    all_goals omega
  · unfold goL; repeat' split
    all_goals omega
  · unfold goL; repeat' split
    all_goals omega
/-- a scene's sheet k is in range -/
def shok (M : cM) (b k : Int) : Prop := 0 ≤ k ∧ k < 10 ∧ (0 ≤ M (b + 1) k ∧ M (b + 1) k ≤ 6) ∧ (0 ≤ M (b + 2) k ∧ M (b + 2) k ≤ 11) ∧ (0 ≤ M (b + 3) k ∧ M (b + 3) k ≤ 1000) ∧ (0 ≤ M b 4 ∧ M b 4 ≤ 11)
def xS (M : cM) (b k bh sh sl : Int) : Int := goS (M (b + 1) k) (goT (M (b + 1) k) (M (b + 2) k) (M b 4) bh) (M (b + 3) k) sh sl
def xL (M : cM) (b k bh sl : Int) : Int := goL (M (b + 1) k) (goT (M (b + 1) k) (M (b + 2) k) (M b 4) bh) sl
theorem E_behindSheet {Q : Int → cM → Prop} {b k bh sh sl : Int} {M : cM} (hT : cosT M) (h : lok sh sl) (hk : shok M b k) : F_xg_behindSheet Q b k bh (enc sh sl) M = Q (enc (xS M b k bh sh sl) (xL M b k bh sl)) M := by
  obtain ⟨k0, k1, kd, tn, ps, ld⟩ := hk
  have hg := goT_b (kd := M (b + 1) k) (ld := M b 4) (bh := bh) tn
  have key : ∀ t, t = goT (M (b + 1) k) (M (b + 2) k) (M b 4) bh → F_xg_behindSheet_45 Q b k (enc sh sl) t M = Q (enc (xS M b k bh sh sl) (xL M b k bh sl)) M := by
    intro t ht
    have htb : 0 ≤ t ∧ t ≤ 11 := by rw [ht]; exact hg
    have hz := zsee_b (t := t) h
    have hl2 : lok (zsee sh sl t) t := ⟨hz.1, Int.le_trans hz.2 h.2.1, by omega, by omega⟩
    unfold F_xg_behindSheet_45 xS xL goS goL
    rw [← ht]
    simp only [show (0 ≤ k ∧ k < 10) from ⟨k0, k1⟩, and_self, true_and, E_xl_filtered hT h htb, E_xl_dimmed h ps, E_xl_turned h htb, E_xl_mirrored h htb, E_xl_dimmed hl2 ps]
    generalize M (b + 1) k = K at *
    by_cases e1 : K = 1
    · simp [e1]
    by_cases e2 : K = 2
    · simp [e2]
    by_cases e3 : K = 3
    · simp [e3]
    by_cases e4 : K = 4
    · simp [e4]
    by_cases e5 : K = 5
    · simp [e5]
    by_cases e6 : K = 6
    · simp [e6]
    simp [e1, e2, e3, e4, e5, e6]
  have key2 : ∀ t, t = (if M (b + 1) k = 6 then (M (b + 2) k + M b 4) % 12 else M (b + 2) k) → F_xg_behindSheet_31 Q b k bh (enc sh sl) t M = Q (enc (xS M b k bh sh sl) (xL M b k bh sl)) M := by
    intro t ht
    have htb : 0 ≤ t ∧ t ≤ 11 := by rw [ht]; split <;> omega
    unfold F_xg_behindSheet_31
    by_cases hb : bh = 0
    · rw [if_pos hb]
      exact key t (by unfold goT; rw [if_pos hb]; exact ht)
    · rw [if_neg hb, w32_e (by omega) (by omega), tmn (by omega)]
      exact key _ (by unfold goT; rw [if_neg hb, ← ht])
  unfold F_xg_behindSheet
  simp only [show (0 ≤ k ∧ k < 10) from ⟨k0, k1⟩, and_self, true_and]
  by_cases h6 : M (b + 1) k = 6
  · rw [if_pos h6, w32_e (by omega) (by omega), tmn (by omega)]
    exact key2 _ (by rw [if_pos h6])
  · rw [if_neg h6]
    exact key2 _ (by rw [if_neg h6])
