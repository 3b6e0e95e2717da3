/-! apart. -/
def anb (f : Nat → Int) (v : Int) : Nat → Bool
  | 0 => false
  | k + 1 => anb f v k || decide (f k = v)
def dvc (f : Nat → Int) : Nat → Nat
  | 0 => 0
  | k + 1 => dvc f k + if anb f (f k) k = true then 0 else 1
theorem dvc_le (f : Nat → Int) : ∀ n : Nat, dvc f n ≤ n
  | 0 => Nat.le_refl _
  | n + 1 => by
    have := dvc_le f n
    unfold dvc
    split <;> omega
theorem dvc_1 (f : Nat → Int) : ∀ n : Nat, 1 ≤ n → 1 ≤ dvc f n
  | 0, h => by omega
  | 1, _ => by
    show 1 ≤ 0 + (if false = true then 0 else 1)
    decide
  | n + 2, _ => by
    have := dvc_1 f (n + 1) (by omega)
    unfold dvc
    omega
theorem anb_s (f : Nat → Int) (v : Int) (k : Nat) : anb f v (k + 1) = true ↔ anb f v k = true ∨ f k = v := by
  show (anb f v k || decide (f k = v)) = true ↔ _
  rw [Bool.or_eq_true, decide_eq_true_eq]
def bs0 (f : Int → Int) : Nat → Int × Int
  | 0 => (0, 0)
  | n + 1 => if f n ≤ (bs0 f n).2 then bs0 f n else ((n : Int), f n)
theorem bs0_eq {f : Int → Int} (h : 0 < f 0) : ∀ n : Nat, bs0 f (n + 1) = bsf f (n + 1)
  | 0 => by
    show (if f ((0 : Nat) : Int) ≤ 0 then _ else _) = (if f ((0 : Nat) : Int) ≤ -1 then _ else _)
    rw [if_neg (by show ¬ f 0 ≤ 0; omega), if_neg (by show ¬ f 0 ≤ -1; omega)]
  | n + 1 => by
    have ih := bs0_eq h n
    show (if f ((n + 1 : Nat) : Int) ≤ (bs0 f (n + 1)).2 then bs0 f (n + 1) else _) = (if f ((n + 1 : Nat) : Int) ≤ (bsf f (n + 1)).2 then bsf f (n + 1) else _)
    rw [ih]
theorem OK.w {M : cM} {a : Int} {n K : Nat} (hR : RR M) (ha : 0 ≤ a ∧ a < 4) (h : OK M a n K) (k : Nat) (hk : k < K) : rvl M n (orb n (ogr M a n) k) := h.v hR ha (s' := msr M a) (p := fun _ => 0) (fun _ _ _ => rfl) k hk
/-- what an eye sees behind the j-th order -/
def vof (M : cM) (n : Nat) (g : Int → Int) (t : Int) (j : Nat) : Int := zsee (olt M n (orb n g j)).1 (olt M n (orb n g j)).2 t
theorem vof_b {M : cM} {a : Int} {n K : Nat} (hR : RR M) (ha : 0 ≤ a ∧ a < 4) (hO : OK M a n K) {t : Int} {j : Nat} (hj : j < K) : 0 ≤ vof M n (ogr M a n) t j ∧ vof M n (ogr M a n) t j ≤ 1000 := by
  have hv := hO.w hR ha j hj
  have hl := olt_ok hR hv
  have := zsee_b (t := t) hl
  have := hl.2.1
  unfold vof
  exact ⟨by omega, by omega⟩
theorem L_views {Q : Int → cM → Prop} {M Mr : cM} {a t : Int} {n K : Nat} (hR : RR M) (ha : 0 ≤ a ∧ a < 4) (hO : OK M a n K) (ht : 0 ≤ t ∧ t ≤ 11) (hp : Kp M Mr) (h78 : ∀ j : Nat, j < K → Mr 78 j = encp (olt M n (orb n (ogr M a n) j))) (H : ∀ M', (∀ c j, c ≠ 79 → M' c j = Mr c j) → (∀ v, 0 ≤ v → v ≤ 1000 → M' 79 v ≤ t) → Q (dvc (vof M n (ogr M a n) t) K) M') : ∀ (m i : Nat) (M1 : cM), i + m = K → (∀ c j, c ≠ 79 → M1 c j = Mr c j) → (∀ v, 0 ≤ v → v ≤ 1000 → M1 79 v ≤ t ∧ (M1 79 v = t ↔ anb (vof M n (ogr M a n) t) v i = true)) → F_xs_unlikeViews_5 Q (m + 1) K t (dvc (vof M n (ogr M a n) t) i) i M1 := by
  have hK7 := hO.2.2.1
  have hcos : cosT Mr := (hR.kp hp).cos
  intro m
  induction m with
  | zero =>
    intro i M1 hi e1 e2
    unfold F_xs_unlikeViews_5
    rw [if_pos (by omega)]
    rw [show K = i by omega] at H; exact H M1 e1 (fun v v0 v1 => (e2 v v0 v1).1)
  | succ m ih =>
    intro i M1 hi e1 e2
    have hv := hO.w hR ha i (by omega)
    have hb := vof_b (t := t) hR ha hO (j := i) (by omega)
    have hc1 : cosT M1 := ⟨by rw [e1 _ _ (by decide)]; exact hcos.1, fun d d0 d1 => by rw [e1 _ _ (by decide)]; exact hcos.2 d d0 d1⟩
    have hd := dvc_le (vof M n (ogr M a n) t) i
    unfold F_xs_unlikeViews_5 F_xs_unlikeViews_46
    rw [if_neg (by omega), e1 78 _ (by decide), h78 i (by omega), wE (by omega)]
    refine ⟨by omega, ?_⟩
    unfold encp
    rw [E_xl_seenAt hc1 (olt_ok hR hv) ht, show zsee (olt M n (orb n (ogr M a n) i)).1 (olt M n (orb n (ogr M a n) i)).2 t = vof M n (ogr M a n) t i from rfl]
    refine ⟨by omega, ?_⟩
    have e : dvc (vof M n (ogr M a n) t) (i + 1) = dvc (vof M n (ogr M a n) t) i + if anb (vof M n (ogr M a n) t) (vof M n (ogr M a n) t i) i = true then 0 else 1 := rfl
    have hm := e2 _ hb.1 hb.2
    by_cases q : M1 79 (vof M n (ogr M a n) t i) = t
    · rw [if_pos q]
      have := ih (i + 1) M1 (by omega) e1 (fun v v0 v1 => by
        have h := e2 v v0 v1
        refine ⟨h.1, ?_⟩
        rw [anb_s]
        constructor
        · intro z; exact Or.inl (h.2.mp z)
        · intro z
          rcases z with z | z
          · exact h.2.mpr z
          · rw [← z]; exact q)
      rw [e, if_pos (hm.2.mp q), Nat.add_zero] at this
      exact this
    · rw [if_neg q, wE (by omega)]
      refine ⟨by omega, ?_⟩
      have := ih (i + 1) (wr M1 79 (vof M n (ogr M a n) t i) t) (by omega) (fun c j hc => by rw [wr_ne hc]; exact e1 c j hc) (fun v v0 v1 => by
        have h := e2 v v0 v1
        rw [anb_s]
        by_cases z : v = vof M n (ogr M a n) t i
        · rw [z, wr_eq]
          exact ⟨Int.le_refl _, fun _ => Or.inr rfl, fun _ => rfl⟩
        · rw [wr_nj z]
          refine ⟨h.1, fun y => Or.inl (h.2.mp y), fun y => ?_⟩
          rcases y with y | y
          · exact h.2.mpr y
          · exact absurd y.symm z)
      rw [e, if_neg (fun z => q (hm.2.mpr z))] at this
      exact this
def vwc (M : cM) (n K : Nat) (g : Int → Int) (t : Int) : Int := (dvc (vof M n g t) K : Nat)
theorem L_xs_apart {Q : Int → cM → Prop} {M Mr : cM} {a : Int} {n K : Nat} (hR : RR M) (ha : 0 ≤ a ∧ a < 4) (hO : OK M a n K) (hp : Kp M Mr) (h78 : ∀ j : Nat, j < K → Mr 78 j = encp (olt M n (orb n (ogr M a n) j))) (H : ∀ M', (∀ c j, c ≠ 79 → M' c j = Mr c j) → Q (bs0 (vwc M n K (ogr M a n)) 12).1 M') : ∀ (m t : Nat) (M1 : cM), t + m = 12 → (∀ c j, c ≠ 79 → M1 c j = Mr c j) → (∀ v, 0 ≤ v → v ≤ 1000 → M1 79 v < t) → F_xs_apart_36 Q (m + 1) K (bs0 (vwc M n K (ogr M a n)) t).1 (bs0 (vwc M n K (ogr M a n)) t).2 t M1 := by
  intro m
  induction m with
  | zero =>
    intro t M1 ht e1 e2
    unfold F_xs_apart_36
    rw [if_pos (by omega)]
    rw [show t = 12 by omega]; exact H M1 e1
  | succ m ih =>
    intro t M1 ht e1 e2
    unfold F_xs_apart_36 F_xs_apart_66 F_xs_unlikeViews
    rw [if_neg (by omega), wE (by omega)]
    refine ⟨_, L_views (t := t) hR ha hO (by omega) hp h78 (fun M' f1 f2 => ?_) K 0 M1 (by omega) e1 (fun v v0 v1 => ⟨by have := e2 v v0 v1; omega, ?_⟩)⟩
    · have := ih (t + 1) M' (by omega) f1 (fun v v0 v1 => by have := f2 v v0 v1; omega)
      have e : bs0 (vwc M n K (ogr M a n)) (t + 1) = if vwc M n K (ogr M a n) t ≤ (bs0 (vwc M n K (ogr M a n)) t).2 then bs0 (vwc M n K (ogr M a n)) t else ((t : Int), vwc M n K (ogr M a n) t) := rfl
      rw [e] at this
      by_cases q : vwc M n K (ogr M a n) t ≤ (bs0 (vwc M n K (ogr M a n)) t).2
      · rw [if_pos q] at this
        rw [if_pos (show ((dvc (vof M n (ogr M a n) t) K : Nat) : Int) ≤ _ from q)]
        exact this
      · rw [if_neg q] at this
        rw [if_neg (show ¬ ((dvc (vof M n (ogr M a n) t) K : Nat) : Int) ≤ _ from q)]
        exact this
    · have := e2 v v0 v1
      constructor
      · intro z; omega
      · intro z; cases z
/-- only the model's light, row and marks have changed -/
def La (M M' : cM) : Prop := ∀ c j, ¬ (c = 100 ∧ (j = 6 ∨ j = 7)) → c ≠ 105 → c ≠ 106 → M' c j = M c j
theorem La.rf (M : cM) : La M M := fun _ _ _ _ _ => rfl
theorem La.tr {M M1 M2 : cM} (h : La M M1) (h' : La M1 M2) : La M M2 := fun c j a b d => (h' c j a b d).trans (h c j a b d)
theorem Lt.la {M M' : cM} (h : Lt M M') : La M M' := fun c j a _ _ => h c j a
theorem La.st {M M1 : cM} {g : Int → Int} (h : La M M1) : La M (stc M1 105 g) := fun c j a b d => by rw [stc_ne b]; exact h c j a b d
theorem La.w {M M1 : cM} {j v : Int} (h : La M M1) : La M (wr M1 106 j v) := fun c j a b d => by rw [wr_ne d]; exact h c j a b d
theorem La.kp {M M' : cM} (h : La M M') : Kp M M' := fun c j hk => h c j (fun q => by unfold keep at hk; omega) (fun q => by unfold keep at hk; omega) (fun q => by unfold keep at hk; omega)
theorem La.m {M M1 : cM} (h : La M M1) (j : Int) : M1 101 j = M 101 j := h 101 j (by omega) (by decide) (by decide)
theorem L_xm_ap71 {Q : Int → cM → Prop} {k28 : Int → Int → Int → Int → Int → cM → Prop} {M : cM} {a t l3 l4 : Int} {n K : Nat} {s' p : Int → Int} (hR : RR M) (ha : 0 ≤ a ∧ a < 4) (hO : OK M a n K) (hs : agr n (msr M a) s') {M0 : cM} (e0 : ∀ j, M0 101 j = M 101 j) (ht : 0 ≤ t ∧ t ≤ 11) (H : ∀ M', La M0 M' → if (dvc (vof M n (ogr M a n) t) K : Int) ≤ l4 then F_xm_apart_140 Q k28 a n l4 t (dvc (vof M n (ogr M a n) t) K) l3 M' else F_xm_apart_140 Q k28 a n l4 t (dvc (vof M n (ogr M a n) t) K) t M') : ∀ (m k : Nat) (M1 : cM), k + m + 1 = K → La M0 M1 → M1 105 = orb n (srt s' p n) k → (∀ v, 0 ≤ v → v ≤ 1000 → M1 106 v = if anb (vof M n (ogr M a n) t) v k = true then 1 else 0) → F_xm_apart_71 Q k28 (m + 2) a n l3 l4 t (dvc (vof M n (ogr M a n) t) k) 1 M1 := by
  have hK7 := hO.2.2.1
  have hK := hO.2.2.2 s' p hs
  have key : ∀ (m k : Nat) (M1 : cM), k + m + 1 = K → La M0 M1 → M1 105 = orb n (srt s' p n) k → (∀ v, 0 ≤ v → v ≤ 1000 → M1 106 v = if anb (vof M n (ogr M a n) t) v k = true then 1 else 0) → (∀ M', La M0 M' → M' 105 = orb n (srt s' p n) k → (∀ v, 0 ≤ v → v ≤ 1000 → M' 106 v = if anb (vof M n (ogr M a n) t) v (k + 1) = true then 1 else 0) → F_xm_nextOrder (fun x24 M23 => F_xm_apart_71 Q k28 (m + 1) a n l3 l4 t (dvc (vof M n (ogr M a n) t) (k + 1)) x24 M23) n M') → F_xm_apart_71 Q k28 (m + 2) a n l3 l4 t (dvc (vof M n (ogr M a n) t) k) 1 M1 := by
    intro m k M1 hk hp h105 h106 G
    have hb := vof_b (t := t) hR ha hO (j := k) (by omega)
    have hd := dvc_le (vof M n (ogr M a n) t) k
    have hv := hO.w hR ha k (by omega)
    have hl := olt_ok hR hv
    unfold F_xm_apart_71 F_xm_apart_106
    rw [if_neg (by decide)]
    refine Y_goesOrder hR (fun j => by rw [hp.m, e0]) hO.1 (by rw [h105]; exact hO.v hR ha hs k (by omega)) (fun M2 L2 m2 => ?_)
    rw [olt_kp (fun _ => rfl) (p := orb n (ogr M a n) k) (by rw [h105]; exact hO.a hs k (by omega))] at m2
    have m6 : M2 100 6 = (olt M n (orb n (ogr M a n) k)).1 := congrArg Prod.fst m2
    have m7 : M2 100 7 = (olt M n (orb n (ogr M a n) k)).2 := congrArg Prod.snd m2
    rw [Y_seenAt (by rw [m6, m7]; exact hl) ht, m6, m7, show zsee (olt M n (orb n (ogr M a n) k)).1 (olt M n (orb n (ogr M a n) k)).2 t = vof M n (ogr M a n) t k from rfl]
    refine ⟨by omega, ?_⟩
    have e106 : ∀ v, M2 106 v = M1 106 v := fun v => L2.at (by decide) v
    have G2 := G (wr M2 106 (vof M n (ogr M a n) t k) 1) (hp.tr L2.la).w (by rw [← h105]; funext j; rw [wr_ne (by decide)]; exact L2.at (by decide) j) (fun v v0 v1 => by
      have hA := anb_s (vof M n (ogr M a n) t) v k
      by_cases z : v = vof M n (ogr M a n) t k
      · rw [z, wr_eq, if_pos ((anb_s _ _ _).mpr (Or.inr rfl))]
      · rw [wr_nj z, e106, h106 v v0 v1]
        by_cases y : anb (vof M n (ogr M a n) t) v k = true
        · rw [if_pos y, if_pos (hA.mpr (Or.inl y))]
        · rw [if_neg y, if_neg (fun x => by
            rcases hA.mp x with x | x
            · exact y x
            · exact z x.symm)])
    have e : dvc (vof M n (ogr M a n) t) (k + 1) = dvc (vof M n (ogr M a n) t) k + if anb (vof M n (ogr M a n) t) (vof M n (ogr M a n) t k) k = true then 0 else 1 := rfl
    rw [e] at G2
    rw [e106, h106 _ hb.1 hb.2, narK41]
    by_cases y : anb (vof M n (ogr M a n) t) (vof M n (ogr M a n) t k) k = true
    · rw [if_pos y] at G2
      rw [if_pos y, if_neg (by decide), Int.add_zero, w32_e (by omega) (by omega)]
      exact ⟨by omega, G2⟩
    · rw [if_neg y] at G2
      rw [if_neg y, if_pos rfl, wE (by omega)]
      exact ⟨by omega, G2⟩
  intro m
  induction m with
  | zero =>
    intro k M1 hk hp h105 h106
    refine key 0 k M1 hk hp h105 h106 (fun M' hp' h' _ => ?_)
    rw [← stc_id M' 105, h']
    refine Y_nextOrder hO.1 (fun q => ?_) (fun q => ?_)
    · have := hK.2.2
      rw [show K - 1 = k by omega] at this
      omega
    · unfold F_xm_apart_71
      rw [if_pos rfl, show k + 1 = K by omega]
      exact H _ hp'.st
  | succ m ih =>
    intro k M1 hk hp h105 h106
    refine key (m + 1) k M1 hk hp h105 h106 (fun M' hp' h' h'6 => ?_)
    rw [← stc_id M' 105, h']
    refine Y_nextOrder hO.1 (fun q => ?_) (fun q => ?_)
    · exact ih (k + 1) _ (by omega) hp'.st stc_row (fun v v0 v1 => by rw [stc_ne (by decide)]; exact h'6 v v0 v1)
    · have := hK.2.1 k (by omega)
      omega
theorem L_xm_ap38 {Q : Int → cM → Prop} {k28 : Int → Int → Int → Int → Int → cM → Prop} {M0 : cM} {a t l3 l4 : Int} {n : Nat} (H : ∀ M', La M0 M' → (∀ v, 0 ≤ v → v ≤ 1000 → M' 106 v = 0) → F_xm_firstOrder (fun M10 => ∃ e71, F_xm_apart_71 Q k28 e71 a n l3 l4 t 0 1 M10) a M') : ∀ (m i : Nat) (M1 : cM), i + m = 1001 → La M0 M1 → (∀ v : Int, 0 ≤ v → v < i → M1 106 v = 0) → F_xm_apart_38 Q k28 (m + 1) a n l3 l4 t i M1 := by
  intro m
  induction m with
  | zero =>
    intro i M1 hi hp h6
    unfold F_xm_apart_38
    rw [if_pos (by omega)]
    exact H M1 hp (fun v v0 v1 => h6 v v0 (by omega))
  | succ m ih =>
    intro i M1 hi hp h6
    unfold F_xm_apart_38
    rw [if_neg (by omega), w32_e (x := (i : Int) + 1) (by omega) (by omega), narK40]
    refine ⟨by omega, ih (i + 1) _ (by omega) hp.w (fun v v0 v1 => ?_)⟩
    by_cases e : v = i
    · rw [e, wr_eq]
    · rw [wr_nj e]; exact h6 v v0 (by omega)
theorem L_xm_apart {Q : Int → cM → Prop} {M : cM} {a : Int} {n K : Nat} (hR : RR M) (ha : 0 ≤ a ∧ a < 4) (hO : OK M a n K) {M0 : cM} (e0 : ∀ j, M0 101 j = M 101 j) (H : ∀ M', La M0 M' → Q (bsf (vwc M n K (ogr M a n)) 12).1 M') : ∀ (m t : Nat) (M1 : cM), t + m = 12 → La M0 M1 → F_xm_apart_28 Q (m + 1) a n (bsf (vwc M n K (ogr M a n)) t).1 (bsf (vwc M n K (ogr M a n)) t).2 t M1 := by
  have hK := hO.g
  intro m
  induction m with
  | zero =>
    intro t M1 ht hp
    unfold F_xm_apart_28
    rw [if_pos (by omega)]
    rw [show t = 12 by omega]; exact H M1 hp
  | succ m ih =>
    intro t M1 ht hp
    unfold F_xm_apart_28
    rw [if_neg (by omega)]
    refine ⟨_, L_xm_ap38 (fun M2 hp2 h6 => ?_) 1001 0 M1 (by decide) hp (fun v v0 v1 => absurd v1 (by omega))⟩
    have e101 : ∀ j, M2 101 j = M 101 j := fun j => by rw [hp2.m, e0]
    refine Y_firstOrder ha hO.1 (by rw [e101, hO.2.1]) ?_
    refine ⟨_, L_xm_ap71 (t := t) hR ha hO (s' := msr M2 a) (fun i _ _ => (e101 _).symm) e0 (by omega) (fun M3 hp3 => ?_) (K - 1) 0 _ (by have := hK.1; omega) hp2.st stc_row (fun v v0 v1 => by rw [stc_ne (by decide)]; exact h6 v v0 v1)⟩
    have ih1 := ih (t + 1) M3 (by omega) hp3
    have e : bsf (vwc M n K (ogr M a n)) (t + 1) = if vwc M n K (ogr M a n) t ≤ (bsf (vwc M n K (ogr M a n)) t).2 then bsf (vwc M n K (ogr M a n)) t else ((t : Int), vwc M n K (ogr M a n) t) := rfl
    rw [e] at ih1
    unfold F_xm_apart_140 F_xm_apart_155
    rw [wE (by omega)]
    by_cases q : vwc M n K (ogr M a n) t ≤ (bsf (vwc M n K (ogr M a n)) t).2
    · rw [if_pos q] at ih1
      have q' : ((dvc (vof M n (ogr M a n) t) K : Nat) : Int) ≤ (bsf (vwc M n K (ogr M a n)) t).2 := q
      rw [if_pos q', if_pos q']
      exact ih1
    · rw [if_neg q] at ih1
      have q' : ¬ ((dvc (vof M n (ogr M a n) t) K : Nat) : Int) ≤ (bsf (vwc M n K (ogr M a n)) t).2 := q
      rw [if_neg q', if_neg q']
      exact ih1
theorem Z_apart {P : Int → Int → cM → Prop} {M : cM} {a : Int} (hR : RR M) (H : ∀ r M', RR M' → P r r M') : F_xs_apart (fun x M1 => F_xm_apart (fun y M2 => P x y M2) a M1) a M := by
  unfold F_xs_apart
  rw [E_xs_isStack, ite01]
  by_cases h1 : 0 ≤ a ∧ a < 4
  rotate_left
  · rw [if_neg h1]
    refine Z_err 0 (by decide) (by decide) hR (fun M1 e1 hR1 => ?_)
    unfold F_xm_apart
    try dsimp only
    rw [E_xm_isStack, ite01, if_neg h1, E_xm_fin 0 (by decide) (by decide)]
    exact H _ _ hR1
  obtain ⟨n, K, hO⟩ := hR.ok h1
  rw [if_pos h1]
  refine X_reckon hR h1 hO (fun M1 hp h78 => ?_)
  refine X_fill (by decide) (fun M2 f1 f2 => ?_)
  have hp2 : Kp M M2 := fun c j hk => by rw [f1 c j (fun q => nk79 j (by rw [← q]; exact hk))]; exact hp c j hk
  refine ⟨_, L_xs_apart hR h1 hO hp2 (fun j hj => by rw [f1 _ _ (by decide)]; exact h78 j hj) (fun M3 f3 => ?_) 12 0 M2 (by decide) (fun _ _ _ => rfl) (fun v v0 v1 => by rw [f2 v v0 (by omega)]; decide)⟩
  have hp3 : Kp M M3 := fun c j hk => by rw [f3 c j (fun q => nk79 j (by rw [← q]; exact hk))]; exact hp2 c j hk
  have hK := hO.g
  have ev : bs0 (vwc M n K (ogr M a n)) 12 = bsf (vwc M n K (ogr M a n)) 12 := bs0_eq (by
    have := dvc_1 (vof M n (ogr M a n) 0) K hK.1
    show (0 : Int) < ((dvc (vof M n (ogr M a n) 0) K : Nat) : Int)
    omega) 11
  rw [ev]
  unfold F_xm_apart
  try dsimp only
  rw [E_xm_isStack, ite01, if_pos h1, E_xm_manyIn h1, hp3.m, hO.2.1]
  exact ⟨_, L_xm_apart hR h1 hO hp3.m (fun M' hp' => H _ _ (hR.kp (hp3.tr hp'.kp))) 12 0 M3 (by decide) (La.rf M3)⟩
