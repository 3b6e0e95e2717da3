/-! The law's loop: every call answered alike. -/
theorem law_c {Q : Int → cM → Prop} {k18 : Int → cM → Prop} {l3 : Int} {M : cM} (hk : ∀ M', RR M' → (∀ c j, 1000 ≤ c → M' c j = M c j) → k18 (w32 (l3 + 6)) M') : ∀ (r : Int) M', RR M' → (∀ c j, 1000 ≤ c → M' c j = M c j) → (if r = r then (F_xw_law_1808 Q (k18) l3 M') else (Q (narK 4 0) M')) := fun r M' hR hc => by
  rw [if_pos rfl]
  unfold F_xw_law_1808
  exact hk M' hR hc
theorem B_yw_law_240 {Q : Int → cM → Prop} {k18 : Int → cM → Prop} {l3 : Int} {M : cM} (hR : RR M) (h0 : 0 ≤ l3) (h6 : l3 + 6 ≤ M 1002 (-1)) (hb : M 1002 (-1) < 1000000) (hk : ∀ M', RR M' → (∀ c j, 1000 ≤ c → M' c j = M c j) → k18 (w32 (l3 + 6)) M') : F_yw_law_240 Q k18 l3 M := by
  have e1 : w32 (l3 + 1) = l3 + 1 := w32_e (by omega) (by omega)
  have e2 : w32 (l3 + 2) = l3 + 2 := w32_e (by omega) (by omega)
  have e3 : w32 (l3 + 3) = l3 + 3 := w32_e (by omega) (by omega)
  unfold F_yw_law_240
  rw [e1, e2, e3]
  exact ⟨by omega, by omega, by omega, Z_sheet hR (law_c hk)⟩
theorem B_yw_law_283 {Q : Int → cM → Prop} {k18 : Int → cM → Prop} {l3 : Int} {M : cM} (hR : RR M) (h0 : 0 ≤ l3) (h6 : l3 + 6 ≤ M 1002 (-1)) (hb : M 1002 (-1) < 1000000) (hk : ∀ M', RR M' → (∀ c j, 1000 ≤ c → M' c j = M c j) → k18 (w32 (l3 + 6)) M') : F_yw_law_283 Q k18 l3 M := by
  have e1 : w32 (l3 + 1) = l3 + 1 := w32_e (by omega) (by omega)
  have e2 : w32 (l3 + 2) = l3 + 2 := w32_e (by omega) (by omega)
  unfold F_yw_law_283
  rw [e1, e2]
  exact ⟨by omega, by omega, Z_sheetOf hR (law_c hk)⟩
theorem B_yw_law_316 {Q : Int → cM → Prop} {k18 : Int → cM → Prop} {l3 : Int} {M : cM} (hR : RR M) (h0 : 0 ≤ l3) (h6 : l3 + 6 ≤ M 1002 (-1)) (hb : M 1002 (-1) < 1000000) (hk : ∀ M', RR M' → (∀ c j, 1000 ≤ c → M' c j = M c j) → k18 (w32 (l3 + 6)) M') : F_yw_law_316 Q k18 l3 M := by
  have e1 : w32 (l3 + 1) = l3 + 1 := w32_e (by omega) (by omega)
  have e2 : w32 (l3 + 2) = l3 + 2 := w32_e (by omega) (by omega)
  have e3 : w32 (l3 + 3) = l3 + 3 := w32_e (by omega) (by omega)
  unfold F_yw_law_316
  rw [e1, e2, e3]
  exact ⟨by omega, by omega, by omega, Z_change hR (law_c hk)⟩
theorem B_yw_law_359 {Q : Int → cM → Prop} {k18 : Int → cM → Prop} {l3 : Int} {M : cM} (hR : RR M) (h0 : 0 ≤ l3) (h6 : l3 + 6 ≤ M 1002 (-1)) (hb : M 1002 (-1) < 1000000) (hk : ∀ M', RR M' → (∀ c j, 1000 ≤ c → M' c j = M c j) → k18 (w32 (l3 + 6)) M') : F_yw_law_359 Q k18 l3 M := by
  have e1 : w32 (l3 + 1) = l3 + 1 := w32_e (by omega) (by omega)
  unfold F_yw_law_359
  rw [e1]
  exact ⟨by omega, Z_load hR (law_c hk)⟩
theorem B_yw_law_382 {Q : Int → cM → Prop} {k18 : Int → cM → Prop} {l3 : Int} {M : cM} (hR : RR M) (h0 : 0 ≤ l3) (h6 : l3 + 6 ≤ M 1002 (-1)) (hb : M 1002 (-1) < 1000000) (hk : ∀ M', RR M' → (∀ c j, 1000 ≤ c → M' c j = M c j) → k18 (w32 (l3 + 6)) M') : F_yw_law_382 Q k18 l3 M := by
  have e1 : w32 (l3 + 1) = l3 + 1 := w32_e (by omega) (by omega)
  have e2 : w32 (l3 + 2) = l3 + 2 := w32_e (by omega) (by omega)
  unfold F_yw_law_382
  rw [e1, e2]
  exact ⟨by omega, by omega, Z_lamp hR (law_c hk)⟩
theorem B_yw_law_415 {Q : Int → cM → Prop} {k18 : Int → cM → Prop} {l3 : Int} {M : cM} (hR : RR M) (h0 : 0 ≤ l3) (h6 : l3 + 6 ≤ M 1002 (-1)) (hb : M 1002 (-1) < 1000000) (hk : ∀ M', RR M' → (∀ c j, 1000 ≤ c → M' c j = M c j) → k18 (w32 (l3 + 6)) M') : F_yw_law_415 Q k18 l3 M := by
  have e1 : w32 (l3 + 1) = l3 + 1 := w32_e (by omega) (by omega)
  have e2 : w32 (l3 + 2) = l3 + 2 := w32_e (by omega) (by omega)
  unfold F_yw_law_415
  rw [e1, e2]
  exact ⟨by omega, by omega, Z_lay hR (law_c hk)⟩
theorem B_yw_law_448 {Q : Int → cM → Prop} {k18 : Int → cM → Prop} {l3 : Int} {M : cM} (hR : RR M) (h0 : 0 ≤ l3) (h6 : l3 + 6 ≤ M 1002 (-1)) (hb : M 1002 (-1) < 1000000) (hk : ∀ M', RR M' → (∀ c j, 1000 ≤ c → M' c j = M c j) → k18 (w32 (l3 + 6)) M') : F_yw_law_448 Q k18 l3 M := by
  have e1 : w32 (l3 + 1) = l3 + 1 := w32_e (by omega) (by omega)
  unfold F_yw_law_448
  rw [e1]
  exact ⟨by omega, Z_off hR (law_c hk)⟩
theorem B_yw_law_471 {Q : Int → cM → Prop} {k18 : Int → cM → Prop} {l3 : Int} {M : cM} (hR : RR M) (h0 : 0 ≤ l3) (h6 : l3 + 6 ≤ M 1002 (-1)) (hb : M 1002 (-1) < 1000000) (hk : ∀ M', RR M' → (∀ c j, 1000 ≤ c → M' c j = M c j) → k18 (w32 (l3 + 6)) M') : F_yw_law_471 Q k18 l3 M := by
  have e1 : w32 (l3 + 1) = l3 + 1 := w32_e (by omega) (by omega)
  have e2 : w32 (l3 + 2) = l3 + 2 := w32_e (by omega) (by omega)
  unfold F_yw_law_471
  rw [e1, e2]
  exact ⟨by omega, by omega, Z_at hR (law_c hk)⟩
theorem B_yw_law_504 {Q : Int → cM → Prop} {k18 : Int → cM → Prop} {l3 : Int} {M : cM} (hR : RR M) (h0 : 0 ≤ l3) (h6 : l3 + 6 ≤ M 1002 (-1)) (hb : M 1002 (-1) < 1000000) (hk : ∀ M', RR M' → (∀ c j, 1000 ≤ c → M' c j = M c j) → k18 (w32 (l3 + 6)) M') : F_yw_law_504 Q k18 l3 M := by
  have e1 : w32 (l3 + 1) = l3 + 1 := w32_e (by omega) (by omega)
  unfold F_yw_law_504
  rw [e1]
  exact ⟨by omega, Z_round hR (law_c hk)⟩
theorem B_yw_law_527 {Q : Int → cM → Prop} {k18 : Int → cM → Prop} {l3 : Int} {M : cM} (hR : RR M) (h0 : 0 ≤ l3) (h6 : l3 + 6 ≤ M 1002 (-1)) (hb : M 1002 (-1) < 1000000) (hk : ∀ M', RR M' → (∀ c j, 1000 ≤ c → M' c j = M c j) → k18 (w32 (l3 + 6)) M') : F_yw_law_527 Q k18 l3 M := by
  have e1 : w32 (l3 + 1) = l3 + 1 := w32_e (by omega) (by omega)
  have e2 : w32 (l3 + 2) = l3 + 2 := w32_e (by omega) (by omega)
  unfold F_yw_law_527
  rw [e1, e2]
  exact ⟨by omega, by omega, Z_like hR (law_c hk)⟩
theorem B_yw_law_560 {Q : Int → cM → Prop} {k18 : Int → cM → Prop} {l3 : Int} {M : cM} (hR : RR M) (h0 : 0 ≤ l3) (h6 : l3 + 6 ≤ M 1002 (-1)) (hb : M 1002 (-1) < 1000000) (hk : ∀ M', RR M' → (∀ c j, 1000 ≤ c → M' c j = M c j) → k18 (w32 (l3 + 6)) M') : F_yw_law_560 Q k18 l3 M := by
  have e1 : w32 (l3 + 1) = l3 + 1 := w32_e (by omega) (by omega)
  have e2 : w32 (l3 + 2) = l3 + 2 := w32_e (by omega) (by omega)
  have e3 : w32 (l3 + 3) = l3 + 3 := w32_e (by omega) (by omega)
  unfold F_yw_law_560 F_yw_law_579
  rw [e1, e2, e3]
  have b1 : (0 : Int) ≤ l3 + 1 ∧ l3 + 1 < M 1002 (-1) := by omega
  have b2 : (0 : Int) ≤ l3 + 2 ∧ l3 + 2 < M 1002 (-1) := by omega
  refine ⟨b1, b2, ?_⟩
  by_cases z : M 1002 (l3 + 2) = 0
  · rw [if_pos z]
    exact ⟨⟨rfl, by rw [if_pos z], b1, b2⟩, ⟨by omega, Z_through hR (law_c hk)⟩⟩
  · rw [if_neg z]
    exact ⟨⟨rfl, by rw [if_neg z], b1, b2⟩, ⟨by omega, Z_through hR (law_c hk)⟩⟩
theorem B_yw_law_619 {Q : Int → cM → Prop} {k18 : Int → cM → Prop} {l3 : Int} {M : cM} (hR : RR M) (h0 : 0 ≤ l3) (h6 : l3 + 6 ≤ M 1002 (-1)) (hb : M 1002 (-1) < 1000000) (hk : ∀ M', RR M' → (∀ c j, 1000 ≤ c → M' c j = M c j) → k18 (w32 (l3 + 6)) M') : F_yw_law_619 Q k18 l3 M := by
  have e1 : w32 (l3 + 1) = l3 + 1 := w32_e (by omega) (by omega)
  have e2 : w32 (l3 + 2) = l3 + 2 := w32_e (by omega) (by omega)
  have e3 : w32 (l3 + 3) = l3 + 3 := w32_e (by omega) (by omega)
  unfold F_yw_law_619 F_yw_law_638
  rw [e1, e2, e3]
  have b1 : (0 : Int) ≤ l3 + 1 ∧ l3 + 1 < M 1002 (-1) := by omega
  have b2 : (0 : Int) ≤ l3 + 2 ∧ l3 + 2 < M 1002 (-1) := by omega
  refine ⟨b1, b2, ?_⟩
  by_cases z : M 1002 (l3 + 2) = 0
  · rw [if_pos z]
    exact ⟨⟨rfl, by rw [if_pos z], b1, b2⟩, ⟨by omega, Z_seen hR (law_c hk)⟩⟩
  · rw [if_neg z]
    exact ⟨⟨rfl, by rw [if_neg z], b1, b2⟩, ⟨by omega, Z_seen hR (law_c hk)⟩⟩
theorem B_yw_law_678 {Q : Int → cM → Prop} {k18 : Int → cM → Prop} {l3 : Int} {M : cM} (hR : RR M) (h0 : 0 ≤ l3) (h6 : l3 + 6 ≤ M 1002 (-1)) (hb : M 1002 (-1) < 1000000) (hk : ∀ M', RR M' → (∀ c j, 1000 ≤ c → M' c j = M c j) → k18 (w32 (l3 + 6)) M') : F_yw_law_678 Q k18 l3 M := by
  have e1 : w32 (l3 + 1) = l3 + 1 := w32_e (by omega) (by omega)
  have e2 : w32 (l3 + 2) = l3 + 2 := w32_e (by omega) (by omega)
  unfold F_yw_law_678 F_yw_law_697
  rw [e1, e2]
  have b1 : (0 : Int) ≤ l3 + 1 ∧ l3 + 1 < M 1002 (-1) := by omega
  have b2 : (0 : Int) ≤ l3 + 2 ∧ l3 + 2 < M 1002 (-1) := by omega
  refine ⟨b1, b2, ?_⟩
  by_cases z : M 1002 (l3 + 2) = 0
  · rw [if_pos z]
    exact ⟨⟨rfl, by rw [if_pos z], b1, b2⟩, Z_bright hR (law_c hk)⟩
  · rw [if_neg z]
    exact ⟨⟨rfl, by rw [if_neg z], b1, b2⟩, Z_bright hR (law_c hk)⟩
theorem B_yw_law_727 {Q : Int → cM → Prop} {k18 : Int → cM → Prop} {l3 : Int} {M : cM} (hR : RR M) (h0 : 0 ≤ l3) (h6 : l3 + 6 ≤ M 1002 (-1)) (hb : M 1002 (-1) < 1000000) (hk : ∀ M', RR M' → (∀ c j, 1000 ≤ c → M' c j = M c j) → k18 (w32 (l3 + 6)) M') : F_yw_law_727 Q k18 l3 M := by
  have e1 : w32 (l3 + 1) = l3 + 1 := w32_e (by omega) (by omega)
  have e2 : w32 (l3 + 2) = l3 + 2 := w32_e (by omega) (by omega)
  unfold F_yw_law_727 F_yw_law_746
  rw [e1, e2]
  have b1 : (0 : Int) ≤ l3 + 1 ∧ l3 + 1 < M 1002 (-1) := by omega
  have b2 : (0 : Int) ≤ l3 + 2 ∧ l3 + 2 < M 1002 (-1) := by omega
  refine ⟨b1, b2, ?_⟩
  by_cases z : M 1002 (l3 + 2) = 0
  · rw [if_pos z]
    exact ⟨⟨rfl, by rw [if_pos z], b1, b2⟩, Z_dark hR (law_c hk)⟩
  · rw [if_neg z]
    exact ⟨⟨rfl, by rw [if_neg z], b1, b2⟩, Z_dark hR (law_c hk)⟩
theorem B_yw_law_776 {Q : Int → cM → Prop} {k18 : Int → cM → Prop} {l3 : Int} {M : cM} (hR : RR M) (h0 : 0 ≤ l3) (h6 : l3 + 6 ≤ M 1002 (-1)) (hb : M 1002 (-1) < 1000000) (hk : ∀ M', RR M' → (∀ c j, 1000 ≤ c → M' c j = M c j) → k18 (w32 (l3 + 6)) M') : F_yw_law_776 Q k18 l3 M := by
  have e1 : w32 (l3 + 1) = l3 + 1 := w32_e (by omega) (by omega)
  have e2 : w32 (l3 + 2) = l3 + 2 := w32_e (by omega) (by omega)
  have e3 : w32 (l3 + 3) = l3 + 3 := w32_e (by omega) (by omega)
  unfold F_yw_law_776
  rw [e1, e2, e3]
  exact ⟨by omega, by omega, by omega, Z_alike hR (law_c hk)⟩
theorem B_yw_law_819 {Q : Int → cM → Prop} {k18 : Int → cM → Prop} {l3 : Int} {M : cM} (hR : RR M) (h0 : 0 ≤ l3) (h6 : l3 + 6 ≤ M 1002 (-1)) (hb : M 1002 (-1) < 1000000) (hk : ∀ M', RR M' → (∀ c j, 1000 ≤ c → M' c j = M c j) → k18 (w32 (l3 + 6)) M') : F_yw_law_819 Q k18 l3 M := by
  have e1 : w32 (l3 + 1) = l3 + 1 := w32_e (by omega) (by omega)
  have e2 : w32 (l3 + 2) = l3 + 2 := w32_e (by omega) (by omega)
  unfold F_yw_law_819
  rw [e1, e2]
  exact ⟨by omega, by omega, Z_sky hR (law_c hk)⟩
theorem B_yw_law_852 {Q : Int → cM → Prop} {k18 : Int → cM → Prop} {l3 : Int} {M : cM} (hR : RR M) (h0 : 0 ≤ l3) (h6 : l3 + 6 ≤ M 1002 (-1)) (hb : M 1002 (-1) < 1000000) (hk : ∀ M', RR M' → (∀ c j, 1000 ≤ c → M' c j = M c j) → k18 (w32 (l3 + 6)) M') : F_yw_law_852 Q k18 l3 M := by
  have e1 : w32 (l3 + 1) = l3 + 1 := w32_e (by omega) (by omega)
  have e2 : w32 (l3 + 2) = l3 + 2 := w32_e (by omega) (by omega)
  have e3 : w32 (l3 + 3) = l3 + 3 := w32_e (by omega) (by omega)
  unfold F_yw_law_852
  rw [e1, e2, e3]
  exact ⟨by omega, by omega, by omega, Z_hours hR (law_c hk)⟩
theorem B_yw_law_895 {Q : Int → cM → Prop} {k18 : Int → cM → Prop} {l3 : Int} {M : cM} (hR : RR M) (h0 : 0 ≤ l3) (h6 : l3 + 6 ≤ M 1002 (-1)) (hb : M 1002 (-1) < 1000000) (hk : ∀ M', RR M' → (∀ c j, 1000 ≤ c → M' c j = M c j) → k18 (w32 (l3 + 6)) M') : F_yw_law_895 Q k18 l3 M := by
  have e1 : w32 (l3 + 1) = l3 + 1 := w32_e (by omega) (by omega)
  have e2 : w32 (l3 + 2) = l3 + 2 := w32_e (by omega) (by omega)
  have e3 : w32 (l3 + 3) = l3 + 3 := w32_e (by omega) (by omega)
  unfold F_yw_law_895
  rw [e1, e2, e3]
  exact ⟨by omega, by omega, by omega, Z_loads hR (law_c hk)⟩
theorem B_yw_law_938 {Q : Int → cM → Prop} {k18 : Int → cM → Prop} {l3 : Int} {M : cM} (hR : RR M) (h0 : 0 ≤ l3) (h6 : l3 + 6 ≤ M 1002 (-1)) (hb : M 1002 (-1) < 1000000) (hk : ∀ M', RR M' → (∀ c j, 1000 ≤ c → M' c j = M c j) → k18 (w32 (l3 + 6)) M') : F_yw_law_938 Q k18 l3 M := by
  have e1 : w32 (l3 + 1) = l3 + 1 := w32_e (by omega) (by omega)
  have e2 : w32 (l3 + 2) = l3 + 2 := w32_e (by omega) (by omega)
  have e3 : w32 (l3 + 3) = l3 + 3 := w32_e (by omega) (by omega)
  unfold F_yw_law_938
  rw [e1, e2, e3]
  exact ⟨by omega, by omega, by omega, Z_nearest hR (law_c hk)⟩
theorem B_yw_law_981 {Q : Int → cM → Prop} {k18 : Int → cM → Prop} {l3 : Int} {M : cM} (hR : RR M) (h0 : 0 ≤ l3) (h6 : l3 + 6 ≤ M 1002 (-1)) (hb : M 1002 (-1) < 1000000) (hk : ∀ M', RR M' → (∀ c j, 1000 ≤ c → M' c j = M c j) → k18 (w32 (l3 + 6)) M') : F_yw_law_981 Q k18 l3 M := by
  have e1 : w32 (l3 + 1) = l3 + 1 := w32_e (by omega) (by omega)
  have e2 : w32 (l3 + 2) = l3 + 2 := w32_e (by omega) (by omega)
  have e3 : w32 (l3 + 3) = l3 + 3 := w32_e (by omega) (by omega)
  unfold F_yw_law_981
  rw [e1, e2, e3]
  exact ⟨by omega, by omega, by omega, Z_fewest hR (law_c hk)⟩
theorem B_yw_law_1024 {Q : Int → cM → Prop} {k18 : Int → cM → Prop} {l3 : Int} {M : cM} (hR : RR M) (h0 : 0 ≤ l3) (h6 : l3 + 6 ≤ M 1002 (-1)) (hb : M 1002 (-1) < 1000000) (hk : ∀ M', RR M' → (∀ c j, 1000 ≤ c → M' c j = M c j) → k18 (w32 (l3 + 6)) M') : F_yw_law_1024 Q k18 l3 M := by
  have e1 : w32 (l3 + 1) = l3 + 1 := w32_e (by omega) (by omega)
  have e2 : w32 (l3 + 2) = l3 + 2 := w32_e (by omega) (by omega)
  have e3 : w32 (l3 + 3) = l3 + 3 := w32_e (by omega) (by omega)
  unfold F_yw_law_1024
  rw [e1, e2, e3]
  exact ⟨by omega, by omega, by omega, Z_turnFor hR (law_c hk)⟩
theorem B_yw_law_1067 {Q : Int → cM → Prop} {k18 : Int → cM → Prop} {l3 : Int} {M : cM} (hR : RR M) (h0 : 0 ≤ l3) (h6 : l3 + 6 ≤ M 1002 (-1)) (hb : M 1002 (-1) < 1000000) (hk : ∀ M', RR M' → (∀ c j, 1000 ≤ c → M' c j = M c j) → k18 (w32 (l3 + 6)) M') : F_yw_law_1067 Q k18 l3 M := by
  have e1 : w32 (l3 + 1) = l3 + 1 := w32_e (by omega) (by omega)
  have e2 : w32 (l3 + 2) = l3 + 2 := w32_e (by omega) (by omega)
  unfold F_yw_law_1067
  rw [e1, e2]
  exact ⟨by omega, by omega, Z_spare hR (law_c hk)⟩
theorem B_yw_law_1100 {Q : Int → cM → Prop} {k18 : Int → cM → Prop} {l3 : Int} {M : cM} (hR : RR M) (h0 : 0 ≤ l3) (h6 : l3 + 6 ≤ M 1002 (-1)) (hb : M 1002 (-1) < 1000000) (hk : ∀ M', RR M' → (∀ c j, 1000 ≤ c → M' c j = M c j) → k18 (w32 (l3 + 6)) M') : F_yw_law_1100 Q k18 l3 M := by
  have e1 : w32 (l3 + 1) = l3 + 1 := w32_e (by omega) (by omega)
  have e2 : w32 (l3 + 2) = l3 + 2 := w32_e (by omega) (by omega)
  unfold F_yw_law_1100
  rw [e1, e2]
  exact ⟨by omega, by omega, Z_look hR (law_c hk)⟩
theorem B_yw_law_1133 {Q : Int → cM → Prop} {k18 : Int → cM → Prop} {l3 : Int} {M : cM} (hR : RR M) (h0 : 0 ≤ l3) (h6 : l3 + 6 ≤ M 1002 (-1)) (hb : M 1002 (-1) < 1000000) (hk : ∀ M', RR M' → (∀ c j, 1000 ≤ c → M' c j = M c j) → k18 (w32 (l3 + 6)) M') : F_yw_law_1133 Q k18 l3 M := by
  unfold F_yw_law_1133
  exact Z_clear hR (law_c hk)
theorem B_yw_law_1146 {Q : Int → cM → Prop} {k18 : Int → cM → Prop} {l3 : Int} {M : cM} (hR : RR M) (h0 : 0 ≤ l3) (h6 : l3 + 6 ≤ M 1002 (-1)) (hb : M 1002 (-1) < 1000000) (hk : ∀ M', RR M' → (∀ c j, 1000 ≤ c → M' c j = M c j) → k18 (w32 (l3 + 6)) M') : F_yw_law_1146 Q k18 l3 M := by
  have e1 : w32 (l3 + 1) = l3 + 1 := w32_e (by omega) (by omega)
  unfold F_yw_law_1146
  rw [e1]
  exact ⟨by omega, Z_orders hR (law_c hk)⟩
theorem B_yw_law_1169 {Q : Int → cM → Prop} {k18 : Int → cM → Prop} {l3 : Int} {M : cM} (hR : RR M) (h0 : 0 ≤ l3) (h6 : l3 + 6 ≤ M 1002 (-1)) (hb : M 1002 (-1) < 1000000) (hk : ∀ M', RR M' → (∀ c j, 1000 ≤ c → M' c j = M c j) → k18 (w32 (l3 + 6)) M') : F_yw_law_1169 Q k18 l3 M := by
  have e1 : w32 (l3 + 1) = l3 + 1 := w32_e (by omega) (by omega)
  unfold F_yw_law_1169
  rw [e1]
  exact ⟨by omega, Z_order hR (law_c hk)⟩
theorem B_yw_law_1192 {Q : Int → cM → Prop} {k18 : Int → cM → Prop} {l3 : Int} {M : cM} (hR : RR M) (h0 : 0 ≤ l3) (h6 : l3 + 6 ≤ M 1002 (-1)) (hb : M 1002 (-1) < 1000000) (hk : ∀ M', RR M' → (∀ c j, 1000 ≤ c → M' c j = M c j) → k18 (w32 (l3 + 6)) M') : F_yw_law_1192 Q k18 l3 M := by
  have e1 : w32 (l3 + 1) = l3 + 1 := w32_e (by omega) (by omega)
  unfold F_yw_law_1192
  rw [e1]
  exact ⟨by omega, Z_apart hR (law_c hk)⟩
theorem B_yw_law_1215 {Q : Int → cM → Prop} {k18 : Int → cM → Prop} {l3 : Int} {M : cM} (hR : RR M) (h0 : 0 ≤ l3) (h6 : l3 + 6 ≤ M 1002 (-1)) (hb : M 1002 (-1) < 1000000) (hk : ∀ M', RR M' → (∀ c j, 1000 ≤ c → M' c j = M c j) → k18 (w32 (l3 + 6)) M') : F_yw_law_1215 Q k18 l3 M := by
  have e1 : w32 (l3 + 1) = l3 + 1 := w32_e (by omega) (by omega)
  have e2 : w32 (l3 + 2) = l3 + 2 := w32_e (by omega) (by omega)
  unfold F_yw_law_1215
  rw [e1, e2]
  exact ⟨by omega, by omega, Z_pairs hR (law_c hk)⟩
theorem B_yw_law_1248 {Q : Int → cM → Prop} {k18 : Int → cM → Prop} {l3 : Int} {M : cM} (hR : RR M) (h0 : 0 ≤ l3) (h6 : l3 + 6 ≤ M 1002 (-1)) (hb : M 1002 (-1) < 1000000) (hk : ∀ M', RR M' → (∀ c j, 1000 ≤ c → M' c j = M c j) → k18 (w32 (l3 + 6)) M') : F_yw_law_1248 Q k18 l3 M := by
  have e1 : w32 (l3 + 1) = l3 + 1 := w32_e (by omega) (by omega)
  have e2 : w32 (l3 + 2) = l3 + 2 := w32_e (by omega) (by omega)
  unfold F_yw_law_1248
  rw [e1, e2]
  exact ⟨by omega, by omega, Z_signs hR (law_c hk)⟩
theorem B_yw_law_1281 {Q : Int → cM → Prop} {k18 : Int → cM → Prop} {l3 : Int} {M : cM} (hR : RR M) (h0 : 0 ≤ l3) (h6 : l3 + 6 ≤ M 1002 (-1)) (hb : M 1002 (-1) < 1000000) (hk : ∀ M', RR M' → (∀ c j, 1000 ≤ c → M' c j = M c j) → k18 (w32 (l3 + 6)) M') : F_yw_law_1281 Q k18 l3 M := by
  have e1 : w32 (l3 + 1) = l3 + 1 := w32_e (by omega) (by omega)
  unfold F_yw_law_1281
  rw [e1]
  exact ⟨by omega, Z_eyes hR (law_c hk)⟩
theorem B_yw_law_1304 {Q : Int → cM → Prop} {k18 : Int → cM → Prop} {l3 : Int} {M : cM} (hR : RR M) (h0 : 0 ≤ l3) (h6 : l3 + 6 ≤ M 1002 (-1)) (hb : M 1002 (-1) < 1000000) (hk : ∀ M', RR M' → (∀ c j, 1000 ≤ c → M' c j = M c j) → k18 (w32 (l3 + 6)) M') : F_yw_law_1304 Q k18 l3 M := by
  have e1 : w32 (l3 + 1) = l3 + 1 := w32_e (by omega) (by omega)
  unfold F_yw_law_1304
  rw [e1]
  exact ⟨by omega, Z_years hR (law_c hk)⟩
theorem B_yw_law_1327 {Q : Int → cM → Prop} {k18 : Int → cM → Prop} {l3 : Int} {M : cM} (hR : RR M) (h0 : 0 ≤ l3) (h6 : l3 + 6 ≤ M 1002 (-1)) (hb : M 1002 (-1) < 1000000) (hk : ∀ M', RR M' → (∀ c j, 1000 ≤ c → M' c j = M c j) → k18 (w32 (l3 + 6)) M') : F_yw_law_1327 Q k18 l3 M := by
  have e1 : w32 (l3 + 1) = l3 + 1 := w32_e (by omega) (by omega)
  have e2 : w32 (l3 + 2) = l3 + 2 := w32_e (by omega) (by omega)
  unfold F_yw_law_1327
  rw [e1, e2]
  exact ⟨by omega, by omega, Z_drawn hR (law_c hk)⟩
theorem B_yw_law_1360 {Q : Int → cM → Prop} {k18 : Int → cM → Prop} {l3 : Int} {M : cM} (hR : RR M) (h0 : 0 ≤ l3) (h6 : l3 + 6 ≤ M 1002 (-1)) (hb : M 1002 (-1) < 1000000) (hk : ∀ M', RR M' → (∀ c j, 1000 ≤ c → M' c j = M c j) → k18 (w32 (l3 + 6)) M') : F_yw_law_1360 Q k18 l3 M := by
  have e1 : w32 (l3 + 1) = l3 + 1 := w32_e (by omega) (by omega)
  unfold F_yw_law_1360
  rw [e1]
  exact ⟨by omega, Z_seed hR (law_c hk)⟩
theorem B_yw_law_1383 {Q : Int → cM → Prop} {k18 : Int → cM → Prop} {l3 : Int} {M : cM} (hR : RR M) (h0 : 0 ≤ l3) (h6 : l3 + 6 ≤ M 1002 (-1)) (hb : M 1002 (-1) < 1000000) (hk : ∀ M', RR M' → (∀ c j, 1000 ≤ c → M' c j = M c j) → k18 (w32 (l3 + 6)) M') : F_yw_law_1383 Q k18 l3 M := by
  have e1 : w32 (l3 + 1) = l3 + 1 := w32_e (by omega) (by omega)
  have e2 : w32 (l3 + 2) = l3 + 2 := w32_e (by omega) (by omega)
  unfold F_yw_law_1383
  rw [e1, e2]
  exact ⟨by omega, by omega, Z_feed hR (law_c hk)⟩
theorem B_yw_law_1416 {Q : Int → cM → Prop} {k18 : Int → cM → Prop} {l3 : Int} {M : cM} (hR : RR M) (h0 : 0 ≤ l3) (h6 : l3 + 6 ≤ M 1002 (-1)) (hb : M 1002 (-1) < 1000000) (hk : ∀ M', RR M' → (∀ c j, 1000 ≤ c → M' c j = M c j) → k18 (w32 (l3 + 6)) M') : F_yw_law_1416 Q k18 l3 M := by
  unfold F_yw_law_1416
  exact Z_wipe hR (law_c hk)
theorem B_yw_law_1429 {Q : Int → cM → Prop} {k18 : Int → cM → Prop} {l3 : Int} {M : cM} (hR : RR M) (h0 : 0 ≤ l3) (h6 : l3 + 6 ≤ M 1002 (-1)) (hb : M 1002 (-1) < 1000000) (hk : ∀ M', RR M' → (∀ c j, 1000 ≤ c → M' c j = M c j) → k18 (w32 (l3 + 6)) M') : F_yw_law_1429 Q k18 l3 M := by
  unfold F_yw_law_1429
  exact Z_text hR (law_c hk)
theorem B_yw_law_1442 {Q : Int → cM → Prop} {k18 : Int → cM → Prop} {l3 : Int} {M : cM} (hR : RR M) (h0 : 0 ≤ l3) (h6 : l3 + 6 ≤ M 1002 (-1)) (hb : M 1002 (-1) < 1000000) (hk : ∀ M', RR M' → (∀ c j, 1000 ≤ c → M' c j = M c j) → k18 (w32 (l3 + 6)) M') : F_yw_law_1442 Q k18 l3 M := by
  have e1 : w32 (l3 + 1) = l3 + 1 := w32_e (by omega) (by omega)
  have e2 : w32 (l3 + 2) = l3 + 2 := w32_e (by omega) (by omega)
  unfold F_yw_law_1442
  rw [e1, e2]
  exact ⟨by omega, by omega, Z_hold hR (law_c hk)⟩
theorem B_yw_law_1475 {Q : Int → cM → Prop} {k18 : Int → cM → Prop} {l3 : Int} {M : cM} (hR : RR M) (h0 : 0 ≤ l3) (h6 : l3 + 6 ≤ M 1002 (-1)) (hb : M 1002 (-1) < 1000000) (hk : ∀ M', RR M' → (∀ c j, 1000 ≤ c → M' c j = M c j) → k18 (w32 (l3 + 6)) M') : F_yw_law_1475 Q k18 l3 M := by
  have e1 : w32 (l3 + 1) = l3 + 1 := w32_e (by omega) (by omega)
  have e2 : w32 (l3 + 2) = l3 + 2 := w32_e (by omega) (by omega)
  unfold F_yw_law_1475
  rw [e1, e2]
  exact ⟨by omega, by omega, Z_as hR (law_c hk)⟩
theorem B_yw_law_1508 {Q : Int → cM → Prop} {k18 : Int → cM → Prop} {l3 : Int} {M : cM} (hR : RR M) (h0 : 0 ≤ l3) (h6 : l3 + 6 ≤ M 1002 (-1)) (hb : M 1002 (-1) < 1000000) (hk : ∀ M', RR M' → (∀ c j, 1000 ≤ c → M' c j = M c j) → k18 (w32 (l3 + 6)) M') : F_yw_law_1508 Q k18 l3 M := by
  have e1 : w32 (l3 + 1) = l3 + 1 := w32_e (by omega) (by omega)
  have e2 : w32 (l3 + 2) = l3 + 2 := w32_e (by omega) (by omega)
  have e3 : w32 (l3 + 3) = l3 + 3 := w32_e (by omega) (by omega)
  unfold F_yw_law_1508
  rw [e1, e2, e3]
  exact ⟨by omega, by omega, by omega, Z_row hR (law_c hk)⟩
theorem B_yw_law_1551 {Q : Int → cM → Prop} {k18 : Int → cM → Prop} {l3 : Int} {M : cM} (hR : RR M) (h0 : 0 ≤ l3) (h6 : l3 + 6 ≤ M 1002 (-1)) (hb : M 1002 (-1) < 1000000) (hk : ∀ M', RR M' → (∀ c j, 1000 ≤ c → M' c j = M c j) → k18 (w32 (l3 + 6)) M') : F_yw_law_1551 Q k18 l3 M := by
  have e1 : w32 (l3 + 1) = l3 + 1 := w32_e (by omega) (by omega)
  have e2 : w32 (l3 + 2) = l3 + 2 := w32_e (by omega) (by omega)
  have e3 : w32 (l3 + 3) = l3 + 3 := w32_e (by omega) (by omega)
  unfold F_yw_law_1551
  rw [e1, e2, e3]
  exact ⟨by omega, by omega, by omega, Z_write hR (law_c hk)⟩
theorem B_yw_law_1594 {Q : Int → cM → Prop} {k18 : Int → cM → Prop} {l3 : Int} {M : cM} (hR : RR M) (h0 : 0 ≤ l3) (h6 : l3 + 6 ≤ M 1002 (-1)) (hb : M 1002 (-1) < 1000000) (hk : ∀ M', RR M' → (∀ c j, 1000 ≤ c → M' c j = M c j) → k18 (w32 (l3 + 6)) M') : F_yw_law_1594 Q k18 l3 M := by
  have e1 : w32 (l3 + 1) = l3 + 1 := w32_e (by omega) (by omega)
  have e2 : w32 (l3 + 2) = l3 + 2 := w32_e (by omega) (by omega)
  have e3 : w32 (l3 + 3) = l3 + 3 := w32_e (by omega) (by omega)
  have e4 : w32 (l3 + 4) = l3 + 4 := w32_e (by omega) (by omega)
  have e5 : w32 (l3 + 5) = l3 + 5 := w32_e (by omega) (by omega)
  unfold F_yw_law_1594
  rw [e1, e2, e3, e4, e5]
  exact ⟨by omega, by omega, by omega, by omega, by omega, Z_copy hR (hR.2.2.2.2.2.2.2.2.1 _) (hR.2.2.2.2.2.2.2.2.1 _) (law_c hk)⟩
theorem B_yw_law_1657 {Q : Int → cM → Prop} {k18 : Int → cM → Prop} {l3 : Int} {M : cM} (hR : RR M) (h0 : 0 ≤ l3) (h6 : l3 + 6 ≤ M 1002 (-1)) (hb : M 1002 (-1) < 1000000) (hk : ∀ M', RR M' → (∀ c j, 1000 ≤ c → M' c j = M c j) → k18 (w32 (l3 + 6)) M') : F_yw_law_1657 Q k18 l3 M := by
  have e1 : w32 (l3 + 1) = l3 + 1 := w32_e (by omega) (by omega)
  have e2 : w32 (l3 + 2) = l3 + 2 := w32_e (by omega) (by omega)
  unfold F_yw_law_1657
  rw [e1, e2]
  exact ⟨by omega, by omega, Z_from hR (law_c hk)⟩
theorem B_yw_law_1690 {Q : Int → cM → Prop} {k18 : Int → cM → Prop} {l3 : Int} {M : cM} (hR : RR M) (h0 : 0 ≤ l3) (h6 : l3 + 6 ≤ M 1002 (-1)) (hb : M 1002 (-1) < 1000000) (hk : ∀ M', RR M' → (∀ c j, 1000 ≤ c → M' c j = M c j) → k18 (w32 (l3 + 6)) M') : F_yw_law_1690 Q k18 l3 M := by
  have e1 : w32 (l3 + 1) = l3 + 1 := w32_e (by omega) (by omega)
  have e2 : w32 (l3 + 2) = l3 + 2 := w32_e (by omega) (by omega)
  unfold F_yw_law_1690
  rw [e1, e2]
  exact ⟨by omega, by omega, Z_judge hR (law_c hk)⟩
theorem B_yw_law_1723 {Q : Int → cM → Prop} {k18 : Int → cM → Prop} {l3 : Int} {M : cM} (hR : RR M) (h0 : 0 ≤ l3) (h6 : l3 + 6 ≤ M 1002 (-1)) (hb : M 1002 (-1) < 1000000) (hk : ∀ M', RR M' → (∀ c j, 1000 ≤ c → M' c j = M c j) → k18 (w32 (l3 + 6)) M') : F_yw_law_1723 Q k18 l3 M := by
  unfold F_yw_law_1723
  exact Z_image hR (law_c hk)
theorem B_yw_law_1736 {Q : Int → cM → Prop} {k18 : Int → cM → Prop} {l3 : Int} {M : cM} (hR : RR M) (h0 : 0 ≤ l3) (h6 : l3 + 6 ≤ M 1002 (-1)) (hb : M 1002 (-1) < 1000000) (hk : ∀ M', RR M' → (∀ c j, 1000 ≤ c → M' c j = M c j) → k18 (w32 (l3 + 6)) M') : F_yw_law_1736 Q k18 l3 M := by
  unfold F_yw_law_1736
  exact Z_undo hR (law_c hk)
theorem B_yw_law_1749 {Q : Int → cM → Prop} {k18 : Int → cM → Prop} {l3 : Int} {M : cM} (hR : RR M) (h0 : 0 ≤ l3) (h6 : l3 + 6 ≤ M 1002 (-1)) (hb : M 1002 (-1) < 1000000) (hk : ∀ M', RR M' → (∀ c j, 1000 ≤ c → M' c j = M c j) → k18 (w32 (l3 + 6)) M') : F_yw_law_1749 Q k18 l3 M := by
  unfold F_yw_law_1749
  exact Z_tear hR (law_c hk)
theorem B_yw_law_1762 {Q : Int → cM → Prop} {k18 : Int → cM → Prop} {l3 : Int} {M : cM} (hR : RR M) (h0 : 0 ≤ l3) (h6 : l3 + 6 ≤ M 1002 (-1)) (hb : M 1002 (-1) < 1000000) (hk : ∀ M', RR M' → (∀ c j, 1000 ≤ c → M' c j = M c j) → k18 (w32 (l3 + 6)) M') : F_yw_law_1762 Q k18 l3 M := by
  have e1 : w32 (l3 + 1) = l3 + 1 := w32_e (by omega) (by omega)
  unfold F_yw_law_1762
  rw [e1]
  exact ⟨by omega, Z_count hR (law_c hk)⟩
theorem B_yw_law_1785 {Q : Int → cM → Prop} {k18 : Int → cM → Prop} {l3 : Int} {M : cM} (hR : RR M) (h0 : 0 ≤ l3) (h6 : l3 + 6 ≤ M 1002 (-1)) (hb : M 1002 (-1) < 1000000) (hk : ∀ M', RR M' → (∀ c j, 1000 ≤ c → M' c j = M c j) → k18 (w32 (l3 + 6)) M') : F_yw_law_1785 Q k18 l3 M := by
  have e1 : w32 (l3 + 1) = l3 + 1 := w32_e (by omega) (by omega)
  unfold F_yw_law_1785
  rw [e1]
  exact ⟨by omega, Z_status hR (law_c hk)⟩
theorem L_yw_law {Q : Int → cM → Prop} (hQ : ∀ M, Q 1 M) {len : Nat} (hl : len < 100000) : ∀ (m i : Nat) (M : cM), RR M → M 1002 (-1) = len → len < 6 * i + 6 * (m + 1) → 6 * i < 200000 → F_yw_law_18 Q (m + 1) ((6 * i : Nat) : Int) M := by
  have key : ∀ (m i : Nat) (M : cM), RR M → M 1002 (-1) = len → 6 * i < 200000 → (¬ ((len : Int) - 6 < ((6 * i : Nat) : Int)) → ∀ M', RR M' → (∀ c j, 1000 ≤ c → M' c j = M c j) → F_yw_law_18 Q m (w32 (((6 * i : Nat) : Int) + 6)) M') → F_yw_law_18 Q (m + 1) ((6 * i : Nat) : Int) M := by
    intro m i M hR hlen hi hk0
    unfold F_yw_law_18
    rw [hlen, w32_e (x := (len : Int) - 6) (by omega) (by omega), narK41]
    by_cases q : (len : Int) - 6 < ((6 * i : Nat) : Int)
    · rw [if_pos q]; exact hQ M
    rw [if_neg q]
    have hk := hk0 q
    have h6 : ((6 * i : Nat) : Int) + 6 ≤ M 1002 (-1) := by omega
    have hb : M 1002 (-1) < 1000000 := by omega
    have h0 : (0 : Int) ≤ ((6 * i : Nat) : Int) := by omega
    refine ⟨by omega, ?_⟩
    generalize zand (M 1002 ((6 * i : Nat) : Int)) 63 = w
    by_cases c0 : w = 0
    · rw [if_pos c0]; exact B_yw_law_240 hR h0 h6 hb hk
    rw [if_neg c0]
    by_cases c1 : w = 1
    · rw [if_pos c1]; exact B_yw_law_283 hR h0 h6 hb hk
    rw [if_neg c1]
    by_cases c2 : w = 2
    · rw [if_pos c2]; exact B_yw_law_316 hR h0 h6 hb hk
    rw [if_neg c2]
    by_cases c3 : w = 3
    · rw [if_pos c3]; exact B_yw_law_359 hR h0 h6 hb hk
    rw [if_neg c3]
    by_cases c4 : w = 4
    · rw [if_pos c4]; exact B_yw_law_382 hR h0 h6 hb hk
    rw [if_neg c4]
    by_cases c5 : w = 5
    · rw [if_pos c5]; exact B_yw_law_415 hR h0 h6 hb hk
    rw [if_neg c5]
    by_cases c6 : w = 6
    · rw [if_pos c6]; exact B_yw_law_448 hR h0 h6 hb hk
    rw [if_neg c6]
    by_cases c7 : w = 7
    · rw [if_pos c7]; exact B_yw_law_471 hR h0 h6 hb hk
    rw [if_neg c7]
    by_cases c8 : w = 8
    · rw [if_pos c8]; exact B_yw_law_504 hR h0 h6 hb hk
    rw [if_neg c8]
    by_cases c9 : w = 9
    · rw [if_pos c9]; exact B_yw_law_527 hR h0 h6 hb hk
    rw [if_neg c9]
    by_cases c10 : w = 10
    · rw [if_pos c10]; exact B_yw_law_560 hR h0 h6 hb hk
    rw [if_neg c10]
    by_cases c11 : w = 11
    · rw [if_pos c11]; exact B_yw_law_619 hR h0 h6 hb hk
    rw [if_neg c11]
    by_cases c12 : w = 12
    · rw [if_pos c12]; exact B_yw_law_678 hR h0 h6 hb hk
    rw [if_neg c12]
    by_cases c13 : w = 13
    · rw [if_pos c13]; exact B_yw_law_727 hR h0 h6 hb hk
    rw [if_neg c13]
    by_cases c14 : w = 14
    · rw [if_pos c14]; exact B_yw_law_776 hR h0 h6 hb hk
    rw [if_neg c14]
    by_cases c15 : w = 15
    · rw [if_pos c15]; exact B_yw_law_819 hR h0 h6 hb hk
    rw [if_neg c15]
    by_cases c16 : w = 16
    · rw [if_pos c16]; exact B_yw_law_852 hR h0 h6 hb hk
    rw [if_neg c16]
    by_cases c17 : w = 17
    · rw [if_pos c17]; exact B_yw_law_895 hR h0 h6 hb hk
    rw [if_neg c17]
    by_cases c18 : w = 18
    · rw [if_pos c18]; exact B_yw_law_938 hR h0 h6 hb hk
    rw [if_neg c18]
    by_cases c19 : w = 19
    · rw [if_pos c19]; exact B_yw_law_981 hR h0 h6 hb hk
    rw [if_neg c19]
    by_cases c20 : w = 20
    · rw [if_pos c20]; exact B_yw_law_1024 hR h0 h6 hb hk
    rw [if_neg c20]
    by_cases c21 : w = 21
    · rw [if_pos c21]; exact B_yw_law_1067 hR h0 h6 hb hk
    rw [if_neg c21]
    by_cases c22 : w = 22
    · rw [if_pos c22]; exact B_yw_law_1100 hR h0 h6 hb hk
    rw [if_neg c22]
    by_cases c23 : w = 23
    · rw [if_pos c23]; exact B_yw_law_1133 hR h0 h6 hb hk
    rw [if_neg c23]
    by_cases c24 : w = 24
    · rw [if_pos c24]; exact B_yw_law_1146 hR h0 h6 hb hk
    rw [if_neg c24]
    by_cases c25 : w = 25
    · rw [if_pos c25]; exact B_yw_law_1169 hR h0 h6 hb hk
    rw [if_neg c25]
    by_cases c26 : w = 26
    · rw [if_pos c26]; exact B_yw_law_1192 hR h0 h6 hb hk
    rw [if_neg c26]
    by_cases c27 : w = 27
    · rw [if_pos c27]; exact B_yw_law_1215 hR h0 h6 hb hk
    rw [if_neg c27]
    by_cases c28 : w = 28
    · rw [if_pos c28]; exact B_yw_law_1248 hR h0 h6 hb hk
    rw [if_neg c28]
    by_cases c29 : w = 29
    · rw [if_pos c29]; exact B_yw_law_1281 hR h0 h6 hb hk
    rw [if_neg c29]
    by_cases c30 : w = 30
    · rw [if_pos c30]; exact B_yw_law_1304 hR h0 h6 hb hk
    rw [if_neg c30]
    by_cases c31 : w = 31
    · rw [if_pos c31]; exact B_yw_law_1327 hR h0 h6 hb hk
    rw [if_neg c31]
    by_cases c32 : w = 32
    · rw [if_pos c32]; exact B_yw_law_1360 hR h0 h6 hb hk
    rw [if_neg c32]
    by_cases c33 : w = 33
    · rw [if_pos c33]; exact B_yw_law_1383 hR h0 h6 hb hk
    rw [if_neg c33]
    by_cases c34 : w = 34
    · rw [if_pos c34]; exact B_yw_law_1416 hR h0 h6 hb hk
    rw [if_neg c34]
    by_cases c35 : w = 35
    · rw [if_pos c35]; exact B_yw_law_1429 hR h0 h6 hb hk
    rw [if_neg c35]
    by_cases c36 : w = 36
    · rw [if_pos c36]; exact B_yw_law_1442 hR h0 h6 hb hk
    rw [if_neg c36]
    by_cases c37 : w = 37
    · rw [if_pos c37]; exact B_yw_law_1475 hR h0 h6 hb hk
    rw [if_neg c37]
    by_cases c38 : w = 38
    · rw [if_pos c38]; exact B_yw_law_1508 hR h0 h6 hb hk
    rw [if_neg c38]
    by_cases c39 : w = 39
    · rw [if_pos c39]; exact B_yw_law_1551 hR h0 h6 hb hk
    rw [if_neg c39]
    by_cases c40 : w = 40
    · rw [if_pos c40]; exact B_yw_law_1594 hR h0 h6 hb hk
    rw [if_neg c40]
    by_cases c41 : w = 41
    · rw [if_pos c41]; exact B_yw_law_1657 hR h0 h6 hb hk
    rw [if_neg c41]
    by_cases c42 : w = 42
    · rw [if_pos c42]; exact B_yw_law_1690 hR h0 h6 hb hk
    rw [if_neg c42]
    by_cases c43 : w = 43
    · rw [if_pos c43]; exact B_yw_law_1723 hR h0 h6 hb hk
    rw [if_neg c43]
    by_cases c44 : w = 44
    · rw [if_pos c44]; exact B_yw_law_1736 hR h0 h6 hb hk
    rw [if_neg c44]
    by_cases c45 : w = 45
    · rw [if_pos c45]; exact B_yw_law_1749 hR h0 h6 hb hk
    rw [if_neg c45]
    by_cases c46 : w = 46
    · rw [if_pos c46]; exact B_yw_law_1762 hR h0 h6 hb hk
    rw [if_neg c46]
    by_cases c47 : w = 47
    · rw [if_pos c47]; exact B_yw_law_1785 hR h0 h6 hb hk
    rw [if_neg c47]
    unfold F_xw_law_1808
    exact hk M hR (fun _ _ _ => rfl)
  intro m
  induction m with
  | zero =>
    intro i M hR hlen hi hi2
    exact key 0 i M hR hlen hi2 (fun q => absurd q (by omega))
  | succ m ih =>
    intro i M hR hlen hi hi2
    refine key (m + 1) i M hR hlen hi2 (fun q M' hR' hc => ?_)
    rw [w32_e (by omega) (by omega), show ((6 * i : Nat) : Int) + 6 = ((6 * (i + 1) : Nat) : Int) by omega]
    exact ih (i + 1) M' hR' (by rw [hc _ _ (by decide), hlen]) (by omega) (by omega)
theorem X_yw_law {Q : Int → cM → Prop} (hQ : ∀ M, Q 1 M) {len : Nat} (hl : len < 100000) {M : cM} (hR : RR M) (hlen : M 1002 (-1) = len) : F_yw_law Q M := by
  unfold F_yw_law
  have := L_yw_law (Q := Q) hQ hl len 0 M hR hlen (by omega) (by omega)
  exact ⟨_, this⟩
