/-! Calls that change a place or two. -/
theorem RR.sc {M M' : cM} (h : RR M) (hs : SC 10 101 M') (hk : ∀ c j, keep c j → ¬ (10 ≤ c ∧ c ≤ 22) → c ≠ 101 → M' c j = M c j) : RR M' := by
  obtain ⟨h1, h2, h3, h4, h5, h6, h7⟩ := h
  unfold keep at hk
  refine ⟨hs, ?_, fun z => ?_, ?_, ?_, fun x x0 x1 => ?_, ?_⟩
  · rw [hk 0 2 (by omega) (by omega) (by omega), hk 100 4 (by omega) (by omega) (by omega)]; exact h2
  · rw [hk 0 2 (by omega) (by omega) (by omega)] at z
    exact SC.kp (fun x j _ _ => hk _ _ (by omega) (by omega) (by omega)) (fun j => hk _ _ (by omega) (by omega) (by omega)) (h3 z)
  · exact TP.kp (hk _ _ (by omega) (by omega) (by omega)) (hk _ _ (by omega) (by omega) (by omega)) (fun j => hk _ _ (by omega) (by omega) (by omega)) (fun j => hk _ _ (by omega) (by omega) (by omega)) h4
  · exact RO.kp (fun c j _ _ => hk _ _ (by omega) (by omega) (by omega)) (fun c j _ _ => hk _ _ (by omega) (by omega) (by omega)) h5
  · rw [hk 75 x (by omega) (by omega) (by omega), hk 104 x (by omega) (by omega) (by omega)]; exact h6 x x0 x1
  · exact TB.kp (fun c j _ => hk _ _ (by omega) (by omega) (by omega)) h7
theorem U_load {b : Int} {M : cM} {v : Int} (hb : 0 ≤ b ∧ b ≤ 50) (h : SC b 101 M) (hv : 0 ≤ v ∧ v ≤ 11) : SC b 101 (wr (wr M b 4 v) 101 1 v) := by
  obtain ⟨h0, h1, h2, h3, h4, h5, h6, h7, h8, h9, h10⟩ := h
  have hb0 := h0
  have hb5 := h5
  refine ⟨?_, ?_, ?_, ?_, ?_, ?_, fun k k0 k1 => ?_, fun k k0 k1 => ?_, fun k k0 k1 => ?_, fun k i k0 k1 i0 i1 => ?_, fun k k0 k1 => ?_⟩
  · simp (disch := omega) only [wr_ne, wr_nj, wr_eq]
    exact h0
  · simp (disch := omega) only [wr_ne, wr_nj, wr_eq]; exact ⟨trivial, hv⟩
  · simp (disch := omega) only [wr_ne, wr_nj, wr_eq]
    exact h2
  · simp (disch := omega) only [wr_ne, wr_nj, wr_eq]
    exact h3
  · simp (disch := omega) only [wr_ne, wr_nj, wr_eq]
    exact h4
  · simp (disch := omega) only [wr_ne, wr_nj, wr_eq]
    exact h5
  · simp (disch := omega) only [wr_ne, wr_nj, wr_eq] at k1
    simp (disch := omega) only [wr_ne, wr_nj, wr_eq]
    exact h6 k k0 k1
  · simp (disch := omega) only [wr_ne, wr_nj, wr_eq] at k1
    simp (disch := omega) only [wr_ne, wr_nj, wr_eq]
    exact h7 k k0 k1
  · simp (disch := omega) only [wr_ne, wr_nj, wr_eq]
    exact h8 k k0 k1
  · have g8 := h8 k k0 k1
    simp (disch := omega) only [wr_ne, wr_nj, wr_eq] at i1
    simp (disch := omega) only [wr_ne, wr_nj, wr_eq]
    exact h9 k i k0 k1 i0 i1
  · simp (disch := omega) only [wr_ne, wr_nj, wr_eq]
    exact h10 k k0 k1

theorem U_share {b : Int} {M : cM} {v : Int} (hb : 0 ≤ b ∧ b ≤ 50) (h : SC b 101 M) (hv : 0 ≤ v ∧ v ≤ 1000) : SC b 101 (wr (wr M b 5 v) 101 2 v) := by
  obtain ⟨h0, h1, h2, h3, h4, h5, h6, h7, h8, h9, h10⟩ := h
  have hb0 := h0
  have hb5 := h5
  refine ⟨?_, ?_, ?_, ?_, ?_, ?_, fun k k0 k1 => ?_, fun k k0 k1 => ?_, fun k k0 k1 => ?_, fun k i k0 k1 i0 i1 => ?_, fun k k0 k1 => ?_⟩
  · simp (disch := omega) only [wr_ne, wr_nj, wr_eq]
    exact h0
  · simp (disch := omega) only [wr_ne, wr_nj, wr_eq]
    exact h1
  · simp (disch := omega) only [wr_ne, wr_nj, wr_eq]; exact ⟨trivial, hv⟩
  · simp (disch := omega) only [wr_ne, wr_nj, wr_eq]
    exact h3
  · simp (disch := omega) only [wr_ne, wr_nj, wr_eq]
    exact h4
  · simp (disch := omega) only [wr_ne, wr_nj, wr_eq]
    exact h5
  · simp (disch := omega) only [wr_ne, wr_nj, wr_eq] at k1
    simp (disch := omega) only [wr_ne, wr_nj, wr_eq]
    exact h6 k k0 k1
  · simp (disch := omega) only [wr_ne, wr_nj, wr_eq] at k1
    simp (disch := omega) only [wr_ne, wr_nj, wr_eq]
    exact h7 k k0 k1
  · simp (disch := omega) only [wr_ne, wr_nj, wr_eq]
    exact h8 k k0 k1
  · have g8 := h8 k k0 k1
    simp (disch := omega) only [wr_ne, wr_nj, wr_eq] at i1
    simp (disch := omega) only [wr_ne, wr_nj, wr_eq]
    exact h9 k i k0 k1 i0 i1
  · simp (disch := omega) only [wr_ne, wr_nj, wr_eq]
    exact h10 k k0 k1

theorem U_slant {b : Int} {M : cM} {v : Int} (hb : 0 ≤ b ∧ b ≤ 50) (h : SC b 101 M) (hv : -1 ≤ v ∧ v ≤ 11) : SC b 101 (wr (wr M b 6 v) 101 3 v) := by
  obtain ⟨h0, h1, h2, h3, h4, h5, h6, h7, h8, h9, h10⟩ := h
  have hb0 := h0
  have hb5 := h5
  refine ⟨?_, ?_, ?_, ?_, ?_, ?_, fun k k0 k1 => ?_, fun k k0 k1 => ?_, fun k k0 k1 => ?_, fun k i k0 k1 i0 i1 => ?_, fun k k0 k1 => ?_⟩
  · simp (disch := omega) only [wr_ne, wr_nj, wr_eq]
    exact h0
  · simp (disch := omega) only [wr_ne, wr_nj, wr_eq]
    exact h1
  · simp (disch := omega) only [wr_ne, wr_nj, wr_eq]
    exact h2
  · simp (disch := omega) only [wr_ne, wr_nj, wr_eq]; exact ⟨trivial, hv⟩
  · simp (disch := omega) only [wr_ne, wr_nj, wr_eq]
    exact h4
  · simp (disch := omega) only [wr_ne, wr_nj, wr_eq]
    exact h5
  · simp (disch := omega) only [wr_ne, wr_nj, wr_eq] at k1
    simp (disch := omega) only [wr_ne, wr_nj, wr_eq]
    exact h6 k k0 k1
  · simp (disch := omega) only [wr_ne, wr_nj, wr_eq] at k1
    simp (disch := omega) only [wr_ne, wr_nj, wr_eq]
    exact h7 k k0 k1
  · simp (disch := omega) only [wr_ne, wr_nj, wr_eq]
    exact h8 k k0 k1
  · have g8 := h8 k k0 k1
    simp (disch := omega) only [wr_ne, wr_nj, wr_eq] at i1
    simp (disch := omega) only [wr_ne, wr_nj, wr_eq]
    exact h9 k i k0 k1 i0 i1
  · simp (disch := omega) only [wr_ne, wr_nj, wr_eq]
    exact h10 k k0 k1

theorem U_seed {b : Int} {M : cM} {v : Int} (hb : 0 ≤ b ∧ b ≤ 50) (h : SC b 101 M)  : SC b 101 (wr (wr M b 12 v) 101 4 v) := by
  obtain ⟨h0, h1, h2, h3, h4, h5, h6, h7, h8, h9, h10⟩ := h
  have hb0 := h0
  have hb5 := h5
  refine ⟨?_, ?_, ?_, ?_, ?_, ?_, fun k k0 k1 => ?_, fun k k0 k1 => ?_, fun k k0 k1 => ?_, fun k i k0 k1 i0 i1 => ?_, fun k k0 k1 => ?_⟩
  · simp (disch := omega) only [wr_ne, wr_nj, wr_eq]
    exact h0
  · simp (disch := omega) only [wr_ne, wr_nj, wr_eq]
    exact h1
  · simp (disch := omega) only [wr_ne, wr_nj, wr_eq]
    exact h2
  · simp (disch := omega) only [wr_ne, wr_nj, wr_eq]
    exact h3
  · simp (disch := omega) only [wr_ne, wr_nj, wr_eq]
  · simp (disch := omega) only [wr_ne, wr_nj, wr_eq]
    exact h5
  · simp (disch := omega) only [wr_ne, wr_nj, wr_eq] at k1
    simp (disch := omega) only [wr_ne, wr_nj, wr_eq]
    exact h6 k k0 k1
  · simp (disch := omega) only [wr_ne, wr_nj, wr_eq] at k1
    simp (disch := omega) only [wr_ne, wr_nj, wr_eq]
    exact h7 k k0 k1
  · simp (disch := omega) only [wr_ne, wr_nj, wr_eq]
    exact h8 k k0 k1
  · have g8 := h8 k k0 k1
    simp (disch := omega) only [wr_ne, wr_nj, wr_eq] at i1
    simp (disch := omega) only [wr_ne, wr_nj, wr_eq]
    exact h9 k i k0 k1 i0 i1
  · simp (disch := omega) only [wr_ne, wr_nj, wr_eq]
    exact h10 k k0 k1

theorem U_clear {b : Int} {M : cM} {v : Int} (hb : 0 ≤ b ∧ b ≤ 50) (h : SC b 101 M) (hv : v = 0) : SC b 101 (wr (wr M b 9 v) 101 5 v) := by
  obtain ⟨h0, h1, h2, h3, h4, h5, h6, h7, h8, h9, h10⟩ := h
  have hb0 := h0
  have hb5 := h5
  refine ⟨?_, ?_, ?_, ?_, ?_, ?_, fun k k0 k1 => ?_, fun k k0 k1 => ?_, fun k k0 k1 => ?_, fun k i k0 k1 i0 i1 => ?_, fun k k0 k1 => ?_⟩
  · simp (disch := omega) only [wr_ne, wr_nj, wr_eq]
    exact h0
  · simp (disch := omega) only [wr_ne, wr_nj, wr_eq]
    exact h1
  · simp (disch := omega) only [wr_ne, wr_nj, wr_eq]
    exact h2
  · simp (disch := omega) only [wr_ne, wr_nj, wr_eq]
    exact h3
  · simp (disch := omega) only [wr_ne, wr_nj, wr_eq]
    exact h4
  · simp (disch := omega) only [wr_ne, wr_nj, wr_eq]; exact ⟨trivial, by omega⟩
  · simp (disch := omega) only [wr_ne, wr_nj, wr_eq] at k1; omega
  · simp (disch := omega) only [wr_ne, wr_nj, wr_eq] at k1
    simp (disch := omega) only [wr_ne, wr_nj, wr_eq]
    exact h7 k k0 k1
  · simp (disch := omega) only [wr_ne, wr_nj, wr_eq]
    exact h8 k k0 k1
  · have g8 := h8 k k0 k1
    simp (disch := omega) only [wr_ne, wr_nj, wr_eq] at i1
    simp (disch := omega) only [wr_ne, wr_nj, wr_eq]
    exact h9 k i k0 k1 i0 i1
  · simp (disch := omega) only [wr_ne, wr_nj, wr_eq]
    exact h10 k k0 k1

theorem U_hold {b : Int} {M : cM} {p v : Int} (hb : 0 ≤ b ∧ b ≤ 50) (h : SC b 101 M) (hp : 0 ≤ p ∧ p < 10) (hv : -1 ≤ v ∧ v < M 101 0) : SC b 101 (wr (wr M (b + 12) p v) 101 (72 + p) v) := by
  obtain ⟨h0, h1, h2, h3, h4, h5, h6, h7, h8, h9, h10⟩ := h
  have hb0 := h0
  have hb5 := h5
  refine ⟨?_, ?_, ?_, ?_, ?_, ?_, fun k k0 k1 => ?_, fun k k0 k1 => ?_, fun k k0 k1 => ?_, fun k i k0 k1 i0 i1 => ?_, fun k k0 k1 => ?_⟩
  · simp (disch := omega) only [wr_ne, wr_nj, wr_eq]
    exact h0
  · simp (disch := omega) only [wr_ne, wr_nj, wr_eq]
    exact h1
  · simp (disch := omega) only [wr_ne, wr_nj, wr_eq]
    exact h2
  · simp (disch := omega) only [wr_ne, wr_nj, wr_eq]
    exact h3
  · simp (disch := omega) only [wr_ne, wr_nj, wr_eq]
    exact h4
  · simp (disch := omega) only [wr_ne, wr_nj, wr_eq]
    exact h5
  · simp (disch := omega) only [wr_ne, wr_nj, wr_eq] at k1
    simp (disch := omega) only [wr_ne, wr_nj, wr_eq]
    exact h6 k k0 k1
  · simp (disch := omega) only [wr_ne, wr_nj, wr_eq] at k1
    simp (disch := omega) only [wr_ne, wr_nj, wr_eq]
    exact h7 k k0 k1
  · simp (disch := omega) only [wr_ne, wr_nj, wr_eq]
    exact h8 k k0 k1
  · have g8 := h8 k k0 k1
    simp (disch := omega) only [wr_ne, wr_nj, wr_eq] at i1
    simp (disch := omega) only [wr_ne, wr_nj, wr_eq]
    exact h9 k i k0 k1 i0 i1
  · by_cases e : k = p
    · subst e
      simp (disch := omega) only [wr_ne, wr_nj, wr_eq]
      exact ⟨trivial, hv⟩
    · simp (disch := omega) only [wr_ne, wr_nj, wr_eq]
      exact h10 k k0 k1

theorem U_kind {b : Int} {M : cM} {p v : Int} (hb : 0 ≤ b ∧ b ≤ 50) (h : SC b 101 M) (hp : 0 ≤ p ∧ p < M 101 0) (hv : 0 ≤ v ∧ v ≤ 6) : SC b 101 (wr (wr M (b + 1) p v) 101 (14 + 3 * p) v) := by
  obtain ⟨h0, h1, h2, h3, h4, h5, h6, h7, h8, h9, h10⟩ := h
  have hb0 := h0
  have hb5 := h5
  refine ⟨?_, ?_, ?_, ?_, ?_, ?_, fun k k0 k1 => ?_, fun k k0 k1 => ?_, fun k k0 k1 => ?_, fun k i k0 k1 i0 i1 => ?_, fun k k0 k1 => ?_⟩
  · simp (disch := omega) only [wr_ne, wr_nj, wr_eq]
    exact h0
  · simp (disch := omega) only [wr_ne, wr_nj, wr_eq]
    exact h1
  · simp (disch := omega) only [wr_ne, wr_nj, wr_eq]
    exact h2
  · simp (disch := omega) only [wr_ne, wr_nj, wr_eq]
    exact h3
  · simp (disch := omega) only [wr_ne, wr_nj, wr_eq]
    exact h4
  · simp (disch := omega) only [wr_ne, wr_nj, wr_eq]
    exact h5
  · simp (disch := omega) only [wr_ne, wr_nj, wr_eq] at k1
    simp (disch := omega) only [wr_ne, wr_nj, wr_eq]
    exact h6 k k0 k1
  · by_cases e : k = p
    · subst e
      have g := h7 k k0 hp.2
      simp (disch := omega) only [wr_ne, wr_nj, wr_eq]
      exact ⟨trivial, g.2.1, g.2.2.1, hv, g.2.2.2.2⟩
    · simp (disch := omega) only [wr_ne, wr_nj, wr_eq] at k1
      simp (disch := omega) only [wr_ne, wr_nj, wr_eq]
      exact h7 k k0 k1
  · simp (disch := omega) only [wr_ne, wr_nj, wr_eq]
    exact h8 k k0 k1
  · have g8 := h8 k k0 k1
    simp (disch := omega) only [wr_ne, wr_nj, wr_eq] at i1
    simp (disch := omega) only [wr_ne, wr_nj, wr_eq]
    exact h9 k i k0 k1 i0 i1
  · simp (disch := omega) only [wr_ne, wr_nj, wr_eq]
    exact h10 k k0 k1

theorem U_turn {b : Int} {M : cM} {p v : Int} (hb : 0 ≤ b ∧ b ≤ 50) (h : SC b 101 M) (hp : 0 ≤ p ∧ p < M 101 0) (hv : 0 ≤ v ∧ v ≤ 11) : SC b 101 (wr (wr M (b + 2) p v) 101 (15 + 3 * p) v) := by
  obtain ⟨h0, h1, h2, h3, h4, h5, h6, h7, h8, h9, h10⟩ := h
  have hb0 := h0
  have hb5 := h5
  refine ⟨?_, ?_, ?_, ?_, ?_, ?_, fun k k0 k1 => ?_, fun k k0 k1 => ?_, fun k k0 k1 => ?_, fun k i k0 k1 i0 i1 => ?_, fun k k0 k1 => ?_⟩
  · simp (disch := omega) only [wr_ne, wr_nj, wr_eq]
    exact h0
  · simp (disch := omega) only [wr_ne, wr_nj, wr_eq]
    exact h1
  · simp (disch := omega) only [wr_ne, wr_nj, wr_eq]
    exact h2
  · simp (disch := omega) only [wr_ne, wr_nj, wr_eq]
    exact h3
  · simp (disch := omega) only [wr_ne, wr_nj, wr_eq]
    exact h4
  · simp (disch := omega) only [wr_ne, wr_nj, wr_eq]
    exact h5
  · simp (disch := omega) only [wr_ne, wr_nj, wr_eq] at k1
    simp (disch := omega) only [wr_ne, wr_nj, wr_eq]
    exact h6 k k0 k1
  · by_cases e : k = p
    · subst e
      have g := h7 k k0 hp.2
      simp (disch := omega) only [wr_ne, wr_nj, wr_eq]
      exact ⟨g.1, trivial, g.2.2.1, g.2.2.2.1, hv, g.2.2.2.2.2⟩
    · simp (disch := omega) only [wr_ne, wr_nj, wr_eq] at k1
      simp (disch := omega) only [wr_ne, wr_nj, wr_eq]
      exact h7 k k0 k1
  · simp (disch := omega) only [wr_ne, wr_nj, wr_eq]
    exact h8 k k0 k1
  · have g8 := h8 k k0 k1
    simp (disch := omega) only [wr_ne, wr_nj, wr_eq] at i1
    simp (disch := omega) only [wr_ne, wr_nj, wr_eq]
    exact h9 k i k0 k1 i0 i1
  · simp (disch := omega) only [wr_ne, wr_nj, wr_eq]
    exact h10 k k0 k1

theorem U_pass {b : Int} {M : cM} {p v : Int} (hb : 0 ≤ b ∧ b ≤ 50) (h : SC b 101 M) (hp : 0 ≤ p ∧ p < M 101 0) (hv : 0 ≤ v ∧ v ≤ 1000) : SC b 101 (wr (wr M (b + 3) p v) 101 (16 + 3 * p) v) := by
  obtain ⟨h0, h1, h2, h3, h4, h5, h6, h7, h8, h9, h10⟩ := h
  have hb0 := h0
  have hb5 := h5
  refine ⟨?_, ?_, ?_, ?_, ?_, ?_, fun k k0 k1 => ?_, fun k k0 k1 => ?_, fun k k0 k1 => ?_, fun k i k0 k1 i0 i1 => ?_, fun k k0 k1 => ?_⟩
  · simp (disch := omega) only [wr_ne, wr_nj, wr_eq]
    exact h0
  · simp (disch := omega) only [wr_ne, wr_nj, wr_eq]
    exact h1
  · simp (disch := omega) only [wr_ne, wr_nj, wr_eq]
    exact h2
  · simp (disch := omega) only [wr_ne, wr_nj, wr_eq]
    exact h3
  · simp (disch := omega) only [wr_ne, wr_nj, wr_eq]
    exact h4
  · simp (disch := omega) only [wr_ne, wr_nj, wr_eq]
    exact h5
  · simp (disch := omega) only [wr_ne, wr_nj, wr_eq] at k1
    simp (disch := omega) only [wr_ne, wr_nj, wr_eq]
    exact h6 k k0 k1
  · by_cases e : k = p
    · subst e
      have g := h7 k k0 hp.2
      simp (disch := omega) only [wr_ne, wr_nj, wr_eq]
      exact ⟨g.1, g.2.1, trivial, g.2.2.2.1, g.2.2.2.2.1, hv⟩
    · simp (disch := omega) only [wr_ne, wr_nj, wr_eq] at k1
      simp (disch := omega) only [wr_ne, wr_nj, wr_eq]
      exact h7 k k0 k1
  · simp (disch := omega) only [wr_ne, wr_nj, wr_eq]
    exact h8 k k0 k1
  · have g8 := h8 k k0 k1
    simp (disch := omega) only [wr_ne, wr_nj, wr_eq] at i1
    simp (disch := omega) only [wr_ne, wr_nj, wr_eq]
    exact h9 k i k0 k1 i0 i1
  · simp (disch := omega) only [wr_ne, wr_nj, wr_eq]
    exact h10 k k0 k1

theorem U_look {b : Int} {M : cM} {t v n : Int} (hb : 0 ≤ b ∧ b ≤ 50) (h : SC b 101 M) (hn : M 101 5 = n) (hn4 : n < 4) (ht : 0 ≤ t ∧ t ≤ 11) (hv : 0 ≤ v ∧ v ≤ 1000) : SC b 101 (wr (wr (wr (wr (wr (wr M (b + 10) n t) (b + 11) n v) b 9 (n + 1)) 101 (6 + 2 * n) t) 101 (7 + 2 * n) v) 101 5 (n + 1)) := by
  obtain ⟨h0, h1, h2, h3, h4, h5, h6, h7, h8, h9, h10⟩ := h
  have hb0 := h0
  have hb5 := h5
  refine ⟨?_, ?_, ?_, ?_, ?_, ?_, fun k k0 k1 => ?_, fun k k0 k1 => ?_, fun k k0 k1 => ?_, fun k i k0 k1 i0 i1 => ?_, fun k k0 k1 => ?_⟩
  · simp (disch := omega) only [wr_ne, wr_nj, wr_eq]
    exact h0
  · simp (disch := omega) only [wr_ne, wr_nj, wr_eq]
    exact h1
  · simp (disch := omega) only [wr_ne, wr_nj, wr_eq]
    exact h2
  · simp (disch := omega) only [wr_ne, wr_nj, wr_eq]
    exact h3
  · simp (disch := omega) only [wr_ne, wr_nj, wr_eq]
    exact h4
  · simp (disch := omega) only [wr_ne, wr_nj, wr_eq]; exact ⟨trivial, by omega⟩
  · by_cases e : k = n
    · subst e
      simp (disch := omega) only [wr_ne, wr_nj, wr_eq]
      exact ⟨trivial, trivial, ht, hv⟩
    · simp (disch := omega) only [wr_ne, wr_nj, wr_eq] at k1
      simp (disch := omega) only [wr_ne, wr_nj, wr_eq]
      exact h6 k k0 (by omega)
  · simp (disch := omega) only [wr_ne, wr_nj, wr_eq] at k1
    simp (disch := omega) only [wr_ne, wr_nj, wr_eq]
    exact h7 k k0 k1
  · simp (disch := omega) only [wr_ne, wr_nj, wr_eq]
    exact h8 k k0 k1
  · have g8 := h8 k k0 k1
    simp (disch := omega) only [wr_ne, wr_nj, wr_eq] at i1
    simp (disch := omega) only [wr_ne, wr_nj, wr_eq]
    exact h9 k i k0 k1 i0 i1
  · simp (disch := omega) only [wr_ne, wr_nj, wr_eq]
    exact h10 k k0 k1

theorem U_sheet {b : Int} {M : cM} {kd tn ps n : Int} (hb : 0 ≤ b ∧ b ≤ 50) (h : SC b 101 M) (hn : M 101 0 = n) (hn10 : n < 10) (hk : 0 ≤ kd ∧ kd ≤ 6) (ht : 0 ≤ tn ∧ tn ≤ 11) (hv : 0 ≤ ps ∧ ps ≤ 1000) : SC b 101 (wr (wr (wr (wr (wr (wr (wr (wr M (b + 1) n kd) (b + 2) n tn) (b + 3) n ps) b 0 (n + 1)) 101 (14 + 3 * n) kd) 101 (15 + 3 * n) tn) 101 (16 + 3 * n) ps) 101 0 (n + 1)) := by
  obtain ⟨h0, h1, h2, h3, h4, h5, h6, h7, h8, h9, h10⟩ := h
  have hb0 := h0
  have hb5 := h5
  refine ⟨?_, ?_, ?_, ?_, ?_, ?_, fun k k0 k1 => ?_, fun k k0 k1 => ?_, fun k k0 k1 => ?_, fun k i k0 k1 i0 i1 => ?_, fun k k0 k1 => ?_⟩
  · simp (disch := omega) only [wr_ne, wr_nj, wr_eq]; exact ⟨trivial, by omega⟩
  · simp (disch := omega) only [wr_ne, wr_nj, wr_eq]
    exact h1
  · simp (disch := omega) only [wr_ne, wr_nj, wr_eq]
    exact h2
  · simp (disch := omega) only [wr_ne, wr_nj, wr_eq]
    exact h3
  · simp (disch := omega) only [wr_ne, wr_nj, wr_eq]
    exact h4
  · simp (disch := omega) only [wr_ne, wr_nj, wr_eq]
    exact h5
  · simp (disch := omega) only [wr_ne, wr_nj, wr_eq] at k1
    simp (disch := omega) only [wr_ne, wr_nj, wr_eq]
    exact h6 k k0 k1
  · by_cases e : k = n
    · subst e
      simp (disch := omega) only [wr_ne, wr_nj, wr_eq]
      exact ⟨trivial, trivial, trivial, hk, ht, hv⟩
    · simp (disch := omega) only [wr_ne, wr_nj, wr_eq] at k1
      simp (disch := omega) only [wr_ne, wr_nj, wr_eq]
      exact h7 k k0 (by omega)
  · simp (disch := omega) only [wr_ne, wr_nj, wr_eq]
    exact h8 k k0 k1
  · simp (disch := omega) only [wr_ne, wr_nj, wr_eq] at i1
    simp (disch := omega) only [wr_ne, wr_nj, wr_eq]
    have g := h9 k i k0 k1 i0 i1
    exact ⟨g.1, g.2.1, by omega⟩
  · simp (disch := omega) only [wr_ne, wr_nj, wr_eq]
    have g := h10 k k0 k1
    exact ⟨g.1, g.2.1, by omega⟩

theorem U_lay {b : Int} {M : cM} {st v n : Int} (hb : 0 ≤ b ∧ b ≤ 50) (h : SC b 101 M) (hs : 0 ≤ st ∧ st < 4) (hn : M 101 (44 + 7 * st) = n) (hn6 : n < 6) (hv : 0 ≤ v ∧ v < M 101 0) : SC b 101 (wr (wr (wr (wr M (b + 5 + st) n v) (b + 9) st (n + 1)) 101 (45 + 7 * st + n) v) 101 (44 + 7 * st) (n + 1)) := by
  obtain ⟨h0, h1, h2, h3, h4, h5, h6, h7, h8, h9, h10⟩ := h
  have hb0 := h0
  have hb5 := h5
  have hb8 := h8 st hs.1 hs.2
  refine ⟨?_, ?_, ?_, ?_, ?_, ?_, fun k k0 k1 => ?_, fun k k0 k1 => ?_, fun k k0 k1 => ?_, fun k i k0 k1 i0 i1 => ?_, fun k k0 k1 => ?_⟩
  · simp (disch := omega) only [wr_ne, wr_nj, wr_eq]
    exact h0
  · simp (disch := omega) only [wr_ne, wr_nj, wr_eq]
    exact h1
  · simp (disch := omega) only [wr_ne, wr_nj, wr_eq]
    exact h2
  · simp (disch := omega) only [wr_ne, wr_nj, wr_eq]
    exact h3
  · simp (disch := omega) only [wr_ne, wr_nj, wr_eq]
    exact h4
  · simp (disch := omega) only [wr_ne, wr_nj, wr_eq]
    exact h5
  · simp (disch := omega) only [wr_ne, wr_nj, wr_eq] at k1
    simp (disch := omega) only [wr_ne, wr_nj, wr_eq]
    exact h6 k k0 k1
  · simp (disch := omega) only [wr_ne, wr_nj, wr_eq] at k1
    simp (disch := omega) only [wr_ne, wr_nj, wr_eq]
    exact h7 k k0 k1
  · by_cases e : k = st
    · subst e
      simp (disch := omega) only [wr_ne, wr_nj, wr_eq]
      exact ⟨trivial, by omega⟩
    · simp (disch := omega) only [wr_ne, wr_nj, wr_eq]
      exact h8 k k0 k1
  · by_cases e : k = st
    · subst e
      simp (disch := omega) only [wr_ne, wr_nj, wr_eq] at i1
      by_cases e2 : i = n
      · subst e2
        simp (disch := omega) only [wr_ne, wr_nj, wr_eq]
        exact ⟨trivial, hv⟩
      · simp (disch := omega) only [wr_ne, wr_nj, wr_eq]
        exact h9 k i k0 k1 i0 (by omega)
    · have g2 := h8 k k0 k1
      simp (disch := omega) only [wr_ne, wr_nj, wr_eq] at i1
      simp (disch := omega) only [wr_ne, wr_nj, wr_eq]
      exact h9 k i k0 k1 i0 i1
  · simp (disch := omega) only [wr_ne, wr_nj, wr_eq]
    exact h10 k k0 k1

theorem U_off {b : Int} {M : cM} {st n : Int} (hb : 0 ≤ b ∧ b ≤ 50) (h : SC b 101 M) (hs : 0 ≤ st ∧ st < 4) (hn : M 101 (44 + 7 * st) = n) (hn0 : 0 < n) : SC b 101 (wr (wr M (b + 9) st (n - 1)) 101 (44 + 7 * st) (n - 1)) := by
  obtain ⟨h0, h1, h2, h3, h4, h5, h6, h7, h8, h9, h10⟩ := h
  have hb0 := h0
  have hb5 := h5
  have hb8 := h8 st hs.1 hs.2
  refine ⟨?_, ?_, ?_, ?_, ?_, ?_, fun k k0 k1 => ?_, fun k k0 k1 => ?_, fun k k0 k1 => ?_, fun k i k0 k1 i0 i1 => ?_, fun k k0 k1 => ?_⟩
  · simp (disch := omega) only [wr_ne, wr_nj, wr_eq]
    exact h0
  · simp (disch := omega) only [wr_ne, wr_nj, wr_eq]
    exact h1
  · simp (disch := omega) only [wr_ne, wr_nj, wr_eq]
    exact h2
  · simp (disch := omega) only [wr_ne, wr_nj, wr_eq]
    exact h3
  · simp (disch := omega) only [wr_ne, wr_nj, wr_eq]
    exact h4
  · simp (disch := omega) only [wr_ne, wr_nj, wr_eq]
    exact h5
  · simp (disch := omega) only [wr_ne, wr_nj, wr_eq] at k1
    simp (disch := omega) only [wr_ne, wr_nj, wr_eq]
    exact h6 k k0 k1
  · simp (disch := omega) only [wr_ne, wr_nj, wr_eq] at k1
    simp (disch := omega) only [wr_ne, wr_nj, wr_eq]
    exact h7 k k0 k1
  · by_cases e : k = st
    · subst e
      simp (disch := omega) only [wr_ne, wr_nj, wr_eq]
      exact ⟨trivial, by omega⟩
    · simp (disch := omega) only [wr_ne, wr_nj, wr_eq]
      exact h8 k k0 k1
  · have g2 := h8 k k0 k1
    by_cases e : k = st
    · subst e
      simp (disch := omega) only [wr_ne, wr_nj, wr_eq] at i1
      simp (disch := omega) only [wr_ne, wr_nj, wr_eq]
      exact h9 k i k0 k1 i0 (by omega)
    · simp (disch := omega) only [wr_ne, wr_nj, wr_eq] at i1
      simp (disch := omega) only [wr_ne, wr_nj, wr_eq]
      exact h9 k i k0 k1 i0 i1
  · simp (disch := omega) only [wr_ne, wr_nj, wr_eq]
    exact h10 k k0 k1

