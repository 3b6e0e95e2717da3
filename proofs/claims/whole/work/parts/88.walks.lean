/-! Walks of the constructors. -/
set_option maxHeartbeats 4000000 in
set_option maxRecDepth 100000 in
/-- Arrays.fill of ten ints with -1 -/
theorem c_fill (D : va_G) (kA : Nat → ClassId) (b : Nat) : Cc xj_Arrays_fill 0 0 0 [.int (Int32.ofInt (-1))] (.inl (kA 1, (10, .inl (fun _ => Int32.ofInt 0)))) [.inl (kA 1, (10, .inl (fun _ => Int32.ofInt (-1))))] D kA b := by
  refine Cc_of xj_Arrays_fill_ok.1 rfl (Nat.le_of_ble_eq_true rfl) (fun p l e s m args below meth c ls hC hlocks hr hH hS hl => ?_)
  have hx := hC.1
  have hb := hC.2.1
  obtain ⟨H, hHe⟩ : ∃ H, H = s.heap := ⟨_, rfl⟩
  have hH : HN D b [.inl (kA 1, (10, .inl (fun _ => Int32.ofInt 0)))] H := by rw [hHe]; exact hH
  have hS : SN b s H [] := by rw [hHe]; exact va_S.rf
  rw [← hHe]
  have hl : lv_has ls 4 [(0, .ref b), (1, .int (Int32.ofInt (-1)))] := hl
  refine lv_iconst (v := Int32.ofInt 0) hx hb d_xj_Arrays_fill_0 rfl ?_
  refine lv_istore_n (lv' := [(2, .int (Int32.ofInt 0)), (0, .ref b), (1, .int (Int32.ofInt (-1)))]) hx hb d_xj_Arrays_fill_1 rfl hl (by decide) rfl (fun ls hl => ?_)
  refine lv_aload_n hx hb d_xj_Arrays_fill_2 rfl (lv_at hl 1 rfl) ?_
  refine n_alen hC hH 0 rfl rfl (v := Int32.ofInt 10) (by decide) d_xj_Arrays_fill_3 ?_
  refine lv_istore_n (lv' := [(3, .int (Int32.ofInt 10)), (2, .int (Int32.ofInt 0)), (0, .ref b), (1, .int (Int32.ofInt (-1)))]) hx hb d_xj_Arrays_fill_4 rfl hl (by decide) rfl (fun ls hl => ?_)
  refine lv_iload_n hx hb d_xj_Arrays_fill_5 rfl (lv_at hl 1 rfl) ?_
  refine lv_iload_n hx hb d_xj_Arrays_fill_6 rfl (lv_at hl 0 rfl) ?_
  refine lv_icmp_ge (tgt := 20) hx hb d_xj_Arrays_fill_7 (by decide) (fun h => absurd h (by decide)) (fun _ => ?_)
  refine lv_aload_n hx hb d_xj_Arrays_fill_10 rfl (lv_at hl 2 rfl) ?_
  refine lv_iload_n hx hb d_xj_Arrays_fill_11 rfl (lv_at hl 1 rfl) ?_
  refine lv_iload_n hx hb d_xj_Arrays_fill_12 rfl (lv_at hl 3 rfl) ?_
  refine n_iast hC hH hS 0 rfl rfl (by unfold vp_in; decide) d_xj_Arrays_fill_13 (fun H locs hH hS => ?_)
  obtain ⟨f12, hf12⟩ : ∃ f : Nat → Int32, f = (fun k => if k = (Int32.ofInt 0).toNatClampNeg then Int32.ofInt (-1) else (fun _ => Int32.ofInt 0) k) := ⟨_, rfl⟩
  have hH : HN D b [.inl (kA 1, (10, .inl f12))] H := by rw [hf12]; exact hH
  refine lv_iinc (v := Int32.ofInt 1) (lv' := [(2, .int (Int32.ofInt 1)), (3, .int (Int32.ofInt 10)), (0, .ref b), (1, .int (Int32.ofInt (-1)))]) hx hb d_xj_Arrays_fill_14 hl (k := 1) rfl (by decide) (by decide) rfl (fun ls hl => ?_)
  refine lv_goto (tgt := 5) hx hb d_xj_Arrays_fill_17 (by decide) ?_
  refine lv_iload_n hx hb d_xj_Arrays_fill_5 rfl (lv_at hl 0 rfl) ?_
  refine lv_iload_n hx hb d_xj_Arrays_fill_6 rfl (lv_at hl 1 rfl) ?_
  refine lv_icmp_ge (tgt := 20) hx hb d_xj_Arrays_fill_7 (by decide) (fun h => absurd h (by decide)) (fun _ => ?_)
  refine lv_aload_n hx hb d_xj_Arrays_fill_10 rfl (lv_at hl 2 rfl) ?_
  refine lv_iload_n hx hb d_xj_Arrays_fill_11 rfl (lv_at hl 0 rfl) ?_
  refine lv_iload_n hx hb d_xj_Arrays_fill_12 rfl (lv_at hl 3 rfl) ?_
  refine n_iast hC hH hS 0 rfl rfl (by unfold vp_in; decide) d_xj_Arrays_fill_13 (fun H locs hH hS => ?_)
  obtain ⟨f21, hf21⟩ : ∃ f : Nat → Int32, f = (fun k => if k = (Int32.ofInt 1).toNatClampNeg then Int32.ofInt (-1) else (f12) k) := ⟨_, rfl⟩
  have hH : HN D b [.inl (kA 1, (10, .inl f21))] H := by rw [hf21]; exact hH
  refine lv_iinc (v := Int32.ofInt 2) (lv' := [(2, .int (Int32.ofInt 2)), (3, .int (Int32.ofInt 10)), (0, .ref b), (1, .int (Int32.ofInt (-1)))]) hx hb d_xj_Arrays_fill_14 hl (k := 0) rfl (by decide) (by decide) rfl (fun ls hl => ?_)
  refine lv_goto (tgt := 5) hx hb d_xj_Arrays_fill_17 (by decide) ?_
  refine lv_iload_n hx hb d_xj_Arrays_fill_5 rfl (lv_at hl 0 rfl) ?_
  refine lv_iload_n hx hb d_xj_Arrays_fill_6 rfl (lv_at hl 1 rfl) ?_
  refine lv_icmp_ge (tgt := 20) hx hb d_xj_Arrays_fill_7 (by decide) (fun h => absurd h (by decide)) (fun _ => ?_)
  refine lv_aload_n hx hb d_xj_Arrays_fill_10 rfl (lv_at hl 2 rfl) ?_
  refine lv_iload_n hx hb d_xj_Arrays_fill_11 rfl (lv_at hl 0 rfl) ?_
  refine lv_iload_n hx hb d_xj_Arrays_fill_12 rfl (lv_at hl 3 rfl) ?_
  refine n_iast hC hH hS 0 rfl rfl (by unfold vp_in; decide) d_xj_Arrays_fill_13 (fun H locs hH hS => ?_)
  obtain ⟨f30, hf30⟩ : ∃ f : Nat → Int32, f = (fun k => if k = (Int32.ofInt 2).toNatClampNeg then Int32.ofInt (-1) else (f21) k) := ⟨_, rfl⟩
  have hH : HN D b [.inl (kA 1, (10, .inl f30))] H := by rw [hf30]; exact hH
  refine lv_iinc (v := Int32.ofInt 3) (lv' := [(2, .int (Int32.ofInt 3)), (3, .int (Int32.ofInt 10)), (0, .ref b), (1, .int (Int32.ofInt (-1)))]) hx hb d_xj_Arrays_fill_14 hl (k := 0) rfl (by decide) (by decide) rfl (fun ls hl => ?_)
  refine lv_goto (tgt := 5) hx hb d_xj_Arrays_fill_17 (by decide) ?_
  refine lv_iload_n hx hb d_xj_Arrays_fill_5 rfl (lv_at hl 0 rfl) ?_
  refine lv_iload_n hx hb d_xj_Arrays_fill_6 rfl (lv_at hl 1 rfl) ?_
  refine lv_icmp_ge (tgt := 20) hx hb d_xj_Arrays_fill_7 (by decide) (fun h => absurd h (by decide)) (fun _ => ?_)
  refine lv_aload_n hx hb d_xj_Arrays_fill_10 rfl (lv_at hl 2 rfl) ?_
  refine lv_iload_n hx hb d_xj_Arrays_fill_11 rfl (lv_at hl 0 rfl) ?_
  refine lv_iload_n hx hb d_xj_Arrays_fill_12 rfl (lv_at hl 3 rfl) ?_
  refine n_iast hC hH hS 0 rfl rfl (by unfold vp_in; decide) d_xj_Arrays_fill_13 (fun H locs hH hS => ?_)
  obtain ⟨f39, hf39⟩ : ∃ f : Nat → Int32, f = (fun k => if k = (Int32.ofInt 3).toNatClampNeg then Int32.ofInt (-1) else (f30) k) := ⟨_, rfl⟩
  have hH : HN D b [.inl (kA 1, (10, .inl f39))] H := by rw [hf39]; exact hH
  refine lv_iinc (v := Int32.ofInt 4) (lv' := [(2, .int (Int32.ofInt 4)), (3, .int (Int32.ofInt 10)), (0, .ref b), (1, .int (Int32.ofInt (-1)))]) hx hb d_xj_Arrays_fill_14 hl (k := 0) rfl (by decide) (by decide) rfl (fun ls hl => ?_)
  refine lv_goto (tgt := 5) hx hb d_xj_Arrays_fill_17 (by decide) ?_
  refine lv_iload_n hx hb d_xj_Arrays_fill_5 rfl (lv_at hl 0 rfl) ?_
  refine lv_iload_n hx hb d_xj_Arrays_fill_6 rfl (lv_at hl 1 rfl) ?_
  refine lv_icmp_ge (tgt := 20) hx hb d_xj_Arrays_fill_7 (by decide) (fun h => absurd h (by decide)) (fun _ => ?_)
  refine lv_aload_n hx hb d_xj_Arrays_fill_10 rfl (lv_at hl 2 rfl) ?_
  refine lv_iload_n hx hb d_xj_Arrays_fill_11 rfl (lv_at hl 0 rfl) ?_
  refine lv_iload_n hx hb d_xj_Arrays_fill_12 rfl (lv_at hl 3 rfl) ?_
  refine n_iast hC hH hS 0 rfl rfl (by unfold vp_in; decide) d_xj_Arrays_fill_13 (fun H locs hH hS => ?_)
  obtain ⟨f48, hf48⟩ : ∃ f : Nat → Int32, f = (fun k => if k = (Int32.ofInt 4).toNatClampNeg then Int32.ofInt (-1) else (f39) k) := ⟨_, rfl⟩
  have hH : HN D b [.inl (kA 1, (10, .inl f48))] H := by rw [hf48]; exact hH
  refine lv_iinc (v := Int32.ofInt 5) (lv' := [(2, .int (Int32.ofInt 5)), (3, .int (Int32.ofInt 10)), (0, .ref b), (1, .int (Int32.ofInt (-1)))]) hx hb d_xj_Arrays_fill_14 hl (k := 0) rfl (by decide) (by decide) rfl (fun ls hl => ?_)
  refine lv_goto (tgt := 5) hx hb d_xj_Arrays_fill_17 (by decide) ?_
  refine lv_iload_n hx hb d_xj_Arrays_fill_5 rfl (lv_at hl 0 rfl) ?_
  refine lv_iload_n hx hb d_xj_Arrays_fill_6 rfl (lv_at hl 1 rfl) ?_
  refine lv_icmp_ge (tgt := 20) hx hb d_xj_Arrays_fill_7 (by decide) (fun h => absurd h (by decide)) (fun _ => ?_)
  refine lv_aload_n hx hb d_xj_Arrays_fill_10 rfl (lv_at hl 2 rfl) ?_
  refine lv_iload_n hx hb d_xj_Arrays_fill_11 rfl (lv_at hl 0 rfl) ?_
  refine lv_iload_n hx hb d_xj_Arrays_fill_12 rfl (lv_at hl 3 rfl) ?_
  refine n_iast hC hH hS 0 rfl rfl (by unfold vp_in; decide) d_xj_Arrays_fill_13 (fun H locs hH hS => ?_)
  obtain ⟨f57, hf57⟩ : ∃ f : Nat → Int32, f = (fun k => if k = (Int32.ofInt 5).toNatClampNeg then Int32.ofInt (-1) else (f48) k) := ⟨_, rfl⟩
  have hH : HN D b [.inl (kA 1, (10, .inl f57))] H := by rw [hf57]; exact hH
  refine lv_iinc (v := Int32.ofInt 6) (lv' := [(2, .int (Int32.ofInt 6)), (3, .int (Int32.ofInt 10)), (0, .ref b), (1, .int (Int32.ofInt (-1)))]) hx hb d_xj_Arrays_fill_14 hl (k := 0) rfl (by decide) (by decide) rfl (fun ls hl => ?_)
  refine lv_goto (tgt := 5) hx hb d_xj_Arrays_fill_17 (by decide) ?_
  refine lv_iload_n hx hb d_xj_Arrays_fill_5 rfl (lv_at hl 0 rfl) ?_
  refine lv_iload_n hx hb d_xj_Arrays_fill_6 rfl (lv_at hl 1 rfl) ?_
  refine lv_icmp_ge (tgt := 20) hx hb d_xj_Arrays_fill_7 (by decide) (fun h => absurd h (by decide)) (fun _ => ?_)
  refine lv_aload_n hx hb d_xj_Arrays_fill_10 rfl (lv_at hl 2 rfl) ?_
  refine lv_iload_n hx hb d_xj_Arrays_fill_11 rfl (lv_at hl 0 rfl) ?_
  refine lv_iload_n hx hb d_xj_Arrays_fill_12 rfl (lv_at hl 3 rfl) ?_
  refine n_iast hC hH hS 0 rfl rfl (by unfold vp_in; decide) d_xj_Arrays_fill_13 (fun H locs hH hS => ?_)
  obtain ⟨f66, hf66⟩ : ∃ f : Nat → Int32, f = (fun k => if k = (Int32.ofInt 6).toNatClampNeg then Int32.ofInt (-1) else (f57) k) := ⟨_, rfl⟩
  have hH : HN D b [.inl (kA 1, (10, .inl f66))] H := by rw [hf66]; exact hH
  refine lv_iinc (v := Int32.ofInt 7) (lv' := [(2, .int (Int32.ofInt 7)), (3, .int (Int32.ofInt 10)), (0, .ref b), (1, .int (Int32.ofInt (-1)))]) hx hb d_xj_Arrays_fill_14 hl (k := 0) rfl (by decide) (by decide) rfl (fun ls hl => ?_)
  refine lv_goto (tgt := 5) hx hb d_xj_Arrays_fill_17 (by decide) ?_
  refine lv_iload_n hx hb d_xj_Arrays_fill_5 rfl (lv_at hl 0 rfl) ?_
  refine lv_iload_n hx hb d_xj_Arrays_fill_6 rfl (lv_at hl 1 rfl) ?_
  refine lv_icmp_ge (tgt := 20) hx hb d_xj_Arrays_fill_7 (by decide) (fun h => absurd h (by decide)) (fun _ => ?_)
  refine lv_aload_n hx hb d_xj_Arrays_fill_10 rfl (lv_at hl 2 rfl) ?_
  refine lv_iload_n hx hb d_xj_Arrays_fill_11 rfl (lv_at hl 0 rfl) ?_
  refine lv_iload_n hx hb d_xj_Arrays_fill_12 rfl (lv_at hl 3 rfl) ?_
  refine n_iast hC hH hS 0 rfl rfl (by unfold vp_in; decide) d_xj_Arrays_fill_13 (fun H locs hH hS => ?_)
  obtain ⟨f75, hf75⟩ : ∃ f : Nat → Int32, f = (fun k => if k = (Int32.ofInt 7).toNatClampNeg then Int32.ofInt (-1) else (f66) k) := ⟨_, rfl⟩
  have hH : HN D b [.inl (kA 1, (10, .inl f75))] H := by rw [hf75]; exact hH
  refine lv_iinc (v := Int32.ofInt 8) (lv' := [(2, .int (Int32.ofInt 8)), (3, .int (Int32.ofInt 10)), (0, .ref b), (1, .int (Int32.ofInt (-1)))]) hx hb d_xj_Arrays_fill_14 hl (k := 0) rfl (by decide) (by decide) rfl (fun ls hl => ?_)
  refine lv_goto (tgt := 5) hx hb d_xj_Arrays_fill_17 (by decide) ?_
  refine lv_iload_n hx hb d_xj_Arrays_fill_5 rfl (lv_at hl 0 rfl) ?_
  refine lv_iload_n hx hb d_xj_Arrays_fill_6 rfl (lv_at hl 1 rfl) ?_
  refine lv_icmp_ge (tgt := 20) hx hb d_xj_Arrays_fill_7 (by decide) (fun h => absurd h (by decide)) (fun _ => ?_)
  refine lv_aload_n hx hb d_xj_Arrays_fill_10 rfl (lv_at hl 2 rfl) ?_
  refine lv_iload_n hx hb d_xj_Arrays_fill_11 rfl (lv_at hl 0 rfl) ?_
  refine lv_iload_n hx hb d_xj_Arrays_fill_12 rfl (lv_at hl 3 rfl) ?_
  refine n_iast hC hH hS 0 rfl rfl (by unfold vp_in; decide) d_xj_Arrays_fill_13 (fun H locs hH hS => ?_)
  obtain ⟨f84, hf84⟩ : ∃ f : Nat → Int32, f = (fun k => if k = (Int32.ofInt 8).toNatClampNeg then Int32.ofInt (-1) else (f75) k) := ⟨_, rfl⟩
  have hH : HN D b [.inl (kA 1, (10, .inl f84))] H := by rw [hf84]; exact hH
  refine lv_iinc (v := Int32.ofInt 9) (lv' := [(2, .int (Int32.ofInt 9)), (3, .int (Int32.ofInt 10)), (0, .ref b), (1, .int (Int32.ofInt (-1)))]) hx hb d_xj_Arrays_fill_14 hl (k := 0) rfl (by decide) (by decide) rfl (fun ls hl => ?_)
  refine lv_goto (tgt := 5) hx hb d_xj_Arrays_fill_17 (by decide) ?_
  refine lv_iload_n hx hb d_xj_Arrays_fill_5 rfl (lv_at hl 0 rfl) ?_
  refine lv_iload_n hx hb d_xj_Arrays_fill_6 rfl (lv_at hl 1 rfl) ?_
  refine lv_icmp_ge (tgt := 20) hx hb d_xj_Arrays_fill_7 (by decide) (fun h => absurd h (by decide)) (fun _ => ?_)
  refine lv_aload_n hx hb d_xj_Arrays_fill_10 rfl (lv_at hl 2 rfl) ?_
  refine lv_iload_n hx hb d_xj_Arrays_fill_11 rfl (lv_at hl 0 rfl) ?_
  refine lv_iload_n hx hb d_xj_Arrays_fill_12 rfl (lv_at hl 3 rfl) ?_
  refine n_iast hC hH hS 0 rfl rfl (by unfold vp_in; decide) d_xj_Arrays_fill_13 (fun H locs hH hS => ?_)
  obtain ⟨f93, hf93⟩ : ∃ f : Nat → Int32, f = (fun k => if k = (Int32.ofInt 9).toNatClampNeg then Int32.ofInt (-1) else (f84) k) := ⟨_, rfl⟩
  have hH : HN D b [.inl (kA 1, (10, .inl f93))] H := by rw [hf93]; exact hH
  refine lv_iinc (v := Int32.ofInt 10) (lv' := [(2, .int (Int32.ofInt 10)), (3, .int (Int32.ofInt 10)), (0, .ref b), (1, .int (Int32.ofInt (-1)))]) hx hb d_xj_Arrays_fill_14 hl (k := 0) rfl (by decide) (by decide) rfl (fun ls hl => ?_)
  refine lv_goto (tgt := 5) hx hb d_xj_Arrays_fill_17 (by decide) ?_
  refine lv_iload_n hx hb d_xj_Arrays_fill_5 rfl (lv_at hl 0 rfl) ?_
  refine lv_iload_n hx hb d_xj_Arrays_fill_6 rfl (lv_at hl 1 rfl) ?_
  refine lv_icmp_ge (tgt := 20) hx hb d_xj_Arrays_fill_7 (by decide) (fun _ => ?_) (fun h => absurd (by decide) h)
  have hg : ∀ j, j < 10 → f93 j = (fun _ => Int32.ofInt (-1)) j := by
    rw [hf93, hf84, hf75, hf66, hf57, hf48, hf39, hf30, hf21, hf12]
    decide +kernel
  have hH := hH.alt (i := 0) rfl (cell_congr hg)
  have hH : HN D b [.inl (kA 1, (10, .inl (fun _ => Int32.ofInt (-1))))] H := hH
  exact n_vret hC hr hlocks hH hS d_xj_Arrays_fill_20
def zA (kA : Nat → ClassId) (b : Nat) : List va_E := [.inr (4, [.ref (b + 1), .int (Int32.ofInt 0)]), .inl (kA 1, (6, .inl (fun _ => Int32.ofInt 0)))]
set_option maxHeartbeats 4000000 in
set_option maxRecDepth 100000 in
/-- the constructor of SlantSheets$Arrangement -/
theorem c_A (D : va_G) (kA : Nat → ClassId) (b : Nat) : Cc yi_A 1 1 6 [] (.inr (4, [.null, .int (Int32.ofInt 0)])) (zA kA b) D kA b := by
  refine Cc_of yi_A_pl rfl (Nat.le_of_ble_eq_true rfl) (fun p l e s m args below meth c ls hC hlocks hr hH hS hl => ?_)
  have hx := hC.1
  have hb := hC.2.1
  obtain ⟨H, hHe⟩ : ∃ H, H = s.heap := ⟨_, rfl⟩
  have hH : HN D b [.inr (4, [.null, .int (Int32.ofInt 0)])] H := by rw [hHe]; exact hH
  have hS : SN b s H [] := by rw [hHe]; exact va_S.rf
  rw [← hHe]
  have hl : lv_has ls 1 [(0, .ref b)] := hl
  refine lv_aload_n hx hb nd_A_0 rfl (lv_at hl 0 rfl) ?_
  refine n_obj hC nm_A_3 hl nd_A_1 (Nat.le_of_ble_eq_true rfl) (Nat.le_of_ble_eq_true rfl) ?_
  refine lv_aload_n hx hb nd_A_4 rfl (lv_at hl 0 rfl) ?_
  refine lv_bipush (v := Int32.ofInt 6) hx hb nd_A_5 (by decide) ?_
  refine n_newa hC hH hS 1 .int 6 1 rfl rfl wa_int rfl (by decide) (by decide) (Nat.le_of_ble_eq_true rfl) (Nat.le_of_ble_eq_true rfl) (Nat.le_of_ble_eq_true rfl) nd_A_7 rfl (fun H hH hS => ?_)
  have hH : HN D b [.inr (4, [.null, .int (Int32.ofInt 0)]), .inl (kA 1, (6, .inl (fun _ => Int32.ofInt 0)))] H := hH
  refine n_putF hC hH hS 0 4 0 rfl rfl cY_A rfl ci_A cy_A cn_A (by decide) nf_A_9 rfl rfl rfl rfl rfl (Nat.le_of_ble_eq_true rfl) nd_A_9 (fun H locs hH hS => ?_)
  have hH : HN D b [.inr (4, [.ref (b + 1), .int (Int32.ofInt 0)]), .inl (kA 1, (6, .inl (fun _ => Int32.ofInt 0)))] H := hH
  refine lv_aload_n hx hb nd_A_12 rfl (lv_at hl 0 rfl) ?_
  refine lv_iconst (v := Int32.ofInt 0) hx hb nd_A_13 rfl ?_
  refine n_put hC hH hS 0 4 1 rfl rfl cY_A rfl ci_A cy_A cn_A (by decide) nf_A_15 rfl rfl rfl (Nat.le_of_ble_eq_true rfl) nd_A_14 (fun H locs hH hS => ?_)
  have hH : HN D b [.inr (4, [.ref (b + 1), .int (Int32.ofInt 0)]), .inl (kA 1, (6, .inl (fun _ => Int32.ofInt 0)))] H := hH
  refine W.widen (k := 1) (n := 6) (Nat.le_of_ble_eq_true rfl) (Nat.le_of_ble_eq_true rfl) ?_
  exact n_vret hC hr hlocks hH hS nd_A_17
def zW (kA : Nat → ClassId) (b : Nat) : List va_E := [.inr (5, [.int (Int32.ofInt 0), .int (Int32.ofInt 0), .ref (b + 1)]), .inl (kA 1, (40, .inl (fun _ => Int32.ofInt 0)))]
set_option maxHeartbeats 4000000 in
set_option maxRecDepth 100000 in
/-- the constructor of SlantSheets$Row -/
theorem c_W (D : va_G) (kA : Nat → ClassId) (b : Nat) : Cc yi_W 1 1 40 [] (.inr (5, [.int (Int32.ofInt 0), .int (Int32.ofInt 0), .null])) (zW kA b) D kA b := by
  refine Cc_of yi_W_pl rfl (Nat.le_of_ble_eq_true rfl) (fun p l e s m args below meth c ls hC hlocks hr hH hS hl => ?_)
  have hx := hC.1
  have hb := hC.2.1
  obtain ⟨H, hHe⟩ : ∃ H, H = s.heap := ⟨_, rfl⟩
  have hH : HN D b [.inr (5, [.int (Int32.ofInt 0), .int (Int32.ofInt 0), .null])] H := by rw [hHe]; exact hH
  have hS : SN b s H [] := by rw [hHe]; exact va_S.rf
  rw [← hHe]
  have hl : lv_has ls 1 [(0, .ref b)] := hl
  refine lv_aload_n hx hb nd_W_0 rfl (lv_at hl 0 rfl) ?_
  refine n_obj hC nm_W_3 hl nd_W_1 (Nat.le_of_ble_eq_true rfl) (Nat.le_of_ble_eq_true rfl) ?_
  refine lv_aload_n hx hb nd_W_4 rfl (lv_at hl 0 rfl) ?_
  refine lv_iconst (v := Int32.ofInt 0) hx hb nd_W_5 rfl ?_
  refine n_put hC hH hS 0 5 0 rfl rfl cY_W rfl ci_W cy_W cn_W (by decide) nf_W_9 rfl rfl rfl (Nat.le_of_ble_eq_true rfl) nd_W_6 (fun H locs hH hS => ?_)
  have hH : HN D b [.inr (5, [.int (Int32.ofInt 0), .int (Int32.ofInt 0), .null])] H := hH
  refine lv_aload_n hx hb nd_W_9 rfl (lv_at hl 0 rfl) ?_
  refine lv_iconst (v := Int32.ofInt 0) hx hb nd_W_10 rfl ?_
  refine n_put hC hH hS 0 5 1 rfl rfl cY_W rfl ci_W cy_W cn_W (by decide) nf_W_15 rfl rfl rfl (Nat.le_of_ble_eq_true rfl) nd_W_11 (fun H locs hH hS => ?_)
  have hH : HN D b [.inr (5, [.int (Int32.ofInt 0), .int (Int32.ofInt 0), .null])] H := hH
  refine lv_aload_n hx hb nd_W_14 rfl (lv_at hl 0 rfl) ?_
  refine lv_bipush (v := Int32.ofInt 40) hx hb nd_W_15 (by decide) ?_
  refine n_newa hC hH hS 1 .int 40 1 rfl rfl wa_int rfl (by decide) (by decide) (Nat.le_of_ble_eq_true rfl) (Nat.le_of_ble_eq_true rfl) (Nat.le_of_ble_eq_true rfl) nd_W_17 rfl (fun H hH hS => ?_)
  have hH : HN D b [.inr (5, [.int (Int32.ofInt 0), .int (Int32.ofInt 0), .null]), .inl (kA 1, (40, .inl (fun _ => Int32.ofInt 0)))] H := hH
  refine n_putF hC hH hS 0 5 2 rfl rfl cY_W rfl ci_W cy_W cn_W (by decide) nf_W_18 rfl rfl rfl rfl rfl (Nat.le_of_ble_eq_true rfl) nd_W_19 (fun H locs hH hS => ?_)
  have hH : HN D b [.inr (5, [.int (Int32.ofInt 0), .int (Int32.ofInt 0), .ref (b + 1)]), .inl (kA 1, (40, .inl (fun _ => Int32.ofInt 0)))] H := hH
  refine W.widen (k := 1) (n := 40) (Nat.le_of_ble_eq_true rfl) (Nat.le_of_ble_eq_true rfl) ?_
  exact n_vret hC hr hlocks hH hS nd_W_22
def zP (kA : Nat → ClassId) (b : Nat) : List va_E := [.inr (2, [.ref (b + 1), .int (Int32.ofInt 0)]), .inl (kA 2, (120, .inl (fun _ => Int32.ofInt 0)))]
set_option maxHeartbeats 4000000 in
set_option maxRecDepth 100000 in
/-- the constructor of SlantSheets$Tape -/
theorem c_P (D : va_G) (kA : Nat → ClassId) (b : Nat) : Cc yi_P 1 1 120 [] (.inr (2, [.null, .int (Int32.ofInt 0)])) (zP kA b) D kA b := by
  refine Cc_of yi_P_pl rfl (Nat.le_of_ble_eq_true rfl) (fun p l e s m args below meth c ls hC hlocks hr hH hS hl => ?_)
  have hx := hC.1
  have hb := hC.2.1
  obtain ⟨H, hHe⟩ : ∃ H, H = s.heap := ⟨_, rfl⟩
  have hH : HN D b [.inr (2, [.null, .int (Int32.ofInt 0)])] H := by rw [hHe]; exact hH
  have hS : SN b s H [] := by rw [hHe]; exact va_S.rf
  rw [← hHe]
  have hl : lv_has ls 1 [(0, .ref b)] := hl
  refine lv_aload_n hx hb nd_P_0 rfl (lv_at hl 0 rfl) ?_
  refine n_obj hC nm_P_3 hl nd_P_1 (Nat.le_of_ble_eq_true rfl) (Nat.le_of_ble_eq_true rfl) ?_
  refine lv_aload_n hx hb nd_P_4 rfl (lv_at hl 0 rfl) ?_
  refine lv_bipush (v := Int32.ofInt 120) hx hb nd_P_5 (by decide) ?_
  refine n_newa hC hH hS 2 .byte 120 1 rfl rfl wa_byte rfl (by decide) (by decide) (Nat.le_of_ble_eq_true rfl) (Nat.le_of_ble_eq_true rfl) (Nat.le_of_ble_eq_true rfl) nd_P_7 rfl (fun H hH hS => ?_)
  have hH : HN D b [.inr (2, [.null, .int (Int32.ofInt 0)]), .inl (kA 2, (120, .inl (fun _ => Int32.ofInt 0)))] H := hH
  refine n_putF hC hH hS 0 2 0 rfl rfl cY_P rfl ci_P cy_P cn_P (by decide) nf_P_9 rfl rfl rfl rfl rfl (Nat.le_of_ble_eq_true rfl) nd_P_9 (fun H locs hH hS => ?_)
  have hH : HN D b [.inr (2, [.ref (b + 1), .int (Int32.ofInt 0)]), .inl (kA 2, (120, .inl (fun _ => Int32.ofInt 0)))] H := hH
  refine lv_aload_n hx hb nd_P_12 rfl (lv_at hl 0 rfl) ?_
  refine lv_iconst (v := Int32.ofInt 0) hx hb nd_P_13 rfl ?_
  refine n_put hC hH hS 0 2 1 rfl rfl cY_P rfl ci_P cy_P cn_P (by decide) nf_P_15 rfl rfl rfl (Nat.le_of_ble_eq_true rfl) nd_P_14 (fun H locs hH hS => ?_)
  have hH : HN D b [.inr (2, [.ref (b + 1), .int (Int32.ofInt 0)]), .inl (kA 2, (120, .inl (fun _ => Int32.ofInt 0)))] H := hH
  refine W.widen (k := 1) (n := 120) (Nat.le_of_ble_eq_true rfl) (Nat.le_of_ble_eq_true rfl) ?_
  exact n_vret hC hr hlocks hH hS nd_P_17
def zQ (kA : Nat → ClassId) (b : Nat) (t g : Nat) : List va_E := [.inr (3, [.ref t, .ref g, .ref (b + 1), .int (Int32.ofInt 0), .int (Int32.ofInt 0), .int (Int32.ofInt 0)]), .inl (kA 1, (6, .inl (fun _ => Int32.ofInt 0)))]
set_option maxHeartbeats 4000000 in
set_option maxRecDepth 100000 in
/-- the constructor of SlantSheets$TextReader -/
theorem c_Q (D : va_G) (kA : Nat → ClassId) (b : Nat) (t g : Nat) : Cc yi_Q 1 1 6 [.ref t, .ref g] (.inr (3, [.null, .null, .null, .int (Int32.ofInt 0), .int (Int32.ofInt 0), .int (Int32.ofInt 0)])) (zQ kA b t g) D kA b := by
  refine Cc_of yi_Q_pl rfl (Nat.le_of_ble_eq_true rfl) (fun p l e s m args below meth c ls hC hlocks hr hH hS hl => ?_)
  have hx := hC.1
  have hb := hC.2.1
  obtain ⟨H, hHe⟩ : ∃ H, H = s.heap := ⟨_, rfl⟩
  have hH : HN D b [.inr (3, [.null, .null, .null, .int (Int32.ofInt 0), .int (Int32.ofInt 0), .int (Int32.ofInt 0)])] H := by rw [hHe]; exact hH
  have hS : SN b s H [] := by rw [hHe]; exact va_S.rf
  rw [← hHe]
  have hl : lv_has ls 3 [(0, .ref b), (1, .ref t), (2, .ref g)] := hl
  refine lv_aload_n hx hb nd_Q_0 rfl (lv_at hl 0 rfl) ?_
  refine n_obj hC nm_Q_3 hl nd_Q_1 (Nat.le_of_ble_eq_true rfl) (Nat.le_of_ble_eq_true rfl) ?_
  refine lv_aload_n hx hb nd_Q_4 rfl (lv_at hl 0 rfl) ?_
  refine lv_bipush (v := Int32.ofInt 6) hx hb nd_Q_5 (by decide) ?_
  refine n_newa hC hH hS 1 .int 6 1 rfl rfl wa_int rfl (by decide) (by decide) (Nat.le_of_ble_eq_true rfl) (Nat.le_of_ble_eq_true rfl) (Nat.le_of_ble_eq_true rfl) nd_Q_7 rfl (fun H hH hS => ?_)
  have hH : HN D b [.inr (3, [.null, .null, .null, .int (Int32.ofInt 0), .int (Int32.ofInt 0), .int (Int32.ofInt 0)]), .inl (kA 1, (6, .inl (fun _ => Int32.ofInt 0)))] H := hH
  refine n_putF hC hH hS 0 3 2 rfl rfl cY_Q rfl ci_Q cy_Q cn_Q (by decide) nf_Q_9 rfl rfl rfl rfl rfl (Nat.le_of_ble_eq_true rfl) nd_Q_9 (fun H locs hH hS => ?_)
  have hH : HN D b [.inr (3, [.null, .null, .ref (b + 1), .int (Int32.ofInt 0), .int (Int32.ofInt 0), .int (Int32.ofInt 0)]), .inl (kA 1, (6, .inl (fun _ => Int32.ofInt 0)))] H := hH
  refine lv_aload_n hx hb nd_Q_12 rfl (lv_at hl 0 rfl) ?_
  refine lv_iconst (v := Int32.ofInt 0) hx hb nd_Q_13 rfl ?_
  refine n_put hC hH hS 0 3 3 rfl rfl cY_Q rfl ci_Q cy_Q cn_Q (by decide) nf_Q_15 rfl rfl rfl (Nat.le_of_ble_eq_true rfl) nd_Q_14 (fun H locs hH hS => ?_)
  have hH : HN D b [.inr (3, [.null, .null, .ref (b + 1), .int (Int32.ofInt 0), .int (Int32.ofInt 0), .int (Int32.ofInt 0)]), .inl (kA 1, (6, .inl (fun _ => Int32.ofInt 0)))] H := hH
  refine lv_aload_n hx hb nd_Q_17 rfl (lv_at hl 0 rfl) ?_
  refine lv_iconst (v := Int32.ofInt 0) hx hb nd_Q_18 rfl ?_
  refine n_put hC hH hS 0 3 4 rfl rfl cY_Q rfl ci_Q cy_Q cn_Q (by decide) nf_Q_19 rfl rfl rfl (Nat.le_of_ble_eq_true rfl) nd_Q_19 (fun H locs hH hS => ?_)
  have hH : HN D b [.inr (3, [.null, .null, .ref (b + 1), .int (Int32.ofInt 0), .int (Int32.ofInt 0), .int (Int32.ofInt 0)]), .inl (kA 1, (6, .inl (fun _ => Int32.ofInt 0)))] H := hH
  refine lv_aload_n hx hb nd_Q_22 rfl (lv_at hl 0 rfl) ?_
  refine lv_iconst (v := Int32.ofInt 0) hx hb nd_Q_23 rfl ?_
  refine n_put hC hH hS 0 3 5 rfl rfl cY_Q rfl ci_Q cy_Q cn_Q (by decide) nf_Q_22 rfl rfl rfl (Nat.le_of_ble_eq_true rfl) nd_Q_24 (fun H locs hH hS => ?_)
  have hH : HN D b [.inr (3, [.null, .null, .ref (b + 1), .int (Int32.ofInt 0), .int (Int32.ofInt 0), .int (Int32.ofInt 0)]), .inl (kA 1, (6, .inl (fun _ => Int32.ofInt 0)))] H := hH
  refine lv_aload_n hx hb nd_Q_27 rfl (lv_at hl 0 rfl) ?_
  refine lv_aload_n hx hb nd_Q_28 rfl (lv_at hl 1 rfl) ?_
  refine n_putF hC hH hS 0 3 0 rfl rfl cY_Q rfl ci_Q cy_Q cn_Q (by decide) nf_Q_25 rfl rfl rfl rfl rfl (Nat.le_of_ble_eq_true rfl) nd_Q_29 (fun H locs hH hS => ?_)
  have hH : HN D b [.inr (3, [.ref t, .null, .ref (b + 1), .int (Int32.ofInt 0), .int (Int32.ofInt 0), .int (Int32.ofInt 0)]), .inl (kA 1, (6, .inl (fun _ => Int32.ofInt 0)))] H := hH
  refine lv_aload_n hx hb nd_Q_32 rfl (lv_at hl 0 rfl) ?_
  refine lv_aload_n hx hb nd_Q_33 rfl (lv_at hl 2 rfl) ?_
  refine n_putF hC hH hS 0 3 1 rfl rfl cY_Q rfl ci_Q cy_Q cn_Q (by decide) nf_Q_29 rfl rfl rfl rfl rfl (Nat.le_of_ble_eq_true rfl) nd_Q_34 (fun H locs hH hS => ?_)
  have hH : HN D b [.inr (3, [.ref t, .ref g, .ref (b + 1), .int (Int32.ofInt 0), .int (Int32.ofInt 0), .int (Int32.ofInt 0)]), .inl (kA 1, (6, .inl (fun _ => Int32.ofInt 0)))] H := hH
  refine W.widen (k := 1) (n := 6) (Nat.le_of_ble_eq_true rfl) (Nat.le_of_ble_eq_true rfl) ?_
  exact n_vret hC hr hlocks hH hS nd_Q_37
def zG (kA : Nat → ClassId) (b : Nat) : List va_E := [.inr (1, [.int (Int32.ofInt 0), .ref (b + 1), .ref (b + 2), .ref (b + 3), .int (Int32.ofInt 0), .int (Int32.ofInt 1000), .int (Int32.ofInt (-1)), .ref (b + 4), .ref (b + 9), .int (Int32.ofInt 0), .ref (b + 10), .ref (b + 11), .int (Int32.ofInt 1), .ref (b + 12)]), .inl (kA 1, (10, .inl (fun _ => Int32.ofInt 0))), .inl (kA 1, (10, .inl (fun _ => Int32.ofInt 0))), .inl (kA 1, (10, .inl (fun _ => Int32.ofInt 0))), .inl (kA 5, (4, .inr (.inr (.inr (.inr (fun j => some (b + 4 + 1 + j))))))), .inl (kA 1, (6, .inl (fun _ => Int32.ofInt 0))), .inl (kA 1, (6, .inl (fun _ => Int32.ofInt 0))), .inl (kA 1, (6, .inl (fun _ => Int32.ofInt 0))), .inl (kA 1, (6, .inl (fun _ => Int32.ofInt 0))), .inl (kA 1, (4, .inl (fun _ => Int32.ofInt 0))), .inl (kA 1, (4, .inl (fun _ => Int32.ofInt 0))), .inl (kA 1, (4, .inl (fun _ => Int32.ofInt 0))), .inl (kA 1, (10, .inl (fun _ => Int32.ofInt (-1))))]
set_option maxHeartbeats 4000000 in
set_option maxRecDepth 100000 in
/-- the constructor of SlantSheets$Scene -/
theorem c_G (D : va_G) (kA : Nat → ClassId) (b : Nat) : Cc yi_G 1 12 80 [] (.inr (1, [.int (Int32.ofInt 0), .null, .null, .null, .int (Int32.ofInt 0), .int (Int32.ofInt 0), .int (Int32.ofInt 0), .null, .null, .int (Int32.ofInt 0), .null, .null, .int (Int32.ofInt 0), .null])) (zG kA b) D kA b := by
  refine Cc_of yi_G_pl rfl (Nat.le_of_ble_eq_true rfl) (fun p l e s m args below meth c ls hC hlocks hr hH hS hl => ?_)
  have hx := hC.1
  have hb := hC.2.1
  obtain ⟨H, hHe⟩ : ∃ H, H = s.heap := ⟨_, rfl⟩
  have hH : HN D b [.inr (1, [.int (Int32.ofInt 0), .null, .null, .null, .int (Int32.ofInt 0), .int (Int32.ofInt 0), .int (Int32.ofInt 0), .null, .null, .int (Int32.ofInt 0), .null, .null, .int (Int32.ofInt 0), .null])] H := by rw [hHe]; exact hH
  have hS : SN b s H [] := by rw [hHe]; exact va_S.rf
  rw [← hHe]
  have hl : lv_has ls 1 [(0, .ref b)] := hl
  refine lv_aload_n hx hb nd_G_0 rfl (lv_at hl 0 rfl) ?_
  refine n_obj hC nm_G_3 hl nd_G_1 (Nat.le_of_ble_eq_true rfl) (Nat.le_of_ble_eq_true rfl) ?_
  refine lv_aload_n hx hb nd_G_4 rfl (lv_at hl 0 rfl) ?_
  refine lv_iconst (v := Int32.ofInt 0) hx hb nd_G_5 rfl ?_
  refine n_put hC hH hS 0 1 0 rfl rfl cY_G rfl ci_G cy_G cn_G (by decide) nf_G_9 rfl rfl rfl (Nat.le_of_ble_eq_true rfl) nd_G_6 (fun H locs hH hS => ?_)
  have hH : HN D b [.inr (1, [.int (Int32.ofInt 0), .null, .null, .null, .int (Int32.ofInt 0), .int (Int32.ofInt 0), .int (Int32.ofInt 0), .null, .null, .int (Int32.ofInt 0), .null, .null, .int (Int32.ofInt 0), .null])] H := hH
  refine lv_aload_n hx hb nd_G_9 rfl (lv_at hl 0 rfl) ?_
  refine lv_bipush (v := Int32.ofInt 10) hx hb nd_G_10 (by decide) ?_
  refine n_newa hC hH hS 1 .int 10 1 rfl rfl wa_int rfl (by decide) (by decide) (Nat.le_of_ble_eq_true rfl) (Nat.le_of_ble_eq_true rfl) (Nat.le_of_ble_eq_true rfl) nd_G_12 rfl (fun H hH hS => ?_)
  have hH : HN D b [.inr (1, [.int (Int32.ofInt 0), .null, .null, .null, .int (Int32.ofInt 0), .int (Int32.ofInt 0), .int (Int32.ofInt 0), .null, .null, .int (Int32.ofInt 0), .null, .null, .int (Int32.ofInt 0), .null]), .inl (kA 1, (10, .inl (fun _ => Int32.ofInt 0)))] H := hH
  refine n_putF hC hH hS 0 1 1 rfl rfl cY_G rfl ci_G cy_G cn_G (by decide) nf_G_15 rfl rfl rfl rfl rfl (Nat.le_of_ble_eq_true rfl) nd_G_14 (fun H locs hH hS => ?_)
  have hH : HN D b [.inr (1, [.int (Int32.ofInt 0), .ref (b + 1), .null, .null, .int (Int32.ofInt 0), .int (Int32.ofInt 0), .int (Int32.ofInt 0), .null, .null, .int (Int32.ofInt 0), .null, .null, .int (Int32.ofInt 0), .null]), .inl (kA 1, (10, .inl (fun _ => Int32.ofInt 0)))] H := hH
  refine lv_aload_n hx hb nd_G_17 rfl (lv_at hl 0 rfl) ?_
  refine lv_bipush (v := Int32.ofInt 10) hx hb nd_G_18 (by decide) ?_
  refine n_newa hC hH hS 1 .int 10 2 rfl rfl wa_int rfl (by decide) (by decide) (Nat.le_of_ble_eq_true rfl) (Nat.le_of_ble_eq_true rfl) (Nat.le_of_ble_eq_true rfl) nd_G_20 rfl (fun H hH hS => ?_)
  have hH : HN D b [.inr (1, [.int (Int32.ofInt 0), .ref (b + 1), .null, .null, .int (Int32.ofInt 0), .int (Int32.ofInt 0), .int (Int32.ofInt 0), .null, .null, .int (Int32.ofInt 0), .null, .null, .int (Int32.ofInt 0), .null]), .inl (kA 1, (10, .inl (fun _ => Int32.ofInt 0))), .inl (kA 1, (10, .inl (fun _ => Int32.ofInt 0)))] H := hH
  refine n_putF hC hH hS 0 1 2 rfl rfl cY_G rfl ci_G cy_G cn_G (by decide) nf_G_19 rfl rfl rfl rfl rfl (Nat.le_of_ble_eq_true rfl) nd_G_22 (fun H locs hH hS => ?_)
  have hH : HN D b [.inr (1, [.int (Int32.ofInt 0), .ref (b + 1), .ref (b + 2), .null, .int (Int32.ofInt 0), .int (Int32.ofInt 0), .int (Int32.ofInt 0), .null, .null, .int (Int32.ofInt 0), .null, .null, .int (Int32.ofInt 0), .null]), .inl (kA 1, (10, .inl (fun _ => Int32.ofInt 0))), .inl (kA 1, (10, .inl (fun _ => Int32.ofInt 0)))] H := hH
  refine lv_aload_n hx hb nd_G_25 rfl (lv_at hl 0 rfl) ?_
  refine lv_bipush (v := Int32.ofInt 10) hx hb nd_G_26 (by decide) ?_
  refine n_newa hC hH hS 1 .int 10 3 rfl rfl wa_int rfl (by decide) (by decide) (Nat.le_of_ble_eq_true rfl) (Nat.le_of_ble_eq_true rfl) (Nat.le_of_ble_eq_true rfl) nd_G_28 rfl (fun H hH hS => ?_)
  have hH : HN D b [.inr (1, [.int (Int32.ofInt 0), .ref (b + 1), .ref (b + 2), .null, .int (Int32.ofInt 0), .int (Int32.ofInt 0), .int (Int32.ofInt 0), .null, .null, .int (Int32.ofInt 0), .null, .null, .int (Int32.ofInt 0), .null]), .inl (kA 1, (10, .inl (fun _ => Int32.ofInt 0))), .inl (kA 1, (10, .inl (fun _ => Int32.ofInt 0))), .inl (kA 1, (10, .inl (fun _ => Int32.ofInt 0)))] H := hH
  refine n_putF hC hH hS 0 1 3 rfl rfl cY_G rfl ci_G cy_G cn_G (by decide) nf_G_22 rfl rfl rfl rfl rfl (Nat.le_of_ble_eq_true rfl) nd_G_30 (fun H locs hH hS => ?_)
  have hH : HN D b [.inr (1, [.int (Int32.ofInt 0), .ref (b + 1), .ref (b + 2), .ref (b + 3), .int (Int32.ofInt 0), .int (Int32.ofInt 0), .int (Int32.ofInt 0), .null, .null, .int (Int32.ofInt 0), .null, .null, .int (Int32.ofInt 0), .null]), .inl (kA 1, (10, .inl (fun _ => Int32.ofInt 0))), .inl (kA 1, (10, .inl (fun _ => Int32.ofInt 0))), .inl (kA 1, (10, .inl (fun _ => Int32.ofInt 0)))] H := hH
  refine lv_aload_n hx hb nd_G_33 rfl (lv_at hl 0 rfl) ?_
  refine lv_iconst (v := Int32.ofInt 0) hx hb nd_G_34 rfl ?_
  refine n_put hC hH hS 0 1 4 rfl rfl cY_G rfl ci_G cy_G cn_G (by decide) nf_G_25 rfl rfl rfl (Nat.le_of_ble_eq_true rfl) nd_G_35 (fun H locs hH hS => ?_)
  have hH : HN D b [.inr (1, [.int (Int32.ofInt 0), .ref (b + 1), .ref (b + 2), .ref (b + 3), .int (Int32.ofInt 0), .int (Int32.ofInt 0), .int (Int32.ofInt 0), .null, .null, .int (Int32.ofInt 0), .null, .null, .int (Int32.ofInt 0), .null]), .inl (kA 1, (10, .inl (fun _ => Int32.ofInt 0))), .inl (kA 1, (10, .inl (fun _ => Int32.ofInt 0))), .inl (kA 1, (10, .inl (fun _ => Int32.ofInt 0)))] H := hH
  refine lv_aload_n hx hb nd_G_38 rfl (lv_at hl 0 rfl) ?_
  refine lv_sipush (v := Int32.ofInt 1000) hx hb nd_G_39 (by decide) ?_
  refine n_put hC hH hS 0 1 5 rfl rfl cY_G rfl ci_G cy_G cn_G (by decide) nf_G_28 rfl rfl rfl (Nat.le_of_ble_eq_true rfl) nd_G_42 (fun H locs hH hS => ?_)
  have hH : HN D b [.inr (1, [.int (Int32.ofInt 0), .ref (b + 1), .ref (b + 2), .ref (b + 3), .int (Int32.ofInt 0), .int (Int32.ofInt 1000), .int (Int32.ofInt 0), .null, .null, .int (Int32.ofInt 0), .null, .null, .int (Int32.ofInt 0), .null]), .inl (kA 1, (10, .inl (fun _ => Int32.ofInt 0))), .inl (kA 1, (10, .inl (fun _ => Int32.ofInt 0))), .inl (kA 1, (10, .inl (fun _ => Int32.ofInt 0)))] H := hH
  refine lv_aload_n hx hb nd_G_45 rfl (lv_at hl 0 rfl) ?_
  refine lv_iconst (v := Int32.ofInt (-1)) hx hb nd_G_46 rfl ?_
  refine n_put hC hH hS 0 1 6 rfl rfl cY_G rfl ci_G cy_G cn_G (by decide) nf_G_31 rfl rfl rfl (Nat.le_of_ble_eq_true rfl) nd_G_47 (fun H locs hH hS => ?_)
  have hH : HN D b [.inr (1, [.int (Int32.ofInt 0), .ref (b + 1), .ref (b + 2), .ref (b + 3), .int (Int32.ofInt 0), .int (Int32.ofInt 1000), .int (Int32.ofInt (-1)), .null, .null, .int (Int32.ofInt 0), .null, .null, .int (Int32.ofInt 0), .null]), .inl (kA 1, (10, .inl (fun _ => Int32.ofInt 0))), .inl (kA 1, (10, .inl (fun _ => Int32.ofInt 0))), .inl (kA 1, (10, .inl (fun _ => Int32.ofInt 0)))] H := hH
  refine lv_aload_n hx hb nd_G_50 rfl (lv_at hl 0 rfl) ?_
  refine lv_iconst (v := 4) hx hb nd_G_51 (by decide) ?_
  refine lv_bipush (v := 6) hx hb nd_G_52 (by decide) ?_
  refine n_grid hC hH hS 4 wc_G_34 wa_int (Nat.le_of_ble_eq_true rfl) (Nat.le_of_ble_eq_true rfl) nd_G_54 rfl (fun H hH hS => ?_)
  have hH : HN D b [.inr (1, [.int (Int32.ofInt 0), .ref (b + 1), .ref (b + 2), .ref (b + 3), .int (Int32.ofInt 0), .int (Int32.ofInt 1000), .int (Int32.ofInt (-1)), .null, .null, .int (Int32.ofInt 0), .null, .null, .int (Int32.ofInt 0), .null]), .inl (kA 1, (10, .inl (fun _ => Int32.ofInt 0))), .inl (kA 1, (10, .inl (fun _ => Int32.ofInt 0))), .inl (kA 1, (10, .inl (fun _ => Int32.ofInt 0))), .inl (kA 5, (4, .inr (.inr (.inr (.inr (fun j => some (b + 4 + 1 + j))))))), .inl (kA 1, (6, .inl (fun _ => Int32.ofInt 0))), .inl (kA 1, (6, .inl (fun _ => Int32.ofInt 0))), .inl (kA 1, (6, .inl (fun _ => Int32.ofInt 0))), .inl (kA 1, (6, .inl (fun _ => Int32.ofInt 0)))] H := hH
  refine n_putF hC hH hS 0 1 7 rfl rfl cY_G rfl ci_G cy_G cn_G (by decide) nf_G_36 rfl rfl rfl rfl rfl (Nat.le_of_ble_eq_true rfl) nd_G_58 (fun H locs hH hS => ?_)
  have hH : HN D b [.inr (1, [.int (Int32.ofInt 0), .ref (b + 1), .ref (b + 2), .ref (b + 3), .int (Int32.ofInt 0), .int (Int32.ofInt 1000), .int (Int32.ofInt (-1)), .ref (b + 4), .null, .int (Int32.ofInt 0), .null, .null, .int (Int32.ofInt 0), .null]), .inl (kA 1, (10, .inl (fun _ => Int32.ofInt 0))), .inl (kA 1, (10, .inl (fun _ => Int32.ofInt 0))), .inl (kA 1, (10, .inl (fun _ => Int32.ofInt 0))), .inl (kA 5, (4, .inr (.inr (.inr (.inr (fun j => some (b + 4 + 1 + j))))))), .inl (kA 1, (6, .inl (fun _ => Int32.ofInt 0))), .inl (kA 1, (6, .inl (fun _ => Int32.ofInt 0))), .inl (kA 1, (6, .inl (fun _ => Int32.ofInt 0))), .inl (kA 1, (6, .inl (fun _ => Int32.ofInt 0)))] H := hH
  refine lv_aload_n hx hb nd_G_61 rfl (lv_at hl 0 rfl) ?_
  refine lv_iconst (v := Int32.ofInt 4) hx hb nd_G_62 rfl ?_
  refine n_newa hC hH hS 1 .int 4 9 rfl rfl wa_int rfl (by decide) (by decide) (Nat.le_of_ble_eq_true rfl) (Nat.le_of_ble_eq_true rfl) (Nat.le_of_ble_eq_true rfl) nd_G_63 rfl (fun H hH hS => ?_)
  have hH : HN D b [.inr (1, [.int (Int32.ofInt 0), .ref (b + 1), .ref (b + 2), .ref (b + 3), .int (Int32.ofInt 0), .int (Int32.ofInt 1000), .int (Int32.ofInt (-1)), .ref (b + 4), .null, .int (Int32.ofInt 0), .null, .null, .int (Int32.ofInt 0), .null]), .inl (kA 1, (10, .inl (fun _ => Int32.ofInt 0))), .inl (kA 1, (10, .inl (fun _ => Int32.ofInt 0))), .inl (kA 1, (10, .inl (fun _ => Int32.ofInt 0))), .inl (kA 5, (4, .inr (.inr (.inr (.inr (fun j => some (b + 4 + 1 + j))))))), .inl (kA 1, (6, .inl (fun _ => Int32.ofInt 0))), .inl (kA 1, (6, .inl (fun _ => Int32.ofInt 0))), .inl (kA 1, (6, .inl (fun _ => Int32.ofInt 0))), .inl (kA 1, (6, .inl (fun _ => Int32.ofInt 0))), .inl (kA 1, (4, .inl (fun _ => Int32.ofInt 0)))] H := hH
  refine n_putF hC hH hS 0 1 8 rfl rfl cY_G rfl ci_G cy_G cn_G (by decide) nf_G_39 rfl rfl rfl rfl rfl (Nat.le_of_ble_eq_true rfl) nd_G_65 (fun H locs hH hS => ?_)
  have hH : HN D b [.inr (1, [.int (Int32.ofInt 0), .ref (b + 1), .ref (b + 2), .ref (b + 3), .int (Int32.ofInt 0), .int (Int32.ofInt 1000), .int (Int32.ofInt (-1)), .ref (b + 4), .ref (b + 9), .int (Int32.ofInt 0), .null, .null, .int (Int32.ofInt 0), .null]), .inl (kA 1, (10, .inl (fun _ => Int32.ofInt 0))), .inl (kA 1, (10, .inl (fun _ => Int32.ofInt 0))), .inl (kA 1, (10, .inl (fun _ => Int32.ofInt 0))), .inl (kA 5, (4, .inr (.inr (.inr (.inr (fun j => some (b + 4 + 1 + j))))))), .inl (kA 1, (6, .inl (fun _ => Int32.ofInt 0))), .inl (kA 1, (6, .inl (fun _ => Int32.ofInt 0))), .inl (kA 1, (6, .inl (fun _ => Int32.ofInt 0))), .inl (kA 1, (6, .inl (fun _ => Int32.ofInt 0))), .inl (kA 1, (4, .inl (fun _ => Int32.ofInt 0)))] H := hH
  refine lv_aload_n hx hb nd_G_68 rfl (lv_at hl 0 rfl) ?_
  refine lv_iconst (v := Int32.ofInt 0) hx hb nd_G_69 rfl ?_
  refine n_put hC hH hS 0 1 9 rfl rfl cY_G rfl ci_G cy_G cn_G (by decide) nf_G_42 rfl rfl rfl (Nat.le_of_ble_eq_true rfl) nd_G_70 (fun H locs hH hS => ?_)
  have hH : HN D b [.inr (1, [.int (Int32.ofInt 0), .ref (b + 1), .ref (b + 2), .ref (b + 3), .int (Int32.ofInt 0), .int (Int32.ofInt 1000), .int (Int32.ofInt (-1)), .ref (b + 4), .ref (b + 9), .int (Int32.ofInt 0), .null, .null, .int (Int32.ofInt 0), .null]), .inl (kA 1, (10, .inl (fun _ => Int32.ofInt 0))), .inl (kA 1, (10, .inl (fun _ => Int32.ofInt 0))), .inl (kA 1, (10, .inl (fun _ => Int32.ofInt 0))), .inl (kA 5, (4, .inr (.inr (.inr (.inr (fun j => some (b + 4 + 1 + j))))))), .inl (kA 1, (6, .inl (fun _ => Int32.ofInt 0))), .inl (kA 1, (6, .inl (fun _ => Int32.ofInt 0))), .inl (kA 1, (6, .inl (fun _ => Int32.ofInt 0))), .inl (kA 1, (6, .inl (fun _ => Int32.ofInt 0))), .inl (kA 1, (4, .inl (fun _ => Int32.ofInt 0)))] H := hH
  refine lv_aload_n hx hb nd_G_73 rfl (lv_at hl 0 rfl) ?_
  refine lv_iconst (v := Int32.ofInt 4) hx hb nd_G_74 rfl ?_
  refine n_newa hC hH hS 1 .int 4 10 rfl rfl wa_int rfl (by decide) (by decide) (Nat.le_of_ble_eq_true rfl) (Nat.le_of_ble_eq_true rfl) (Nat.le_of_ble_eq_true rfl) nd_G_75 rfl (fun H hH hS => ?_)
  have hH : HN D b [.inr (1, [.int (Int32.ofInt 0), .ref (b + 1), .ref (b + 2), .ref (b + 3), .int (Int32.ofInt 0), .int (Int32.ofInt 1000), .int (Int32.ofInt (-1)), .ref (b + 4), .ref (b + 9), .int (Int32.ofInt 0), .null, .null, .int (Int32.ofInt 0), .null]), .inl (kA 1, (10, .inl (fun _ => Int32.ofInt 0))), .inl (kA 1, (10, .inl (fun _ => Int32.ofInt 0))), .inl (kA 1, (10, .inl (fun _ => Int32.ofInt 0))), .inl (kA 5, (4, .inr (.inr (.inr (.inr (fun j => some (b + 4 + 1 + j))))))), .inl (kA 1, (6, .inl (fun _ => Int32.ofInt 0))), .inl (kA 1, (6, .inl (fun _ => Int32.ofInt 0))), .inl (kA 1, (6, .inl (fun _ => Int32.ofInt 0))), .inl (kA 1, (6, .inl (fun _ => Int32.ofInt 0))), .inl (kA 1, (4, .inl (fun _ => Int32.ofInt 0))), .inl (kA 1, (4, .inl (fun _ => Int32.ofInt 0)))] H := hH
  refine n_putF hC hH hS 0 1 10 rfl rfl cY_G rfl ci_G cy_G cn_G (by decide) nf_G_45 rfl rfl rfl rfl rfl (Nat.le_of_ble_eq_true rfl) nd_G_77 (fun H locs hH hS => ?_)
  have hH : HN D b [.inr (1, [.int (Int32.ofInt 0), .ref (b + 1), .ref (b + 2), .ref (b + 3), .int (Int32.ofInt 0), .int (Int32.ofInt 1000), .int (Int32.ofInt (-1)), .ref (b + 4), .ref (b + 9), .int (Int32.ofInt 0), .ref (b + 10), .null, .int (Int32.ofInt 0), .null]), .inl (kA 1, (10, .inl (fun _ => Int32.ofInt 0))), .inl (kA 1, (10, .inl (fun _ => Int32.ofInt 0))), .inl (kA 1, (10, .inl (fun _ => Int32.ofInt 0))), .inl (kA 5, (4, .inr (.inr (.inr (.inr (fun j => some (b + 4 + 1 + j))))))), .inl (kA 1, (6, .inl (fun _ => Int32.ofInt 0))), .inl (kA 1, (6, .inl (fun _ => Int32.ofInt 0))), .inl (kA 1, (6, .inl (fun _ => Int32.ofInt 0))), .inl (kA 1, (6, .inl (fun _ => Int32.ofInt 0))), .inl (kA 1, (4, .inl (fun _ => Int32.ofInt 0))), .inl (kA 1, (4, .inl (fun _ => Int32.ofInt 0)))] H := hH
  refine lv_aload_n hx hb nd_G_80 rfl (lv_at hl 0 rfl) ?_
  refine lv_iconst (v := Int32.ofInt 4) hx hb nd_G_81 rfl ?_
  refine n_newa hC hH hS 1 .int 4 11 rfl rfl wa_int rfl (by decide) (by decide) (Nat.le_of_ble_eq_true rfl) (Nat.le_of_ble_eq_true rfl) (Nat.le_of_ble_eq_true rfl) nd_G_82 rfl (fun H hH hS => ?_)
  have hH : HN D b [.inr (1, [.int (Int32.ofInt 0), .ref (b + 1), .ref (b + 2), .ref (b + 3), .int (Int32.ofInt 0), .int (Int32.ofInt 1000), .int (Int32.ofInt (-1)), .ref (b + 4), .ref (b + 9), .int (Int32.ofInt 0), .ref (b + 10), .null, .int (Int32.ofInt 0), .null]), .inl (kA 1, (10, .inl (fun _ => Int32.ofInt 0))), .inl (kA 1, (10, .inl (fun _ => Int32.ofInt 0))), .inl (kA 1, (10, .inl (fun _ => Int32.ofInt 0))), .inl (kA 5, (4, .inr (.inr (.inr (.inr (fun j => some (b + 4 + 1 + j))))))), .inl (kA 1, (6, .inl (fun _ => Int32.ofInt 0))), .inl (kA 1, (6, .inl (fun _ => Int32.ofInt 0))), .inl (kA 1, (6, .inl (fun _ => Int32.ofInt 0))), .inl (kA 1, (6, .inl (fun _ => Int32.ofInt 0))), .inl (kA 1, (4, .inl (fun _ => Int32.ofInt 0))), .inl (kA 1, (4, .inl (fun _ => Int32.ofInt 0))), .inl (kA 1, (4, .inl (fun _ => Int32.ofInt 0)))] H := hH
  refine n_putF hC hH hS 0 1 11 rfl rfl cY_G rfl ci_G cy_G cn_G (by decide) nf_G_48 rfl rfl rfl rfl rfl (Nat.le_of_ble_eq_true rfl) nd_G_84 (fun H locs hH hS => ?_)
  have hH : HN D b [.inr (1, [.int (Int32.ofInt 0), .ref (b + 1), .ref (b + 2), .ref (b + 3), .int (Int32.ofInt 0), .int (Int32.ofInt 1000), .int (Int32.ofInt (-1)), .ref (b + 4), .ref (b + 9), .int (Int32.ofInt 0), .ref (b + 10), .ref (b + 11), .int (Int32.ofInt 0), .null]), .inl (kA 1, (10, .inl (fun _ => Int32.ofInt 0))), .inl (kA 1, (10, .inl (fun _ => Int32.ofInt 0))), .inl (kA 1, (10, .inl (fun _ => Int32.ofInt 0))), .inl (kA 5, (4, .inr (.inr (.inr (.inr (fun j => some (b + 4 + 1 + j))))))), .inl (kA 1, (6, .inl (fun _ => Int32.ofInt 0))), .inl (kA 1, (6, .inl (fun _ => Int32.ofInt 0))), .inl (kA 1, (6, .inl (fun _ => Int32.ofInt 0))), .inl (kA 1, (6, .inl (fun _ => Int32.ofInt 0))), .inl (kA 1, (4, .inl (fun _ => Int32.ofInt 0))), .inl (kA 1, (4, .inl (fun _ => Int32.ofInt 0))), .inl (kA 1, (4, .inl (fun _ => Int32.ofInt 0)))] H := hH
  refine lv_aload_n hx hb nd_G_87 rfl (lv_at hl 0 rfl) ?_
  refine lv_iconst (v := Int32.ofInt 1) hx hb nd_G_88 rfl ?_
  refine n_put hC hH hS 0 1 12 rfl rfl cY_G rfl ci_G cy_G cn_G (by decide) nf_G_51 rfl rfl rfl (Nat.le_of_ble_eq_true rfl) nd_G_89 (fun H locs hH hS => ?_)
  have hH : HN D b [.inr (1, [.int (Int32.ofInt 0), .ref (b + 1), .ref (b + 2), .ref (b + 3), .int (Int32.ofInt 0), .int (Int32.ofInt 1000), .int (Int32.ofInt (-1)), .ref (b + 4), .ref (b + 9), .int (Int32.ofInt 0), .ref (b + 10), .ref (b + 11), .int (Int32.ofInt 1), .null]), .inl (kA 1, (10, .inl (fun _ => Int32.ofInt 0))), .inl (kA 1, (10, .inl (fun _ => Int32.ofInt 0))), .inl (kA 1, (10, .inl (fun _ => Int32.ofInt 0))), .inl (kA 5, (4, .inr (.inr (.inr (.inr (fun j => some (b + 4 + 1 + j))))))), .inl (kA 1, (6, .inl (fun _ => Int32.ofInt 0))), .inl (kA 1, (6, .inl (fun _ => Int32.ofInt 0))), .inl (kA 1, (6, .inl (fun _ => Int32.ofInt 0))), .inl (kA 1, (6, .inl (fun _ => Int32.ofInt 0))), .inl (kA 1, (4, .inl (fun _ => Int32.ofInt 0))), .inl (kA 1, (4, .inl (fun _ => Int32.ofInt 0))), .inl (kA 1, (4, .inl (fun _ => Int32.ofInt 0)))] H := hH
  refine lv_aload_n hx hb nd_G_92 rfl (lv_at hl 0 rfl) ?_
  refine lv_bipush (v := Int32.ofInt 10) hx hb nd_G_93 (by decide) ?_
  refine n_newa hC hH hS 1 .int 10 12 rfl rfl wa_int rfl (by decide) (by decide) (Nat.le_of_ble_eq_true rfl) (Nat.le_of_ble_eq_true rfl) (Nat.le_of_ble_eq_true rfl) nd_G_95 rfl (fun H hH hS => ?_)
  have hH : HN D b [.inr (1, [.int (Int32.ofInt 0), .ref (b + 1), .ref (b + 2), .ref (b + 3), .int (Int32.ofInt 0), .int (Int32.ofInt 1000), .int (Int32.ofInt (-1)), .ref (b + 4), .ref (b + 9), .int (Int32.ofInt 0), .ref (b + 10), .ref (b + 11), .int (Int32.ofInt 1), .null]), .inl (kA 1, (10, .inl (fun _ => Int32.ofInt 0))), .inl (kA 1, (10, .inl (fun _ => Int32.ofInt 0))), .inl (kA 1, (10, .inl (fun _ => Int32.ofInt 0))), .inl (kA 5, (4, .inr (.inr (.inr (.inr (fun j => some (b + 4 + 1 + j))))))), .inl (kA 1, (6, .inl (fun _ => Int32.ofInt 0))), .inl (kA 1, (6, .inl (fun _ => Int32.ofInt 0))), .inl (kA 1, (6, .inl (fun _ => Int32.ofInt 0))), .inl (kA 1, (6, .inl (fun _ => Int32.ofInt 0))), .inl (kA 1, (4, .inl (fun _ => Int32.ofInt 0))), .inl (kA 1, (4, .inl (fun _ => Int32.ofInt 0))), .inl (kA 1, (4, .inl (fun _ => Int32.ofInt 0))), .inl (kA 1, (10, .inl (fun _ => Int32.ofInt 0)))] H := hH
  refine n_putF hC hH hS 0 1 13 rfl rfl cY_G rfl ci_G cy_G cn_G (by decide) nf_G_54 rfl rfl rfl rfl rfl (Nat.le_of_ble_eq_true rfl) nd_G_97 (fun H locs hH hS => ?_)
  have hH : HN D b [.inr (1, [.int (Int32.ofInt 0), .ref (b + 1), .ref (b + 2), .ref (b + 3), .int (Int32.ofInt 0), .int (Int32.ofInt 1000), .int (Int32.ofInt (-1)), .ref (b + 4), .ref (b + 9), .int (Int32.ofInt 0), .ref (b + 10), .ref (b + 11), .int (Int32.ofInt 1), .ref (b + 12)]), .inl (kA 1, (10, .inl (fun _ => Int32.ofInt 0))), .inl (kA 1, (10, .inl (fun _ => Int32.ofInt 0))), .inl (kA 1, (10, .inl (fun _ => Int32.ofInt 0))), .inl (kA 5, (4, .inr (.inr (.inr (.inr (fun j => some (b + 4 + 1 + j))))))), .inl (kA 1, (6, .inl (fun _ => Int32.ofInt 0))), .inl (kA 1, (6, .inl (fun _ => Int32.ofInt 0))), .inl (kA 1, (6, .inl (fun _ => Int32.ofInt 0))), .inl (kA 1, (6, .inl (fun _ => Int32.ofInt 0))), .inl (kA 1, (4, .inl (fun _ => Int32.ofInt 0))), .inl (kA 1, (4, .inl (fun _ => Int32.ofInt 0))), .inl (kA 1, (4, .inl (fun _ => Int32.ofInt 0))), .inl (kA 1, (10, .inl (fun _ => Int32.ofInt 0)))] H := hH
  refine lv_aload_n hx hb nd_G_100 rfl (lv_at hl 0 rfl) ?_
  refine n_get hC hH 0 1 13 rfl rfl rfl ci_G (by decide) nf_G_54 rfl nd_G_101 ?_
  refine lv_iconst (v := Int32.ofInt (-1)) hx hb nd_G_104 rfl ?_
  refine n_callS (ν := xj_Arrays_fill) (as := [.int (Int32.ofInt (-1))]) (es := [.inr (1, [.int (Int32.ofInt 0), .ref (b + 1), .ref (b + 2), .ref (b + 3), .int (Int32.ofInt 0), .int (Int32.ofInt 1000), .int (Int32.ofInt (-1)), .ref (b + 4), .ref (b + 9), .int (Int32.ofInt 0), .ref (b + 10), .ref (b + 11), .int (Int32.ofInt 1), .ref (b + 12)]), .inl (kA 1, (10, .inl (fun _ => Int32.ofInt 0))), .inl (kA 1, (10, .inl (fun _ => Int32.ofInt 0))), .inl (kA 1, (10, .inl (fun _ => Int32.ofInt 0))), .inl (kA 5, (4, .inr (.inr (.inr (.inr (fun j => some (b + 4 + 1 + j))))))), .inl (kA 1, (6, .inl (fun _ => Int32.ofInt 0))), .inl (kA 1, (6, .inl (fun _ => Int32.ofInt 0))), .inl (kA 1, (6, .inl (fun _ => Int32.ofInt 0))), .inl (kA 1, (6, .inl (fun _ => Int32.ofInt 0))), .inl (kA 1, (4, .inl (fun _ => Int32.ofInt 0))), .inl (kA 1, (4, .inl (fun _ => Int32.ofInt 0))), .inl (kA 1, (4, .inl (fun _ => Int32.ofInt 0)))]) (n := 12) hC hH hS hl rfl (c_fill D kA (b + 12)) xj_Arrays_fill_ok.2.1 rfl xj_Arrays_fill_ok.2.2.1 nm_G_57 xj_Arrays_fill_st xj_Arrays_fill_ok.2.2.2.1 rfl (Nat.le_of_ble_eq_true rfl) (Nat.le_of_ble_eq_true rfl) (Nat.le_of_ble_eq_true rfl) (Nat.le_of_ble_eq_true rfl) (Nat.le_of_ble_eq_true rfl) nd_G_105 rfl (fun H locs hH hS => ?_)
  have hH : HN D b [.inr (1, [.int (Int32.ofInt 0), .ref (b + 1), .ref (b + 2), .ref (b + 3), .int (Int32.ofInt 0), .int (Int32.ofInt 1000), .int (Int32.ofInt (-1)), .ref (b + 4), .ref (b + 9), .int (Int32.ofInt 0), .ref (b + 10), .ref (b + 11), .int (Int32.ofInt 1), .ref (b + 12)]), .inl (kA 1, (10, .inl (fun _ => Int32.ofInt 0))), .inl (kA 1, (10, .inl (fun _ => Int32.ofInt 0))), .inl (kA 1, (10, .inl (fun _ => Int32.ofInt 0))), .inl (kA 5, (4, .inr (.inr (.inr (.inr (fun j => some (b + 4 + 1 + j))))))), .inl (kA 1, (6, .inl (fun _ => Int32.ofInt 0))), .inl (kA 1, (6, .inl (fun _ => Int32.ofInt 0))), .inl (kA 1, (6, .inl (fun _ => Int32.ofInt 0))), .inl (kA 1, (6, .inl (fun _ => Int32.ofInt 0))), .inl (kA 1, (4, .inl (fun _ => Int32.ofInt 0))), .inl (kA 1, (4, .inl (fun _ => Int32.ofInt 0))), .inl (kA 1, (4, .inl (fun _ => Int32.ofInt 0))), .inl (kA 1, (10, .inl (fun _ => Int32.ofInt (-1))))] H := hH
  refine W.widen (k := 12) (n := 80) (Nat.le_of_ble_eq_true rfl) (Nat.le_of_ble_eq_true rfl) ?_
  exact n_vret hC hr hlocks hH hS nd_G_108
