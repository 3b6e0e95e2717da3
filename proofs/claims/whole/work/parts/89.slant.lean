/-! The constructor of SlantSheets. -/
theorem mid_len {o q : va_E} {r t : List va_E} {n k : Nat} (h : r.length = n) (h2 : t.length = k) : (o :: (r ++ (q :: t))).length = n + (k + 1) + 1 := by
  rw [List.length_cons, List.length_append, List.length_cons, h, h2]
theorem mid_app {o q : va_E} {r t x : List va_E} : (o :: (r ++ (q :: t))) ++ x = o :: (r ++ (q :: (t ++ x))) := by
  rw [List.cons_append, List.append_assoc, List.cons_append]
theorem mid_at {o q : va_E} {r t : List va_E} {n : Nat} (h : r.length = n) : (o :: (r ++ (q :: t)))[n + 1]? = some q := by
  rw [List.getElem?_cons_succ, List.getElem?_append_right (by omega), h, Nat.sub_self]
  rfl
theorem mid_at2 {o q w : va_E} {r t v : List va_E} {n k : Nat} (h : r.length = n) (h2 : t.length = k) : (o :: (r ++ (q :: (t ++ (w :: v)))))[n + (k + 1) + 1]? = some w := by
  rw [List.getElem?_cons_succ, List.getElem?_append_right (by omega), h, show n + (k + 1) - n = k + 1 by omega, List.getElem?_cons_succ, List.getElem?_append_right (by omega), h2, Nat.sub_self]
  rfl
theorem mid_set {o q q' : va_E} {r t : List va_E} {n : Nat} (h : r.length = n) : (o :: (r ++ (q :: t))).set (n + 1) q' = o :: (r ++ (q' :: t)) := by
  rw [List.set_cons_succ, List.set_append_right _ _ (by omega), h, Nat.sub_self]
  rfl
def zS (kA : Nat → ClassId) (b : Nat) : List va_E := (.inr (0, [.ref (b + 1), .ref (b + 14), .int (Int32.ofInt 0), .ref (b + 27), .ref (b + 40), .ref (b + 42), .ref (b + 44), .ref (b + 45), .ref (b + 46), .ref (b + 48), .ref (b + 49), .ref (b + 50), .ref (b + 51), .ref (b + 52)]) :: (((((([] ++ (zG kA (b + 1))) ++ (zG kA (b + 14))) ++ (zG kA (b + 27))) ++ (zP kA (b + 40))) ++ (zQ kA (b + 42) (b + 40) (b + 27))) ++ ((.inl (kA 4, (4, .inr (.inr (.inr (.inr (fun k => if k = (Int32.ofInt 3).toNatClampNeg then some (b + 59) else (fun k => if k = (Int32.ofInt 2).toNatClampNeg then some (b + 57) else (fun k => if k = (Int32.ofInt 1).toNatClampNeg then some (b + 55) else (fun k => if k = (Int32.ofInt 0).toNatClampNeg then some (b + 53) else (fun _ => none) k) k) k) k))))))) :: (((((([.inl (kA 1, (7, .inl (fun _ => Int32.ofInt 0)))]) ++ (zA kA (b + 46)) ++ ([.inl (kA 1, (720, .inl (fun _ => Int32.ofInt 0)))]) ++ ([.inl (kA 1, (1001, .inl (fun _ => Int32.ofInt 0)))]) ++ ([.inl (kA 1, (10, .inl (fun _ => Int32.ofInt 0)))]) ++ ([.inl (kA 1, (10, .inl (fun _ => Int32.ofInt 0)))]) ++ ([.inl (kA 1, (45, .inl (fun _ => Int32.ofInt 0)))])) ++ (zW kA (b + 53))) ++ (zW kA (b + 55))) ++ (zW kA (b + 57))) ++ (zW kA (b + 59))))))
set_option maxHeartbeats 4000000 in
set_option maxRecDepth 100000 in
/-- the constructor of SlantSheets -/
theorem c_S (D : va_G) (kA : Nat → ClassId) (b : Nat) : Cc yi_S 2 60 2393 [] (.inr (0, [.null, .null, .int (Int32.ofInt 0), .null, .null, .null, .null, .null, .null, .null, .null, .null, .null, .null])) (zS kA b) D kA b := by
  refine Cc_of yi_S_pl rfl (Nat.le_of_ble_eq_true rfl) (fun p l e s m args below meth c ls hC hlocks hr hH hS hl => ?_)
  have hx := hC.1
  have hb := hC.2.1
  obtain ⟨H, hHe⟩ : ∃ H, H = s.heap := ⟨_, rfl⟩
  have hH : HN D b [.inr (0, [.null, .null, .int (Int32.ofInt 0), .null, .null, .null, .null, .null, .null, .null, .null, .null, .null, .null])] H := by rw [hHe]; exact hH
  have hS : SN b s H [] := by rw [hHe]; exact va_S.rf
  rw [← hHe]
  have hl : lv_has ls 2 [(0, .ref b)] := hl
  obtain ⟨r0, hr0, hl0⟩ : ∃ x : List va_E, x = [] ∧ x.length = 0 := ⟨[], rfl, rfl⟩
  have hH : HN D b (.inr (0, [.null, .null, .int (Int32.ofInt 0), .null, .null, .null, .null, .null, .null, .null, .null, .null, .null, .null]) :: r0) H := by rw [hr0]; exact hH
  refine lv_aload_n hx hb nd_S_0 rfl (lv_at hl 0 rfl) ?_
  refine n_obj hC nm_S_3 hl nd_S_1 (Nat.le_of_ble_eq_true rfl) (Nat.le_of_ble_eq_true rfl) ?_
  refine lv_aload_n hx hb nd_S_4 rfl (lv_at hl 0 rfl) ?_
  refine n_new hC hH hS 1 cY_G rfl ci_G cy_G zd_G wc_S_9 wi_G yi_G_ii (Nat.le_of_ble_eq_true rfl) (Nat.le_of_ble_eq_true rfl) nd_S_5 (congrArg (fun n : Nat => n + 1) hl0) (fun H hH hS => ?_)
  refine lv_dup hx hb nd_S_8 rfl ?_
  refine n_init (ν := yi_G) (as := []) (es := (.inr (0, [.null, .null, .int (Int32.ofInt 0), .null, .null, .null, .null, .null, .null, .null, .null, .null, .null, .null]) :: r0)) (n := 1) hC hH hS hl (congrArg (fun n : Nat => n + 1) hl0) (c_G D kA (b + 1)) yi_G_co rfl yi_G_ii nm_S_11 yi_G_im rfl yi_G_de rfl (Nat.le_of_ble_eq_true rfl) (Nat.le_of_ble_eq_true rfl) (Nat.le_of_ble_eq_true rfl) (Nat.le_of_ble_eq_true rfl) (Nat.le_of_ble_eq_true rfl) nd_S_9 rfl (fun H locs hH hS => ?_)
  obtain ⟨r1, hr1, hl1⟩ : ∃ x : List va_E, x = r0 ++ (zG kA (b + 1)) ∧ x.length = 13 := ⟨_, rfl, by rw [List.length_append, hl0] <;> rfl⟩
  have hH : HN D b (.inr (0, [.null, .null, .int (Int32.ofInt 0), .null, .null, .null, .null, .null, .null, .null, .null, .null, .null, .null]) :: r1) H := by rw [hr1]; exact hH
  refine n_putF hC hH hS 0 0 0 rfl rfl cY_S rfl ci_S cy_S cn_S (by decide) nf_S_12 rfl rfl rfl rfl rfl (Nat.le_of_ble_eq_true rfl) nd_S_12 (fun H locs hH hS => ?_)
  have hH : HN D b (.inr (0, [.ref (b + 1), .null, .int (Int32.ofInt 0), .null, .null, .null, .null, .null, .null, .null, .null, .null, .null, .null]) :: r1) H := hH
  refine lv_aload_n hx hb nd_S_15 rfl (lv_at hl 0 rfl) ?_
  refine n_new hC hH hS 1 cY_G rfl ci_G cy_G zd_G wc_S_9 wi_G yi_G_ii (Nat.le_of_ble_eq_true rfl) (Nat.le_of_ble_eq_true rfl) nd_S_16 (congrArg (fun n : Nat => n + 1) hl1) (fun H hH hS => ?_)
  refine lv_dup hx hb nd_S_19 rfl ?_
  refine n_init (ν := yi_G) (as := []) (es := (.inr (0, [.ref (b + 1), .null, .int (Int32.ofInt 0), .null, .null, .null, .null, .null, .null, .null, .null, .null, .null, .null]) :: r1)) (n := 14) hC hH hS hl (congrArg (fun n : Nat => n + 1) hl1) (c_G D kA (b + 14)) yi_G_co rfl yi_G_ii nm_S_11 yi_G_im rfl yi_G_de rfl (Nat.le_of_ble_eq_true rfl) (Nat.le_of_ble_eq_true rfl) (Nat.le_of_ble_eq_true rfl) (Nat.le_of_ble_eq_true rfl) (Nat.le_of_ble_eq_true rfl) nd_S_20 rfl (fun H locs hH hS => ?_)
  obtain ⟨r2, hr2, hl2⟩ : ∃ x : List va_E, x = r1 ++ (zG kA (b + 14)) ∧ x.length = 26 := ⟨_, rfl, by rw [List.length_append, hl1] <;> rfl⟩
  have hH : HN D b (.inr (0, [.ref (b + 1), .null, .int (Int32.ofInt 0), .null, .null, .null, .null, .null, .null, .null, .null, .null, .null, .null]) :: r2) H := by rw [hr2]; exact hH
  refine n_putF hC hH hS 0 0 1 rfl rfl cY_S rfl ci_S cy_S cn_S (by decide) nf_S_16 rfl rfl rfl rfl rfl (Nat.le_of_ble_eq_true rfl) nd_S_23 (fun H locs hH hS => ?_)
  have hH : HN D b (.inr (0, [.ref (b + 1), .ref (b + 14), .int (Int32.ofInt 0), .null, .null, .null, .null, .null, .null, .null, .null, .null, .null, .null]) :: r2) H := hH
  refine lv_aload_n hx hb nd_S_26 rfl (lv_at hl 0 rfl) ?_
  refine lv_iconst (v := Int32.ofInt 0) hx hb nd_S_27 rfl ?_
  refine n_put hC hH hS 0 0 2 rfl rfl cY_S rfl ci_S cy_S cn_S (by decide) nf_S_19 rfl rfl rfl (Nat.le_of_ble_eq_true rfl) nd_S_28 (fun H locs hH hS => ?_)
  have hH : HN D b (.inr (0, [.ref (b + 1), .ref (b + 14), .int (Int32.ofInt 0), .null, .null, .null, .null, .null, .null, .null, .null, .null, .null, .null]) :: r2) H := hH
  refine lv_aload_n hx hb nd_S_31 rfl (lv_at hl 0 rfl) ?_
  refine n_new hC hH hS 1 cY_G rfl ci_G cy_G zd_G wc_S_9 wi_G yi_G_ii (Nat.le_of_ble_eq_true rfl) (Nat.le_of_ble_eq_true rfl) nd_S_32 (congrArg (fun n : Nat => n + 1) hl2) (fun H hH hS => ?_)
  refine lv_dup hx hb nd_S_35 rfl ?_
  refine n_init (ν := yi_G) (as := []) (es := (.inr (0, [.ref (b + 1), .ref (b + 14), .int (Int32.ofInt 0), .null, .null, .null, .null, .null, .null, .null, .null, .null, .null, .null]) :: r2)) (n := 27) hC hH hS hl (congrArg (fun n : Nat => n + 1) hl2) (c_G D kA (b + 27)) yi_G_co rfl yi_G_ii nm_S_11 yi_G_im rfl yi_G_de rfl (Nat.le_of_ble_eq_true rfl) (Nat.le_of_ble_eq_true rfl) (Nat.le_of_ble_eq_true rfl) (Nat.le_of_ble_eq_true rfl) (Nat.le_of_ble_eq_true rfl) nd_S_36 rfl (fun H locs hH hS => ?_)
  obtain ⟨r3, hr3, hl3⟩ : ∃ x : List va_E, x = r2 ++ (zG kA (b + 27)) ∧ x.length = 39 := ⟨_, rfl, by rw [List.length_append, hl2] <;> rfl⟩
  have hH : HN D b (.inr (0, [.ref (b + 1), .ref (b + 14), .int (Int32.ofInt 0), .null, .null, .null, .null, .null, .null, .null, .null, .null, .null, .null]) :: r3) H := by rw [hr3]; exact hH
  refine n_putF hC hH hS 0 0 3 rfl rfl cY_S rfl ci_S cy_S cn_S (by decide) nf_S_23 rfl rfl rfl rfl rfl (Nat.le_of_ble_eq_true rfl) nd_S_39 (fun H locs hH hS => ?_)
  have hH : HN D b (.inr (0, [.ref (b + 1), .ref (b + 14), .int (Int32.ofInt 0), .ref (b + 27), .null, .null, .null, .null, .null, .null, .null, .null, .null, .null]) :: r3) H := hH
  refine lv_aload_n hx hb nd_S_42 rfl (lv_at hl 0 rfl) ?_
  refine n_new hC hH hS 2 cY_P rfl ci_P cy_P zd_P wc_S_26 wi_P yi_P_ii (Nat.le_of_ble_eq_true rfl) (Nat.le_of_ble_eq_true rfl) nd_S_43 (congrArg (fun n : Nat => n + 1) hl3) (fun H hH hS => ?_)
  refine lv_dup hx hb nd_S_46 rfl ?_
  refine n_initN (ν := yi_P) (as := []) (es := (.inr (0, [.ref (b + 1), .ref (b + 14), .int (Int32.ofInt 0), .ref (b + 27), .null, .null, .null, .null, .null, .null, .null, .null, .null, .null]) :: r3)) (n := 40) hC hH hS hl (congrArg (fun n : Nat => n + 1) hl3) (c_P D kA (b + 40)) yi_P_co rfl yi_P_ii hC.2.2.2.2.2.1.2.2.2.1 yi_P_im rfl yi_P_de rfl (Nat.le_of_ble_eq_true rfl) (Nat.le_of_ble_eq_true rfl) (Nat.le_of_ble_eq_true rfl) (Nat.le_of_ble_eq_true rfl) (Nat.le_of_ble_eq_true rfl) nd_S_47 rfl (fun H locs hH hS => ?_)
  obtain ⟨r4, hr4, hl4⟩ : ∃ x : List va_E, x = r3 ++ (zP kA (b + 40)) ∧ x.length = 41 := ⟨_, rfl, by rw [List.length_append, hl3] <;> rfl⟩
  have hH : HN D b (.inr (0, [.ref (b + 1), .ref (b + 14), .int (Int32.ofInt 0), .ref (b + 27), .null, .null, .null, .null, .null, .null, .null, .null, .null, .null]) :: r4) H := by rw [hr4]; exact hH
  refine n_putF hC hH hS 0 0 4 rfl rfl cY_S rfl ci_S cy_S cn_S (by decide) nf_S_29 rfl rfl rfl rfl rfl (Nat.le_of_ble_eq_true rfl) nd_S_50 (fun H locs hH hS => ?_)
  have hH : HN D b (.inr (0, [.ref (b + 1), .ref (b + 14), .int (Int32.ofInt 0), .ref (b + 27), .ref (b + 40), .null, .null, .null, .null, .null, .null, .null, .null, .null]) :: r4) H := hH
  refine lv_aload_n hx hb nd_S_53 rfl (lv_at hl 0 rfl) ?_
  refine n_new hC hH hS 3 cY_Q rfl ci_Q cy_Q zd_Q wc_S_33 wi_Q yi_Q_ii (Nat.le_of_ble_eq_true rfl) (Nat.le_of_ble_eq_true rfl) nd_S_54 (congrArg (fun n : Nat => n + 1) hl4) (fun H hH hS => ?_)
  refine lv_dup hx hb nd_S_57 rfl ?_
  refine lv_aload_n hx hb nd_S_58 rfl (lv_at hl 0 rfl) ?_
  refine n_get hC hH 0 0 4 rfl rfl rfl ci_S (by decide) nf_S_29 rfl nd_S_59 ?_
  refine lv_aload_n hx hb nd_S_62 rfl (lv_at hl 0 rfl) ?_
  refine n_get hC hH 0 0 3 rfl rfl rfl ci_S (by decide) nf_S_23 rfl nd_S_63 ?_
  refine n_init (ν := yi_Q) (as := [.ref (b + 40), .ref (b + 27)]) (es := (.inr (0, [.ref (b + 1), .ref (b + 14), .int (Int32.ofInt 0), .ref (b + 27), .ref (b + 40), .null, .null, .null, .null, .null, .null, .null, .null, .null]) :: r4)) (n := 42) hC hH hS hl (congrArg (fun n : Nat => n + 1) hl4) (c_Q D kA (b + 42) (b + 40) (b + 27)) yi_Q_co rfl yi_Q_ii nm_S_35 yi_Q_im rfl yi_Q_de rfl (Nat.le_of_ble_eq_true rfl) (Nat.le_of_ble_eq_true rfl) (Nat.le_of_ble_eq_true rfl) (Nat.le_of_ble_eq_true rfl) (Nat.le_of_ble_eq_true rfl) nd_S_66 rfl (fun H locs hH hS => ?_)
  obtain ⟨r5, hr5, hl5⟩ : ∃ x : List va_E, x = r4 ++ (zQ kA (b + 42) (b + 40) (b + 27)) ∧ x.length = 43 := ⟨_, rfl, by rw [List.length_append, hl4] <;> rfl⟩
  have hH : HN D b (.inr (0, [.ref (b + 1), .ref (b + 14), .int (Int32.ofInt 0), .ref (b + 27), .ref (b + 40), .null, .null, .null, .null, .null, .null, .null, .null, .null]) :: r5) H := by rw [hr5]; exact hH
  refine n_putF hC hH hS 0 0 5 rfl rfl cY_S rfl ci_S cy_S cn_S (by decide) nf_S_38 rfl rfl rfl rfl rfl (Nat.le_of_ble_eq_true rfl) nd_S_69 (fun H locs hH hS => ?_)
  have hH : HN D b (.inr (0, [.ref (b + 1), .ref (b + 14), .int (Int32.ofInt 0), .ref (b + 27), .ref (b + 40), .ref (b + 42), .null, .null, .null, .null, .null, .null, .null, .null]) :: r5) H := hH
  refine lv_aload_n hx hb nd_S_72 rfl (lv_at hl 0 rfl) ?_
  refine lv_iconst (v := Int32.ofInt 4) hx hb nd_S_73 rfl ?_
  refine n_newq hC hH hS 4 44 wc_S_42 (by decide) (by decide) (Nat.le_of_ble_eq_true rfl) (Nat.le_of_ble_eq_true rfl) (Nat.le_of_ble_eq_true rfl) nd_S_74 (congrArg (fun n : Nat => n + 1) hl5) (fun H hH hS => ?_)
  obtain ⟨r6, hr6, hl6⟩ : ∃ x : List va_E, x = r5 ++ [.inl (kA 4, (4, .inr (.inr (.inr (.inr (fun _ => none))))))] ∧ x.length = 44 := ⟨_, rfl, by rw [List.length_append, hl5] <;> rfl⟩
  have hH : HN D b (.inr (0, [.ref (b + 1), .ref (b + 14), .int (Int32.ofInt 0), .ref (b + 27), .ref (b + 40), .ref (b + 42), .null, .null, .null, .null, .null, .null, .null, .null]) :: r6) H := by rw [hr6]; exact hH
  refine n_putF hC hH hS 0 0 6 rfl rfl cY_S rfl ci_S cy_S cn_S (by decide) nf_S_44 rfl rfl rfl rfl rfl (Nat.le_of_ble_eq_true rfl) nd_S_77 (fun H locs hH hS => ?_)
  have hH : HN D b (.inr (0, [.ref (b + 1), .ref (b + 14), .int (Int32.ofInt 0), .ref (b + 27), .ref (b + 40), .ref (b + 42), .ref (b + 44), .null, .null, .null, .null, .null, .null, .null]) :: r6) H := hH
  refine lv_aload_n hx hb nd_S_80 rfl (lv_at hl 0 rfl) ?_
  refine lv_bipush (v := Int32.ofInt 7) hx hb nd_S_81 (by decide) ?_
  refine n_newa hC hH hS 1 .int 7 45 rfl rfl wa_int rfl (by decide) (by decide) (Nat.le_of_ble_eq_true rfl) (Nat.le_of_ble_eq_true rfl) (Nat.le_of_ble_eq_true rfl) nd_S_83 (congrArg (fun n : Nat => n + 1) hl6) (fun H hH hS => ?_)
  obtain ⟨r7, hr7, hl7⟩ : ∃ x : List va_E, x = r6 ++ [.inl (kA 1, (7, .inl (fun _ => Int32.ofInt 0)))] ∧ x.length = 45 := ⟨_, rfl, by rw [List.length_append, hl6] <;> rfl⟩
  have hH : HN D b (.inr (0, [.ref (b + 1), .ref (b + 14), .int (Int32.ofInt 0), .ref (b + 27), .ref (b + 40), .ref (b + 42), .ref (b + 44), .null, .null, .null, .null, .null, .null, .null]) :: r7) H := by rw [hr7]; exact hH
  refine n_putF hC hH hS 0 0 7 rfl rfl cY_S rfl ci_S cy_S cn_S (by decide) nf_S_48 rfl rfl rfl rfl rfl (Nat.le_of_ble_eq_true rfl) nd_S_85 (fun H locs hH hS => ?_)
  have hH : HN D b (.inr (0, [.ref (b + 1), .ref (b + 14), .int (Int32.ofInt 0), .ref (b + 27), .ref (b + 40), .ref (b + 42), .ref (b + 44), .ref (b + 45), .null, .null, .null, .null, .null, .null]) :: r7) H := hH
  refine lv_aload_n hx hb nd_S_88 rfl (lv_at hl 0 rfl) ?_
  refine n_new hC hH hS 4 cY_A rfl ci_A cy_A zd_A wc_S_52 wi_A yi_A_ii (Nat.le_of_ble_eq_true rfl) (Nat.le_of_ble_eq_true rfl) nd_S_89 (congrArg (fun n : Nat => n + 1) hl7) (fun H hH hS => ?_)
  refine lv_dup hx hb nd_S_92 rfl ?_
  refine n_initN (ν := yi_A) (as := []) (es := (.inr (0, [.ref (b + 1), .ref (b + 14), .int (Int32.ofInt 0), .ref (b + 27), .ref (b + 40), .ref (b + 42), .ref (b + 44), .ref (b + 45), .null, .null, .null, .null, .null, .null]) :: r7)) (n := 46) hC hH hS hl (congrArg (fun n : Nat => n + 1) hl7) (c_A D kA (b + 46)) yi_A_co rfl yi_A_ii hC.2.2.2.2.2.1.2.2.2.2.1 yi_A_im rfl yi_A_de rfl (Nat.le_of_ble_eq_true rfl) (Nat.le_of_ble_eq_true rfl) (Nat.le_of_ble_eq_true rfl) (Nat.le_of_ble_eq_true rfl) (Nat.le_of_ble_eq_true rfl) nd_S_93 rfl (fun H locs hH hS => ?_)
  obtain ⟨r8, hr8, hl8⟩ : ∃ x : List va_E, x = r7 ++ (zA kA (b + 46)) ∧ x.length = 47 := ⟨_, rfl, by rw [List.length_append, hl7] <;> rfl⟩
  have hH : HN D b (.inr (0, [.ref (b + 1), .ref (b + 14), .int (Int32.ofInt 0), .ref (b + 27), .ref (b + 40), .ref (b + 42), .ref (b + 44), .ref (b + 45), .null, .null, .null, .null, .null, .null]) :: r8) H := by rw [hr8]; exact hH
  refine n_putF hC hH hS 0 0 8 rfl rfl cY_S rfl ci_S cy_S cn_S (by decide) nf_S_55 rfl rfl rfl rfl rfl (Nat.le_of_ble_eq_true rfl) nd_S_96 (fun H locs hH hS => ?_)
  have hH : HN D b (.inr (0, [.ref (b + 1), .ref (b + 14), .int (Int32.ofInt 0), .ref (b + 27), .ref (b + 40), .ref (b + 42), .ref (b + 44), .ref (b + 45), .ref (b + 46), .null, .null, .null, .null, .null]) :: r8) H := hH
  refine lv_aload_n hx hb nd_S_99 rfl (lv_at hl 0 rfl) ?_
  refine lv_sipush (v := Int32.ofInt 720) hx hb nd_S_100 (by decide) ?_
  refine n_newa hC hH hS 1 .int 720 48 rfl rfl wa_int rfl (by decide) (by decide) (Nat.le_of_ble_eq_true rfl) (Nat.le_of_ble_eq_true rfl) (Nat.le_of_ble_eq_true rfl) nd_S_103 (congrArg (fun n : Nat => n + 1) hl8) (fun H hH hS => ?_)
  obtain ⟨r9, hr9, hl9⟩ : ∃ x : List va_E, x = r8 ++ [.inl (kA 1, (720, .inl (fun _ => Int32.ofInt 0)))] ∧ x.length = 48 := ⟨_, rfl, by rw [List.length_append, hl8] <;> rfl⟩
  have hH : HN D b (.inr (0, [.ref (b + 1), .ref (b + 14), .int (Int32.ofInt 0), .ref (b + 27), .ref (b + 40), .ref (b + 42), .ref (b + 44), .ref (b + 45), .ref (b + 46), .null, .null, .null, .null, .null]) :: r9) H := by rw [hr9]; exact hH
  refine n_putF hC hH hS 0 0 9 rfl rfl cY_S rfl ci_S cy_S cn_S (by decide) nf_S_59 rfl rfl rfl rfl rfl (Nat.le_of_ble_eq_true rfl) nd_S_105 (fun H locs hH hS => ?_)
  have hH : HN D b (.inr (0, [.ref (b + 1), .ref (b + 14), .int (Int32.ofInt 0), .ref (b + 27), .ref (b + 40), .ref (b + 42), .ref (b + 44), .ref (b + 45), .ref (b + 46), .ref (b + 48), .null, .null, .null, .null]) :: r9) H := hH
  refine lv_aload_n hx hb nd_S_108 rfl (lv_at hl 0 rfl) ?_
  refine lv_sipush (v := Int32.ofInt 1001) hx hb nd_S_109 (by decide) ?_
  refine n_newa hC hH hS 1 .int 1001 49 rfl rfl wa_int rfl (by decide) (by decide) (Nat.le_of_ble_eq_true rfl) (Nat.le_of_ble_eq_true rfl) (Nat.le_of_ble_eq_true rfl) nd_S_112 (congrArg (fun n : Nat => n + 1) hl9) (fun H hH hS => ?_)
  obtain ⟨r10, hr10, hl10⟩ : ∃ x : List va_E, x = r9 ++ [.inl (kA 1, (1001, .inl (fun _ => Int32.ofInt 0)))] ∧ x.length = 49 := ⟨_, rfl, by rw [List.length_append, hl9] <;> rfl⟩
  have hH : HN D b (.inr (0, [.ref (b + 1), .ref (b + 14), .int (Int32.ofInt 0), .ref (b + 27), .ref (b + 40), .ref (b + 42), .ref (b + 44), .ref (b + 45), .ref (b + 46), .ref (b + 48), .null, .null, .null, .null]) :: r10) H := by rw [hr10]; exact hH
  refine n_putF hC hH hS 0 0 10 rfl rfl cY_S rfl ci_S cy_S cn_S (by decide) nf_S_62 rfl rfl rfl rfl rfl (Nat.le_of_ble_eq_true rfl) nd_S_114 (fun H locs hH hS => ?_)
  have hH : HN D b (.inr (0, [.ref (b + 1), .ref (b + 14), .int (Int32.ofInt 0), .ref (b + 27), .ref (b + 40), .ref (b + 42), .ref (b + 44), .ref (b + 45), .ref (b + 46), .ref (b + 48), .ref (b + 49), .null, .null, .null]) :: r10) H := hH
  refine lv_aload_n hx hb nd_S_117 rfl (lv_at hl 0 rfl) ?_
  refine lv_bipush (v := Int32.ofInt 10) hx hb nd_S_118 (by decide) ?_
  refine n_newa hC hH hS 1 .int 10 50 rfl rfl wa_int rfl (by decide) (by decide) (Nat.le_of_ble_eq_true rfl) (Nat.le_of_ble_eq_true rfl) (Nat.le_of_ble_eq_true rfl) nd_S_120 (congrArg (fun n : Nat => n + 1) hl10) (fun H hH hS => ?_)
  obtain ⟨r11, hr11, hl11⟩ : ∃ x : List va_E, x = r10 ++ [.inl (kA 1, (10, .inl (fun _ => Int32.ofInt 0)))] ∧ x.length = 50 := ⟨_, rfl, by rw [List.length_append, hl10] <;> rfl⟩
  have hH : HN D b (.inr (0, [.ref (b + 1), .ref (b + 14), .int (Int32.ofInt 0), .ref (b + 27), .ref (b + 40), .ref (b + 42), .ref (b + 44), .ref (b + 45), .ref (b + 46), .ref (b + 48), .ref (b + 49), .null, .null, .null]) :: r11) H := by rw [hr11]; exact hH
  refine n_putF hC hH hS 0 0 11 rfl rfl cY_S rfl ci_S cy_S cn_S (by decide) nf_S_65 rfl rfl rfl rfl rfl (Nat.le_of_ble_eq_true rfl) nd_S_122 (fun H locs hH hS => ?_)
  have hH : HN D b (.inr (0, [.ref (b + 1), .ref (b + 14), .int (Int32.ofInt 0), .ref (b + 27), .ref (b + 40), .ref (b + 42), .ref (b + 44), .ref (b + 45), .ref (b + 46), .ref (b + 48), .ref (b + 49), .ref (b + 50), .null, .null]) :: r11) H := hH
  refine lv_aload_n hx hb nd_S_125 rfl (lv_at hl 0 rfl) ?_
  refine lv_bipush (v := Int32.ofInt 10) hx hb nd_S_126 (by decide) ?_
  refine n_newa hC hH hS 1 .int 10 51 rfl rfl wa_int rfl (by decide) (by decide) (Nat.le_of_ble_eq_true rfl) (Nat.le_of_ble_eq_true rfl) (Nat.le_of_ble_eq_true rfl) nd_S_128 (congrArg (fun n : Nat => n + 1) hl11) (fun H hH hS => ?_)
  obtain ⟨r12, hr12, hl12⟩ : ∃ x : List va_E, x = r11 ++ [.inl (kA 1, (10, .inl (fun _ => Int32.ofInt 0)))] ∧ x.length = 51 := ⟨_, rfl, by rw [List.length_append, hl11] <;> rfl⟩
  have hH : HN D b (.inr (0, [.ref (b + 1), .ref (b + 14), .int (Int32.ofInt 0), .ref (b + 27), .ref (b + 40), .ref (b + 42), .ref (b + 44), .ref (b + 45), .ref (b + 46), .ref (b + 48), .ref (b + 49), .ref (b + 50), .null, .null]) :: r12) H := by rw [hr12]; exact hH
  refine n_putF hC hH hS 0 0 12 rfl rfl cY_S rfl ci_S cy_S cn_S (by decide) nf_S_68 rfl rfl rfl rfl rfl (Nat.le_of_ble_eq_true rfl) nd_S_130 (fun H locs hH hS => ?_)
  have hH : HN D b (.inr (0, [.ref (b + 1), .ref (b + 14), .int (Int32.ofInt 0), .ref (b + 27), .ref (b + 40), .ref (b + 42), .ref (b + 44), .ref (b + 45), .ref (b + 46), .ref (b + 48), .ref (b + 49), .ref (b + 50), .ref (b + 51), .null]) :: r12) H := hH
  refine lv_aload_n hx hb nd_S_133 rfl (lv_at hl 0 rfl) ?_
  refine lv_bipush (v := Int32.ofInt 45) hx hb nd_S_134 (by decide) ?_
  refine n_newa hC hH hS 1 .int 45 52 rfl rfl wa_int rfl (by decide) (by decide) (Nat.le_of_ble_eq_true rfl) (Nat.le_of_ble_eq_true rfl) (Nat.le_of_ble_eq_true rfl) nd_S_136 (congrArg (fun n : Nat => n + 1) hl12) (fun H hH hS => ?_)
  obtain ⟨r13, hr13, hl13⟩ : ∃ x : List va_E, x = r12 ++ [.inl (kA 1, (45, .inl (fun _ => Int32.ofInt 0)))] ∧ x.length = 52 := ⟨_, rfl, by rw [List.length_append, hl12] <;> rfl⟩
  have hH : HN D b (.inr (0, [.ref (b + 1), .ref (b + 14), .int (Int32.ofInt 0), .ref (b + 27), .ref (b + 40), .ref (b + 42), .ref (b + 44), .ref (b + 45), .ref (b + 46), .ref (b + 48), .ref (b + 49), .ref (b + 50), .ref (b + 51), .null]) :: r13) H := by rw [hr13]; exact hH
  refine n_putF hC hH hS 0 0 13 rfl rfl cY_S rfl ci_S cy_S cn_S (by decide) nf_S_71 rfl rfl rfl rfl rfl (Nat.le_of_ble_eq_true rfl) nd_S_138 (fun H locs hH hS => ?_)
  have hH : HN D b (.inr (0, [.ref (b + 1), .ref (b + 14), .int (Int32.ofInt 0), .ref (b + 27), .ref (b + 40), .ref (b + 42), .ref (b + 44), .ref (b + 45), .ref (b + 46), .ref (b + 48), .ref (b + 49), .ref (b + 50), .ref (b + 51), .ref (b + 52)]) :: r13) H := hH
  refine lv_iconst (v := Int32.ofInt 0) hx hb nd_S_141 rfl ?_
  refine lv_istore_n (lv' := [(1, .int (Int32.ofInt 0)), (0, .ref b)]) hx hb nd_S_142 rfl hl (by decide) rfl (fun ls hl => ?_)
  obtain ⟨t14, ht0, ht, hl14⟩ : ∃ x : List va_E, x = ([.inl (kA 1, (7, .inl (fun _ => Int32.ofInt 0)))]) ++ (zA kA (b + 46)) ++ ([.inl (kA 1, (720, .inl (fun _ => Int32.ofInt 0)))]) ++ ([.inl (kA 1, (1001, .inl (fun _ => Int32.ofInt 0)))]) ++ ([.inl (kA 1, (10, .inl (fun _ => Int32.ofInt 0)))]) ++ ([.inl (kA 1, (10, .inl (fun _ => Int32.ofInt 0)))]) ++ ([.inl (kA 1, (45, .inl (fun _ => Int32.ofInt 0)))]) ∧ r13 = r5 ++ ((.inl (kA 4, (4, .inr (.inr (.inr (.inr (fun _ => none))))))) :: x) ∧ x.length = 8 := ⟨_, rfl, by rw [hr13, hr12, hr11, hr10, hr9, hr8, hr7, hr6]; simp only [List.append_assoc, List.cons_append, List.nil_append], rfl⟩
  rw [ht] at hH
  obtain ⟨r44, hr44⟩ : ∃ x, x = r5 := ⟨_, rfl⟩
  have hl44 : r44.length = 43 := by rw [hr44]; exact hl5
  rw [← hr44] at hH
  refine lv_iload_n hx hb nd_S_143 rfl (lv_at hl 0 rfl) ?_
  refine lv_iconst (v := Int32.ofInt 4) hx hb nd_S_144 rfl ?_
  refine lv_icmp_ge (tgt := 167) hx hb nd_S_145 (by decide) (fun h => absurd h (by decide)) (fun _ => ?_)
  refine lv_aload_n hx hb nd_S_148 rfl (lv_at hl 1 rfl) ?_
  refine n_get hC hH 0 0 6 rfl rfl rfl ci_S (by decide) nf_S_44 rfl nd_S_149 ?_
  refine lv_iload_n hx hb nd_S_152 rfl (lv_at hl 0 rfl) ?_
  refine n_new hC hH hS 5 cY_W rfl ci_W cy_W zd_W wc_S_42 wi_W yi_W_ii (Nat.le_of_ble_eq_true rfl) (Nat.le_of_ble_eq_true rfl) nd_S_153 (mid_len hl44 hl14) (fun H hH hS => ?_)
  refine lv_dup hx hb nd_S_156 rfl ?_
  refine n_initN (ν := yi_W) (as := []) (es := (.inr (0, [.ref (b + 1), .ref (b + 14), .int (Int32.ofInt 0), .ref (b + 27), .ref (b + 40), .ref (b + 42), .ref (b + 44), .ref (b + 45), .ref (b + 46), .ref (b + 48), .ref (b + 49), .ref (b + 50), .ref (b + 51), .ref (b + 52)]) :: (r44 ++ ((.inl (kA 4, (4, .inr (.inr (.inr (.inr (fun _ => none))))))) :: t14)))) (n := 53) hC hH hS hl (mid_len hl44 hl14) (c_W D kA (b + 53)) yi_W_co rfl yi_W_ii hC.2.2.2.2.2.1.2.2.2.2.2 yi_W_im rfl yi_W_de rfl (Nat.le_of_ble_eq_true rfl) (Nat.le_of_ble_eq_true rfl) (Nat.le_of_ble_eq_true rfl) (Nat.le_of_ble_eq_true rfl) (Nat.le_of_ble_eq_true rfl) nd_S_157 rfl (fun H locs hH hS => ?_)
  obtain ⟨t15, hr15, hl15⟩ : ∃ x : List va_E, x = t14 ++ (zW kA (b + 53)) ∧ x.length = 10 := ⟨_, rfl, by rw [List.length_append, hl14] <;> rfl⟩
  have hH : HN D b (.inr (0, [.ref (b + 1), .ref (b + 14), .int (Int32.ofInt 0), .ref (b + 27), .ref (b + 40), .ref (b + 42), .ref (b + 44), .ref (b + 45), .ref (b + 46), .ref (b + 48), .ref (b + 49), .ref (b + 50), .ref (b + 51), .ref (b + 52)]) :: (r44 ++ ((.inl (kA 4, (4, .inr (.inr (.inr (.inr (fun _ => none))))))) :: t15))) H := by rw [hr15, ← mid_app]; exact hH
  refine n_astq hC hH hS 44 53 rfl (mid_at hl44) rfl (by rw [hr15]; exact mid_at2 hl44 hl14) (by unfold vp_in; decide) nd_S_160 (fun H locs hH hS => ?_)
  have hH : HN D b (.inr (0, [.ref (b + 1), .ref (b + 14), .int (Int32.ofInt 0), .ref (b + 27), .ref (b + 40), .ref (b + 42), .ref (b + 44), .ref (b + 45), .ref (b + 46), .ref (b + 48), .ref (b + 49), .ref (b + 50), .ref (b + 51), .ref (b + 52)]) :: (r44 ++ ((.inl (kA 4, (4, .inr (.inr (.inr (.inr (fun k => if k = (Int32.ofInt 0).toNatClampNeg then some (b + 53) else (fun _ => none) k))))))) :: t15))) H := by rw [← mid_set hl44]; exact hH
  refine lv_iinc (v := Int32.ofInt 1) (lv' := [(1, .int (Int32.ofInt 1)), (0, .ref b)]) hx hb nd_S_161 hl (k := 0) rfl (by decide) (by decide) rfl (fun ls hl => ?_)
  refine lv_goto (tgt := 143) hx hb nd_S_164 (by decide) ?_
  refine lv_iload_n hx hb nd_S_143 rfl (lv_at hl 0 rfl) ?_
  refine lv_iconst (v := Int32.ofInt 4) hx hb nd_S_144 rfl ?_
  refine lv_icmp_ge (tgt := 167) hx hb nd_S_145 (by decide) (fun h => absurd h (by decide)) (fun _ => ?_)
  refine lv_aload_n hx hb nd_S_148 rfl (lv_at hl 1 rfl) ?_
  refine n_get hC hH 0 0 6 rfl rfl rfl ci_S (by decide) nf_S_44 rfl nd_S_149 ?_
  refine lv_iload_n hx hb nd_S_152 rfl (lv_at hl 0 rfl) ?_
  refine n_new hC hH hS 5 cY_W rfl ci_W cy_W zd_W wc_S_42 wi_W yi_W_ii (Nat.le_of_ble_eq_true rfl) (Nat.le_of_ble_eq_true rfl) nd_S_153 (mid_len hl44 hl15) (fun H hH hS => ?_)
  refine lv_dup hx hb nd_S_156 rfl ?_
  refine n_initN (ν := yi_W) (as := []) (es := (.inr (0, [.ref (b + 1), .ref (b + 14), .int (Int32.ofInt 0), .ref (b + 27), .ref (b + 40), .ref (b + 42), .ref (b + 44), .ref (b + 45), .ref (b + 46), .ref (b + 48), .ref (b + 49), .ref (b + 50), .ref (b + 51), .ref (b + 52)]) :: (r44 ++ ((.inl (kA 4, (4, .inr (.inr (.inr (.inr (fun k => if k = (Int32.ofInt 0).toNatClampNeg then some (b + 53) else (fun _ => none) k))))))) :: t15)))) (n := 55) hC hH hS hl (mid_len hl44 hl15) (c_W D kA (b + 55)) yi_W_co rfl yi_W_ii hC.2.2.2.2.2.1.2.2.2.2.2 yi_W_im rfl yi_W_de rfl (Nat.le_of_ble_eq_true rfl) (Nat.le_of_ble_eq_true rfl) (Nat.le_of_ble_eq_true rfl) (Nat.le_of_ble_eq_true rfl) (Nat.le_of_ble_eq_true rfl) nd_S_157 rfl (fun H locs hH hS => ?_)
  obtain ⟨t16, hr16, hl16⟩ : ∃ x : List va_E, x = t15 ++ (zW kA (b + 55)) ∧ x.length = 12 := ⟨_, rfl, by rw [List.length_append, hl15] <;> rfl⟩
  have hH : HN D b (.inr (0, [.ref (b + 1), .ref (b + 14), .int (Int32.ofInt 0), .ref (b + 27), .ref (b + 40), .ref (b + 42), .ref (b + 44), .ref (b + 45), .ref (b + 46), .ref (b + 48), .ref (b + 49), .ref (b + 50), .ref (b + 51), .ref (b + 52)]) :: (r44 ++ ((.inl (kA 4, (4, .inr (.inr (.inr (.inr (fun k => if k = (Int32.ofInt 0).toNatClampNeg then some (b + 53) else (fun _ => none) k))))))) :: t16))) H := by rw [hr16, ← mid_app]; exact hH
  refine n_astq hC hH hS 44 55 rfl (mid_at hl44) rfl (by rw [hr16]; exact mid_at2 hl44 hl15) (by unfold vp_in; decide) nd_S_160 (fun H locs hH hS => ?_)
  have hH : HN D b (.inr (0, [.ref (b + 1), .ref (b + 14), .int (Int32.ofInt 0), .ref (b + 27), .ref (b + 40), .ref (b + 42), .ref (b + 44), .ref (b + 45), .ref (b + 46), .ref (b + 48), .ref (b + 49), .ref (b + 50), .ref (b + 51), .ref (b + 52)]) :: (r44 ++ ((.inl (kA 4, (4, .inr (.inr (.inr (.inr (fun k => if k = (Int32.ofInt 1).toNatClampNeg then some (b + 55) else (fun k => if k = (Int32.ofInt 0).toNatClampNeg then some (b + 53) else (fun _ => none) k) k))))))) :: t16))) H := by rw [← mid_set hl44]; exact hH
  refine lv_iinc (v := Int32.ofInt 2) (lv' := [(1, .int (Int32.ofInt 2)), (0, .ref b)]) hx hb nd_S_161 hl (k := 0) rfl (by decide) (by decide) rfl (fun ls hl => ?_)
  refine lv_goto (tgt := 143) hx hb nd_S_164 (by decide) ?_
  refine lv_iload_n hx hb nd_S_143 rfl (lv_at hl 0 rfl) ?_
  refine lv_iconst (v := Int32.ofInt 4) hx hb nd_S_144 rfl ?_
  refine lv_icmp_ge (tgt := 167) hx hb nd_S_145 (by decide) (fun h => absurd h (by decide)) (fun _ => ?_)
  refine lv_aload_n hx hb nd_S_148 rfl (lv_at hl 1 rfl) ?_
  refine n_get hC hH 0 0 6 rfl rfl rfl ci_S (by decide) nf_S_44 rfl nd_S_149 ?_
  refine lv_iload_n hx hb nd_S_152 rfl (lv_at hl 0 rfl) ?_
  refine n_new hC hH hS 5 cY_W rfl ci_W cy_W zd_W wc_S_42 wi_W yi_W_ii (Nat.le_of_ble_eq_true rfl) (Nat.le_of_ble_eq_true rfl) nd_S_153 (mid_len hl44 hl16) (fun H hH hS => ?_)
  refine lv_dup hx hb nd_S_156 rfl ?_
  refine n_initN (ν := yi_W) (as := []) (es := (.inr (0, [.ref (b + 1), .ref (b + 14), .int (Int32.ofInt 0), .ref (b + 27), .ref (b + 40), .ref (b + 42), .ref (b + 44), .ref (b + 45), .ref (b + 46), .ref (b + 48), .ref (b + 49), .ref (b + 50), .ref (b + 51), .ref (b + 52)]) :: (r44 ++ ((.inl (kA 4, (4, .inr (.inr (.inr (.inr (fun k => if k = (Int32.ofInt 1).toNatClampNeg then some (b + 55) else (fun k => if k = (Int32.ofInt 0).toNatClampNeg then some (b + 53) else (fun _ => none) k) k))))))) :: t16)))) (n := 57) hC hH hS hl (mid_len hl44 hl16) (c_W D kA (b + 57)) yi_W_co rfl yi_W_ii hC.2.2.2.2.2.1.2.2.2.2.2 yi_W_im rfl yi_W_de rfl (Nat.le_of_ble_eq_true rfl) (Nat.le_of_ble_eq_true rfl) (Nat.le_of_ble_eq_true rfl) (Nat.le_of_ble_eq_true rfl) (Nat.le_of_ble_eq_true rfl) nd_S_157 rfl (fun H locs hH hS => ?_)
  obtain ⟨t17, hr17, hl17⟩ : ∃ x : List va_E, x = t16 ++ (zW kA (b + 57)) ∧ x.length = 14 := ⟨_, rfl, by rw [List.length_append, hl16] <;> rfl⟩
  have hH : HN D b (.inr (0, [.ref (b + 1), .ref (b + 14), .int (Int32.ofInt 0), .ref (b + 27), .ref (b + 40), .ref (b + 42), .ref (b + 44), .ref (b + 45), .ref (b + 46), .ref (b + 48), .ref (b + 49), .ref (b + 50), .ref (b + 51), .ref (b + 52)]) :: (r44 ++ ((.inl (kA 4, (4, .inr (.inr (.inr (.inr (fun k => if k = (Int32.ofInt 1).toNatClampNeg then some (b + 55) else (fun k => if k = (Int32.ofInt 0).toNatClampNeg then some (b + 53) else (fun _ => none) k) k))))))) :: t17))) H := by rw [hr17, ← mid_app]; exact hH
  refine n_astq hC hH hS 44 57 rfl (mid_at hl44) rfl (by rw [hr17]; exact mid_at2 hl44 hl16) (by unfold vp_in; decide) nd_S_160 (fun H locs hH hS => ?_)
  have hH : HN D b (.inr (0, [.ref (b + 1), .ref (b + 14), .int (Int32.ofInt 0), .ref (b + 27), .ref (b + 40), .ref (b + 42), .ref (b + 44), .ref (b + 45), .ref (b + 46), .ref (b + 48), .ref (b + 49), .ref (b + 50), .ref (b + 51), .ref (b + 52)]) :: (r44 ++ ((.inl (kA 4, (4, .inr (.inr (.inr (.inr (fun k => if k = (Int32.ofInt 2).toNatClampNeg then some (b + 57) else (fun k => if k = (Int32.ofInt 1).toNatClampNeg then some (b + 55) else (fun k => if k = (Int32.ofInt 0).toNatClampNeg then some (b + 53) else (fun _ => none) k) k) k))))))) :: t17))) H := by rw [← mid_set hl44]; exact hH
  refine lv_iinc (v := Int32.ofInt 3) (lv' := [(1, .int (Int32.ofInt 3)), (0, .ref b)]) hx hb nd_S_161 hl (k := 0) rfl (by decide) (by decide) rfl (fun ls hl => ?_)
  refine lv_goto (tgt := 143) hx hb nd_S_164 (by decide) ?_
  refine lv_iload_n hx hb nd_S_143 rfl (lv_at hl 0 rfl) ?_
  refine lv_iconst (v := Int32.ofInt 4) hx hb nd_S_144 rfl ?_
  refine lv_icmp_ge (tgt := 167) hx hb nd_S_145 (by decide) (fun h => absurd h (by decide)) (fun _ => ?_)
  refine lv_aload_n hx hb nd_S_148 rfl (lv_at hl 1 rfl) ?_
  refine n_get hC hH 0 0 6 rfl rfl rfl ci_S (by decide) nf_S_44 rfl nd_S_149 ?_
  refine lv_iload_n hx hb nd_S_152 rfl (lv_at hl 0 rfl) ?_
  refine n_new hC hH hS 5 cY_W rfl ci_W cy_W zd_W wc_S_42 wi_W yi_W_ii (Nat.le_of_ble_eq_true rfl) (Nat.le_of_ble_eq_true rfl) nd_S_153 (mid_len hl44 hl17) (fun H hH hS => ?_)
  refine lv_dup hx hb nd_S_156 rfl ?_
  refine n_initN (ν := yi_W) (as := []) (es := (.inr (0, [.ref (b + 1), .ref (b + 14), .int (Int32.ofInt 0), .ref (b + 27), .ref (b + 40), .ref (b + 42), .ref (b + 44), .ref (b + 45), .ref (b + 46), .ref (b + 48), .ref (b + 49), .ref (b + 50), .ref (b + 51), .ref (b + 52)]) :: (r44 ++ ((.inl (kA 4, (4, .inr (.inr (.inr (.inr (fun k => if k = (Int32.ofInt 2).toNatClampNeg then some (b + 57) else (fun k => if k = (Int32.ofInt 1).toNatClampNeg then some (b + 55) else (fun k => if k = (Int32.ofInt 0).toNatClampNeg then some (b + 53) else (fun _ => none) k) k) k))))))) :: t17)))) (n := 59) hC hH hS hl (mid_len hl44 hl17) (c_W D kA (b + 59)) yi_W_co rfl yi_W_ii hC.2.2.2.2.2.1.2.2.2.2.2 yi_W_im rfl yi_W_de rfl (Nat.le_of_ble_eq_true rfl) (Nat.le_of_ble_eq_true rfl) (Nat.le_of_ble_eq_true rfl) (Nat.le_of_ble_eq_true rfl) (Nat.le_of_ble_eq_true rfl) nd_S_157 rfl (fun H locs hH hS => ?_)
  obtain ⟨t18, hr18, hl18⟩ : ∃ x : List va_E, x = t17 ++ (zW kA (b + 59)) ∧ x.length = 16 := ⟨_, rfl, by rw [List.length_append, hl17] <;> rfl⟩
  have hH : HN D b (.inr (0, [.ref (b + 1), .ref (b + 14), .int (Int32.ofInt 0), .ref (b + 27), .ref (b + 40), .ref (b + 42), .ref (b + 44), .ref (b + 45), .ref (b + 46), .ref (b + 48), .ref (b + 49), .ref (b + 50), .ref (b + 51), .ref (b + 52)]) :: (r44 ++ ((.inl (kA 4, (4, .inr (.inr (.inr (.inr (fun k => if k = (Int32.ofInt 2).toNatClampNeg then some (b + 57) else (fun k => if k = (Int32.ofInt 1).toNatClampNeg then some (b + 55) else (fun k => if k = (Int32.ofInt 0).toNatClampNeg then some (b + 53) else (fun _ => none) k) k) k))))))) :: t18))) H := by rw [hr18, ← mid_app]; exact hH
  refine n_astq hC hH hS 44 59 rfl (mid_at hl44) rfl (by rw [hr18]; exact mid_at2 hl44 hl17) (by unfold vp_in; decide) nd_S_160 (fun H locs hH hS => ?_)
  have hH : HN D b (.inr (0, [.ref (b + 1), .ref (b + 14), .int (Int32.ofInt 0), .ref (b + 27), .ref (b + 40), .ref (b + 42), .ref (b + 44), .ref (b + 45), .ref (b + 46), .ref (b + 48), .ref (b + 49), .ref (b + 50), .ref (b + 51), .ref (b + 52)]) :: (r44 ++ ((.inl (kA 4, (4, .inr (.inr (.inr (.inr (fun k => if k = (Int32.ofInt 3).toNatClampNeg then some (b + 59) else (fun k => if k = (Int32.ofInt 2).toNatClampNeg then some (b + 57) else (fun k => if k = (Int32.ofInt 1).toNatClampNeg then some (b + 55) else (fun k => if k = (Int32.ofInt 0).toNatClampNeg then some (b + 53) else (fun _ => none) k) k) k) k))))))) :: t18))) H := by rw [← mid_set hl44]; exact hH
  refine lv_iinc (v := Int32.ofInt 4) (lv' := [(1, .int (Int32.ofInt 4)), (0, .ref b)]) hx hb nd_S_161 hl (k := 0) rfl (by decide) (by decide) rfl (fun ls hl => ?_)
  refine lv_goto (tgt := 143) hx hb nd_S_164 (by decide) ?_
  refine lv_iload_n hx hb nd_S_143 rfl (lv_at hl 0 rfl) ?_
  refine lv_iconst (v := Int32.ofInt 4) hx hb nd_S_144 rfl ?_
  refine lv_icmp_ge (tgt := 167) hx hb nd_S_145 (by decide) (fun _ => ?_) (fun h => absurd (by decide) h)
  have hH : HN D b (zS kA b) H := by
    rw [hr18, hr17, hr16, hr15, ht0, hr44, hr5, hr4, hr3, hr2, hr1, hr0] at hH
    exact hH
  refine W.widen (k := 60) (n := 2393) (Nat.le_of_ble_eq_true rfl) (Nat.le_of_ble_eq_true rfl) ?_
  exact n_vret hC hr hlocks hH hS nd_S_167
