/-! The constructor of the model. -/
def zM (kA : Nat → ClassId) (b : Nat) : List va_E := [.inr (6, [.ref (b + 1), .ref (b + 2), .ref (b + 3), .ref (b + 4), .int (Int32.ofInt 0), .ref (b + 5), .int (Int32.ofInt 0), .int (Int32.ofInt 0), .ref (b + 6), .ref (b + 7), .ref (b + 8), .ref (b + 9), .int (Int32.ofInt 0), .int (Int32.ofInt 0), .int (Int32.ofInt 0), .int (Int32.ofInt 0), .int (Int32.ofInt 0), .ref (b + 10), .ref (b + 11), .ref (b + 12), .ref (b + 13)]), .inl (kA 1, (82, .inl (fun k => Int32.ofInt (if k = 4 then 1 else if k = 2 then 1000 else if k = 3 then -1 else if 72 ≤ k then -1 else 0)))), .inl (kA 1, (82, .inl (fun _ => Int32.ofInt 0))), .inl (kA 1, (82, .inl (fun _ => Int32.ofInt 0))), .inl (kA 1, (7, .inl (fun _ => Int32.ofInt 0))), .inl (kA 1, (6, .inl (fun _ => Int32.ofInt 0))), .inl (kA 3, (1001, .inl (fun _ => Int32.ofInt 0))), .inl (kA 1, (10, .inl (fun _ => Int32.ofInt 0))), .inl (kA 1, (100, .inl (fun _ => Int32.ofInt 0))), .inl (kA 1, (120, .inl (fun _ => Int32.ofInt 0))), .inl (kA 1, (4, .inl (fun _ => Int32.ofInt 0))), .inl (kA 1, (4, .inl (fun _ => Int32.ofInt 0))), .inl (kA 1, (160, .inl (fun _ => Int32.ofInt 0))), .inl (kA 1, (40, .inl (fun _ => Int32.ofInt 0)))]
set_option maxHeartbeats 4000000 in
set_option maxRecDepth 100000 in
/-- the constructor of SlantSheetsModel -/
theorem c_M (D : va_G) (kA : Nat → ClassId) (b : Nat) : Cc yi_M 1 13 1698 [] (.inr (6, [.null, .null, .null, .null, .int (Int32.ofInt 0), .null, .int (Int32.ofInt 0), .int (Int32.ofInt 0), .null, .null, .null, .null, .int (Int32.ofInt 0), .int (Int32.ofInt 0), .int (Int32.ofInt 0), .int (Int32.ofInt 0), .int (Int32.ofInt 0), .null, .null, .null, .null])) (zM kA b) D kA b := by
  refine Cc_of yi_M_pl rfl (Nat.le_of_ble_eq_true rfl) (fun p l e s m args below meth c ls hC hlocks hr hH hS hl => ?_)
  have hx := hC.1
  have hb := hC.2.1
  obtain ⟨H, hHe⟩ : ∃ H, H = s.heap := ⟨_, rfl⟩
  have hH : HN D b [.inr (6, [.null, .null, .null, .null, .int (Int32.ofInt 0), .null, .int (Int32.ofInt 0), .int (Int32.ofInt 0), .null, .null, .null, .null, .int (Int32.ofInt 0), .int (Int32.ofInt 0), .int (Int32.ofInt 0), .int (Int32.ofInt 0), .int (Int32.ofInt 0), .null, .null, .null, .null])] H := by rw [hHe]; exact hH
  have hS : SN b s H [] := by rw [hHe]; exact va_S.rf
  rw [← hHe]
  have hl : lv_has ls 2 [(0, .ref b)] := hl
  refine lv_aload_n hx hb nd_M_0 rfl (lv_at hl 0 rfl) ?_
  refine n_obj hC nm_M_1 hl nd_M_1 (Nat.le_of_ble_eq_true rfl) (Nat.le_of_ble_eq_true rfl) ?_
  refine lv_aload_n hx hb nd_M_4 rfl (lv_at hl 0 rfl) ?_
  refine lv_bipush (v := Int32.ofInt 82) hx hb nd_M_5 (by decide) ?_
  refine n_newa hC hH hS 1 .int 82 1 rfl rfl wa_int rfl (by decide) (by decide) (Nat.le_of_ble_eq_true rfl) (Nat.le_of_ble_eq_true rfl) (Nat.le_of_ble_eq_true rfl) nd_M_7 rfl (fun H hH hS => ?_)
  have hH : HN D b [.inr (6, [.null, .null, .null, .null, .int (Int32.ofInt 0), .null, .int (Int32.ofInt 0), .int (Int32.ofInt 0), .null, .null, .null, .null, .int (Int32.ofInt 0), .int (Int32.ofInt 0), .int (Int32.ofInt 0), .int (Int32.ofInt 0), .int (Int32.ofInt 0), .null, .null, .null, .null]), .inl (kA 1, (82, .inl (fun _ => Int32.ofInt 0)))] H := hH
  refine n_putF hC hH hS 0 6 0 rfl rfl cY_M rfl ci_M cy_M cn_M (by decide) nf_M_7 rfl rfl rfl rfl rfl (Nat.le_of_ble_eq_true rfl) nd_M_9 (fun H locs hH hS => ?_)
  have hH : HN D b [.inr (6, [.ref (b + 1), .null, .null, .null, .int (Int32.ofInt 0), .null, .int (Int32.ofInt 0), .int (Int32.ofInt 0), .null, .null, .null, .null, .int (Int32.ofInt 0), .int (Int32.ofInt 0), .int (Int32.ofInt 0), .int (Int32.ofInt 0), .int (Int32.ofInt 0), .null, .null, .null, .null]), .inl (kA 1, (82, .inl (fun _ => Int32.ofInt 0)))] H := hH
  refine lv_aload_n hx hb nd_M_12 rfl (lv_at hl 0 rfl) ?_
  refine lv_bipush (v := Int32.ofInt 82) hx hb nd_M_13 (by decide) ?_
  refine n_newa hC hH hS 1 .int 82 2 rfl rfl wa_int rfl (by decide) (by decide) (Nat.le_of_ble_eq_true rfl) (Nat.le_of_ble_eq_true rfl) (Nat.le_of_ble_eq_true rfl) nd_M_15 rfl (fun H hH hS => ?_)
  have hH : HN D b [.inr (6, [.ref (b + 1), .null, .null, .null, .int (Int32.ofInt 0), .null, .int (Int32.ofInt 0), .int (Int32.ofInt 0), .null, .null, .null, .null, .int (Int32.ofInt 0), .int (Int32.ofInt 0), .int (Int32.ofInt 0), .int (Int32.ofInt 0), .int (Int32.ofInt 0), .null, .null, .null, .null]), .inl (kA 1, (82, .inl (fun _ => Int32.ofInt 0))), .inl (kA 1, (82, .inl (fun _ => Int32.ofInt 0)))] H := hH
  refine n_putF hC hH hS 0 6 1 rfl rfl cY_M rfl ci_M cy_M cn_M (by decide) nf_M_13 rfl rfl rfl rfl rfl (Nat.le_of_ble_eq_true rfl) nd_M_17 (fun H locs hH hS => ?_)
  have hH : HN D b [.inr (6, [.ref (b + 1), .ref (b + 2), .null, .null, .int (Int32.ofInt 0), .null, .int (Int32.ofInt 0), .int (Int32.ofInt 0), .null, .null, .null, .null, .int (Int32.ofInt 0), .int (Int32.ofInt 0), .int (Int32.ofInt 0), .int (Int32.ofInt 0), .int (Int32.ofInt 0), .null, .null, .null, .null]), .inl (kA 1, (82, .inl (fun _ => Int32.ofInt 0))), .inl (kA 1, (82, .inl (fun _ => Int32.ofInt 0)))] H := hH
  refine lv_aload_n hx hb nd_M_20 rfl (lv_at hl 0 rfl) ?_
  refine lv_bipush (v := Int32.ofInt 82) hx hb nd_M_21 (by decide) ?_
  refine n_newa hC hH hS 1 .int 82 3 rfl rfl wa_int rfl (by decide) (by decide) (Nat.le_of_ble_eq_true rfl) (Nat.le_of_ble_eq_true rfl) (Nat.le_of_ble_eq_true rfl) nd_M_23 rfl (fun H hH hS => ?_)
  have hH : HN D b [.inr (6, [.ref (b + 1), .ref (b + 2), .null, .null, .int (Int32.ofInt 0), .null, .int (Int32.ofInt 0), .int (Int32.ofInt 0), .null, .null, .null, .null, .int (Int32.ofInt 0), .int (Int32.ofInt 0), .int (Int32.ofInt 0), .int (Int32.ofInt 0), .int (Int32.ofInt 0), .null, .null, .null, .null]), .inl (kA 1, (82, .inl (fun _ => Int32.ofInt 0))), .inl (kA 1, (82, .inl (fun _ => Int32.ofInt 0))), .inl (kA 1, (82, .inl (fun _ => Int32.ofInt 0)))] H := hH
  refine n_putF hC hH hS 0 6 2 rfl rfl cY_M rfl ci_M cy_M cn_M (by decide) nf_M_16 rfl rfl rfl rfl rfl (Nat.le_of_ble_eq_true rfl) nd_M_25 (fun H locs hH hS => ?_)
  have hH : HN D b [.inr (6, [.ref (b + 1), .ref (b + 2), .ref (b + 3), .null, .int (Int32.ofInt 0), .null, .int (Int32.ofInt 0), .int (Int32.ofInt 0), .null, .null, .null, .null, .int (Int32.ofInt 0), .int (Int32.ofInt 0), .int (Int32.ofInt 0), .int (Int32.ofInt 0), .int (Int32.ofInt 0), .null, .null, .null, .null]), .inl (kA 1, (82, .inl (fun _ => Int32.ofInt 0))), .inl (kA 1, (82, .inl (fun _ => Int32.ofInt 0))), .inl (kA 1, (82, .inl (fun _ => Int32.ofInt 0)))] H := hH
  refine lv_aload_n hx hb nd_M_28 rfl (lv_at hl 0 rfl) ?_
  refine lv_bipush (v := Int32.ofInt 7) hx hb nd_M_29 (by decide) ?_
  refine n_newa hC hH hS 1 .int 7 4 rfl rfl wa_int rfl (by decide) (by decide) (Nat.le_of_ble_eq_true rfl) (Nat.le_of_ble_eq_true rfl) (Nat.le_of_ble_eq_true rfl) nd_M_31 rfl (fun H hH hS => ?_)
  have hH : HN D b [.inr (6, [.ref (b + 1), .ref (b + 2), .ref (b + 3), .null, .int (Int32.ofInt 0), .null, .int (Int32.ofInt 0), .int (Int32.ofInt 0), .null, .null, .null, .null, .int (Int32.ofInt 0), .int (Int32.ofInt 0), .int (Int32.ofInt 0), .int (Int32.ofInt 0), .int (Int32.ofInt 0), .null, .null, .null, .null]), .inl (kA 1, (82, .inl (fun _ => Int32.ofInt 0))), .inl (kA 1, (82, .inl (fun _ => Int32.ofInt 0))), .inl (kA 1, (82, .inl (fun _ => Int32.ofInt 0))), .inl (kA 1, (7, .inl (fun _ => Int32.ofInt 0)))] H := hH
  refine n_putF hC hH hS 0 6 3 rfl rfl cY_M rfl ci_M cy_M cn_M (by decide) nf_M_19 rfl rfl rfl rfl rfl (Nat.le_of_ble_eq_true rfl) nd_M_33 (fun H locs hH hS => ?_)
  have hH : HN D b [.inr (6, [.ref (b + 1), .ref (b + 2), .ref (b + 3), .ref (b + 4), .int (Int32.ofInt 0), .null, .int (Int32.ofInt 0), .int (Int32.ofInt 0), .null, .null, .null, .null, .int (Int32.ofInt 0), .int (Int32.ofInt 0), .int (Int32.ofInt 0), .int (Int32.ofInt 0), .int (Int32.ofInt 0), .null, .null, .null, .null]), .inl (kA 1, (82, .inl (fun _ => Int32.ofInt 0))), .inl (kA 1, (82, .inl (fun _ => Int32.ofInt 0))), .inl (kA 1, (82, .inl (fun _ => Int32.ofInt 0))), .inl (kA 1, (7, .inl (fun _ => Int32.ofInt 0)))] H := hH
  refine lv_aload_n hx hb nd_M_36 rfl (lv_at hl 0 rfl) ?_
  refine lv_bipush (v := Int32.ofInt 6) hx hb nd_M_37 (by decide) ?_
  refine n_newa hC hH hS 1 .int 6 5 rfl rfl wa_int rfl (by decide) (by decide) (Nat.le_of_ble_eq_true rfl) (Nat.le_of_ble_eq_true rfl) (Nat.le_of_ble_eq_true rfl) nd_M_39 rfl (fun H hH hS => ?_)
  have hH : HN D b [.inr (6, [.ref (b + 1), .ref (b + 2), .ref (b + 3), .ref (b + 4), .int (Int32.ofInt 0), .null, .int (Int32.ofInt 0), .int (Int32.ofInt 0), .null, .null, .null, .null, .int (Int32.ofInt 0), .int (Int32.ofInt 0), .int (Int32.ofInt 0), .int (Int32.ofInt 0), .int (Int32.ofInt 0), .null, .null, .null, .null]), .inl (kA 1, (82, .inl (fun _ => Int32.ofInt 0))), .inl (kA 1, (82, .inl (fun _ => Int32.ofInt 0))), .inl (kA 1, (82, .inl (fun _ => Int32.ofInt 0))), .inl (kA 1, (7, .inl (fun _ => Int32.ofInt 0))), .inl (kA 1, (6, .inl (fun _ => Int32.ofInt 0)))] H := hH
  refine n_putF hC hH hS 0 6 5 rfl rfl cY_M rfl ci_M cy_M cn_M (by decide) nf_M_22 rfl rfl rfl rfl rfl (Nat.le_of_ble_eq_true rfl) nd_M_41 (fun H locs hH hS => ?_)
  have hH : HN D b [.inr (6, [.ref (b + 1), .ref (b + 2), .ref (b + 3), .ref (b + 4), .int (Int32.ofInt 0), .ref (b + 5), .int (Int32.ofInt 0), .int (Int32.ofInt 0), .null, .null, .null, .null, .int (Int32.ofInt 0), .int (Int32.ofInt 0), .int (Int32.ofInt 0), .int (Int32.ofInt 0), .int (Int32.ofInt 0), .null, .null, .null, .null]), .inl (kA 1, (82, .inl (fun _ => Int32.ofInt 0))), .inl (kA 1, (82, .inl (fun _ => Int32.ofInt 0))), .inl (kA 1, (82, .inl (fun _ => Int32.ofInt 0))), .inl (kA 1, (7, .inl (fun _ => Int32.ofInt 0))), .inl (kA 1, (6, .inl (fun _ => Int32.ofInt 0)))] H := hH
  refine lv_aload_n hx hb nd_M_44 rfl (lv_at hl 0 rfl) ?_
  refine lv_sipush (v := Int32.ofInt 1001) hx hb nd_M_45 (by decide) ?_
  refine n_newa hC hH hS 3 .boolean 1001 6 rfl rfl wa_boolean rfl (by decide) (by decide) (Nat.le_of_ble_eq_true rfl) (Nat.le_of_ble_eq_true rfl) (Nat.le_of_ble_eq_true rfl) nd_M_48 rfl (fun H hH hS => ?_)
  have hH : HN D b [.inr (6, [.ref (b + 1), .ref (b + 2), .ref (b + 3), .ref (b + 4), .int (Int32.ofInt 0), .ref (b + 5), .int (Int32.ofInt 0), .int (Int32.ofInt 0), .null, .null, .null, .null, .int (Int32.ofInt 0), .int (Int32.ofInt 0), .int (Int32.ofInt 0), .int (Int32.ofInt 0), .int (Int32.ofInt 0), .null, .null, .null, .null]), .inl (kA 1, (82, .inl (fun _ => Int32.ofInt 0))), .inl (kA 1, (82, .inl (fun _ => Int32.ofInt 0))), .inl (kA 1, (82, .inl (fun _ => Int32.ofInt 0))), .inl (kA 1, (7, .inl (fun _ => Int32.ofInt 0))), .inl (kA 1, (6, .inl (fun _ => Int32.ofInt 0))), .inl (kA 3, (1001, .inl (fun _ => Int32.ofInt 0)))] H := hH
  refine n_putF hC hH hS 0 6 8 rfl rfl cY_M rfl ci_M cy_M cn_M (by decide) nf_M_25 rfl rfl rfl rfl rfl (Nat.le_of_ble_eq_true rfl) nd_M_50 (fun H locs hH hS => ?_)
  have hH : HN D b [.inr (6, [.ref (b + 1), .ref (b + 2), .ref (b + 3), .ref (b + 4), .int (Int32.ofInt 0), .ref (b + 5), .int (Int32.ofInt 0), .int (Int32.ofInt 0), .ref (b + 6), .null, .null, .null, .int (Int32.ofInt 0), .int (Int32.ofInt 0), .int (Int32.ofInt 0), .int (Int32.ofInt 0), .int (Int32.ofInt 0), .null, .null, .null, .null]), .inl (kA 1, (82, .inl (fun _ => Int32.ofInt 0))), .inl (kA 1, (82, .inl (fun _ => Int32.ofInt 0))), .inl (kA 1, (82, .inl (fun _ => Int32.ofInt 0))), .inl (kA 1, (7, .inl (fun _ => Int32.ofInt 0))), .inl (kA 1, (6, .inl (fun _ => Int32.ofInt 0))), .inl (kA 3, (1001, .inl (fun _ => Int32.ofInt 0)))] H := hH
  refine lv_aload_n hx hb nd_M_53 rfl (lv_at hl 0 rfl) ?_
  refine lv_bipush (v := Int32.ofInt 10) hx hb nd_M_54 (by decide) ?_
  refine n_newa hC hH hS 1 .int 10 7 rfl rfl wa_int rfl (by decide) (by decide) (Nat.le_of_ble_eq_true rfl) (Nat.le_of_ble_eq_true rfl) (Nat.le_of_ble_eq_true rfl) nd_M_56 rfl (fun H hH hS => ?_)
  have hH : HN D b [.inr (6, [.ref (b + 1), .ref (b + 2), .ref (b + 3), .ref (b + 4), .int (Int32.ofInt 0), .ref (b + 5), .int (Int32.ofInt 0), .int (Int32.ofInt 0), .ref (b + 6), .null, .null, .null, .int (Int32.ofInt 0), .int (Int32.ofInt 0), .int (Int32.ofInt 0), .int (Int32.ofInt 0), .int (Int32.ofInt 0), .null, .null, .null, .null]), .inl (kA 1, (82, .inl (fun _ => Int32.ofInt 0))), .inl (kA 1, (82, .inl (fun _ => Int32.ofInt 0))), .inl (kA 1, (82, .inl (fun _ => Int32.ofInt 0))), .inl (kA 1, (7, .inl (fun _ => Int32.ofInt 0))), .inl (kA 1, (6, .inl (fun _ => Int32.ofInt 0))), .inl (kA 3, (1001, .inl (fun _ => Int32.ofInt 0))), .inl (kA 1, (10, .inl (fun _ => Int32.ofInt 0)))] H := hH
  refine n_putF hC hH hS 0 6 9 rfl rfl cY_M rfl ci_M cy_M cn_M (by decide) nf_M_29 rfl rfl rfl rfl rfl (Nat.le_of_ble_eq_true rfl) nd_M_58 (fun H locs hH hS => ?_)
  have hH : HN D b [.inr (6, [.ref (b + 1), .ref (b + 2), .ref (b + 3), .ref (b + 4), .int (Int32.ofInt 0), .ref (b + 5), .int (Int32.ofInt 0), .int (Int32.ofInt 0), .ref (b + 6), .ref (b + 7), .null, .null, .int (Int32.ofInt 0), .int (Int32.ofInt 0), .int (Int32.ofInt 0), .int (Int32.ofInt 0), .int (Int32.ofInt 0), .null, .null, .null, .null]), .inl (kA 1, (82, .inl (fun _ => Int32.ofInt 0))), .inl (kA 1, (82, .inl (fun _ => Int32.ofInt 0))), .inl (kA 1, (82, .inl (fun _ => Int32.ofInt 0))), .inl (kA 1, (7, .inl (fun _ => Int32.ofInt 0))), .inl (kA 1, (6, .inl (fun _ => Int32.ofInt 0))), .inl (kA 3, (1001, .inl (fun _ => Int32.ofInt 0))), .inl (kA 1, (10, .inl (fun _ => Int32.ofInt 0)))] H := hH
  refine lv_aload_n hx hb nd_M_61 rfl (lv_at hl 0 rfl) ?_
  refine lv_bipush (v := Int32.ofInt 100) hx hb nd_M_62 (by decide) ?_
  refine n_newa hC hH hS 1 .int 100 8 rfl rfl wa_int rfl (by decide) (by decide) (Nat.le_of_ble_eq_true rfl) (Nat.le_of_ble_eq_true rfl) (Nat.le_of_ble_eq_true rfl) nd_M_64 rfl (fun H hH hS => ?_)
  have hH : HN D b [.inr (6, [.ref (b + 1), .ref (b + 2), .ref (b + 3), .ref (b + 4), .int (Int32.ofInt 0), .ref (b + 5), .int (Int32.ofInt 0), .int (Int32.ofInt 0), .ref (b + 6), .ref (b + 7), .null, .null, .int (Int32.ofInt 0), .int (Int32.ofInt 0), .int (Int32.ofInt 0), .int (Int32.ofInt 0), .int (Int32.ofInt 0), .null, .null, .null, .null]), .inl (kA 1, (82, .inl (fun _ => Int32.ofInt 0))), .inl (kA 1, (82, .inl (fun _ => Int32.ofInt 0))), .inl (kA 1, (82, .inl (fun _ => Int32.ofInt 0))), .inl (kA 1, (7, .inl (fun _ => Int32.ofInt 0))), .inl (kA 1, (6, .inl (fun _ => Int32.ofInt 0))), .inl (kA 3, (1001, .inl (fun _ => Int32.ofInt 0))), .inl (kA 1, (10, .inl (fun _ => Int32.ofInt 0))), .inl (kA 1, (100, .inl (fun _ => Int32.ofInt 0)))] H := hH
  refine n_putF hC hH hS 0 6 10 rfl rfl cY_M rfl ci_M cy_M cn_M (by decide) nf_M_32 rfl rfl rfl rfl rfl (Nat.le_of_ble_eq_true rfl) nd_M_66 (fun H locs hH hS => ?_)
  have hH : HN D b [.inr (6, [.ref (b + 1), .ref (b + 2), .ref (b + 3), .ref (b + 4), .int (Int32.ofInt 0), .ref (b + 5), .int (Int32.ofInt 0), .int (Int32.ofInt 0), .ref (b + 6), .ref (b + 7), .ref (b + 8), .null, .int (Int32.ofInt 0), .int (Int32.ofInt 0), .int (Int32.ofInt 0), .int (Int32.ofInt 0), .int (Int32.ofInt 0), .null, .null, .null, .null]), .inl (kA 1, (82, .inl (fun _ => Int32.ofInt 0))), .inl (kA 1, (82, .inl (fun _ => Int32.ofInt 0))), .inl (kA 1, (82, .inl (fun _ => Int32.ofInt 0))), .inl (kA 1, (7, .inl (fun _ => Int32.ofInt 0))), .inl (kA 1, (6, .inl (fun _ => Int32.ofInt 0))), .inl (kA 3, (1001, .inl (fun _ => Int32.ofInt 0))), .inl (kA 1, (10, .inl (fun _ => Int32.ofInt 0))), .inl (kA 1, (100, .inl (fun _ => Int32.ofInt 0)))] H := hH
  refine lv_aload_n hx hb nd_M_69 rfl (lv_at hl 0 rfl) ?_
  refine lv_bipush (v := Int32.ofInt 120) hx hb nd_M_70 (by decide) ?_
  refine n_newa hC hH hS 1 .int 120 9 rfl rfl wa_int rfl (by decide) (by decide) (Nat.le_of_ble_eq_true rfl) (Nat.le_of_ble_eq_true rfl) (Nat.le_of_ble_eq_true rfl) nd_M_72 rfl (fun H hH hS => ?_)
  have hH : HN D b [.inr (6, [.ref (b + 1), .ref (b + 2), .ref (b + 3), .ref (b + 4), .int (Int32.ofInt 0), .ref (b + 5), .int (Int32.ofInt 0), .int (Int32.ofInt 0), .ref (b + 6), .ref (b + 7), .ref (b + 8), .null, .int (Int32.ofInt 0), .int (Int32.ofInt 0), .int (Int32.ofInt 0), .int (Int32.ofInt 0), .int (Int32.ofInt 0), .null, .null, .null, .null]), .inl (kA 1, (82, .inl (fun _ => Int32.ofInt 0))), .inl (kA 1, (82, .inl (fun _ => Int32.ofInt 0))), .inl (kA 1, (82, .inl (fun _ => Int32.ofInt 0))), .inl (kA 1, (7, .inl (fun _ => Int32.ofInt 0))), .inl (kA 1, (6, .inl (fun _ => Int32.ofInt 0))), .inl (kA 3, (1001, .inl (fun _ => Int32.ofInt 0))), .inl (kA 1, (10, .inl (fun _ => Int32.ofInt 0))), .inl (kA 1, (100, .inl (fun _ => Int32.ofInt 0))), .inl (kA 1, (120, .inl (fun _ => Int32.ofInt 0)))] H := hH
  refine n_putF hC hH hS 0 6 11 rfl rfl cY_M rfl ci_M cy_M cn_M (by decide) nf_M_35 rfl rfl rfl rfl rfl (Nat.le_of_ble_eq_true rfl) nd_M_74 (fun H locs hH hS => ?_)
  have hH : HN D b [.inr (6, [.ref (b + 1), .ref (b + 2), .ref (b + 3), .ref (b + 4), .int (Int32.ofInt 0), .ref (b + 5), .int (Int32.ofInt 0), .int (Int32.ofInt 0), .ref (b + 6), .ref (b + 7), .ref (b + 8), .ref (b + 9), .int (Int32.ofInt 0), .int (Int32.ofInt 0), .int (Int32.ofInt 0), .int (Int32.ofInt 0), .int (Int32.ofInt 0), .null, .null, .null, .null]), .inl (kA 1, (82, .inl (fun _ => Int32.ofInt 0))), .inl (kA 1, (82, .inl (fun _ => Int32.ofInt 0))), .inl (kA 1, (82, .inl (fun _ => Int32.ofInt 0))), .inl (kA 1, (7, .inl (fun _ => Int32.ofInt 0))), .inl (kA 1, (6, .inl (fun _ => Int32.ofInt 0))), .inl (kA 3, (1001, .inl (fun _ => Int32.ofInt 0))), .inl (kA 1, (10, .inl (fun _ => Int32.ofInt 0))), .inl (kA 1, (100, .inl (fun _ => Int32.ofInt 0))), .inl (kA 1, (120, .inl (fun _ => Int32.ofInt 0)))] H := hH
  refine lv_aload_n hx hb nd_M_77 rfl (lv_at hl 0 rfl) ?_
  refine lv_iconst (v := Int32.ofInt 4) hx hb nd_M_78 rfl ?_
  refine n_newa hC hH hS 1 .int 4 10 rfl rfl wa_int rfl (by decide) (by decide) (Nat.le_of_ble_eq_true rfl) (Nat.le_of_ble_eq_true rfl) (Nat.le_of_ble_eq_true rfl) nd_M_79 rfl (fun H hH hS => ?_)
  have hH : HN D b [.inr (6, [.ref (b + 1), .ref (b + 2), .ref (b + 3), .ref (b + 4), .int (Int32.ofInt 0), .ref (b + 5), .int (Int32.ofInt 0), .int (Int32.ofInt 0), .ref (b + 6), .ref (b + 7), .ref (b + 8), .ref (b + 9), .int (Int32.ofInt 0), .int (Int32.ofInt 0), .int (Int32.ofInt 0), .int (Int32.ofInt 0), .int (Int32.ofInt 0), .null, .null, .null, .null]), .inl (kA 1, (82, .inl (fun _ => Int32.ofInt 0))), .inl (kA 1, (82, .inl (fun _ => Int32.ofInt 0))), .inl (kA 1, (82, .inl (fun _ => Int32.ofInt 0))), .inl (kA 1, (7, .inl (fun _ => Int32.ofInt 0))), .inl (kA 1, (6, .inl (fun _ => Int32.ofInt 0))), .inl (kA 3, (1001, .inl (fun _ => Int32.ofInt 0))), .inl (kA 1, (10, .inl (fun _ => Int32.ofInt 0))), .inl (kA 1, (100, .inl (fun _ => Int32.ofInt 0))), .inl (kA 1, (120, .inl (fun _ => Int32.ofInt 0))), .inl (kA 1, (4, .inl (fun _ => Int32.ofInt 0)))] H := hH
  refine n_putF hC hH hS 0 6 17 rfl rfl cY_M rfl ci_M cy_M cn_M (by decide) nf_M_38 rfl rfl rfl rfl rfl (Nat.le_of_ble_eq_true rfl) nd_M_81 (fun H locs hH hS => ?_)
  have hH : HN D b [.inr (6, [.ref (b + 1), .ref (b + 2), .ref (b + 3), .ref (b + 4), .int (Int32.ofInt 0), .ref (b + 5), .int (Int32.ofInt 0), .int (Int32.ofInt 0), .ref (b + 6), .ref (b + 7), .ref (b + 8), .ref (b + 9), .int (Int32.ofInt 0), .int (Int32.ofInt 0), .int (Int32.ofInt 0), .int (Int32.ofInt 0), .int (Int32.ofInt 0), .ref (b + 10), .null, .null, .null]), .inl (kA 1, (82, .inl (fun _ => Int32.ofInt 0))), .inl (kA 1, (82, .inl (fun _ => Int32.ofInt 0))), .inl (kA 1, (82, .inl (fun _ => Int32.ofInt 0))), .inl (kA 1, (7, .inl (fun _ => Int32.ofInt 0))), .inl (kA 1, (6, .inl (fun _ => Int32.ofInt 0))), .inl (kA 3, (1001, .inl (fun _ => Int32.ofInt 0))), .inl (kA 1, (10, .inl (fun _ => Int32.ofInt 0))), .inl (kA 1, (100, .inl (fun _ => Int32.ofInt 0))), .inl (kA 1, (120, .inl (fun _ => Int32.ofInt 0))), .inl (kA 1, (4, .inl (fun _ => Int32.ofInt 0)))] H := hH
  refine lv_aload_n hx hb nd_M_84 rfl (lv_at hl 0 rfl) ?_
  refine lv_iconst (v := Int32.ofInt 4) hx hb nd_M_85 rfl ?_
  refine n_newa hC hH hS 1 .int 4 11 rfl rfl wa_int rfl (by decide) (by decide) (Nat.le_of_ble_eq_true rfl) (Nat.le_of_ble_eq_true rfl) (Nat.le_of_ble_eq_true rfl) nd_M_86 rfl (fun H hH hS => ?_)
  have hH : HN D b [.inr (6, [.ref (b + 1), .ref (b + 2), .ref (b + 3), .ref (b + 4), .int (Int32.ofInt 0), .ref (b + 5), .int (Int32.ofInt 0), .int (Int32.ofInt 0), .ref (b + 6), .ref (b + 7), .ref (b + 8), .ref (b + 9), .int (Int32.ofInt 0), .int (Int32.ofInt 0), .int (Int32.ofInt 0), .int (Int32.ofInt 0), .int (Int32.ofInt 0), .ref (b + 10), .null, .null, .null]), .inl (kA 1, (82, .inl (fun _ => Int32.ofInt 0))), .inl (kA 1, (82, .inl (fun _ => Int32.ofInt 0))), .inl (kA 1, (82, .inl (fun _ => Int32.ofInt 0))), .inl (kA 1, (7, .inl (fun _ => Int32.ofInt 0))), .inl (kA 1, (6, .inl (fun _ => Int32.ofInt 0))), .inl (kA 3, (1001, .inl (fun _ => Int32.ofInt 0))), .inl (kA 1, (10, .inl (fun _ => Int32.ofInt 0))), .inl (kA 1, (100, .inl (fun _ => Int32.ofInt 0))), .inl (kA 1, (120, .inl (fun _ => Int32.ofInt 0))), .inl (kA 1, (4, .inl (fun _ => Int32.ofInt 0))), .inl (kA 1, (4, .inl (fun _ => Int32.ofInt 0)))] H := hH
  refine n_putF hC hH hS 0 6 18 rfl rfl cY_M rfl ci_M cy_M cn_M (by decide) nf_M_41 rfl rfl rfl rfl rfl (Nat.le_of_ble_eq_true rfl) nd_M_88 (fun H locs hH hS => ?_)
  have hH : HN D b [.inr (6, [.ref (b + 1), .ref (b + 2), .ref (b + 3), .ref (b + 4), .int (Int32.ofInt 0), .ref (b + 5), .int (Int32.ofInt 0), .int (Int32.ofInt 0), .ref (b + 6), .ref (b + 7), .ref (b + 8), .ref (b + 9), .int (Int32.ofInt 0), .int (Int32.ofInt 0), .int (Int32.ofInt 0), .int (Int32.ofInt 0), .int (Int32.ofInt 0), .ref (b + 10), .ref (b + 11), .null, .null]), .inl (kA 1, (82, .inl (fun _ => Int32.ofInt 0))), .inl (kA 1, (82, .inl (fun _ => Int32.ofInt 0))), .inl (kA 1, (82, .inl (fun _ => Int32.ofInt 0))), .inl (kA 1, (7, .inl (fun _ => Int32.ofInt 0))), .inl (kA 1, (6, .inl (fun _ => Int32.ofInt 0))), .inl (kA 3, (1001, .inl (fun _ => Int32.ofInt 0))), .inl (kA 1, (10, .inl (fun _ => Int32.ofInt 0))), .inl (kA 1, (100, .inl (fun _ => Int32.ofInt 0))), .inl (kA 1, (120, .inl (fun _ => Int32.ofInt 0))), .inl (kA 1, (4, .inl (fun _ => Int32.ofInt 0))), .inl (kA 1, (4, .inl (fun _ => Int32.ofInt 0)))] H := hH
  refine lv_aload_n hx hb nd_M_91 rfl (lv_at hl 0 rfl) ?_
  refine lv_sipush (v := Int32.ofInt 160) hx hb nd_M_92 (by decide) ?_
  refine n_newa hC hH hS 1 .int 160 12 rfl rfl wa_int rfl (by decide) (by decide) (Nat.le_of_ble_eq_true rfl) (Nat.le_of_ble_eq_true rfl) (Nat.le_of_ble_eq_true rfl) nd_M_95 rfl (fun H hH hS => ?_)
  have hH : HN D b [.inr (6, [.ref (b + 1), .ref (b + 2), .ref (b + 3), .ref (b + 4), .int (Int32.ofInt 0), .ref (b + 5), .int (Int32.ofInt 0), .int (Int32.ofInt 0), .ref (b + 6), .ref (b + 7), .ref (b + 8), .ref (b + 9), .int (Int32.ofInt 0), .int (Int32.ofInt 0), .int (Int32.ofInt 0), .int (Int32.ofInt 0), .int (Int32.ofInt 0), .ref (b + 10), .ref (b + 11), .null, .null]), .inl (kA 1, (82, .inl (fun _ => Int32.ofInt 0))), .inl (kA 1, (82, .inl (fun _ => Int32.ofInt 0))), .inl (kA 1, (82, .inl (fun _ => Int32.ofInt 0))), .inl (kA 1, (7, .inl (fun _ => Int32.ofInt 0))), .inl (kA 1, (6, .inl (fun _ => Int32.ofInt 0))), .inl (kA 3, (1001, .inl (fun _ => Int32.ofInt 0))), .inl (kA 1, (10, .inl (fun _ => Int32.ofInt 0))), .inl (kA 1, (100, .inl (fun _ => Int32.ofInt 0))), .inl (kA 1, (120, .inl (fun _ => Int32.ofInt 0))), .inl (kA 1, (4, .inl (fun _ => Int32.ofInt 0))), .inl (kA 1, (4, .inl (fun _ => Int32.ofInt 0))), .inl (kA 1, (160, .inl (fun _ => Int32.ofInt 0)))] H := hH
  refine n_putF hC hH hS 0 6 19 rfl rfl cY_M rfl ci_M cy_M cn_M (by decide) nf_M_44 rfl rfl rfl rfl rfl (Nat.le_of_ble_eq_true rfl) nd_M_97 (fun H locs hH hS => ?_)
  have hH : HN D b [.inr (6, [.ref (b + 1), .ref (b + 2), .ref (b + 3), .ref (b + 4), .int (Int32.ofInt 0), .ref (b + 5), .int (Int32.ofInt 0), .int (Int32.ofInt 0), .ref (b + 6), .ref (b + 7), .ref (b + 8), .ref (b + 9), .int (Int32.ofInt 0), .int (Int32.ofInt 0), .int (Int32.ofInt 0), .int (Int32.ofInt 0), .int (Int32.ofInt 0), .ref (b + 10), .ref (b + 11), .ref (b + 12), .null]), .inl (kA 1, (82, .inl (fun _ => Int32.ofInt 0))), .inl (kA 1, (82, .inl (fun _ => Int32.ofInt 0))), .inl (kA 1, (82, .inl (fun _ => Int32.ofInt 0))), .inl (kA 1, (7, .inl (fun _ => Int32.ofInt 0))), .inl (kA 1, (6, .inl (fun _ => Int32.ofInt 0))), .inl (kA 3, (1001, .inl (fun _ => Int32.ofInt 0))), .inl (kA 1, (10, .inl (fun _ => Int32.ofInt 0))), .inl (kA 1, (100, .inl (fun _ => Int32.ofInt 0))), .inl (kA 1, (120, .inl (fun _ => Int32.ofInt 0))), .inl (kA 1, (4, .inl (fun _ => Int32.ofInt 0))), .inl (kA 1, (4, .inl (fun _ => Int32.ofInt 0))), .inl (kA 1, (160, .inl (fun _ => Int32.ofInt 0)))] H := hH
  refine lv_aload_n hx hb nd_M_100 rfl (lv_at hl 0 rfl) ?_
  refine lv_bipush (v := Int32.ofInt 40) hx hb nd_M_101 (by decide) ?_
  refine n_newa hC hH hS 1 .int 40 13 rfl rfl wa_int rfl (by decide) (by decide) (Nat.le_of_ble_eq_true rfl) (Nat.le_of_ble_eq_true rfl) (Nat.le_of_ble_eq_true rfl) nd_M_103 rfl (fun H hH hS => ?_)
  have hH : HN D b [.inr (6, [.ref (b + 1), .ref (b + 2), .ref (b + 3), .ref (b + 4), .int (Int32.ofInt 0), .ref (b + 5), .int (Int32.ofInt 0), .int (Int32.ofInt 0), .ref (b + 6), .ref (b + 7), .ref (b + 8), .ref (b + 9), .int (Int32.ofInt 0), .int (Int32.ofInt 0), .int (Int32.ofInt 0), .int (Int32.ofInt 0), .int (Int32.ofInt 0), .ref (b + 10), .ref (b + 11), .ref (b + 12), .null]), .inl (kA 1, (82, .inl (fun _ => Int32.ofInt 0))), .inl (kA 1, (82, .inl (fun _ => Int32.ofInt 0))), .inl (kA 1, (82, .inl (fun _ => Int32.ofInt 0))), .inl (kA 1, (7, .inl (fun _ => Int32.ofInt 0))), .inl (kA 1, (6, .inl (fun _ => Int32.ofInt 0))), .inl (kA 3, (1001, .inl (fun _ => Int32.ofInt 0))), .inl (kA 1, (10, .inl (fun _ => Int32.ofInt 0))), .inl (kA 1, (100, .inl (fun _ => Int32.ofInt 0))), .inl (kA 1, (120, .inl (fun _ => Int32.ofInt 0))), .inl (kA 1, (4, .inl (fun _ => Int32.ofInt 0))), .inl (kA 1, (4, .inl (fun _ => Int32.ofInt 0))), .inl (kA 1, (160, .inl (fun _ => Int32.ofInt 0))), .inl (kA 1, (40, .inl (fun _ => Int32.ofInt 0)))] H := hH
  refine n_putF hC hH hS 0 6 20 rfl rfl cY_M rfl ci_M cy_M cn_M (by decide) nf_M_47 rfl rfl rfl rfl rfl (Nat.le_of_ble_eq_true rfl) nd_M_105 (fun H locs hH hS => ?_)
  have hH : HN D b [.inr (6, [.ref (b + 1), .ref (b + 2), .ref (b + 3), .ref (b + 4), .int (Int32.ofInt 0), .ref (b + 5), .int (Int32.ofInt 0), .int (Int32.ofInt 0), .ref (b + 6), .ref (b + 7), .ref (b + 8), .ref (b + 9), .int (Int32.ofInt 0), .int (Int32.ofInt 0), .int (Int32.ofInt 0), .int (Int32.ofInt 0), .int (Int32.ofInt 0), .ref (b + 10), .ref (b + 11), .ref (b + 12), .ref (b + 13)]), .inl (kA 1, (82, .inl (fun _ => Int32.ofInt 0))), .inl (kA 1, (82, .inl (fun _ => Int32.ofInt 0))), .inl (kA 1, (82, .inl (fun _ => Int32.ofInt 0))), .inl (kA 1, (7, .inl (fun _ => Int32.ofInt 0))), .inl (kA 1, (6, .inl (fun _ => Int32.ofInt 0))), .inl (kA 3, (1001, .inl (fun _ => Int32.ofInt 0))), .inl (kA 1, (10, .inl (fun _ => Int32.ofInt 0))), .inl (kA 1, (100, .inl (fun _ => Int32.ofInt 0))), .inl (kA 1, (120, .inl (fun _ => Int32.ofInt 0))), .inl (kA 1, (4, .inl (fun _ => Int32.ofInt 0))), .inl (kA 1, (4, .inl (fun _ => Int32.ofInt 0))), .inl (kA 1, (160, .inl (fun _ => Int32.ofInt 0))), .inl (kA 1, (40, .inl (fun _ => Int32.ofInt 0)))] H := hH
  refine lv_aload_n hx hb nd_M_108 rfl (lv_at hl 0 rfl) ?_
  refine n_get hC hH 0 6 0 rfl rfl rfl ci_M (by decide) nf_M_7 rfl nd_M_109 ?_
  refine lv_iconst (v := Int32.ofInt 4) hx hb nd_M_112 rfl ?_
  refine lv_iconst (v := Int32.ofInt 1) hx hb nd_M_113 rfl ?_
  refine n_iast hC hH hS 1 rfl rfl (by unfold vp_in; decide) nd_M_114 (fun H locs hH hS => ?_)
  obtain ⟨f59, hf59⟩ : ∃ f : Nat → Int32, f = (fun k => if k = (Int32.ofInt 4).toNatClampNeg then Int32.ofInt 1 else (fun _ => Int32.ofInt 0) k) := ⟨_, rfl⟩
  have hH : HN D b [.inr (6, [.ref (b + 1), .ref (b + 2), .ref (b + 3), .ref (b + 4), .int (Int32.ofInt 0), .ref (b + 5), .int (Int32.ofInt 0), .int (Int32.ofInt 0), .ref (b + 6), .ref (b + 7), .ref (b + 8), .ref (b + 9), .int (Int32.ofInt 0), .int (Int32.ofInt 0), .int (Int32.ofInt 0), .int (Int32.ofInt 0), .int (Int32.ofInt 0), .ref (b + 10), .ref (b + 11), .ref (b + 12), .ref (b + 13)]), .inl (kA 1, (82, .inl f59)), .inl (kA 1, (82, .inl (fun _ => Int32.ofInt 0))), .inl (kA 1, (82, .inl (fun _ => Int32.ofInt 0))), .inl (kA 1, (7, .inl (fun _ => Int32.ofInt 0))), .inl (kA 1, (6, .inl (fun _ => Int32.ofInt 0))), .inl (kA 3, (1001, .inl (fun _ => Int32.ofInt 0))), .inl (kA 1, (10, .inl (fun _ => Int32.ofInt 0))), .inl (kA 1, (100, .inl (fun _ => Int32.ofInt 0))), .inl (kA 1, (120, .inl (fun _ => Int32.ofInt 0))), .inl (kA 1, (4, .inl (fun _ => Int32.ofInt 0))), .inl (kA 1, (4, .inl (fun _ => Int32.ofInt 0))), .inl (kA 1, (160, .inl (fun _ => Int32.ofInt 0))), .inl (kA 1, (40, .inl (fun _ => Int32.ofInt 0)))] H := by rw [hf59]; exact hH
  refine lv_aload_n hx hb nd_M_115 rfl (lv_at hl 0 rfl) ?_
  refine n_get hC hH 0 6 0 rfl rfl rfl ci_M (by decide) nf_M_7 rfl nd_M_116 ?_
  refine lv_iconst (v := Int32.ofInt 2) hx hb nd_M_119 rfl ?_
  refine lv_sipush (v := Int32.ofInt 1000) hx hb nd_M_120 (by decide) ?_
  refine n_iast hC hH hS 1 rfl rfl (by unfold vp_in; decide) nd_M_123 (fun H locs hH hS => ?_)
  obtain ⟨f64, hf64⟩ : ∃ f : Nat → Int32, f = (fun k => if k = (Int32.ofInt 2).toNatClampNeg then Int32.ofInt 1000 else (f59) k) := ⟨_, rfl⟩
  have hH : HN D b [.inr (6, [.ref (b + 1), .ref (b + 2), .ref (b + 3), .ref (b + 4), .int (Int32.ofInt 0), .ref (b + 5), .int (Int32.ofInt 0), .int (Int32.ofInt 0), .ref (b + 6), .ref (b + 7), .ref (b + 8), .ref (b + 9), .int (Int32.ofInt 0), .int (Int32.ofInt 0), .int (Int32.ofInt 0), .int (Int32.ofInt 0), .int (Int32.ofInt 0), .ref (b + 10), .ref (b + 11), .ref (b + 12), .ref (b + 13)]), .inl (kA 1, (82, .inl f64)), .inl (kA 1, (82, .inl (fun _ => Int32.ofInt 0))), .inl (kA 1, (82, .inl (fun _ => Int32.ofInt 0))), .inl (kA 1, (7, .inl (fun _ => Int32.ofInt 0))), .inl (kA 1, (6, .inl (fun _ => Int32.ofInt 0))), .inl (kA 3, (1001, .inl (fun _ => Int32.ofInt 0))), .inl (kA 1, (10, .inl (fun _ => Int32.ofInt 0))), .inl (kA 1, (100, .inl (fun _ => Int32.ofInt 0))), .inl (kA 1, (120, .inl (fun _ => Int32.ofInt 0))), .inl (kA 1, (4, .inl (fun _ => Int32.ofInt 0))), .inl (kA 1, (4, .inl (fun _ => Int32.ofInt 0))), .inl (kA 1, (160, .inl (fun _ => Int32.ofInt 0))), .inl (kA 1, (40, .inl (fun _ => Int32.ofInt 0)))] H := by rw [hf64]; exact hH
  refine lv_aload_n hx hb nd_M_124 rfl (lv_at hl 0 rfl) ?_
  refine n_get hC hH 0 6 0 rfl rfl rfl ci_M (by decide) nf_M_7 rfl nd_M_125 ?_
  refine lv_iconst (v := Int32.ofInt 3) hx hb nd_M_128 rfl ?_
  refine lv_iconst (v := Int32.ofInt (-1)) hx hb nd_M_129 rfl ?_
  refine n_iast hC hH hS 1 rfl rfl (by unfold vp_in; decide) nd_M_130 (fun H locs hH hS => ?_)
  obtain ⟨f69, hf69⟩ : ∃ f : Nat → Int32, f = (fun k => if k = (Int32.ofInt 3).toNatClampNeg then Int32.ofInt (-1) else (f64) k) := ⟨_, rfl⟩
  have hH : HN D b [.inr (6, [.ref (b + 1), .ref (b + 2), .ref (b + 3), .ref (b + 4), .int (Int32.ofInt 0), .ref (b + 5), .int (Int32.ofInt 0), .int (Int32.ofInt 0), .ref (b + 6), .ref (b + 7), .ref (b + 8), .ref (b + 9), .int (Int32.ofInt 0), .int (Int32.ofInt 0), .int (Int32.ofInt 0), .int (Int32.ofInt 0), .int (Int32.ofInt 0), .ref (b + 10), .ref (b + 11), .ref (b + 12), .ref (b + 13)]), .inl (kA 1, (82, .inl f69)), .inl (kA 1, (82, .inl (fun _ => Int32.ofInt 0))), .inl (kA 1, (82, .inl (fun _ => Int32.ofInt 0))), .inl (kA 1, (7, .inl (fun _ => Int32.ofInt 0))), .inl (kA 1, (6, .inl (fun _ => Int32.ofInt 0))), .inl (kA 3, (1001, .inl (fun _ => Int32.ofInt 0))), .inl (kA 1, (10, .inl (fun _ => Int32.ofInt 0))), .inl (kA 1, (100, .inl (fun _ => Int32.ofInt 0))), .inl (kA 1, (120, .inl (fun _ => Int32.ofInt 0))), .inl (kA 1, (4, .inl (fun _ => Int32.ofInt 0))), .inl (kA 1, (4, .inl (fun _ => Int32.ofInt 0))), .inl (kA 1, (160, .inl (fun _ => Int32.ofInt 0))), .inl (kA 1, (40, .inl (fun _ => Int32.ofInt 0)))] H := by rw [hf69]; exact hH
  refine lv_iconst (v := Int32.ofInt 0) hx hb nd_M_131 rfl ?_
  refine lv_istore_n (lv' := [(1, .int (Int32.ofInt 0)), (0, .ref b)]) hx hb nd_M_132 rfl hl (by decide) rfl (fun ls hl => ?_)
  refine lv_iload_n hx hb nd_M_133 rfl (lv_at hl 0 rfl) ?_
  refine lv_bipush (v := Int32.ofInt 10) hx hb nd_M_134 (by decide) ?_
  refine lv_icmp_ge (tgt := 155) hx hb nd_M_136 (by decide) (fun h => absurd h (by decide)) (fun _ => ?_)
  refine lv_aload_n hx hb nd_M_139 rfl (lv_at hl 1 rfl) ?_
  refine n_get hC hH 0 6 0 rfl rfl rfl ci_M (by decide) nf_M_7 rfl nd_M_140 ?_
  refine lv_bipush (v := Int32.ofInt 72) hx hb nd_M_143 (by decide) ?_
  refine lv_iload_n hx hb nd_M_145 rfl (lv_at hl 0 rfl) ?_
  refine lv_iadd hx hb nd_M_146 ?_
  refine lv_topi (fun y hy => ?_)
  obtain rfl : y = Int32.ofInt 72 := hy.trans (by decide)
  refine lv_iconst (v := Int32.ofInt (-1)) hx hb nd_M_147 rfl ?_
  refine n_iast hC hH hS 1 rfl rfl (by unfold vp_in; decide) nd_M_148 (fun H locs hH hS => ?_)
  obtain ⟨f81, hf81⟩ : ∃ f : Nat → Int32, f = (fun k => if k = (Int32.ofInt 72).toNatClampNeg then Int32.ofInt (-1) else (f69) k) := ⟨_, rfl⟩
  have hH : HN D b [.inr (6, [.ref (b + 1), .ref (b + 2), .ref (b + 3), .ref (b + 4), .int (Int32.ofInt 0), .ref (b + 5), .int (Int32.ofInt 0), .int (Int32.ofInt 0), .ref (b + 6), .ref (b + 7), .ref (b + 8), .ref (b + 9), .int (Int32.ofInt 0), .int (Int32.ofInt 0), .int (Int32.ofInt 0), .int (Int32.ofInt 0), .int (Int32.ofInt 0), .ref (b + 10), .ref (b + 11), .ref (b + 12), .ref (b + 13)]), .inl (kA 1, (82, .inl f81)), .inl (kA 1, (82, .inl (fun _ => Int32.ofInt 0))), .inl (kA 1, (82, .inl (fun _ => Int32.ofInt 0))), .inl (kA 1, (7, .inl (fun _ => Int32.ofInt 0))), .inl (kA 1, (6, .inl (fun _ => Int32.ofInt 0))), .inl (kA 3, (1001, .inl (fun _ => Int32.ofInt 0))), .inl (kA 1, (10, .inl (fun _ => Int32.ofInt 0))), .inl (kA 1, (100, .inl (fun _ => Int32.ofInt 0))), .inl (kA 1, (120, .inl (fun _ => Int32.ofInt 0))), .inl (kA 1, (4, .inl (fun _ => Int32.ofInt 0))), .inl (kA 1, (4, .inl (fun _ => Int32.ofInt 0))), .inl (kA 1, (160, .inl (fun _ => Int32.ofInt 0))), .inl (kA 1, (40, .inl (fun _ => Int32.ofInt 0)))] H := by rw [hf81]; exact hH
  refine lv_iinc (v := Int32.ofInt 1) (lv' := [(1, .int (Int32.ofInt 1)), (0, .ref b)]) hx hb nd_M_149 hl (k := 0) rfl (by decide) (by decide) rfl (fun ls hl => ?_)
  refine lv_goto (tgt := 133) hx hb nd_M_152 (by decide) ?_
  refine lv_iload_n hx hb nd_M_133 rfl (lv_at hl 0 rfl) ?_
  refine lv_bipush (v := Int32.ofInt 10) hx hb nd_M_134 (by decide) ?_
  refine lv_icmp_ge (tgt := 155) hx hb nd_M_136 (by decide) (fun h => absurd h (by decide)) (fun _ => ?_)
  refine lv_aload_n hx hb nd_M_139 rfl (lv_at hl 1 rfl) ?_
  refine n_get hC hH 0 6 0 rfl rfl rfl ci_M (by decide) nf_M_7 rfl nd_M_140 ?_
  refine lv_bipush (v := Int32.ofInt 72) hx hb nd_M_143 (by decide) ?_
  refine lv_iload_n hx hb nd_M_145 rfl (lv_at hl 0 rfl) ?_
  refine lv_iadd hx hb nd_M_146 ?_
  refine lv_topi (fun y hy => ?_)
  obtain rfl : y = Int32.ofInt 73 := hy.trans (by decide)
  refine lv_iconst (v := Int32.ofInt (-1)) hx hb nd_M_147 rfl ?_
  refine n_iast hC hH hS 1 rfl rfl (by unfold vp_in; decide) nd_M_148 (fun H locs hH hS => ?_)
  obtain ⟨f93, hf93⟩ : ∃ f : Nat → Int32, f = (fun k => if k = (Int32.ofInt 73).toNatClampNeg then Int32.ofInt (-1) else (f81) k) := ⟨_, rfl⟩
  have hH : HN D b [.inr (6, [.ref (b + 1), .ref (b + 2), .ref (b + 3), .ref (b + 4), .int (Int32.ofInt 0), .ref (b + 5), .int (Int32.ofInt 0), .int (Int32.ofInt 0), .ref (b + 6), .ref (b + 7), .ref (b + 8), .ref (b + 9), .int (Int32.ofInt 0), .int (Int32.ofInt 0), .int (Int32.ofInt 0), .int (Int32.ofInt 0), .int (Int32.ofInt 0), .ref (b + 10), .ref (b + 11), .ref (b + 12), .ref (b + 13)]), .inl (kA 1, (82, .inl f93)), .inl (kA 1, (82, .inl (fun _ => Int32.ofInt 0))), .inl (kA 1, (82, .inl (fun _ => Int32.ofInt 0))), .inl (kA 1, (7, .inl (fun _ => Int32.ofInt 0))), .inl (kA 1, (6, .inl (fun _ => Int32.ofInt 0))), .inl (kA 3, (1001, .inl (fun _ => Int32.ofInt 0))), .inl (kA 1, (10, .inl (fun _ => Int32.ofInt 0))), .inl (kA 1, (100, .inl (fun _ => Int32.ofInt 0))), .inl (kA 1, (120, .inl (fun _ => Int32.ofInt 0))), .inl (kA 1, (4, .inl (fun _ => Int32.ofInt 0))), .inl (kA 1, (4, .inl (fun _ => Int32.ofInt 0))), .inl (kA 1, (160, .inl (fun _ => Int32.ofInt 0))), .inl (kA 1, (40, .inl (fun _ => Int32.ofInt 0)))] H := by rw [hf93]; exact hH
  refine lv_iinc (v := Int32.ofInt 2) (lv' := [(1, .int (Int32.ofInt 2)), (0, .ref b)]) hx hb nd_M_149 hl (k := 0) rfl (by decide) (by decide) rfl (fun ls hl => ?_)
  refine lv_goto (tgt := 133) hx hb nd_M_152 (by decide) ?_
  refine lv_iload_n hx hb nd_M_133 rfl (lv_at hl 0 rfl) ?_
  refine lv_bipush (v := Int32.ofInt 10) hx hb nd_M_134 (by decide) ?_
  refine lv_icmp_ge (tgt := 155) hx hb nd_M_136 (by decide) (fun h => absurd h (by decide)) (fun _ => ?_)
  refine lv_aload_n hx hb nd_M_139 rfl (lv_at hl 1 rfl) ?_
  refine n_get hC hH 0 6 0 rfl rfl rfl ci_M (by decide) nf_M_7 rfl nd_M_140 ?_
  refine lv_bipush (v := Int32.ofInt 72) hx hb nd_M_143 (by decide) ?_
  refine lv_iload_n hx hb nd_M_145 rfl (lv_at hl 0 rfl) ?_
  refine lv_iadd hx hb nd_M_146 ?_
  refine lv_topi (fun y hy => ?_)
  obtain rfl : y = Int32.ofInt 74 := hy.trans (by decide)
  refine lv_iconst (v := Int32.ofInt (-1)) hx hb nd_M_147 rfl ?_
  refine n_iast hC hH hS 1 rfl rfl (by unfold vp_in; decide) nd_M_148 (fun H locs hH hS => ?_)
  obtain ⟨f105, hf105⟩ : ∃ f : Nat → Int32, f = (fun k => if k = (Int32.ofInt 74).toNatClampNeg then Int32.ofInt (-1) else (f93) k) := ⟨_, rfl⟩
  have hH : HN D b [.inr (6, [.ref (b + 1), .ref (b + 2), .ref (b + 3), .ref (b + 4), .int (Int32.ofInt 0), .ref (b + 5), .int (Int32.ofInt 0), .int (Int32.ofInt 0), .ref (b + 6), .ref (b + 7), .ref (b + 8), .ref (b + 9), .int (Int32.ofInt 0), .int (Int32.ofInt 0), .int (Int32.ofInt 0), .int (Int32.ofInt 0), .int (Int32.ofInt 0), .ref (b + 10), .ref (b + 11), .ref (b + 12), .ref (b + 13)]), .inl (kA 1, (82, .inl f105)), .inl (kA 1, (82, .inl (fun _ => Int32.ofInt 0))), .inl (kA 1, (82, .inl (fun _ => Int32.ofInt 0))), .inl (kA 1, (7, .inl (fun _ => Int32.ofInt 0))), .inl (kA 1, (6, .inl (fun _ => Int32.ofInt 0))), .inl (kA 3, (1001, .inl (fun _ => Int32.ofInt 0))), .inl (kA 1, (10, .inl (fun _ => Int32.ofInt 0))), .inl (kA 1, (100, .inl (fun _ => Int32.ofInt 0))), .inl (kA 1, (120, .inl (fun _ => Int32.ofInt 0))), .inl (kA 1, (4, .inl (fun _ => Int32.ofInt 0))), .inl (kA 1, (4, .inl (fun _ => Int32.ofInt 0))), .inl (kA 1, (160, .inl (fun _ => Int32.ofInt 0))), .inl (kA 1, (40, .inl (fun _ => Int32.ofInt 0)))] H := by rw [hf105]; exact hH
  refine lv_iinc (v := Int32.ofInt 3) (lv' := [(1, .int (Int32.ofInt 3)), (0, .ref b)]) hx hb nd_M_149 hl (k := 0) rfl (by decide) (by decide) rfl (fun ls hl => ?_)
  refine lv_goto (tgt := 133) hx hb nd_M_152 (by decide) ?_
  refine lv_iload_n hx hb nd_M_133 rfl (lv_at hl 0 rfl) ?_
  refine lv_bipush (v := Int32.ofInt 10) hx hb nd_M_134 (by decide) ?_
  refine lv_icmp_ge (tgt := 155) hx hb nd_M_136 (by decide) (fun h => absurd h (by decide)) (fun _ => ?_)
  refine lv_aload_n hx hb nd_M_139 rfl (lv_at hl 1 rfl) ?_
  refine n_get hC hH 0 6 0 rfl rfl rfl ci_M (by decide) nf_M_7 rfl nd_M_140 ?_
  refine lv_bipush (v := Int32.ofInt 72) hx hb nd_M_143 (by decide) ?_
  refine lv_iload_n hx hb nd_M_145 rfl (lv_at hl 0 rfl) ?_
  refine lv_iadd hx hb nd_M_146 ?_
  refine lv_topi (fun y hy => ?_)
  obtain rfl : y = Int32.ofInt 75 := hy.trans (by decide)
  refine lv_iconst (v := Int32.ofInt (-1)) hx hb nd_M_147 rfl ?_
  refine n_iast hC hH hS 1 rfl rfl (by unfold vp_in; decide) nd_M_148 (fun H locs hH hS => ?_)
  obtain ⟨f117, hf117⟩ : ∃ f : Nat → Int32, f = (fun k => if k = (Int32.ofInt 75).toNatClampNeg then Int32.ofInt (-1) else (f105) k) := ⟨_, rfl⟩
  have hH : HN D b [.inr (6, [.ref (b + 1), .ref (b + 2), .ref (b + 3), .ref (b + 4), .int (Int32.ofInt 0), .ref (b + 5), .int (Int32.ofInt 0), .int (Int32.ofInt 0), .ref (b + 6), .ref (b + 7), .ref (b + 8), .ref (b + 9), .int (Int32.ofInt 0), .int (Int32.ofInt 0), .int (Int32.ofInt 0), .int (Int32.ofInt 0), .int (Int32.ofInt 0), .ref (b + 10), .ref (b + 11), .ref (b + 12), .ref (b + 13)]), .inl (kA 1, (82, .inl f117)), .inl (kA 1, (82, .inl (fun _ => Int32.ofInt 0))), .inl (kA 1, (82, .inl (fun _ => Int32.ofInt 0))), .inl (kA 1, (7, .inl (fun _ => Int32.ofInt 0))), .inl (kA 1, (6, .inl (fun _ => Int32.ofInt 0))), .inl (kA 3, (1001, .inl (fun _ => Int32.ofInt 0))), .inl (kA 1, (10, .inl (fun _ => Int32.ofInt 0))), .inl (kA 1, (100, .inl (fun _ => Int32.ofInt 0))), .inl (kA 1, (120, .inl (fun _ => Int32.ofInt 0))), .inl (kA 1, (4, .inl (fun _ => Int32.ofInt 0))), .inl (kA 1, (4, .inl (fun _ => Int32.ofInt 0))), .inl (kA 1, (160, .inl (fun _ => Int32.ofInt 0))), .inl (kA 1, (40, .inl (fun _ => Int32.ofInt 0)))] H := by rw [hf117]; exact hH
  refine lv_iinc (v := Int32.ofInt 4) (lv' := [(1, .int (Int32.ofInt 4)), (0, .ref b)]) hx hb nd_M_149 hl (k := 0) rfl (by decide) (by decide) rfl (fun ls hl => ?_)
  refine lv_goto (tgt := 133) hx hb nd_M_152 (by decide) ?_
  refine lv_iload_n hx hb nd_M_133 rfl (lv_at hl 0 rfl) ?_
  refine lv_bipush (v := Int32.ofInt 10) hx hb nd_M_134 (by decide) ?_
  refine lv_icmp_ge (tgt := 155) hx hb nd_M_136 (by decide) (fun h => absurd h (by decide)) (fun _ => ?_)
  refine lv_aload_n hx hb nd_M_139 rfl (lv_at hl 1 rfl) ?_
  refine n_get hC hH 0 6 0 rfl rfl rfl ci_M (by decide) nf_M_7 rfl nd_M_140 ?_
  refine lv_bipush (v := Int32.ofInt 72) hx hb nd_M_143 (by decide) ?_
  refine lv_iload_n hx hb nd_M_145 rfl (lv_at hl 0 rfl) ?_
  refine lv_iadd hx hb nd_M_146 ?_
  refine lv_topi (fun y hy => ?_)
  obtain rfl : y = Int32.ofInt 76 := hy.trans (by decide)
  refine lv_iconst (v := Int32.ofInt (-1)) hx hb nd_M_147 rfl ?_
  refine n_iast hC hH hS 1 rfl rfl (by unfold vp_in; decide) nd_M_148 (fun H locs hH hS => ?_)
  obtain ⟨f129, hf129⟩ : ∃ f : Nat → Int32, f = (fun k => if k = (Int32.ofInt 76).toNatClampNeg then Int32.ofInt (-1) else (f117) k) := ⟨_, rfl⟩
  have hH : HN D b [.inr (6, [.ref (b + 1), .ref (b + 2), .ref (b + 3), .ref (b + 4), .int (Int32.ofInt 0), .ref (b + 5), .int (Int32.ofInt 0), .int (Int32.ofInt 0), .ref (b + 6), .ref (b + 7), .ref (b + 8), .ref (b + 9), .int (Int32.ofInt 0), .int (Int32.ofInt 0), .int (Int32.ofInt 0), .int (Int32.ofInt 0), .int (Int32.ofInt 0), .ref (b + 10), .ref (b + 11), .ref (b + 12), .ref (b + 13)]), .inl (kA 1, (82, .inl f129)), .inl (kA 1, (82, .inl (fun _ => Int32.ofInt 0))), .inl (kA 1, (82, .inl (fun _ => Int32.ofInt 0))), .inl (kA 1, (7, .inl (fun _ => Int32.ofInt 0))), .inl (kA 1, (6, .inl (fun _ => Int32.ofInt 0))), .inl (kA 3, (1001, .inl (fun _ => Int32.ofInt 0))), .inl (kA 1, (10, .inl (fun _ => Int32.ofInt 0))), .inl (kA 1, (100, .inl (fun _ => Int32.ofInt 0))), .inl (kA 1, (120, .inl (fun _ => Int32.ofInt 0))), .inl (kA 1, (4, .inl (fun _ => Int32.ofInt 0))), .inl (kA 1, (4, .inl (fun _ => Int32.ofInt 0))), .inl (kA 1, (160, .inl (fun _ => Int32.ofInt 0))), .inl (kA 1, (40, .inl (fun _ => Int32.ofInt 0)))] H := by rw [hf129]; exact hH
  refine lv_iinc (v := Int32.ofInt 5) (lv' := [(1, .int (Int32.ofInt 5)), (0, .ref b)]) hx hb nd_M_149 hl (k := 0) rfl (by decide) (by decide) rfl (fun ls hl => ?_)
  refine lv_goto (tgt := 133) hx hb nd_M_152 (by decide) ?_
  refine lv_iload_n hx hb nd_M_133 rfl (lv_at hl 0 rfl) ?_
  refine lv_bipush (v := Int32.ofInt 10) hx hb nd_M_134 (by decide) ?_
  refine lv_icmp_ge (tgt := 155) hx hb nd_M_136 (by decide) (fun h => absurd h (by decide)) (fun _ => ?_)
  refine lv_aload_n hx hb nd_M_139 rfl (lv_at hl 1 rfl) ?_
  refine n_get hC hH 0 6 0 rfl rfl rfl ci_M (by decide) nf_M_7 rfl nd_M_140 ?_
  refine lv_bipush (v := Int32.ofInt 72) hx hb nd_M_143 (by decide) ?_
  refine lv_iload_n hx hb nd_M_145 rfl (lv_at hl 0 rfl) ?_
  refine lv_iadd hx hb nd_M_146 ?_
  refine lv_topi (fun y hy => ?_)
  obtain rfl : y = Int32.ofInt 77 := hy.trans (by decide)
  refine lv_iconst (v := Int32.ofInt (-1)) hx hb nd_M_147 rfl ?_
  refine n_iast hC hH hS 1 rfl rfl (by unfold vp_in; decide) nd_M_148 (fun H locs hH hS => ?_)
  obtain ⟨f141, hf141⟩ : ∃ f : Nat → Int32, f = (fun k => if k = (Int32.ofInt 77).toNatClampNeg then Int32.ofInt (-1) else (f129) k) := ⟨_, rfl⟩
  have hH : HN D b [.inr (6, [.ref (b + 1), .ref (b + 2), .ref (b + 3), .ref (b + 4), .int (Int32.ofInt 0), .ref (b + 5), .int (Int32.ofInt 0), .int (Int32.ofInt 0), .ref (b + 6), .ref (b + 7), .ref (b + 8), .ref (b + 9), .int (Int32.ofInt 0), .int (Int32.ofInt 0), .int (Int32.ofInt 0), .int (Int32.ofInt 0), .int (Int32.ofInt 0), .ref (b + 10), .ref (b + 11), .ref (b + 12), .ref (b + 13)]), .inl (kA 1, (82, .inl f141)), .inl (kA 1, (82, .inl (fun _ => Int32.ofInt 0))), .inl (kA 1, (82, .inl (fun _ => Int32.ofInt 0))), .inl (kA 1, (7, .inl (fun _ => Int32.ofInt 0))), .inl (kA 1, (6, .inl (fun _ => Int32.ofInt 0))), .inl (kA 3, (1001, .inl (fun _ => Int32.ofInt 0))), .inl (kA 1, (10, .inl (fun _ => Int32.ofInt 0))), .inl (kA 1, (100, .inl (fun _ => Int32.ofInt 0))), .inl (kA 1, (120, .inl (fun _ => Int32.ofInt 0))), .inl (kA 1, (4, .inl (fun _ => Int32.ofInt 0))), .inl (kA 1, (4, .inl (fun _ => Int32.ofInt 0))), .inl (kA 1, (160, .inl (fun _ => Int32.ofInt 0))), .inl (kA 1, (40, .inl (fun _ => Int32.ofInt 0)))] H := by rw [hf141]; exact hH
  refine lv_iinc (v := Int32.ofInt 6) (lv' := [(1, .int (Int32.ofInt 6)), (0, .ref b)]) hx hb nd_M_149 hl (k := 0) rfl (by decide) (by decide) rfl (fun ls hl => ?_)
  refine lv_goto (tgt := 133) hx hb nd_M_152 (by decide) ?_
  refine lv_iload_n hx hb nd_M_133 rfl (lv_at hl 0 rfl) ?_
  refine lv_bipush (v := Int32.ofInt 10) hx hb nd_M_134 (by decide) ?_
  refine lv_icmp_ge (tgt := 155) hx hb nd_M_136 (by decide) (fun h => absurd h (by decide)) (fun _ => ?_)
  refine lv_aload_n hx hb nd_M_139 rfl (lv_at hl 1 rfl) ?_
  refine n_get hC hH 0 6 0 rfl rfl rfl ci_M (by decide) nf_M_7 rfl nd_M_140 ?_
  refine lv_bipush (v := Int32.ofInt 72) hx hb nd_M_143 (by decide) ?_
  refine lv_iload_n hx hb nd_M_145 rfl (lv_at hl 0 rfl) ?_
  refine lv_iadd hx hb nd_M_146 ?_
  refine lv_topi (fun y hy => ?_)
  obtain rfl : y = Int32.ofInt 78 := hy.trans (by decide)
  refine lv_iconst (v := Int32.ofInt (-1)) hx hb nd_M_147 rfl ?_
  refine n_iast hC hH hS 1 rfl rfl (by unfold vp_in; decide) nd_M_148 (fun H locs hH hS => ?_)
  obtain ⟨f153, hf153⟩ : ∃ f : Nat → Int32, f = (fun k => if k = (Int32.ofInt 78).toNatClampNeg then Int32.ofInt (-1) else (f141) k) := ⟨_, rfl⟩
  have hH : HN D b [.inr (6, [.ref (b + 1), .ref (b + 2), .ref (b + 3), .ref (b + 4), .int (Int32.ofInt 0), .ref (b + 5), .int (Int32.ofInt 0), .int (Int32.ofInt 0), .ref (b + 6), .ref (b + 7), .ref (b + 8), .ref (b + 9), .int (Int32.ofInt 0), .int (Int32.ofInt 0), .int (Int32.ofInt 0), .int (Int32.ofInt 0), .int (Int32.ofInt 0), .ref (b + 10), .ref (b + 11), .ref (b + 12), .ref (b + 13)]), .inl (kA 1, (82, .inl f153)), .inl (kA 1, (82, .inl (fun _ => Int32.ofInt 0))), .inl (kA 1, (82, .inl (fun _ => Int32.ofInt 0))), .inl (kA 1, (7, .inl (fun _ => Int32.ofInt 0))), .inl (kA 1, (6, .inl (fun _ => Int32.ofInt 0))), .inl (kA 3, (1001, .inl (fun _ => Int32.ofInt 0))), .inl (kA 1, (10, .inl (fun _ => Int32.ofInt 0))), .inl (kA 1, (100, .inl (fun _ => Int32.ofInt 0))), .inl (kA 1, (120, .inl (fun _ => Int32.ofInt 0))), .inl (kA 1, (4, .inl (fun _ => Int32.ofInt 0))), .inl (kA 1, (4, .inl (fun _ => Int32.ofInt 0))), .inl (kA 1, (160, .inl (fun _ => Int32.ofInt 0))), .inl (kA 1, (40, .inl (fun _ => Int32.ofInt 0)))] H := by rw [hf153]; exact hH
  refine lv_iinc (v := Int32.ofInt 7) (lv' := [(1, .int (Int32.ofInt 7)), (0, .ref b)]) hx hb nd_M_149 hl (k := 0) rfl (by decide) (by decide) rfl (fun ls hl => ?_)
  refine lv_goto (tgt := 133) hx hb nd_M_152 (by decide) ?_
  refine lv_iload_n hx hb nd_M_133 rfl (lv_at hl 0 rfl) ?_
  refine lv_bipush (v := Int32.ofInt 10) hx hb nd_M_134 (by decide) ?_
  refine lv_icmp_ge (tgt := 155) hx hb nd_M_136 (by decide) (fun h => absurd h (by decide)) (fun _ => ?_)
  refine lv_aload_n hx hb nd_M_139 rfl (lv_at hl 1 rfl) ?_
  refine n_get hC hH 0 6 0 rfl rfl rfl ci_M (by decide) nf_M_7 rfl nd_M_140 ?_
  refine lv_bipush (v := Int32.ofInt 72) hx hb nd_M_143 (by decide) ?_
  refine lv_iload_n hx hb nd_M_145 rfl (lv_at hl 0 rfl) ?_
  refine lv_iadd hx hb nd_M_146 ?_
  refine lv_topi (fun y hy => ?_)
  obtain rfl : y = Int32.ofInt 79 := hy.trans (by decide)
  refine lv_iconst (v := Int32.ofInt (-1)) hx hb nd_M_147 rfl ?_
  refine n_iast hC hH hS 1 rfl rfl (by unfold vp_in; decide) nd_M_148 (fun H locs hH hS => ?_)
  obtain ⟨f165, hf165⟩ : ∃ f : Nat → Int32, f = (fun k => if k = (Int32.ofInt 79).toNatClampNeg then Int32.ofInt (-1) else (f153) k) := ⟨_, rfl⟩
  have hH : HN D b [.inr (6, [.ref (b + 1), .ref (b + 2), .ref (b + 3), .ref (b + 4), .int (Int32.ofInt 0), .ref (b + 5), .int (Int32.ofInt 0), .int (Int32.ofInt 0), .ref (b + 6), .ref (b + 7), .ref (b + 8), .ref (b + 9), .int (Int32.ofInt 0), .int (Int32.ofInt 0), .int (Int32.ofInt 0), .int (Int32.ofInt 0), .int (Int32.ofInt 0), .ref (b + 10), .ref (b + 11), .ref (b + 12), .ref (b + 13)]), .inl (kA 1, (82, .inl f165)), .inl (kA 1, (82, .inl (fun _ => Int32.ofInt 0))), .inl (kA 1, (82, .inl (fun _ => Int32.ofInt 0))), .inl (kA 1, (7, .inl (fun _ => Int32.ofInt 0))), .inl (kA 1, (6, .inl (fun _ => Int32.ofInt 0))), .inl (kA 3, (1001, .inl (fun _ => Int32.ofInt 0))), .inl (kA 1, (10, .inl (fun _ => Int32.ofInt 0))), .inl (kA 1, (100, .inl (fun _ => Int32.ofInt 0))), .inl (kA 1, (120, .inl (fun _ => Int32.ofInt 0))), .inl (kA 1, (4, .inl (fun _ => Int32.ofInt 0))), .inl (kA 1, (4, .inl (fun _ => Int32.ofInt 0))), .inl (kA 1, (160, .inl (fun _ => Int32.ofInt 0))), .inl (kA 1, (40, .inl (fun _ => Int32.ofInt 0)))] H := by rw [hf165]; exact hH
  refine lv_iinc (v := Int32.ofInt 8) (lv' := [(1, .int (Int32.ofInt 8)), (0, .ref b)]) hx hb nd_M_149 hl (k := 0) rfl (by decide) (by decide) rfl (fun ls hl => ?_)
  refine lv_goto (tgt := 133) hx hb nd_M_152 (by decide) ?_
  refine lv_iload_n hx hb nd_M_133 rfl (lv_at hl 0 rfl) ?_
  refine lv_bipush (v := Int32.ofInt 10) hx hb nd_M_134 (by decide) ?_
  refine lv_icmp_ge (tgt := 155) hx hb nd_M_136 (by decide) (fun h => absurd h (by decide)) (fun _ => ?_)
  refine lv_aload_n hx hb nd_M_139 rfl (lv_at hl 1 rfl) ?_
  refine n_get hC hH 0 6 0 rfl rfl rfl ci_M (by decide) nf_M_7 rfl nd_M_140 ?_
  refine lv_bipush (v := Int32.ofInt 72) hx hb nd_M_143 (by decide) ?_
  refine lv_iload_n hx hb nd_M_145 rfl (lv_at hl 0 rfl) ?_
  refine lv_iadd hx hb nd_M_146 ?_
  refine lv_topi (fun y hy => ?_)
  obtain rfl : y = Int32.ofInt 80 := hy.trans (by decide)
  refine lv_iconst (v := Int32.ofInt (-1)) hx hb nd_M_147 rfl ?_
  refine n_iast hC hH hS 1 rfl rfl (by unfold vp_in; decide) nd_M_148 (fun H locs hH hS => ?_)
  obtain ⟨f177, hf177⟩ : ∃ f : Nat → Int32, f = (fun k => if k = (Int32.ofInt 80).toNatClampNeg then Int32.ofInt (-1) else (f165) k) := ⟨_, rfl⟩
  have hH : HN D b [.inr (6, [.ref (b + 1), .ref (b + 2), .ref (b + 3), .ref (b + 4), .int (Int32.ofInt 0), .ref (b + 5), .int (Int32.ofInt 0), .int (Int32.ofInt 0), .ref (b + 6), .ref (b + 7), .ref (b + 8), .ref (b + 9), .int (Int32.ofInt 0), .int (Int32.ofInt 0), .int (Int32.ofInt 0), .int (Int32.ofInt 0), .int (Int32.ofInt 0), .ref (b + 10), .ref (b + 11), .ref (b + 12), .ref (b + 13)]), .inl (kA 1, (82, .inl f177)), .inl (kA 1, (82, .inl (fun _ => Int32.ofInt 0))), .inl (kA 1, (82, .inl (fun _ => Int32.ofInt 0))), .inl (kA 1, (7, .inl (fun _ => Int32.ofInt 0))), .inl (kA 1, (6, .inl (fun _ => Int32.ofInt 0))), .inl (kA 3, (1001, .inl (fun _ => Int32.ofInt 0))), .inl (kA 1, (10, .inl (fun _ => Int32.ofInt 0))), .inl (kA 1, (100, .inl (fun _ => Int32.ofInt 0))), .inl (kA 1, (120, .inl (fun _ => Int32.ofInt 0))), .inl (kA 1, (4, .inl (fun _ => Int32.ofInt 0))), .inl (kA 1, (4, .inl (fun _ => Int32.ofInt 0))), .inl (kA 1, (160, .inl (fun _ => Int32.ofInt 0))), .inl (kA 1, (40, .inl (fun _ => Int32.ofInt 0)))] H := by rw [hf177]; exact hH
  refine lv_iinc (v := Int32.ofInt 9) (lv' := [(1, .int (Int32.ofInt 9)), (0, .ref b)]) hx hb nd_M_149 hl (k := 0) rfl (by decide) (by decide) rfl (fun ls hl => ?_)
  refine lv_goto (tgt := 133) hx hb nd_M_152 (by decide) ?_
  refine lv_iload_n hx hb nd_M_133 rfl (lv_at hl 0 rfl) ?_
  refine lv_bipush (v := Int32.ofInt 10) hx hb nd_M_134 (by decide) ?_
  refine lv_icmp_ge (tgt := 155) hx hb nd_M_136 (by decide) (fun h => absurd h (by decide)) (fun _ => ?_)
  refine lv_aload_n hx hb nd_M_139 rfl (lv_at hl 1 rfl) ?_
  refine n_get hC hH 0 6 0 rfl rfl rfl ci_M (by decide) nf_M_7 rfl nd_M_140 ?_
  refine lv_bipush (v := Int32.ofInt 72) hx hb nd_M_143 (by decide) ?_
  refine lv_iload_n hx hb nd_M_145 rfl (lv_at hl 0 rfl) ?_
  refine lv_iadd hx hb nd_M_146 ?_
  refine lv_topi (fun y hy => ?_)
  obtain rfl : y = Int32.ofInt 81 := hy.trans (by decide)
  refine lv_iconst (v := Int32.ofInt (-1)) hx hb nd_M_147 rfl ?_
  refine n_iast hC hH hS 1 rfl rfl (by unfold vp_in; decide) nd_M_148 (fun H locs hH hS => ?_)
  obtain ⟨f189, hf189⟩ : ∃ f : Nat → Int32, f = (fun k => if k = (Int32.ofInt 81).toNatClampNeg then Int32.ofInt (-1) else (f177) k) := ⟨_, rfl⟩
  have hH : HN D b [.inr (6, [.ref (b + 1), .ref (b + 2), .ref (b + 3), .ref (b + 4), .int (Int32.ofInt 0), .ref (b + 5), .int (Int32.ofInt 0), .int (Int32.ofInt 0), .ref (b + 6), .ref (b + 7), .ref (b + 8), .ref (b + 9), .int (Int32.ofInt 0), .int (Int32.ofInt 0), .int (Int32.ofInt 0), .int (Int32.ofInt 0), .int (Int32.ofInt 0), .ref (b + 10), .ref (b + 11), .ref (b + 12), .ref (b + 13)]), .inl (kA 1, (82, .inl f189)), .inl (kA 1, (82, .inl (fun _ => Int32.ofInt 0))), .inl (kA 1, (82, .inl (fun _ => Int32.ofInt 0))), .inl (kA 1, (7, .inl (fun _ => Int32.ofInt 0))), .inl (kA 1, (6, .inl (fun _ => Int32.ofInt 0))), .inl (kA 3, (1001, .inl (fun _ => Int32.ofInt 0))), .inl (kA 1, (10, .inl (fun _ => Int32.ofInt 0))), .inl (kA 1, (100, .inl (fun _ => Int32.ofInt 0))), .inl (kA 1, (120, .inl (fun _ => Int32.ofInt 0))), .inl (kA 1, (4, .inl (fun _ => Int32.ofInt 0))), .inl (kA 1, (4, .inl (fun _ => Int32.ofInt 0))), .inl (kA 1, (160, .inl (fun _ => Int32.ofInt 0))), .inl (kA 1, (40, .inl (fun _ => Int32.ofInt 0)))] H := by rw [hf189]; exact hH
  refine lv_iinc (v := Int32.ofInt 10) (lv' := [(1, .int (Int32.ofInt 10)), (0, .ref b)]) hx hb nd_M_149 hl (k := 0) rfl (by decide) (by decide) rfl (fun ls hl => ?_)
  refine lv_goto (tgt := 133) hx hb nd_M_152 (by decide) ?_
  refine lv_iload_n hx hb nd_M_133 rfl (lv_at hl 0 rfl) ?_
  refine lv_bipush (v := Int32.ofInt 10) hx hb nd_M_134 (by decide) ?_
  refine lv_icmp_ge (tgt := 155) hx hb nd_M_136 (by decide) (fun _ => ?_) (fun h => absurd (by decide) h)
  have hg : ∀ j, j < 82 → f189 j = (fun k => Int32.ofInt (if k = 4 then 1 else if k = 2 then 1000 else if k = 3 then -1 else if 72 ≤ k then -1 else 0)) j := by
    rw [hf189, hf177, hf165, hf153, hf141, hf129, hf117, hf105, hf93, hf81, hf69, hf64, hf59]
    decide +kernel
  have hH := hH.alt (i := 1) rfl (cell_congr hg)
  have hH : HN D b [.inr (6, [.ref (b + 1), .ref (b + 2), .ref (b + 3), .ref (b + 4), .int (Int32.ofInt 0), .ref (b + 5), .int (Int32.ofInt 0), .int (Int32.ofInt 0), .ref (b + 6), .ref (b + 7), .ref (b + 8), .ref (b + 9), .int (Int32.ofInt 0), .int (Int32.ofInt 0), .int (Int32.ofInt 0), .int (Int32.ofInt 0), .int (Int32.ofInt 0), .ref (b + 10), .ref (b + 11), .ref (b + 12), .ref (b + 13)]), .inl (kA 1, (82, .inl (fun k => Int32.ofInt (if k = 4 then 1 else if k = 2 then 1000 else if k = 3 then -1 else if 72 ≤ k then -1 else 0)))), .inl (kA 1, (82, .inl (fun _ => Int32.ofInt 0))), .inl (kA 1, (82, .inl (fun _ => Int32.ofInt 0))), .inl (kA 1, (7, .inl (fun _ => Int32.ofInt 0))), .inl (kA 1, (6, .inl (fun _ => Int32.ofInt 0))), .inl (kA 3, (1001, .inl (fun _ => Int32.ofInt 0))), .inl (kA 1, (10, .inl (fun _ => Int32.ofInt 0))), .inl (kA 1, (100, .inl (fun _ => Int32.ofInt 0))), .inl (kA 1, (120, .inl (fun _ => Int32.ofInt 0))), .inl (kA 1, (4, .inl (fun _ => Int32.ofInt 0))), .inl (kA 1, (4, .inl (fun _ => Int32.ofInt 0))), .inl (kA 1, (160, .inl (fun _ => Int32.ofInt 0))), .inl (kA 1, (40, .inl (fun _ => Int32.ofInt 0)))] H := hH
  refine W.widen (k := 13) (n := 1698) (Nat.le_of_ble_eq_true rfl) (Nat.le_of_ble_eq_true rfl) ?_
  exact n_vret hC hr hlocks hH hS nd_M_155
