/-! What each method does, over Ints. -/
def F_xq_typeOf_28 (Q : Int → cM → Prop) (l0 : Int) (M : cM) : Prop := if l0 = 59 then (Q 3 M) else (Q 4 M)
def F_xq_typeOf_14 (Q : Int → cM → Prop) (l0 : Int) (M : cM) : Prop := if l0 < 48 then (F_xq_typeOf_28 Q l0 M) else (if 57 < l0 then (F_xq_typeOf_28 Q l0 M) else (Q 2 M))
def F_xq_typeOf (Q : Int → cM → Prop) (a0 : Int) (M : cM) : Prop := if a0 < 97 then (F_xq_typeOf_14 Q a0 M) else (if 122 < a0 then (F_xq_typeOf_14 Q a0 M) else (Q 1 M))
def F_xq_next_138 (Q : cM → Prop) (k108 : cM → Prop) (M : cM) : Prop := ((0 : Int) ≤ (M 72 5) ∧ (M 72 5) < 120) ∧ (F_xq_typeOf (fun x6 M5 => if x6 = (M5 72 3) then (k108 (wr M5 72 5 (w32 ((M5 72 5) + 1)))) else (Q M5)) (M 71 (M 72 5)) M)
def F_xq_next_108 (Q : cM → Prop) : Nat → cM → Prop
  | 0, _ => False
  | n108 + 1, M => if (M 70 1) ≤ (M 72 5) then (Q M) else (if (M 72 3) = 1 then (F_xq_next_138 Q (F_xq_next_108 Q n108) M) else (if (M 72 3) = 2 then (F_xq_next_138 Q (F_xq_next_108 Q n108) M) else (Q M)))
def F_xq_next_52 (Q : cM → Prop) (M : cM) : Prop := if ((wr (wr M 72 5 (M 72 4)) 72 3 0) 70 1) ≤ ((wr (wr M 72 5 (M 72 4)) 72 3 0) 72 4) then (∃ e108, F_xq_next_108 Q e108 (wr (wr M 72 5 (M 72 4)) 72 3 0)) else (((0 : Int) ≤ ((wr (wr M 72 5 (M 72 4)) 72 3 0) 72 4) ∧ ((wr (wr M 72 5 (M 72 4)) 72 3 0) 72 4) < 120) ∧ (F_xq_typeOf (fun x11 M10 => ∃ e108, F_xq_next_108 Q e108 (wr (wr M10 72 3 x11) 72 5 (w32 (((wr M10 72 3 x11) 72 5) + 1)))) ((wr (wr M 72 5 (M 72 4)) 72 3 0) 71 ((wr (wr M 72 5 (M 72 4)) 72 3 0) 72 4)) (wr (wr M 72 5 (M 72 4)) 72 3 0)))
def F_xq_next_8 (Q : cM → Prop) : Nat → cM → Prop
  | 0, _ => False
  | n8 + 1, M => if (M 70 1) ≤ (M 72 4) then (F_xq_next_52 Q M) else (((0 : Int) ≤ (M 72 4) ∧ (M 72 4) < 120) ∧ (if (M 71 (M 72 4)) = 32 then (F_xq_next_8 Q n8 (wr M 72 4 (w32 ((M 72 4) + 1)))) else (F_xq_next_52 Q M)))
def F_xq_next (Q : cM → Prop) (M : cM) : Prop := ∃ e8, F_xq_next_8 Q e8 (wr M 72 4 (M 72 5))
def F_xq_isWord_24 (Q : Int → cM → Prop) (k0 : Nat) (M : cM) : Prop := Q (narK 4 0) M
def F_xq_isWord_28 (Q : Int → cM → Prop) (k0 : Nat) : Nat → Int → cM → Prop
  | 0, _, _ => False
  | n28 + 1, l2, M => F_xj_String_length (fun x7 M6 => if x7 ≤ l2 then (Q (narK 4 1) M6) else (((0 : Int) ≤ (w32 ((M6 72 4) + l2)) ∧ (w32 ((M6 72 4) + l2)) < 120) ∧ (F_xj_String_charAt (fun x11 M10 => if (M6 71 (w32 ((M6 72 4) + l2))) = x11 then (F_xq_isWord_28 Q k0 n28 (w32 (l2 + 1)) M10) else (Q (narK 4 0) M10)) k0 l2 M6))) k0 M
def F_xq_isWord (Q : Int → cM → Prop) (k0 : Nat) (M : cM) : Prop := if (M 72 3) = 1 then (F_xj_String_length (fun x3 M2 => if (w32 ((M 72 5) - (M 72 4))) = x3 then (∃ e28, F_xq_isWord_28 Q k0 e28 0 M2) else (F_xq_isWord_24 Q k0 M2)) k0 M) else (F_xq_isWord_24 Q k0 M)
def F_xq_takeWord (Q : Int → cM → Prop) (k0 : Nat) (M : cM) : Prop := F_xq_isWord (fun x2 M1 => if x2 = 0 then (Q (narK 4 0) M1) else (F_xq_next (fun M5 => Q (narK 4 1) M5) M1)) k0 M
def F_xq_numberAtHand_7 (Q : Int → cM → Prop) : Nat → Int → Int → cM → Prop
  | 0, _, _, _ => False
  | n7 + 1, l1, l2, M => if (M 72 5) ≤ l2 then (Q l1 M) else (((0 : Int) ≤ l2 ∧ l2 < 120) ∧ (F_xj_Math_min (fun x3 M2 => F_xq_numberAtHand_7 Q n7 x3 (w32 (l2 + 1)) M2) 10000 (w32 ((w32 ((w32 (l1 * 10)) + (M 71 l2))) - 48)) M))
def F_xq_numberAtHand (Q : Int → cM → Prop) (M : cM) : Prop := ∃ e7, F_xq_numberAtHand_7 Q e7 0 (M 72 4) M
def F_xq_takeNumber_26 (Q : Int → cM → Prop) (M : cM) : Prop := Q (-1) M
def F_xq_takeNumber_16 (Q : Int → cM → Prop) (l1 : Int) (s0 : Int) (M : cM) : Prop := if s0 < 0 then (F_xq_takeNumber_26 Q M) else (if s0 ≤ l1 then (F_xq_next (fun M4 => Q s0 M4) M) else (F_xq_takeNumber_26 Q M))
def F_xq_takeNumber (Q : Int → cM → Prop) (a0 : Int) (M : cM) : Prop := if (M 72 3) = 2 then (F_xq_numberAtHand (fun x8 M7 => F_xq_takeNumber_16 Q a0 x8 M7) M) else (F_xq_takeNumber_16 Q a0 (-1) M)
def F_xq_stackItem_73 (Q : Int → cM → Prop) (l1 : Int) (l2 : Int) (M : cM) : Prop := F_xg_setStack (fun M6 => Q (narK 4 1) M6) 50 73 6 l1 l2 M
def F_xq_stackItem_34 (Q : Int → cM → Prop) (k16 : Int → Int → Int → cM → Prop) (l1 : Int) (l2 : Int) (l3 : Int) (M : cM) : Prop := F_xq_takeNumber (fun x11 M10 => if 0 ≤ x11 then (((0 : Int) ≤ l3 ∧ l3 < 6) ∧ (k16 l1 (w32 (l2 + 1)) (w32 (l3 + 1)) (wr M10 73 l3 x11))) else (Q (narK 4 0) M10)) (w32 ((M 50 0) - 1)) M
def F_xq_stackItem_16 (Q : Int → cM → Prop) : Nat → Int → Int → Int → cM → Prop
  | 0, _, _, _, _ => False
  | n16 + 1, l1, l2, l3, M => if 6 ≤ l3 then (F_xq_stackItem_73 Q l1 l2 M) else (if l3 = 0 then (F_xq_stackItem_34 Q (F_xq_stackItem_16 Q n16) l1 l2 l3 M) else (if (M 72 3) = 2 then (F_xq_stackItem_34 Q (F_xq_stackItem_16 Q n16) l1 l2 l3 M) else (F_xq_stackItem_73 Q l1 l2 M)))
def F_xq_stackItem (Q : Int → cM → Prop) (M : cM) : Prop := F_xq_takeNumber (fun x2 M1 => if 0 ≤ x2 then (∃ e16, F_xq_stackItem_16 Q e16 x2 0 0 M1) else (Q (narK 4 0) M1)) 3 M
def F_xq_lampItem_51 (Q : Int → cM → Prop) (l1 : Int) (l2 : Int) (M : cM) : Prop := Q (narK 4 1) (wr (wr M 50 5 l1) 50 6 l2)
def F_xq_lampItem_44 (Q : Int → cM → Prop) (l1 : Int) (s0 : Int) (M : cM) : Prop := if 0 ≤ s0 then (F_xq_lampItem_51 Q l1 s0 M) else (Q (narK 4 0) M)
def F_xq_lampItem (Q : Int → cM → Prop) (M : cM) : Prop := F_xq_takeNumber (fun x2 M1 => if 0 ≤ x2 then (F_xq_takeWord (fun x6 M5 => if x6 = 0 then (F_xq_takeWord (fun x10 M9 => if x10 = 0 then (F_xq_lampItem_44 Q x2 (-1) M9) else (F_xq_takeNumber (fun x15 M14 => F_xq_lampItem_44 Q x2 x15 M14) 11 M9)) 3 M5) else (F_xq_lampItem_51 Q x2 (-1) M5)) 2 M1) else (Q (narK 4 0) M1)) 1000 M
def F_xq_loadItem (Q : Int → cM → Prop) (M : cM) : Prop := F_xq_takeNumber (fun x2 M1 => if 0 ≤ x2 then (Q (narK 4 1) (wr M1 50 4 x2)) else (Q (narK 4 0) M1)) 11 M
def F_xq_wordOf (Q : Nat → cM → Prop) (a0 : Int) (M : cM) : Prop := if a0 = 1 then (Q 5 M) else (if a0 = 2 then (Q 6 M) else (if a0 = 3 then (Q 7 M) else (if a0 = 4 then (Q 8 M) else (if a0 = 5 then (Q 9 M) else (if a0 = 6 then (Q 10 M) else (Q 11 M))))))
def F_xq_kindAtHand_2 (Q : Int → cM → Prop) : Nat → Int → cM → Prop
  | 0, _, _ => False
  | n2 + 1, l1, M => if 7 ≤ l1 then (Q (-1) M) else (F_xq_wordOf (fun x3 M2 => x3 < 14 ∧ (F_xq_isWord (fun x6 M5 => if x6 = 0 then (F_xq_kindAtHand_2 Q n2 (w32 (l1 + 1)) M5) else (Q l1 M5)) x3 M2)) l1 M)
def F_xq_kindAtHand (Q : Int → cM → Prop) (M : cM) : Prop := ∃ e2, F_xq_kindAtHand_2 Q e2 0 M
def F_xq_sheetItem_21 (Q : Int → cM → Prop) (M : cM) : Prop := Q (narK 4 0) M
def F_xq_sheetItem_75 (Q : Int → cM → Prop) (l1 : Int) (l2 : Int) (s0 : Int) (M : cM) : Prop := if 0 ≤ s0 then (F_xg_addSheet (fun x20 M19 => Q (narK 4 1) M19) 50 l1 l2 s0 M) else (Q (narK 4 0) M)
def F_xq_sheetItem_46 (Q : Int → cM → Prop) (l1 : Int) (s0 : Int) (M : cM) : Prop := if 0 ≤ s0 then (F_xq_takeWord (fun x15 M14 => if x15 = 0 then (F_xq_sheetItem_75 Q l1 s0 1000 M14) else (F_xq_takeNumber (fun x23 M22 => F_xq_sheetItem_75 Q l1 s0 x23 M22) 1000 M14)) 13 M) else (Q (narK 4 0) M)
def F_xq_sheetItem (Q : Int → cM → Prop) (M : cM) : Prop := F_xq_kindAtHand (fun x2 M1 => if x2 < 0 then (F_xq_sheetItem_21 Q M1) else (if (M1 50 0) < 10 then (F_xq_next (fun M6 => F_xq_takeWord (fun x10 M9 => if x10 = 0 then (F_xq_sheetItem_46 Q x2 0 M9) else (F_xq_takeNumber (fun x26 M25 => F_xq_sheetItem_46 Q x2 x26 M25) 11 M9)) 12 M6) M1) else (F_xq_sheetItem_21 Q M1))) M
def F_xq_item (Q : Int → cM → Prop) (M : cM) : Prop := F_xq_takeWord (fun x2 M1 => if x2 = 0 then (F_xq_takeWord (fun x6 M5 => if x6 = 0 then (F_xq_takeWord (fun x10 M9 => if x10 = 0 then (F_xq_sheetItem (fun x14 M13 => Q (narK 4 x14) M13) M9) else (F_xq_loadItem (fun x17 M16 => Q (narK 4 x17) M16) M9)) 4 M5) else (F_xq_lampItem (fun x20 M19 => Q (narK 4 x20) M19) M5)) 1 M1) else (F_xq_stackItem (fun x23 M22 => Q (narK 4 x23) M22) M1)) 0 M
def F_xq_items_57 (Q : Int → cM → Prop) (M : cM) : Prop := Q (w32 ((-1) - (M 72 4))) M
def F_xq_items_11 (Q : Int → cM → Prop) : Nat → Int → cM → Prop
  | 0, _, _ => False
  | n11 + 1, l1, M => if 120 < l1 then (F_xq_items_57 Q M) else (F_xq_item (fun x6 M5 => if x6 = 0 then (F_xq_items_57 Q M5) else (if (M5 72 3) = 0 then (Q l1 M5) else (if (M5 72 3) = 3 then (F_xq_next (fun M11 => F_xq_items_11 Q n11 (w32 (l1 + 1)) M11) M5) else (F_xq_items_57 Q M5)))) M)
def F_xq_items (Q : Int → cM → Prop) (M : cM) : Prop := F_xq_next (fun M1 => ∃ e11, F_xq_items_11 Q e11 1 M1) (wr M 72 5 0)
