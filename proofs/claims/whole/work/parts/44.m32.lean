/-! the class's tokens -/
def tyO (x : Int32) : Int32 := if x = 32 then 5 else if x = 10 then 5 else if x = 44 then 3 else if x = 59 then 4 else 6
def tyI (x : Int32) : Int32 := if x < 97 then (if x < 48 then tyO x else if 57 < x then tyO x else 2) else (if 122 < x then (if x < 48 then tyO x else if 57 < x then tyO x else 2) else 1)
def tyN (b : Nat) : Nat := if bL b = true then 1 else if bF b = true then 2 else if bB b = true then 5 else if b = 44 then 3 else if b = 59 then 4 else 6
theorem tyI_nI : ∀ b, b < 256 → tyI (nI b) = nI (tyN b) := by decide +kernel
theorem rX10_typeOf_0 {x : zX} {w : zWd} {im : zMem} {lv : Int64} {P : Int32 → zMem → Int64 → Prop} {x0 : Int32} (hO : zOK x w zyX10_typeOf 2) (hR : zRetI x w zyX10_typeOf P) (hN : zN x 126 126)
 (h : ((x0 < 97 → ((x0 < 48 → ((x0 = 32 → P 5 im lv) ∧
 (¬ (x0 = 32) → ((¬ (x0 = 10) → ((¬ (x0 = 44) → ((¬ (x0 = 59) → P 6 im lv) ∧
 (x0 = 59 → P 4 im lv))) ∧
 (x0 = 44 → P 3 im lv))) ∧
 (x0 = 10 → P 5 im lv))))) ∧
 (¬ (x0 < 48) → ((57 < x0 → ((x0 = 32 → P 5 im lv) ∧
 (¬ (x0 = 32) → ((¬ (x0 = 10) → ((¬ (x0 = 44) → ((¬ (x0 = 59) → P 6 im lv) ∧
 (x0 = 59 → P 4 im lv))) ∧
 (x0 = 44 → P 3 im lv))) ∧
 (x0 = 10 → P 5 im lv))))) ∧
 (¬ (57 < x0) → P 2 im lv))))) ∧
 (¬ (x0 < 97) → ((122 < x0 → ((x0 < 48 → ((x0 = 32 → P 5 im lv) ∧
 (¬ (x0 = 32) → ((¬ (x0 = 10) → ((¬ (x0 = 44) → ((¬ (x0 = 59) → P 6 im lv) ∧
 (x0 = 59 → P 4 im lv))) ∧
 (x0 = 44 → P 3 im lv))) ∧
 (x0 = 10 → P 5 im lv))))) ∧
 (¬ (x0 < 48) → ((57 < x0 → ((x0 = 32 → P 5 im lv) ∧
 (¬ (x0 = 32) → ((¬ (x0 = 10) → ((¬ (x0 = 44) → ((¬ (x0 = 59) → P 6 im lv) ∧
 (x0 = 59 → P 4 im lv))) ∧
 (x0 = 44 → P 3 im lv))) ∧
 (x0 = 10 → P 5 im lv))))) ∧
 (¬ (57 < x0) → P 2 im lv))))) ∧
 (¬ (122 < x0) → P 1 im lv))))) :
 zW x w 0 [(0, vI x0)] [] im lv := by
  refine zi_iload_n hO dX10_typeOf_0 0 rfl ?_
  refine zi_bipush (v := 97) hO dX10_typeOf_1 (by decide) ?_
  refine zi_icmp_lt (tgt := 14) hO dX10_typeOf_3 (by decide) (fun c1 => ?_) (fun c1 => ?_)
  · have h := h.1 c1
    refine zi_iload_n hO dX10_typeOf_14 0 rfl ?_
    refine zi_bipush (v := 48) hO dX10_typeOf_15 (by decide) ?_
    refine zi_icmp_lt (tgt := 28) hO dX10_typeOf_17 (by decide) (fun c2 => ?_) (fun c2 => ?_)
    · have h := h.1 c2
      refine zi_iload_n hO dX10_typeOf_28 0 rfl ?_
      refine zi_bipush (v := 32) hO dX10_typeOf_29 (by decide) ?_
      refine zi_icmp_eq (tgt := 40) hO dX10_typeOf_31 (by decide) (fun c3 => ?_) (fun c3 => ?_)
      · have h := h.1 c3
        refine zi_iconst (v := 5) hO dX10_typeOf_40 (by decide) ?_
        exact zr_I hO hR rfl dX10_typeOf_41 h
      · have h := h.2 c3
        refine zi_iload_n hO dX10_typeOf_34 0 rfl ?_
        refine zi_bipush (v := 10) hO dX10_typeOf_35 (by decide) ?_
        refine zi_icmp_ne (tgt := 42) hO dX10_typeOf_37 (by decide) (fun c4 => ?_) (fun c4 => ?_)
        · have h := h.1 c4
          refine zi_iload_n hO dX10_typeOf_42 0 rfl ?_
          refine zi_bipush (v := 44) hO dX10_typeOf_43 (by decide) ?_
          refine zi_icmp_ne (tgt := 52) hO dX10_typeOf_45 (by decide) (fun c5 => ?_) (fun c5 => ?_)
          · have h := h.1 c5
            refine zi_iload_n hO dX10_typeOf_52 0 rfl ?_
            refine zi_bipush (v := 59) hO dX10_typeOf_53 (by decide) ?_
            refine zi_icmp_ne (tgt := 62) hO dX10_typeOf_55 (by decide) (fun c6 => ?_) (fun c6 => ?_)
            · have h := h.1 c6
              refine zi_bipush (v := 6) hO dX10_typeOf_62 (by decide) ?_
              exact zr_I hO hR rfl dX10_typeOf_64 h
            · have h := h.2 c6
              refine zi_iconst (v := 4) hO dX10_typeOf_58 (by decide) ?_
              refine zi_goto (tgt := 64) hO dX10_typeOf_59 (by decide) ?_
              exact zr_I hO hR rfl dX10_typeOf_64 h
          · have h := h.2 c5
            refine zi_iconst (v := 3) hO dX10_typeOf_48 (by decide) ?_
            refine zi_goto (tgt := 64) hO dX10_typeOf_49 (by decide) ?_
            exact zr_I hO hR rfl dX10_typeOf_64 h
        · have h := h.2 c4
          refine zi_iconst (v := 5) hO dX10_typeOf_40 (by decide) ?_
          exact zr_I hO hR rfl dX10_typeOf_41 h
    · have h := h.2 c2
      refine zi_iload_n hO dX10_typeOf_20 0 rfl ?_
      refine zi_bipush (v := 57) hO dX10_typeOf_21 (by decide) ?_
      refine zi_icmp_gt (tgt := 28) hO dX10_typeOf_23 (by decide) (fun c7 => ?_) (fun c7 => ?_)
      · have h := h.1 c7
        refine zi_iload_n hO dX10_typeOf_28 0 rfl ?_
        refine zi_bipush (v := 32) hO dX10_typeOf_29 (by decide) ?_
        refine zi_icmp_eq (tgt := 40) hO dX10_typeOf_31 (by decide) (fun c8 => ?_) (fun c8 => ?_)
        · have h := h.1 c8
          refine zi_iconst (v := 5) hO dX10_typeOf_40 (by decide) ?_
          exact zr_I hO hR rfl dX10_typeOf_41 h
        · have h := h.2 c8
          refine zi_iload_n hO dX10_typeOf_34 0 rfl ?_
          refine zi_bipush (v := 10) hO dX10_typeOf_35 (by decide) ?_
          refine zi_icmp_ne (tgt := 42) hO dX10_typeOf_37 (by decide) (fun c9 => ?_) (fun c9 => ?_)
          · have h := h.1 c9
            refine zi_iload_n hO dX10_typeOf_42 0 rfl ?_
            refine zi_bipush (v := 44) hO dX10_typeOf_43 (by decide) ?_
            refine zi_icmp_ne (tgt := 52) hO dX10_typeOf_45 (by decide) (fun c10 => ?_) (fun c10 => ?_)
            · have h := h.1 c10
              refine zi_iload_n hO dX10_typeOf_52 0 rfl ?_
              refine zi_bipush (v := 59) hO dX10_typeOf_53 (by decide) ?_
              refine zi_icmp_ne (tgt := 62) hO dX10_typeOf_55 (by decide) (fun c11 => ?_) (fun c11 => ?_)
              · have h := h.1 c11
                refine zi_bipush (v := 6) hO dX10_typeOf_62 (by decide) ?_
                exact zr_I hO hR rfl dX10_typeOf_64 h
              · have h := h.2 c11
                refine zi_iconst (v := 4) hO dX10_typeOf_58 (by decide) ?_
                refine zi_goto (tgt := 64) hO dX10_typeOf_59 (by decide) ?_
                exact zr_I hO hR rfl dX10_typeOf_64 h
            · have h := h.2 c10
              refine zi_iconst (v := 3) hO dX10_typeOf_48 (by decide) ?_
              refine zi_goto (tgt := 64) hO dX10_typeOf_49 (by decide) ?_
              exact zr_I hO hR rfl dX10_typeOf_64 h
          · have h := h.2 c9
            refine zi_iconst (v := 5) hO dX10_typeOf_40 (by decide) ?_
            exact zr_I hO hR rfl dX10_typeOf_41 h
      · have h := h.2 c7
        refine zi_iconst (v := 2) hO dX10_typeOf_26 (by decide) ?_
        exact zr_I hO hR rfl dX10_typeOf_27 h
  · have h := h.2 c1
    refine zi_iload_n hO dX10_typeOf_6 0 rfl ?_
    refine zi_bipush (v := 122) hO dX10_typeOf_7 (by decide) ?_
    refine zi_icmp_gt (tgt := 14) hO dX10_typeOf_9 (by decide) (fun c12 => ?_) (fun c12 => ?_)
    · have h := h.1 c12
      refine zi_iload_n hO dX10_typeOf_14 0 rfl ?_
      refine zi_bipush (v := 48) hO dX10_typeOf_15 (by decide) ?_
      refine zi_icmp_lt (tgt := 28) hO dX10_typeOf_17 (by decide) (fun c13 => ?_) (fun c13 => ?_)
      · have h := h.1 c13
        refine zi_iload_n hO dX10_typeOf_28 0 rfl ?_
        refine zi_bipush (v := 32) hO dX10_typeOf_29 (by decide) ?_
        refine zi_icmp_eq (tgt := 40) hO dX10_typeOf_31 (by decide) (fun c14 => ?_) (fun c14 => ?_)
        · have h := h.1 c14
          refine zi_iconst (v := 5) hO dX10_typeOf_40 (by decide) ?_
          exact zr_I hO hR rfl dX10_typeOf_41 h
        · have h := h.2 c14
          refine zi_iload_n hO dX10_typeOf_34 0 rfl ?_
          refine zi_bipush (v := 10) hO dX10_typeOf_35 (by decide) ?_
          refine zi_icmp_ne (tgt := 42) hO dX10_typeOf_37 (by decide) (fun c15 => ?_) (fun c15 => ?_)
          · have h := h.1 c15
            refine zi_iload_n hO dX10_typeOf_42 0 rfl ?_
            refine zi_bipush (v := 44) hO dX10_typeOf_43 (by decide) ?_
            refine zi_icmp_ne (tgt := 52) hO dX10_typeOf_45 (by decide) (fun c16 => ?_) (fun c16 => ?_)
            · have h := h.1 c16
              refine zi_iload_n hO dX10_typeOf_52 0 rfl ?_
              refine zi_bipush (v := 59) hO dX10_typeOf_53 (by decide) ?_
              refine zi_icmp_ne (tgt := 62) hO dX10_typeOf_55 (by decide) (fun c17 => ?_) (fun c17 => ?_)
              · have h := h.1 c17
                refine zi_bipush (v := 6) hO dX10_typeOf_62 (by decide) ?_
                exact zr_I hO hR rfl dX10_typeOf_64 h
              · have h := h.2 c17
                refine zi_iconst (v := 4) hO dX10_typeOf_58 (by decide) ?_
                refine zi_goto (tgt := 64) hO dX10_typeOf_59 (by decide) ?_
                exact zr_I hO hR rfl dX10_typeOf_64 h
            · have h := h.2 c16
              refine zi_iconst (v := 3) hO dX10_typeOf_48 (by decide) ?_
              refine zi_goto (tgt := 64) hO dX10_typeOf_49 (by decide) ?_
              exact zr_I hO hR rfl dX10_typeOf_64 h
          · have h := h.2 c15
            refine zi_iconst (v := 5) hO dX10_typeOf_40 (by decide) ?_
            exact zr_I hO hR rfl dX10_typeOf_41 h
      · have h := h.2 c13
        refine zi_iload_n hO dX10_typeOf_20 0 rfl ?_
        refine zi_bipush (v := 57) hO dX10_typeOf_21 (by decide) ?_
        refine zi_icmp_gt (tgt := 28) hO dX10_typeOf_23 (by decide) (fun c18 => ?_) (fun c18 => ?_)
        · have h := h.1 c18
          refine zi_iload_n hO dX10_typeOf_28 0 rfl ?_
          refine zi_bipush (v := 32) hO dX10_typeOf_29 (by decide) ?_
          refine zi_icmp_eq (tgt := 40) hO dX10_typeOf_31 (by decide) (fun c19 => ?_) (fun c19 => ?_)
          · have h := h.1 c19
            refine zi_iconst (v := 5) hO dX10_typeOf_40 (by decide) ?_
            exact zr_I hO hR rfl dX10_typeOf_41 h
          · have h := h.2 c19
            refine zi_iload_n hO dX10_typeOf_34 0 rfl ?_
            refine zi_bipush (v := 10) hO dX10_typeOf_35 (by decide) ?_
            refine zi_icmp_ne (tgt := 42) hO dX10_typeOf_37 (by decide) (fun c20 => ?_) (fun c20 => ?_)
            · have h := h.1 c20
              refine zi_iload_n hO dX10_typeOf_42 0 rfl ?_
              refine zi_bipush (v := 44) hO dX10_typeOf_43 (by decide) ?_
              refine zi_icmp_ne (tgt := 52) hO dX10_typeOf_45 (by decide) (fun c21 => ?_) (fun c21 => ?_)
              · have h := h.1 c21
                refine zi_iload_n hO dX10_typeOf_52 0 rfl ?_
                refine zi_bipush (v := 59) hO dX10_typeOf_53 (by decide) ?_
                refine zi_icmp_ne (tgt := 62) hO dX10_typeOf_55 (by decide) (fun c22 => ?_) (fun c22 => ?_)
                · have h := h.1 c22
                  refine zi_bipush (v := 6) hO dX10_typeOf_62 (by decide) ?_
                  exact zr_I hO hR rfl dX10_typeOf_64 h
                · have h := h.2 c22
                  refine zi_iconst (v := 4) hO dX10_typeOf_58 (by decide) ?_
                  refine zi_goto (tgt := 64) hO dX10_typeOf_59 (by decide) ?_
                  exact zr_I hO hR rfl dX10_typeOf_64 h
              · have h := h.2 c21
                refine zi_iconst (v := 3) hO dX10_typeOf_48 (by decide) ?_
                refine zi_goto (tgt := 64) hO dX10_typeOf_49 (by decide) ?_
                exact zr_I hO hR rfl dX10_typeOf_64 h
            · have h := h.2 c20
              refine zi_iconst (v := 5) hO dX10_typeOf_40 (by decide) ?_
              exact zr_I hO hR rfl dX10_typeOf_41 h
        · have h := h.2 c18
          refine zi_iconst (v := 2) hO dX10_typeOf_26 (by decide) ?_
          exact zr_I hO hR rfl dX10_typeOf_27 h
    · have h := h.2 c12
      refine zi_iconst (v := 1) hO dX10_typeOf_12 (by decide) ?_
      exact zr_I hO hR rfl dX10_typeOf_13 h
theorem rX10_isName_0 {x : zX} {w : zWd} {im : zMem} {lv : Int64} {P : Int32 → zMem → Int64 → Prop} {y1 : Int64} (hO : zOK x w zyX10_isName 2) (hR : zRetI x w zyX10_isName P) (hN : zN x 126 126)
 (h : ((¬ ((im 16 0 3) = 1) → P 0 im lv) ∧
 ((im 16 0 3) = 1 → ((¬ ((lg_cmp lv y1) = 0) → P 0 im lv) ∧
 ((lg_cmp lv y1) = 0 → P 1 im lv))))) :
 zW x w 0 [(0, vR 16 0), (1, vL y1)] [] im lv := by
  refine zi_aload_n hO dX10_isName_0 0 rfl ?_
  refine zi_getI hO dX10_isName_1 fX10_22 rfl rfl (zI (by decide)) ?_
  refine zi_iconst (v := 1) hO dX10_isName_4 (by decide) ?_
  refine zi_icmp_ne (tgt := 21) hO dX10_isName_5 (by decide) (fun c1 => ?_) (fun c1 => ?_)
  · have h := h.1 c1
    refine zi_iconst (v := 0) hO dX10_isName_21 (by decide) ?_
    exact zr_Z hO hR rfl (Or.inl rfl) dX10_isName_22 h
  · have h := h.2 c1
    refine zi_aload_n hO dX10_isName_8 0 rfl ?_
    refine zi_getL hO dX10_isName_9 fX10_28 rfl rfl (zI (by decide)) ?_
    refine zi_lload_n hO dX10_isName_12 1 rfl ?_
    refine zi_lcmp hO dX10_isName_13 ?_
    refine zi_if_ne (tgt := 21) hO dX10_isName_14 (by decide) (fun c2 => ?_) (fun c2 => ?_)
    · have h := h.1 c2
      refine zi_iconst (v := 0) hO dX10_isName_21 (by decide) ?_
      exact zr_Z hO hR rfl (Or.inl rfl) dX10_isName_22 h
    · have h := h.2 c2
      refine zi_iconst (v := 1) hO dX10_isName_17 (by decide) ?_
      refine zi_goto (tgt := 22) hO dX10_isName_18 (by decide) ?_
      exact zr_Z hO hR rfl (Or.inr rfl) dX10_isName_22 h
theorem C_X10_typeOf (l : Launch) (w : zWd) (im : zMem) (lv : Int64) {s : Int32} : zSpecI l w 2 zyX10_typeOf [vI s] im lv (fun v im' lv' => v = tyI s ∧ im' = im ∧ lv' = lv) := by
  refine ze_I (by decide) (Nat.le_of_ble_eq_true rfl) (fun x hO hR hN => rX10_typeOf_0 hO hR hN ?_)
  repeat' first | apply And.intro | intro _
  all_goals first | rfl | simp [tyI, tyO, *]
theorem C_X10_isName (l : Launch) (w : zWd) (im : zMem) (lv : Int64) {y : Int64} : zSpecI l w 2 zyX10_isName [vR 16 0, vL y] im lv (fun v im' lv' => v = vB (im 16 0 3 = 1 ∧ lg_cmp lv y = 0) ∧ im' = im ∧ lv' = lv) := by
  refine ze_I (by decide) (Nat.le_of_ble_eq_true rfl) (fun x hO hR hN => rX10_isName_0 hO hR hN ?_)
  exact ⟨fun q => ⟨(if_neg (fun z => q z.1)).symm, rfl, rfl⟩, fun q => ⟨fun q2 => ⟨(if_neg (fun z => q2 z.2)).symm, rfl, rfl⟩, fun q2 => ⟨(if_pos ⟨q, q2⟩).symm, rfl, rfl⟩⟩⟩
theorem rX10_advance_0 {x : zX} {w : zWd} {im : zMem} {lv : Int64} {P : zMem → Int64 → Prop} (hO : zOK x w zyX10_advance 3) (hR : zRetV x w zyX10_advance P) (hN : zN x 126 126)
 (h : (((im 16 0 1) ≤ (im 16 0 2) → zW x w 106 [(0, vR 16 0), (1, vI 0)] [] (zwr (zwr im 16 0 4 (im 16 0 2)) 16 0 3 0) (0 : Int64)) ∧
 (¬ ((im 16 0 1) ≤ (im 16 0 2)) → (vp_in (im 16 0 2) 500 ∧ ((¬ ((tyI (im 17 0 (Int32.toNatClampNeg (im 16 0 2)))) = 5) → (((tyI (im 17 0 (Int32.toNatClampNeg (im 16 0 2)))) = 1 → zW x w 106 [(0, vR 16 0), (1, vI 1)] [] (zwr (zwr im 16 0 4 (im 16 0 2)) 16 0 3 (tyI (im 17 0 (Int32.toNatClampNeg (im 16 0 2))))) (0 : Int64)) ∧
 (¬ ((tyI (im 17 0 (Int32.toNatClampNeg (im 16 0 2)))) = 1) → ((¬ ((tyI (im 17 0 (Int32.toNatClampNeg (im 16 0 2)))) = 2) → zW x w 106 [(0, vR 16 0), (1, vI 0)] [] (zwr (zwr im 16 0 4 (im 16 0 2)) 16 0 3 (tyI (im 17 0 (Int32.toNatClampNeg (im 16 0 2))))) (0 : Int64)) ∧
 ((tyI (im 17 0 (Int32.toNatClampNeg (im 16 0 2)))) = 2 → zW x w 106 [(0, vR 16 0), (1, vI 1)] [] (zwr (zwr im 16 0 4 (im 16 0 2)) 16 0 3 (tyI (im 17 0 (Int32.toNatClampNeg (im 16 0 2))))) (0 : Int64)))))) ∧
 ((tyI (im 17 0 (Int32.toNatClampNeg (im 16 0 2)))) = 5 → zW x w 0 [(0, vR 16 0)] [] (zwr im 16 0 2 ((im 16 0 2) + 1)) lv)))))) :
 zW x w 0 [(0, vR 16 0)] [] im lv := by
  refine zi_aload_n hO dX10_advance_0 0 rfl ?_
  refine zi_getI hO dX10_advance_1 fX10_19 rfl rfl (zI (by decide)) ?_
  refine zi_aload_n hO dX10_advance_4 0 rfl ?_
  refine zi_getI hO dX10_advance_5 fX10_15 rfl rfl (zI (by decide)) ?_
  refine zi_icmp_ge (tgt := 40) hO dX10_advance_8 (by decide) (fun c1 => ?_) (fun c1 => ?_)
  · have h := h.1 c1
    refine zi_aload_n hO dX10_advance_40 0 rfl ?_
    refine zi_aload_n hO dX10_advance_41 0 rfl ?_
    refine zi_getI hO dX10_advance_42 fX10_19 rfl rfl (zI (by decide)) ?_
    refine zi_putI hO dX10_advance_45 gX10_25 rfl rfl (zI (by decide)) ?_
    refine zi_aload_n hO dX10_advance_48 0 rfl ?_
    refine zi_lconst (v := 0) hO dX10_advance_49 (by decide) ?_
    refine zi_putL hO dX10_advance_50 gX10_28 rfl (zI (by decide)) ?_
    refine zi_aload_n hO dX10_advance_53 0 rfl ?_
    refine zi_aload_n hO dX10_advance_54 0 rfl ?_
    refine zi_getI hO dX10_advance_55 fX10_19 rfl rfl (zI (by decide)) ?_
    refine zi_aload_n hO dX10_advance_58 0 rfl ?_
    refine zi_getI hO dX10_advance_59 fX10_15 rfl rfl (zI (by decide)) ?_
    refine zi_icmp_ge (tgt := 80) hO dX10_advance_62 (by decide) (fun _ => ?_) (fun c2 => absurd c1 c2)
    refine zi_iconst (v := 0) hO dX10_advance_80 (by decide) ?_
    refine zi_putI hO dX10_advance_81 gX10_22 rfl rfl (zI (by decide)) ?_
    refine zi_aload_n hO dX10_advance_84 0 rfl ?_
    refine zi_getI hO dX10_advance_85 fX10_22 rfl rfl (zI (by decide)) ?_
    refine zi_iconst (v := 1) hO dX10_advance_88 (by decide) ?_
    refine zi_icmp_eq (tgt := 100) hO dX10_advance_89 (by decide) (fun c3 => absurd (show (0 : Int32) = 1 from c3) (by decide)) (fun _ => ?_)
    refine zi_aload_n hO dX10_advance_92 0 rfl ?_
    refine zi_getI hO dX10_advance_93 fX10_22 rfl rfl (zI (by decide)) ?_
    refine zi_iconst (v := 2) hO dX10_advance_96 (by decide) ?_
    refine zi_icmp_ne (tgt := 104) hO dX10_advance_97 (by decide) (fun _ => ?_) (fun c4 => absurd (show (0 : Int32) = 2 from c4) (by decide))
    refine zi_iconst (v := 0) hO dX10_advance_104 (by decide) ?_
    refine zi_istore_n (L' := [(0, vR 16 0), (1, vI 0)]) hO dX10_advance_105 (by decide) rfl rfl ?_
    exact h
  · have h := h.2 c1
    refine zi_aload_n hO dX10_advance_11 0 rfl ?_
    refine zi_getR (r' := 17) (i' := 0) hO dX10_advance_12 fX10_9 rfl rfl (zI (by decide)) rfl ?_
    refine zi_aload_n hO dX10_advance_15 0 rfl ?_
    refine zi_getI hO dX10_advance_16 fX10_19 rfl rfl (zI (by decide)) ?_
    obtain ⟨s1, h⟩ := h
    refine zi_iald hO dX10_advance_19 rfl (zI (by decide)) s1 ?_
    refine zc_SI (as := [vI (im 17 0 (Int32.toNatClampNeg (im 16 0 2)))]) hO hN dX10_advance_20 kX10_37 (by decide) rfl (Nat.le_of_ble_eq_true rfl) rfl rfl (C_X10_typeOf _ _ _ _) (fun v2 im2 lv2 hp2 => ?_)
    rw [hp2.1, hp2.2.1, hp2.2.2]
    refine zi_iconst (v := 5) hO dX10_advance_23 (by decide) ?_
    refine zi_icmp_ne (tgt := 40) hO dX10_advance_24 (by decide) (fun c5 => ?_) (fun c5 => ?_)
    · have h := h.1 c5
      refine zi_aload_n hO dX10_advance_40 0 rfl ?_
      refine zi_aload_n hO dX10_advance_41 0 rfl ?_
      refine zi_getI hO dX10_advance_42 fX10_19 rfl rfl (zI (by decide)) ?_
      refine zi_putI hO dX10_advance_45 gX10_25 rfl rfl (zI (by decide)) ?_
      refine zi_aload_n hO dX10_advance_48 0 rfl ?_
      refine zi_lconst (v := 0) hO dX10_advance_49 (by decide) ?_
      refine zi_putL hO dX10_advance_50 gX10_28 rfl (zI (by decide)) ?_
      refine zi_aload_n hO dX10_advance_53 0 rfl ?_
      refine zi_aload_n hO dX10_advance_54 0 rfl ?_
      refine zi_getI hO dX10_advance_55 fX10_19 rfl rfl (zI (by decide)) ?_
      refine zi_aload_n hO dX10_advance_58 0 rfl ?_
      refine zi_getI hO dX10_advance_59 fX10_15 rfl rfl (zI (by decide)) ?_
      refine zi_icmp_ge (tgt := 80) hO dX10_advance_62 (by decide) (fun c6 => absurd c6 c1) (fun _ => ?_)
      refine zi_aload_n hO dX10_advance_65 0 rfl ?_
      refine zi_getR (r' := 17) (i' := 0) hO dX10_advance_66 fX10_9 rfl rfl (zI (by decide)) rfl ?_
      refine zi_aload_n hO dX10_advance_69 0 rfl ?_
      refine zi_getI hO dX10_advance_70 fX10_19 rfl rfl (zI (by decide)) ?_
      refine zi_iald hO dX10_advance_73 rfl (zI (by decide)) s1 ?_
      refine zc_SI (as := [vI (im 17 0 (Int32.toNatClampNeg (im 16 0 2)))]) hO hN dX10_advance_74 kX10_37 (by decide) rfl (Nat.le_of_ble_eq_true rfl) rfl rfl (C_X10_typeOf _ _ _ _) (fun v3 im3 lv3 hp3 => ?_)
      rw [hp3.1, hp3.2.1, hp3.2.2]
      refine zi_goto (tgt := 81) hO dX10_advance_77 (by decide) ?_
      refine zi_putI hO dX10_advance_81 gX10_22 rfl rfl (zI (by decide)) ?_
      refine zi_aload_n hO dX10_advance_84 0 rfl ?_
      refine zi_getI hO dX10_advance_85 fX10_22 rfl rfl (zI (by decide)) ?_
      refine zi_iconst (v := 1) hO dX10_advance_88 (by decide) ?_
      refine zi_icmp_eq (tgt := 100) hO dX10_advance_89 (by decide) (fun c7 => ?_) (fun c7 => ?_)
      · have h := h.1 c7
        refine zi_iconst (v := 1) hO dX10_advance_100 (by decide) ?_
        refine zi_goto (tgt := 105) hO dX10_advance_101 (by decide) ?_
        refine zi_istore_n (L' := [(0, vR 16 0), (1, vI 1)]) hO dX10_advance_105 (by decide) rfl rfl ?_
        exact h
      · have h := h.2 c7
        refine zi_aload_n hO dX10_advance_92 0 rfl ?_
        refine zi_getI hO dX10_advance_93 fX10_22 rfl rfl (zI (by decide)) ?_
        refine zi_iconst (v := 2) hO dX10_advance_96 (by decide) ?_
        refine zi_icmp_ne (tgt := 104) hO dX10_advance_97 (by decide) (fun c8 => ?_) (fun c8 => ?_)
        · have h := h.1 c8
          refine zi_iconst (v := 0) hO dX10_advance_104 (by decide) ?_
          refine zi_istore_n (L' := [(0, vR 16 0), (1, vI 0)]) hO dX10_advance_105 (by decide) rfl rfl ?_
          exact h
        · have h := h.2 c8
          refine zi_iconst (v := 1) hO dX10_advance_100 (by decide) ?_
          refine zi_goto (tgt := 105) hO dX10_advance_101 (by decide) ?_
          refine zi_istore_n (L' := [(0, vR 16 0), (1, vI 1)]) hO dX10_advance_105 (by decide) rfl rfl ?_
          exact h
    · have h := h.2 c5
      refine zi_aload_n hO dX10_advance_27 0 rfl ?_
      refine zi_dup hO dX10_advance_28 rfl ?_
      refine zi_getI hO dX10_advance_29 fX10_19 rfl rfl (zI (by decide)) ?_
      refine zi_iconst (v := 1) hO dX10_advance_32 (by decide) ?_
      refine zi_iadd hO dX10_advance_33 ?_
      refine zi_putI hO dX10_advance_34 gX10_19 rfl rfl (zI (by decide)) ?_
      refine zi_goto (tgt := 0) hO dX10_advance_37 (by decide) ?_
      exact h
theorem rX10_advance_106 {x : zX} {w : zWd} {im : zMem} {lv : Int64} {P : zMem → Int64 → Prop} {x1 : Int32} (hO : zOK x w zyX10_advance 3) (hR : zRetV x w zyX10_advance P) (hN : zN x 126 126)
 (h : ((x1 = 0 → (((im 16 0 3) = 0 → P im lv) ∧
 (¬ ((im 16 0 3) = 0) → P (zwr im 16 0 2 ((im 16 0 2) + 1)) lv))) ∧
 (¬ (x1 = 0) → (((im 16 0 1) ≤ (im 16 0 2) → ((¬ ((im 16 0 3) = 1) → ((((im 16 0 2) - (im 16 0 4)) ≤ 3 → P im lv) ∧
 (¬ (((im 16 0 2) - (im 16 0 4)) ≤ 3) → P (zwr im 16 0 3 6) lv))) ∧
 ((im 16 0 3) = 1 → ((((im 16 0 2) - (im 16 0 4)) ≤ 6 → P im lv) ∧
 (¬ (((im 16 0 2) - (im 16 0 4)) ≤ 6) → P (zwr im 16 0 3 6) lv))))) ∧
 (¬ ((im 16 0 1) ≤ (im 16 0 2)) → (vp_in (im 16 0 2) 500 ∧ ((¬ ((tyI (im 17 0 (Int32.toNatClampNeg (im 16 0 2)))) = (im 16 0 3)) → ((¬ ((im 16 0 3) = 1) → ((((im 16 0 2) - (im 16 0 4)) ≤ 3 → P im lv) ∧
 (¬ (((im 16 0 2) - (im 16 0 4)) ≤ 3) → P (zwr im 16 0 3 6) lv))) ∧
 ((im 16 0 3) = 1 → ((((im 16 0 2) - (im 16 0 4)) ≤ 6 → P im lv) ∧
 (¬ (((im 16 0 2) - (im 16 0 4)) ≤ 6) → P (zwr im 16 0 3 6) lv))))) ∧
 ((tyI (im 17 0 (Int32.toNatClampNeg (im 16 0 2)))) = (im 16 0 3) → ((¬ ((im 16 0 3) = 1) → zW x w 106 [(0, vR 16 0), (1, vI x1)] [] (zwr im 16 0 2 ((im 16 0 2) + 1)) (((lv * (10 : Int64)) + (Int32.toInt64 (im 17 0 (Int32.toNatClampNeg (im 16 0 2))))) - (48 : Int64))) ∧
 ((im 16 0 3) = 1 → zW x w 106 [(0, vR 16 0), (1, vI x1)] [] (zwr im 16 0 2 ((im 16 0 2) + 1)) ((lv <<< (Int32.toInt64 8 &&& 63)) ||| (Int32.toInt64 (im 17 0 (Int32.toNatClampNeg (im 16 0 2))))))))))))))) :
 zW x w 106 [(0, vR 16 0), (1, vI x1)] [] im lv := by
  refine zi_iload_n hO dX10_advance_106 1 rfl ?_
  refine zi_if_eq (tgt := 209) hO dX10_advance_107 (by decide) (fun c1 => ?_) (fun c1 => ?_)
  · have h := h.1 c1
    refine zi_iload_n hO dX10_advance_209 1 rfl ?_
    refine zi_if_eq (tgt := 248) hO dX10_advance_210 (by decide) (fun _ => ?_) (fun c2 => absurd c1 c2)
    refine zi_iload_n hO dX10_advance_248 1 rfl ?_
    refine zi_if_ne (tgt := 269) hO dX10_advance_249 (by decide) (fun c3 => absurd c1 c3) (fun _ => ?_)
    refine zi_aload_n hO dX10_advance_252 0 rfl ?_
    refine zi_getI hO dX10_advance_253 fX10_22 rfl rfl (zI (by decide)) ?_
    refine zi_if_eq (tgt := 269) hO dX10_advance_256 (by decide) (fun c4 => ?_) (fun c4 => ?_)
    · have h := h.1 c4
      exact zr_V hO hR rfl dX10_advance_269 h
    · have h := h.2 c4
      refine zi_aload_n hO dX10_advance_259 0 rfl ?_
      refine zi_dup hO dX10_advance_260 rfl ?_
      refine zi_getI hO dX10_advance_261 fX10_19 rfl rfl (zI (by decide)) ?_
      refine zi_iconst (v := 1) hO dX10_advance_264 (by decide) ?_
      refine zi_iadd hO dX10_advance_265 ?_
      refine zi_putI hO dX10_advance_266 gX10_19 rfl rfl (zI (by decide)) ?_
      exact zr_V hO hR rfl dX10_advance_269 h
  · have h := h.2 c1
    refine zi_aload_n hO dX10_advance_110 0 rfl ?_
    refine zi_getI hO dX10_advance_111 fX10_19 rfl rfl (zI (by decide)) ?_
    refine zi_aload_n hO dX10_advance_114 0 rfl ?_
    refine zi_getI hO dX10_advance_115 fX10_15 rfl rfl (zI (by decide)) ?_
    refine zi_icmp_ge (tgt := 209) hO dX10_advance_118 (by decide) (fun c5 => ?_) (fun c5 => ?_)
    · have h := h.1 c5
      refine zi_iload_n hO dX10_advance_209 1 rfl ?_
      refine zi_if_eq (tgt := 248) hO dX10_advance_210 (by decide) (fun c6 => absurd c6 c1) (fun _ => ?_)
      refine zi_aload_n hO dX10_advance_213 0 rfl ?_
      refine zi_getI hO dX10_advance_214 fX10_19 rfl rfl (zI (by decide)) ?_
      refine zi_aload_n hO dX10_advance_217 0 rfl ?_
      refine zi_getI hO dX10_advance_218 fX10_25 rfl rfl (zI (by decide)) ?_
      refine zi_isub hO dX10_advance_221 ?_
      refine zi_aload_n hO dX10_advance_222 0 rfl ?_
      refine zi_getI hO dX10_advance_223 fX10_22 rfl rfl (zI (by decide)) ?_
      refine zi_iconst (v := 1) hO dX10_advance_226 (by decide) ?_
      refine zi_icmp_ne (tgt := 235) hO dX10_advance_227 (by decide) (fun c7 => ?_) (fun c7 => ?_)
      · have h := h.1 c7
        refine zi_iconst (v := 3) hO dX10_advance_235 (by decide) ?_
        refine zi_icmp_le (tgt := 248) hO dX10_advance_236 (by decide) (fun c8 => ?_) (fun c8 => ?_)
        · have h := h.1 c8
          refine zi_iload_n hO dX10_advance_248 1 rfl ?_
          refine zi_if_ne (tgt := 269) hO dX10_advance_249 (by decide) (fun _ => ?_) (fun c9 => absurd c9 c1)
          exact zr_V hO hR rfl dX10_advance_269 h
        · have h := h.2 c8
          refine zi_aload_n hO dX10_advance_239 0 rfl ?_
          refine zi_bipush (v := 6) hO dX10_advance_240 (by decide) ?_
          refine zi_putI hO dX10_advance_242 gX10_22 rfl rfl (zI (by decide)) ?_
          refine zi_goto (tgt := 269) hO dX10_advance_245 (by decide) ?_
          exact zr_V hO hR rfl dX10_advance_269 h
      · have h := h.2 c7
        refine zi_bipush (v := 6) hO dX10_advance_230 (by decide) ?_
        refine zi_goto (tgt := 236) hO dX10_advance_232 (by decide) ?_
        refine zi_icmp_le (tgt := 248) hO dX10_advance_236 (by decide) (fun c10 => ?_) (fun c10 => ?_)
        · have h := h.1 c10
          refine zi_iload_n hO dX10_advance_248 1 rfl ?_
          refine zi_if_ne (tgt := 269) hO dX10_advance_249 (by decide) (fun _ => ?_) (fun c11 => absurd c11 c1)
          exact zr_V hO hR rfl dX10_advance_269 h
        · have h := h.2 c10
          refine zi_aload_n hO dX10_advance_239 0 rfl ?_
          refine zi_bipush (v := 6) hO dX10_advance_240 (by decide) ?_
          refine zi_putI hO dX10_advance_242 gX10_22 rfl rfl (zI (by decide)) ?_
          refine zi_goto (tgt := 269) hO dX10_advance_245 (by decide) ?_
          exact zr_V hO hR rfl dX10_advance_269 h
    · have h := h.2 c5
      refine zi_aload_n hO dX10_advance_121 0 rfl ?_
      refine zi_getR (r' := 17) (i' := 0) hO dX10_advance_122 fX10_9 rfl rfl (zI (by decide)) rfl ?_
      refine zi_aload_n hO dX10_advance_125 0 rfl ?_
      refine zi_getI hO dX10_advance_126 fX10_19 rfl rfl (zI (by decide)) ?_
      obtain ⟨s1, h⟩ := h
      refine zi_iald hO dX10_advance_129 rfl (zI (by decide)) s1 ?_
      refine zc_SI (as := [vI (im 17 0 (Int32.toNatClampNeg (im 16 0 2)))]) hO hN dX10_advance_130 kX10_37 (by decide) rfl (Nat.le_of_ble_eq_true rfl) rfl rfl (C_X10_typeOf _ _ _ _) (fun v2 im2 lv2 hp2 => ?_)
      rw [hp2.1, hp2.2.1, hp2.2.2]
      refine zi_aload_n hO dX10_advance_133 0 rfl ?_
      refine zi_getI hO dX10_advance_134 fX10_22 rfl rfl (zI (by decide)) ?_
      refine zi_icmp_ne (tgt := 209) hO dX10_advance_137 (by decide) (fun c12 => ?_) (fun c12 => ?_)
      · have h := h.1 c12
        refine zi_iload_n hO dX10_advance_209 1 rfl ?_
        refine zi_if_eq (tgt := 248) hO dX10_advance_210 (by decide) (fun c13 => absurd c13 c1) (fun _ => ?_)
        refine zi_aload_n hO dX10_advance_213 0 rfl ?_
        refine zi_getI hO dX10_advance_214 fX10_19 rfl rfl (zI (by decide)) ?_
        refine zi_aload_n hO dX10_advance_217 0 rfl ?_
        refine zi_getI hO dX10_advance_218 fX10_25 rfl rfl (zI (by decide)) ?_
        refine zi_isub hO dX10_advance_221 ?_
        refine zi_aload_n hO dX10_advance_222 0 rfl ?_
        refine zi_getI hO dX10_advance_223 fX10_22 rfl rfl (zI (by decide)) ?_
        refine zi_iconst (v := 1) hO dX10_advance_226 (by decide) ?_
        refine zi_icmp_ne (tgt := 235) hO dX10_advance_227 (by decide) (fun c14 => ?_) (fun c14 => ?_)
        · have h := h.1 c14
          refine zi_iconst (v := 3) hO dX10_advance_235 (by decide) ?_
          refine zi_icmp_le (tgt := 248) hO dX10_advance_236 (by decide) (fun c15 => ?_) (fun c15 => ?_)
          · have h := h.1 c15
            refine zi_iload_n hO dX10_advance_248 1 rfl ?_
            refine zi_if_ne (tgt := 269) hO dX10_advance_249 (by decide) (fun _ => ?_) (fun c16 => absurd c16 c1)
            exact zr_V hO hR rfl dX10_advance_269 h
          · have h := h.2 c15
            refine zi_aload_n hO dX10_advance_239 0 rfl ?_
            refine zi_bipush (v := 6) hO dX10_advance_240 (by decide) ?_
            refine zi_putI hO dX10_advance_242 gX10_22 rfl rfl (zI (by decide)) ?_
            refine zi_goto (tgt := 269) hO dX10_advance_245 (by decide) ?_
            exact zr_V hO hR rfl dX10_advance_269 h
        · have h := h.2 c14
          refine zi_bipush (v := 6) hO dX10_advance_230 (by decide) ?_
          refine zi_goto (tgt := 236) hO dX10_advance_232 (by decide) ?_
          refine zi_icmp_le (tgt := 248) hO dX10_advance_236 (by decide) (fun c17 => ?_) (fun c17 => ?_)
          · have h := h.1 c17
            refine zi_iload_n hO dX10_advance_248 1 rfl ?_
            refine zi_if_ne (tgt := 269) hO dX10_advance_249 (by decide) (fun _ => ?_) (fun c18 => absurd c18 c1)
            exact zr_V hO hR rfl dX10_advance_269 h
          · have h := h.2 c17
            refine zi_aload_n hO dX10_advance_239 0 rfl ?_
            refine zi_bipush (v := 6) hO dX10_advance_240 (by decide) ?_
            refine zi_putI hO dX10_advance_242 gX10_22 rfl rfl (zI (by decide)) ?_
            refine zi_goto (tgt := 269) hO dX10_advance_245 (by decide) ?_
            exact zr_V hO hR rfl dX10_advance_269 h
      · have h := h.2 c12
        refine zi_aload_n hO dX10_advance_140 0 rfl ?_
        refine zi_aload_n hO dX10_advance_141 0 rfl ?_
        refine zi_getI hO dX10_advance_142 fX10_22 rfl rfl (zI (by decide)) ?_
        refine zi_iconst (v := 1) hO dX10_advance_145 (by decide) ?_
        refine zi_icmp_ne (tgt := 170) hO dX10_advance_146 (by decide) (fun c19 => ?_) (fun c19 => ?_)
        · have h := h.1 c19
          refine zi_aload_n hO dX10_advance_170 0 rfl ?_
          refine zi_getL hO dX10_advance_171 fX10_28 rfl rfl (zI (by decide)) ?_
          refine zi_ldc2 (v := 10) hO dX10_advance_174 nX10_41 ?_
          refine zi_lmul hO dX10_advance_177 ?_
          refine zi_aload_n hO dX10_advance_178 0 rfl ?_
          refine zi_getR (r' := 17) (i' := 0) hO dX10_advance_179 fX10_9 rfl rfl (zI (by decide)) rfl ?_
          refine zi_aload_n hO dX10_advance_182 0 rfl ?_
          refine zi_getI hO dX10_advance_183 fX10_19 rfl rfl (zI (by decide)) ?_
          refine zi_iald hO dX10_advance_186 rfl (zI (by decide)) s1 ?_
          refine zi_i2l hO dX10_advance_187 ?_
          refine zi_ladd hO dX10_advance_188 ?_
          refine zi_ldc2 (v := 48) hO dX10_advance_189 nX10_43 ?_
          refine zi_lsub hO dX10_advance_192 ?_
          refine zi_putL hO dX10_advance_193 gX10_28 rfl (zI (by decide)) ?_
          refine zi_aload_n hO dX10_advance_196 0 rfl ?_
          refine zi_dup hO dX10_advance_197 rfl ?_
          refine zi_getI hO dX10_advance_198 fX10_19 rfl rfl (zI (by decide)) ?_
          refine zi_iconst (v := 1) hO dX10_advance_201 (by decide) ?_
          refine zi_iadd hO dX10_advance_202 ?_
          refine zi_putI hO dX10_advance_203 gX10_19 rfl rfl (zI (by decide)) ?_
          refine zi_goto (tgt := 106) hO dX10_advance_206 (by decide) ?_
          exact h
        · have h := h.2 c19
          refine zi_aload_n hO dX10_advance_149 0 rfl ?_
          refine zi_getL hO dX10_advance_150 fX10_28 rfl rfl (zI (by decide)) ?_
          refine zi_bipush (v := 8) hO dX10_advance_153 (by decide) ?_
          refine zi_lshl hO dX10_advance_155 ?_
          refine zi_aload_n hO dX10_advance_156 0 rfl ?_
          refine zi_getR (r' := 17) (i' := 0) hO dX10_advance_157 fX10_9 rfl rfl (zI (by decide)) rfl ?_
          refine zi_aload_n hO dX10_advance_160 0 rfl ?_
          refine zi_getI hO dX10_advance_161 fX10_19 rfl rfl (zI (by decide)) ?_
          refine zi_iald hO dX10_advance_164 rfl (zI (by decide)) s1 ?_
          refine zi_i2l hO dX10_advance_165 ?_
          refine zi_lor hO dX10_advance_166 ?_
          refine zi_goto (tgt := 193) hO dX10_advance_167 (by decide) ?_
          refine zi_putL hO dX10_advance_193 gX10_28 rfl (zI (by decide)) ?_
          refine zi_aload_n hO dX10_advance_196 0 rfl ?_
          refine zi_dup hO dX10_advance_197 rfl ?_
          refine zi_getI hO dX10_advance_198 fX10_19 rfl rfl (zI (by decide)) ?_
          refine zi_iconst (v := 1) hO dX10_advance_201 (by decide) ?_
          refine zi_iadd hO dX10_advance_202 ?_
          refine zi_putI hO dX10_advance_203 gX10_19 rfl rfl (zI (by decide)) ?_
          refine zi_goto (tgt := 106) hO dX10_advance_206 (by decide) ?_
          exact h
def TD (m im : zMem) : Prop := im 16 0 1 = nI (tn m) ∧ ∀ k, k < tn m → im 17 0 k = nI (tb m k)
def TkC (m im : zMem) (lv : Int64) (a : Nat) : Prop := im 16 0 2 = nI (te m a) ∧ im 16 0 3 = nI (kd m a) ∧ im 16 0 4 = nI a ∧ (kd m a = 1 → lv = Int64.ofNat (wd m a)) ∧ (kd m a = 2 → lv = Int64.ofNat (nv m a))
abbrev S16 : Nat → Nat → Nat → Prop := fun r _ k => r = 16 ∧ 2 ≤ k ∧ k ≤ 4
theorem TD.fr {m im im' : zMem} (h : TD m im) (h1 : im' 16 0 1 = im 16 0 1) (h2 : im' 17 = im 17) : TD m im' := by
  unfold TD at *
  rw [h1, h2]
  exact h
theorem z16 {im : zMem} {i k k' : Nat} {v : Int32} (h : ¬ k' = k) : zwr im 16 i k v 16 i k' = im 16 i k' := zwr_k h
theorem tyN_k {m : zMem} {a : Nat} : (tyN (tb m a) = 1 ↔ bL (tb m a) = true) ∧ (tyN (tb m a) = 2 ↔ bF (tb m a) = true) ∧ (tyN (tb m a) = 5 ↔ bB (tb m a) = true) := by
  generalize tb m a = b
  unfold tyN bL bF bB
  simp only [decide_eq_true_eq]
  refine ⟨?_, ?_, ?_⟩
  all_goals (repeat' split) <;> omega
theorem tyN_le (b : Nat) : tyN b ≤ 6 := by
  unfold tyN
  repeat' split
  all_goals omega
theorem l10 {v b : Nat} (hb : b < 2 ^ 31) (h48 : 48 ≤ b) : (Int64.ofNat v * 10) + Int32.toInt64 (nI b) - 48 = Int64.ofNat (10 * v + b - 48) := by
  rw [wI hb]
  have e1 : Int64.ofNat v * 10 = lN (v * 10) := lN_mul v 10
  rw [e1]
  have e2 : lN (v * 10) + Int64.ofNat b = lN (v * 10 + b) := lN_add _ _
  rw [e2]
  have e3 : lN (v * 10 + b) - 48 = lN (v * 10 + b - 48) := lN_sub (b := 48) (by omega)
  rw [e3, Nat.mul_comm v 10]
  rfl
theorem C_X10_advance (l : Launch) (w : zWd) {m im : zMem} (lv : Int64) (hT : WT m) (hD : TD m im) {c : Nat} (hc : im 16 0 2 = nI c) (hcn : c ≤ tn m) : zSpecV l w 3 zyX10_advance [vR 16 0] im lv (fun im' lv' => Fr S16 im im' ∧ TkC m im' lv' (sk m c)) := by
  refine ze_V (by decide) (Nat.le_of_ble_eq_true rfl) (fun x hO hR hN => ?_)
  have h5 := hT.1.2
  have hsle := sk_le hcn
  have hDf : ∀ {im1 : zMem}, Fr S16 im im1 → TD m im1 := fun h => hD.fr (h 16 0 1 (by omega)) (Fr.row h (fun _ _ z => absurd z.1 (by decide)))
  have hb : ∀ k, k < tn m → tb m k ≤ 255 := fun k hk => (hT.2 k hk).2
  generalize ha : sk m c = a at *
  -- names
  have kL : ∀ n d (im1 : zMem) (lv1 : Int64), n + d = tn m → a < tn m → bL (tb m a) = true → Fr S16 im im1 → im1 16 0 2 = nI d → im1 16 0 3 = nI 1 → im1 16 0 4 = nI a → a ≤ d → rnE bL m d = te m a → (te m a - a ≤ 6 → ∃ v, lv1 = Int64.ofNat v ∧ v < 256 ^ (d - a) ∧ wvP m (te m a - d) d v = wvP m (te m a - a) a 0) → zW x w 106 [(0, vR 16 0), (1, vI 1)] [] im1 lv1 := by
    intro n
    induction n with
    | zero =>
      intro d im1 lv1 hd g1 g2 g3 g4 g5 g6 g7 g8 g9
      have hrn := rnE_0 (p := bL) (m := m) (a := d) (by omega)
      have hte : te m a = d := by rw [← g8, hrn]
      refine rX10_advance_106 hO hR hN ?_
      rw [g4, g5, g6, (hDf g3).1, pk_sub (by omega), show (6 : Int32) = nI 6 from rfl, show (3 : Int32) = nI 3 from rfl, nI_leI (by omega) (by omega)]
      have hkd : kd m a = if te m a - a ≤ 6 then 1 else 6 := by unfold kd; rw [if_pos g1, if_pos g2]
      have fin : (nI (d - a) ≤ nI 6 → Fr S16 im im1 ∧ TkC m im1 lv1 a) ∧ (¬ nI (d - a) ≤ nI 6 → Fr S16 im (zwr im1 16 0 3 (nI 6)) ∧ TkC m (zwr im1 16 0 3 (nI 6)) lv1 a) := by
        rw [nI_leI (by omega) (by omega)]
        refine ⟨fun z => ⟨g3, by rw [hte]; exact g4, ?_, g6, fun hk => ?_, fun hk => ?_⟩, fun z => ⟨g3.wr (by decide), by rw [z16 (by decide), hte]; exact g4, ?_, by rw [z16 (by decide)]; exact g6, fun hk => ?_, fun hk => ?_⟩⟩
        · rw [hkd, if_pos (by omega)]; exact g5
        · obtain ⟨v, e1, -, e3⟩ := g9 (by omega)
          rw [e1]
          unfold wd
          rw [if_pos hk, ← e3, show te m a - d = 0 by omega, wvP]
        · rw [hkd, if_pos (by omega)] at hk; omega
        · rw [zwr_eq, hkd, if_neg (by omega)]
        · rw [hkd, if_neg (by omega)] at hk; omega
        · rw [hkd, if_neg (by omega)] at hk; omega
      exact ⟨fun z => absurd z (by decide), fun _ => ⟨fun _ => ⟨fun z => absurd rfl z, fun _ => fin⟩, fun z => absurd (by omega) z⟩⟩
    | succ n ih =>
      intro d im1 lv1 hd g1 g2 g3 g4 g5 g6 g7 g8 g9
      refine rX10_advance_106 hO hR hN ?_
      have hdl : d < tn m := by omega
      have hbd := hb d hdl
      rw [g4, g5, g6, (hDf g3).1, pk_sub (by omega), nI_clamp (show d < 2 ^ 31 by omega), (hDf g3).2 d hdl, tyI_nI _ (by omega), nI_1 d, show (6 : Int32) = nI 6 from rfl, show (3 : Int32) = nI 3 from rfl, nI_leI (show tn m < 2 ^ 31 by omega) (by omega), nI_eq (by have := tyN_le (tb m d); omega) (by decide), tyN_k.1]
      have hkd : kd m a = if te m a - a ≤ 6 then 1 else 6 := by unfold kd; rw [if_pos g1, if_pos g2]
      refine ⟨fun z => absurd z (by decide), fun _ => ⟨fun z => by omega, fun _ => ⟨vp_in_nI (by omega) (by decide), fun z => ⟨fun y => absurd rfl y, fun _ => ?_⟩, fun z => ⟨fun y => absurd rfl y, fun _ => ?_⟩⟩⟩⟩
      · have hrn := rnE_0 (p := bL) (m := m) (a := d) (fun y => z y.2)
        have hte : te m a = d := by rw [← g8, hrn]
        rw [nI_leI (by omega) (by omega)]
        refine ⟨fun z => ⟨g3, by rw [hte]; exact g4, ?_, g6, fun hk => ?_, fun hk => ?_⟩, fun z => ⟨g3.wr (by decide), by rw [z16 (by decide), hte]; exact g4, ?_, by rw [z16 (by decide)]; exact g6, fun hk => ?_, fun hk => ?_⟩⟩
        · rw [hkd, if_pos (by omega)]; exact g5
        · obtain ⟨v, e1, -, e3⟩ := g9 (by omega)
          rw [e1]
          unfold wd
          rw [if_pos hk, ← e3, show te m a - d = 0 by omega, wvP]
        · rw [hkd, if_pos (by omega)] at hk; omega
        · rw [zwr_eq, hkd, if_neg (by omega)]
        · rw [hkd, if_neg (by omega)] at hk; omega
        · rw [hkd, if_neg (by omega)] at hk; omega
      · have hrn := rnE_1 (p := bL) hdl z
        have hgt : d + 1 ≤ te m a := by rw [← g8, hrn]; exact rnE_ge _
        refine ih (d + 1) _ _ (by omega) g1 g2 (g3.wr (by decide)) zwr_eq (by rw [z16 (by decide)]; exact g5) (by rw [z16 (by decide)]; exact g6) (by omega) (by rw [← g8, hrn]) (fun h6 => ?_)
        obtain ⟨v, e1, e2, e3⟩ := g9 h6
        have hp : 256 ^ (d - a) ≤ 256 ^ 5 := Nat.pow_le_pow_right (by decide) (by omega)
        refine ⟨256 * v + tb m d, by rw [e1]; exact w8 (by omega) (by omega), ?_, ?_⟩
        · rw [show d + 1 - a = (d - a) + 1 by omega, Nat.pow_succ]; omega
        · rw [← e3, show te m a - d = (te m a - (d + 1)) + 1 by omega, wvP]
  -- numbers
  have kF : ∀ n d (im1 : zMem) (lv1 : Int64), n + d = tn m → a < tn m → bF (tb m a) = true → Fr S16 im im1 → im1 16 0 2 = nI d → im1 16 0 3 = nI 2 → im1 16 0 4 = nI a → a ≤ d → rnE bF m d = te m a → (te m a - a ≤ 3 → ∃ v, lv1 = Int64.ofNat v ∧ nvP m (te m a - d) d v = nv m a) → zW x w 106 [(0, vR 16 0), (1, vI 1)] [] im1 lv1 := by
    intro n
    induction n with
    | zero =>
      intro d im1 lv1 hd g1 g2 g3 g4 g5 g6 g7 g8 g9
      have hrn := rnE_0 (p := bF) (m := m) (a := d) (by omega)
      have hte : te m a = d := by rw [← g8, hrn]
      refine rX10_advance_106 hO hR hN ?_
      rw [g4, g5, g6, (hDf g3).1, pk_sub (by omega), show (6 : Int32) = nI 6 from rfl, show (3 : Int32) = nI 3 from rfl, nI_leI (by omega) (by omega)]
      have hkd : kd m a = if te m a - a ≤ 3 then 2 else 6 := by unfold kd; rw [if_pos g1, if_neg (fun z => bLF z g2), if_pos g2]
      have fin : (nI (d - a) ≤ nI 3 → Fr S16 im im1 ∧ TkC m im1 lv1 a) ∧ (¬ nI (d - a) ≤ nI 3 → Fr S16 im (zwr im1 16 0 3 (nI 6)) ∧ TkC m (zwr im1 16 0 3 (nI 6)) lv1 a) := by
        rw [nI_leI (by omega) (by omega)]
        refine ⟨fun z => ⟨g3, by rw [hte]; exact g4, ?_, g6, fun hk => ?_, fun hk => ?_⟩, fun z => ⟨g3.wr (by decide), by rw [z16 (by decide), hte]; exact g4, ?_, by rw [z16 (by decide)]; exact g6, fun hk => ?_, fun hk => ?_⟩⟩
        · rw [hkd, if_pos (by omega)]; exact g5
        · rw [hkd, if_pos (by omega)] at hk; omega
        · obtain ⟨v, e1, e3⟩ := g9 (by omega)
          rw [e1, ← e3, show te m a - d = 0 by omega, nvP]
        · rw [zwr_eq, hkd, if_neg (by omega)]
        · rw [hkd, if_neg (by omega)] at hk; omega
        · rw [hkd, if_neg (by omega)] at hk; omega
      exact ⟨fun z => absurd z (by decide), fun _ => ⟨fun _ => ⟨fun _ => fin, fun z => absurd z (by decide)⟩, fun z => absurd (by omega) z⟩⟩
    | succ n ih =>
      intro d im1 lv1 hd g1 g2 g3 g4 g5 g6 g7 g8 g9
      refine rX10_advance_106 hO hR hN ?_
      have hdl : d < tn m := by omega
      have hbd := hb d hdl
      rw [g4, g5, g6, (hDf g3).1, pk_sub (by omega), nI_clamp (show d < 2 ^ 31 by omega), (hDf g3).2 d hdl, tyI_nI _ (by omega), nI_1 d, show (6 : Int32) = nI 6 from rfl, show (3 : Int32) = nI 3 from rfl, nI_leI (show tn m < 2 ^ 31 by omega) (by omega), nI_eq (by have := tyN_le (tb m d); omega) (by decide), tyN_k.2.1]
      have hkd : kd m a = if te m a - a ≤ 3 then 2 else 6 := by unfold kd; rw [if_pos g1, if_neg (fun z => bLF z g2), if_pos g2]
      refine ⟨fun z => absurd z (by decide), fun _ => ⟨fun z => by omega, fun _ => ⟨vp_in_nI (by omega) (by decide), fun z => ⟨fun _ => ?_, fun y => absurd y (by decide)⟩, fun z => ⟨fun _ => ?_, fun y => absurd y (by decide)⟩⟩⟩⟩
      · have hrn := rnE_0 (p := bF) (m := m) (a := d) (fun y => z y.2)
        have hte : te m a = d := by rw [← g8, hrn]
        rw [nI_leI (by omega) (by omega)]
        refine ⟨fun z => ⟨g3, by rw [hte]; exact g4, ?_, g6, fun hk => ?_, fun hk => ?_⟩, fun z => ⟨g3.wr (by decide), by rw [z16 (by decide), hte]; exact g4, ?_, by rw [z16 (by decide)]; exact g6, fun hk => ?_, fun hk => ?_⟩⟩
        · rw [hkd, if_pos (by omega)]; exact g5
        · rw [hkd, if_pos (by omega)] at hk; omega
        · obtain ⟨v, e1, e3⟩ := g9 (by omega)
          rw [e1, ← e3, show te m a - d = 0 by omega, nvP]
        · rw [zwr_eq, hkd, if_neg (by omega)]
        · rw [hkd, if_neg (by omega)] at hk; omega
        · rw [hkd, if_neg (by omega)] at hk; omega
      · have hrn := rnE_1 (p := bF) hdl z
        have hgt : d + 1 ≤ te m a := by rw [← g8, hrn]; exact rnE_ge _
        have h48 : 48 ≤ tb m d := by unfold bF at z; rw [decide_eq_true_eq] at z; exact z.1
        refine ih (d + 1) _ _ (by omega) g1 g2 (g3.wr (by decide)) zwr_eq (by rw [z16 (by decide)]; exact g5) (by rw [z16 (by decide)]; exact g6) (by omega) (by rw [← g8, hrn]) (fun h6 => ?_)
        obtain ⟨v, e1, e3⟩ := g9 h6
        refine ⟨10 * v + tb m d - 48, by rw [e1]; exact l10 (by omega) h48, ?_⟩
        rw [← e3, show te m a - d = (te m a - (d + 1)) + 1 by omega, nvP]
  -- blanks, then the token
  have k0 : ∀ n d (im1 : zMem) (lv1 : Int64), n + d = tn m → sk m d = a → Fr S16 im im1 → im1 16 0 2 = nI d → zW x w 0 [(0, vR 16 0)] [] im1 lv1 := by
    intro n
    induction n with
    | zero =>
      intro d im1 lv1 hd e g1 g2
      have hda : d = a := by rw [← e]; unfold sk; rw [rnE_0 (by omega)]
      refine rX10_advance_0 hO hR hN ?_
      rw [g2, (hDf g1).1, nI_leI (by omega) (by omega)]
      refine ⟨fun _ => ?_, fun z => absurd (by omega) z⟩
      refine rX10_advance_106 hO hR hN ⟨fun _ => ⟨fun _ => ?_, fun z => absurd zwr_eq z⟩, fun z => absurd rfl z⟩
      have hkd := kd_0 (m := m) (a := a) (by omega)
      refine ⟨(g1.wr (by decide)).wr (by decide), ?_, ?_, ?_, fun hk => by omega, fun hk => by omega⟩
      · rw [z16 (by decide), z16 (by decide), g2]
        unfold te
        rw [if_neg (by omega), hda]
      · rw [zwr_eq, hkd]; rfl
      · rw [z16 (by decide), zwr_eq, hda]
    | succ n ih =>
      intro d im1 lv1 hd e g1 g2
      have hdl : d < tn m := by omega
      have hbd := hb d hdl
      refine rX10_advance_0 hO hR hN ?_
      have hty := tyN_le (tb m d)
      rw [g2, (hDf g1).1, nI_leI (by omega) (by omega), nI_clamp (show d < 2 ^ 31 by omega), (hDf g1).2 d hdl, tyI_nI _ (by omega), show (5 : Int32) = nI 5 from rfl, show (1 : Int32) = nI 1 from rfl, show (2 : Int32) = nI 2 from rfl, nI_eq (by omega) (by decide), nI_eq (by omega) (by decide), nI_eq (by omega) (by decide), nI_add]
      refine ⟨fun z => by omega, fun _ => ⟨vp_in_nI (by omega) (by decide), fun z => ?_, fun z => ?_⟩⟩
      · rw [tyN_k.2.2] at z
        have hda : d = a := by rw [← e]; unfold sk; rw [rnE_0 (fun y => z y.2)]
        subst hda
        refine ⟨fun y => ?_, fun y => ⟨fun u => ?_, fun u => ?_⟩⟩
        · have y' := tyN_k.1.mp y
          rw [y]
          refine kL (tn m - d) d _ _ (by omega) hdl y' ((g1.wr (by decide)).wr (by decide)) (by rw [z16 (by decide), z16 (by decide)]; exact g2) zwr_eq (by rw [z16 (by decide), zwr_eq]) (Nat.le_refl _) (te_L hdl y').symm (fun _ => ⟨0, rfl, by rw [Nat.sub_self]; decide, rfl⟩)
        · have y1 : ¬ bL (tb m d) = true := fun q => y (tyN_k.1.mpr q)
          have u1 : ¬ bF (tb m d) = true := fun q => u (tyN_k.2.1.mpr q)
          have hkd : kd m d = tyN (tb m d) := by
            unfold kd tyN
            rw [if_pos hdl, if_neg y1, if_neg u1, if_neg y1, if_neg u1, if_neg z]
          have hn0 := kd_n0 hdl
          refine rX10_advance_106 hO hR hN ⟨fun _ => ⟨fun q => ?_, fun q => ?_⟩, fun q => absurd rfl q⟩
          · exfalso
            rw [zwr_eq, show (0 : Int32) = nI 0 from rfl, nI_eq (by omega) (by decide)] at q
            omega
          · rw [z16 (by decide), z16 (by decide), g2, nI_1]
            refine ⟨((g1.wr (by decide)).wr (by decide)).wr (by decide), ?_, ?_, ?_, fun hk => ?_, fun hk => ?_⟩
            · rw [zwr_eq]
              unfold te
              rw [if_pos hdl, if_neg y1, if_neg u1]
            · rw [z16 (by decide), zwr_eq, hkd]
            · rw [z16 (by decide), z16 (by decide), zwr_eq]
            · omega
            · omega
        · have y' := tyN_k.2.1.mp u
          rw [u]
          exact kF (tn m - d) d _ _ (by omega) hdl y' ((g1.wr (by decide)).wr (by decide)) (by rw [z16 (by decide), z16 (by decide)]; exact g2) zwr_eq (by rw [z16 (by decide), zwr_eq]) (Nat.le_refl _) (te_F hdl y').symm (fun _ => ⟨0, rfl, rfl⟩)
      · rw [tyN_k.2.2] at z
        exact ih (d + 1) _ _ (by omega) (by rw [← e]; unfold sk; rw [rnE_1 hdl z]) (g1.wr (by decide)) zwr_eq
  exact k0 (tn m - c) c im lv (by omega) ha Fr.refl hc
