/-! the class: what its rows say, in the reference's words; its land and flights -/
theorem zq_none {c : Prop} [Decidable c] {k : Nat} (h : none = (if c then some k else none)) : ¬ c := fun q => by rw [if_pos q] at h; cases h
theorem zq_some {c : Prop} [Decidable c] {j k : Nat} (h : some j = (if c then some k else none)) : c ∧ j = k := by
  by_cases q : c
  · rw [if_pos q] at h; cases h; exact ⟨q, rfl⟩
  · rw [if_neg q] at h; cases h
theorem rX11_isRoom_0 {x : zX} {w : zWd} {im : zMem} {lv : Int64} {P : Int32 → zMem → Int64 → Prop} {x0 : Int32} (hO : zOK x w zyX11_isRoom 2) (hR : zRetI x w zyX11_isRoom P) (hN : zN x 126 126)
 (h : ((x0 < 0 → P 0 im lv) ∧
 (¬ (x0 < 0) → ((8 ≤ x0 → P 0 im lv) ∧
 (¬ (8 ≤ x0) → P 1 im lv))))) :
 zW x w 0 [(0, vI x0)] [] im lv := by
  refine zi_iload_n hO dX11_isRoom_0 0 rfl ?_
  refine zi_if_lt (tgt := 14) hO dX11_isRoom_1 (by decide) (fun c1 => ?_) (fun c1 => ?_)
  · have h := h.1 c1
    refine zi_iconst (v := 0) hO dX11_isRoom_14 (by decide) ?_
    exact zr_Z hO hR rfl (Or.inl rfl) dX11_isRoom_15 h
  · have h := h.2 c1
    refine zi_iload_n hO dX11_isRoom_4 0 rfl ?_
    refine zi_bipush (v := 8) hO dX11_isRoom_5 (by decide) ?_
    refine zi_icmp_ge (tgt := 14) hO dX11_isRoom_7 (by decide) (fun c2 => ?_) (fun c2 => ?_)
    · have h := h.1 c2
      refine zi_iconst (v := 0) hO dX11_isRoom_14 (by decide) ?_
      exact zr_Z hO hR rfl (Or.inl rfl) dX11_isRoom_15 h
    · have h := h.2 c2
      refine zi_iconst (v := 1) hO dX11_isRoom_10 (by decide) ?_
      refine zi_goto (tgt := 15) hO dX11_isRoom_11 (by decide) ?_
      exact zr_Z hO hR rfl (Or.inr rfl) dX11_isRoom_15 h
theorem rX11_isSlot_0 {x : zX} {w : zWd} {im : zMem} {lv : Int64} {P : Int32 → zMem → Int64 → Prop} {x0 : Int32} (hO : zOK x w zyX11_isSlot 2) (hR : zRetI x w zyX11_isSlot P) (hN : zN x 126 126)
 (h : ((x0 < 0 → P 0 im lv) ∧
 (¬ (x0 < 0) → ((48 ≤ x0 → P 0 im lv) ∧
 (¬ (48 ≤ x0) → P 1 im lv))))) :
 zW x w 0 [(0, vI x0)] [] im lv := by
  refine zi_iload_n hO dX11_isSlot_0 0 rfl ?_
  refine zi_if_lt (tgt := 14) hO dX11_isSlot_1 (by decide) (fun c1 => ?_) (fun c1 => ?_)
  · have h := h.1 c1
    refine zi_iconst (v := 0) hO dX11_isSlot_14 (by decide) ?_
    exact zr_Z hO hR rfl (Or.inl rfl) dX11_isSlot_15 h
  · have h := h.2 c1
    refine zi_iload_n hO dX11_isSlot_4 0 rfl ?_
    refine zi_bipush (v := 48) hO dX11_isSlot_5 (by decide) ?_
    refine zi_icmp_ge (tgt := 14) hO dX11_isSlot_7 (by decide) (fun c2 => ?_) (fun c2 => ?_)
    · have h := h.1 c2
      refine zi_iconst (v := 0) hO dX11_isSlot_14 (by decide) ?_
      exact zr_Z hO hR rfl (Or.inl rfl) dX11_isSlot_15 h
    · have h := h.2 c2
      refine zi_iconst (v := 1) hO dX11_isSlot_10 (by decide) ?_
      refine zi_goto (tgt := 15) hO dX11_isSlot_11 (by decide) ?_
      exact zr_Z hO hR rfl (Or.inr rfl) dX11_isSlot_15 h
theorem rX11_cellOf_0 {x : zX} {w : zWd} {im : zMem} {lv : Int64} {P : Int32 → zMem → Int64 → Prop} {x0 : Int32} {x1 : Int32} (hO : zOK x w zyX11_cellOf 2) (hR : zRetI x w zyX11_cellOf P) (hN : zN x 126 126)
 (h : P ((x0 * 48) + x1) im lv) :
 zW x w 0 [(0, vI x0), (1, vI x1)] [] im lv := by
  refine zi_iload_n hO dX11_cellOf_0 0 rfl ?_
  refine zi_bipush (v := 48) hO dX11_cellOf_1 (by decide) ?_
  refine zi_imul hO dX11_cellOf_3 ?_
  refine zi_iload_n hO dX11_cellOf_4 1 rfl ?_
  refine zi_iadd hO dX11_cellOf_5 ?_
  exact zr_I hO hR rfl dX11_cellOf_6 h
theorem rX11_found_0 {x : zX} {w : zWd} {im : zMem} {lv : Int64} {P : Int32 → zMem → Int64 → Prop} {x1 : Int32} (hO : zOK x w zyX11_found 2) (hR : zRetI x w zyX11_found P) (hN : zN x 126 126)
 (h : P ((-1000010) - x1) (zwr im 0 0 10 x1) lv) :
 zW x w 0 [(0, vR 0 0), (1, vI x1)] [] im lv := by
  refine zi_aload_n hO dX11_found_0 0 rfl ?_
  refine zi_iload_n hO dX11_found_1 1 rfl ?_
  refine zi_putI hO dX11_found_2 gX11_88 rfl rfl (zI (by decide)) ?_
  refine zi_ldcw (v := (-1000010)) hO dX11_found_5 nX11_353 ?_
  refine zi_iload_n hO dX11_found_8 1 rfl ?_
  refine zi_isub hO dX11_found_9 ?_
  exact zr_I hO hR rfl dX11_found_10 h
theorem rX11_withoutFinding_0 {x : zX} {w : zWd} {im : zMem} {lv : Int64} {P : Int32 → zMem → Int64 → Prop} {x1 : Int32} (hO : zOK x w zyX11_withoutFinding 2) (hR : zRetI x w zyX11_withoutFinding P) (hN : zN x 126 126)
 (h : P x1 (zwr im 0 0 10 0) lv) :
 zW x w 0 [(0, vR 0 0), (1, vI x1)] [] im lv := by
  refine zi_aload_n hO dX11_withoutFinding_0 0 rfl ?_
  refine zi_iconst (v := 0) hO dX11_withoutFinding_1 (by decide) ?_
  refine zi_putI hO dX11_withoutFinding_2 gX11_88 rfl rfl (zI (by decide)) ?_
  refine zi_iload_n hO dX11_withoutFinding_5 1 rfl ?_
  exact zr_I hO hR rfl dX11_withoutFinding_6 h
theorem rX3_stormsIn_0 {x : zX} {w : zWd} {im : zMem} {lv : Int64} {P : Int32 → zMem → Int64 → Prop} {x1 : Int32} {x2 : Int32} (hO : zOK x w zyX3_stormsIn 2) (hR : zRetI x w zyX3_stormsIn P) (hN : zN x 126 126)
 (h : (vp_in x1 20 ∧ ((¬ (((x2 >>> ((im 5 0 (Int32.toNatClampNeg x1)) &&& 31)) &&& 1) = 1) → P 0 im lv) ∧
 (((x2 >>> ((im 5 0 (Int32.toNatClampNeg x1)) &&& 31)) &&& 1) = 1 → P 1 im lv)))) :
 zW x w 0 [(0, vR 2 0), (1, vI x1), (2, vI x2)] [] im lv := by
  refine zi_iload_n hO dX3_stormsIn_0 2 rfl ?_
  refine zi_aload_n hO dX3_stormsIn_1 0 rfl ?_
  refine zi_getR (r' := 5) (i' := 0) hO dX3_stormsIn_2 fX3_18 rfl rfl (zI (by decide)) rfl ?_
  refine zi_iload_n hO dX3_stormsIn_5 1 rfl ?_
  obtain ⟨s1, h⟩ := h
  refine zi_iald hO dX3_stormsIn_6 rfl (zI (by decide)) s1 ?_
  refine zi_ishr hO dX3_stormsIn_7 ?_
  refine zi_iconst (v := 1) hO dX3_stormsIn_8 (by decide) ?_
  refine zi_iand hO dX3_stormsIn_9 ?_
  refine zi_iconst (v := 1) hO dX3_stormsIn_10 (by decide) ?_
  refine zi_icmp_ne (tgt := 18) hO dX3_stormsIn_11 (by decide) (fun c1 => ?_) (fun c1 => ?_)
  · have h := h.1 c1
    refine zi_iconst (v := 0) hO dX3_stormsIn_18 (by decide) ?_
    exact zr_Z hO hR rfl (Or.inl rfl) dX3_stormsIn_19 h
  · have h := h.2 c1
    refine zi_iconst (v := 1) hO dX3_stormsIn_14 (by decide) ?_
    refine zi_goto (tgt := 19) hO dX3_stormsIn_15 (by decide) ?_
    exact zr_Z hO hR rfl (Or.inr rfl) dX3_stormsIn_19 h
theorem rX2_hasWay_0 {x : zX} {w : zWd} {im : zMem} {lv : Int64} {P : Int32 → zMem → Int64 → Prop} {f0 : Nat} {x1 : Int32} (hO : zOK x w zyX2_hasWay 2) (hR : zRetI x w zyX2_hasWay P) (hN : zN x 126 126) (hf0 : f0 < 12)
 (h : ((x1 < 0 → P 0 im lv) ∧
 (¬ (x1 < 0) → (((im 12 f0 4) ≤ x1 → P 0 im lv) ∧
 (¬ ((im 12 f0 4) ≤ x1) → P 1 im lv))))) :
 zW x w 0 [(0, vR 12 f0), (1, vI x1)] [] im lv := by
  refine zi_iload_n hO dX2_hasWay_0 1 rfl ?_
  refine zi_if_lt (tgt := 16) hO dX2_hasWay_1 (by decide) (fun c1 => ?_) (fun c1 => ?_)
  · have h := h.1 c1
    refine zi_iconst (v := 0) hO dX2_hasWay_16 (by decide) ?_
    exact zr_Z hO hR rfl (Or.inl rfl) dX2_hasWay_17 h
  · have h := h.2 c1
    refine zi_iload_n hO dX2_hasWay_4 1 rfl ?_
    refine zi_aload_n hO dX2_hasWay_5 0 rfl ?_
    refine zi_getI hO dX2_hasWay_6 fX2_24 rfl rfl (zI hf0) ?_
    refine zi_icmp_ge (tgt := 16) hO dX2_hasWay_9 (by decide) (fun c2 => ?_) (fun c2 => ?_)
    · have h := h.1 c2
      refine zi_iconst (v := 0) hO dX2_hasWay_16 (by decide) ?_
      exact zr_Z hO hR rfl (Or.inl rfl) dX2_hasWay_17 h
    · have h := h.2 c2
      refine zi_iconst (v := 1) hO dX2_hasWay_12 (by decide) ?_
      refine zi_goto (tgt := 17) hO dX2_hasWay_13 (by decide) ?_
      exact zr_Z hO hR rfl (Or.inr rfl) dX2_hasWay_17 h
theorem rX2_costOf_0 {x : zX} {w : zWd} {im : zMem} {lv : Int64} {P : Int32 → zMem → Int64 → Prop} {f0 : Nat} {x1 : Int32} {x2 : Int32} (hO : zOK x w zyX2_costOf 2) (hR : zRetI x w zyX2_costOf P) (hN : zN x 126 126) (hf0 : f0 < 12)
 (h : P (((im 12 f0 3) * x2) + (10 * x1)) im lv) :
 zW x w 0 [(0, vR 12 f0), (1, vI x1), (2, vI x2)] [] im lv := by
  refine zi_aload_n hO dX2_costOf_0 0 rfl ?_
  refine zi_getI hO dX2_costOf_1 fX2_21 rfl rfl (zI hf0) ?_
  refine zi_iload_n hO dX2_costOf_4 2 rfl ?_
  refine zi_imul hO dX2_costOf_5 ?_
  refine zi_bipush (v := 10) hO dX2_costOf_6 (by decide) ?_
  refine zi_iload_n hO dX2_costOf_8 1 rfl ?_
  refine zi_imul hO dX2_costOf_9 ?_
  refine zi_iadd hO dX2_costOf_10 ?_
  exact zr_I hO hR rfl dX2_costOf_11 h
theorem rX8_tooMuchIn_0 {x : zX} {w : zWd} {im : zMem} {lv : Int64} {P : Int32 → zMem → Int64 → Prop} {x1 : Int32} (hO : zOK x w zyX8_tooMuchIn 3) (hR : zRetI x w zyX8_tooMuchIn P) (hN : zN x 126 126)
 (h : (vp_in x1 384 ∧ P (if 0 < ((im 21 0 (Int32.toNatClampNeg x1)) - (im 22 0 (Int32.toNatClampNeg x1))) then ((im 21 0 (Int32.toNatClampNeg x1)) - (im 22 0 (Int32.toNatClampNeg x1))) else 0) im lv)) :
 zW x w 0 [(0, vR 20 0), (1, vI x1)] [] im lv := by
  refine zi_iconst (v := 0) hO dX8_tooMuchIn_0 (by decide) ?_
  refine zi_aload_n hO dX8_tooMuchIn_1 0 rfl ?_
  refine zi_getR (r' := 21) (i' := 0) hO dX8_tooMuchIn_2 fX8_9 rfl rfl (zI (by decide)) rfl ?_
  refine zi_iload_n hO dX8_tooMuchIn_5 1 rfl ?_
  obtain ⟨s1, h⟩ := h
  refine zi_iald hO dX8_tooMuchIn_6 rfl (zI (by decide)) s1 ?_
  refine zi_aload_n hO dX8_tooMuchIn_7 0 rfl ?_
  refine zi_getR (r' := 22) (i' := 0) hO dX8_tooMuchIn_8 fX8_15 rfl rfl (zI (by decide)) rfl ?_
  refine zi_iload_n hO dX8_tooMuchIn_11 1 rfl ?_
  refine zi_iald hO dX8_tooMuchIn_12 rfl (zI (by decide)) s1 ?_
  refine zi_isub hO dX8_tooMuchIn_13 ?_
  refine zi_max hO hN (by decide) dX8_tooMuchIn_14 qX8_66 q_max_s q_math_i q_max_c (Nat.le_of_ble_eq_true rfl) ?_
  exact zr_I hO hR rfl dX8_tooMuchIn_17 h
theorem rX7_isMissing_0 {x : zX} {w : zWd} {im : zMem} {lv : Int64} {P : Int32 → zMem → Int64 → Prop} {f0 : Nat} (hO : zOK x w zyX7_isMissing 2) (hR : zRetI x w zyX7_isMissing P) (hN : zN x 126 126) (hf0 : f0 < 8)
 (h : ((¬ ((im 41 f0 0) = (-1)) → P 0 im lv) ∧
 ((im 41 f0 0) = (-1) → P 1 im lv))) :
 zW x w 0 [(0, vR 41 f0)] [] im lv := by
  refine zi_aload_n hO dX7_isMissing_0 0 rfl ?_
  refine zi_getI hO dX7_isMissing_1 fX7_11 rfl rfl (zI hf0) ?_
  refine zi_iconst (v := (-1)) hO dX7_isMissing_4 (by decide) ?_
  refine zi_icmp_ne (tgt := 12) hO dX7_isMissing_5 (by decide) (fun c1 => ?_) (fun c1 => ?_)
  · have h := h.1 c1
    refine zi_iconst (v := 0) hO dX7_isMissing_12 (by decide) ?_
    exact zr_Z hO hR rfl (Or.inl rfl) dX7_isMissing_13 h
  · have h := h.2 c1
    refine zi_iconst (v := 1) hO dX7_isMissing_8 (by decide) ?_
    refine zi_goto (tgt := 13) hO dX7_isMissing_9 (by decide) ?_
    exact zr_Z hO hR rfl (Or.inr rfl) dX7_isMissing_13 h
theorem rX7_hasPlaces_0 {x : zX} {w : zWd} {im : zMem} {lv : Int64} {P : Int32 → zMem → Int64 → Prop} {f0 : Nat} {x1 : Int32} {x2 : Int32} (hO : zOK x w zyX7_hasPlaces 2) (hR : zRetI x w zyX7_hasPlaces P) (hN : zN x 126 126) (hf0 : f0 < 8)
 (h : ((x1 < 0 → P 0 im lv) ∧
 (¬ (x1 < 0) → ((x2 < 0 → P 0 im lv) ∧
 (¬ (x2 < 0) → (((im 41 f0 1) < x2 → P 0 im lv) ∧
 (¬ ((im 41 f0 1) < x2) → ((((im 41 f0 1) - x2) < x1 → P 0 im lv) ∧
 (¬ (((im 41 f0 1) - x2) < x1) → P 1 im lv))))))))) :
 zW x w 0 [(0, vR 41 f0), (1, vI x1), (2, vI x2)] [] im lv := by
  refine zi_iload_n hO dX7_hasPlaces_0 1 rfl ?_
  refine zi_if_lt (tgt := 30) hO dX7_hasPlaces_1 (by decide) (fun c1 => ?_) (fun c1 => ?_)
  · have h := h.1 c1
    refine zi_iconst (v := 0) hO dX7_hasPlaces_30 (by decide) ?_
    exact zr_Z hO hR rfl (Or.inl rfl) dX7_hasPlaces_31 h
  · have h := h.2 c1
    refine zi_iload_n hO dX7_hasPlaces_4 2 rfl ?_
    refine zi_if_lt (tgt := 30) hO dX7_hasPlaces_5 (by decide) (fun c2 => ?_) (fun c2 => ?_)
    · have h := h.1 c2
      refine zi_iconst (v := 0) hO dX7_hasPlaces_30 (by decide) ?_
      exact zr_Z hO hR rfl (Or.inl rfl) dX7_hasPlaces_31 h
    · have h := h.2 c2
      refine zi_iload_n hO dX7_hasPlaces_8 2 rfl ?_
      refine zi_aload_n hO dX7_hasPlaces_9 0 rfl ?_
      refine zi_getI hO dX7_hasPlaces_10 fX7_15 rfl rfl (zI hf0) ?_
      refine zi_icmp_gt (tgt := 30) hO dX7_hasPlaces_13 (by decide) (fun c3 => ?_) (fun c3 => ?_)
      · have h := h.1 c3
        refine zi_iconst (v := 0) hO dX7_hasPlaces_30 (by decide) ?_
        exact zr_Z hO hR rfl (Or.inl rfl) dX7_hasPlaces_31 h
      · have h := h.2 c3
        refine zi_iload_n hO dX7_hasPlaces_16 1 rfl ?_
        refine zi_aload_n hO dX7_hasPlaces_17 0 rfl ?_
        refine zi_getI hO dX7_hasPlaces_18 fX7_15 rfl rfl (zI hf0) ?_
        refine zi_iload_n hO dX7_hasPlaces_21 2 rfl ?_
        refine zi_isub hO dX7_hasPlaces_22 ?_
        refine zi_icmp_gt (tgt := 30) hO dX7_hasPlaces_23 (by decide) (fun c4 => ?_) (fun c4 => ?_)
        · have h := h.1 c4
          refine zi_iconst (v := 0) hO dX7_hasPlaces_30 (by decide) ?_
          exact zr_Z hO hR rfl (Or.inl rfl) dX7_hasPlaces_31 h
        · have h := h.2 c4
          refine zi_iconst (v := 1) hO dX7_hasPlaces_26 (by decide) ?_
          refine zi_goto (tgt := 31) hO dX7_hasPlaces_27 (by decide) ?_
          exact zr_Z hO hR rfl (Or.inr rfl) dX7_hasPlaces_31 h
theorem rX11_exchangeDelays_0 {x : zX} {w : zWd} {im : zMem} {lv : Int64} {P : zMem → Int64 → Prop} {f0 : Nat} {f1 : Nat} (hO : zOK x w zyX11_exchangeDelays 2) (hR : zRetV x w zyX11_exchangeDelays P) (hN : zN x 126 126) (hf0 : f0 < 12) (hf1 : f1 < 12)
 (h : P (zwr (zwr im 12 f0 9 (im 12 f1 9)) 12 f1 9 (im 12 f0 9)) lv) :
 zW x w 0 [(0, vR 12 f0), (1, vR 12 f1)] [] im lv := by
  refine zi_aload_n hO dX11_exchangeDelays_0 0 rfl ?_
  refine zi_getI hO dX11_exchangeDelays_1 fX11_223 rfl rfl (zI hf0) ?_
  refine zi_istore_n (L' := [(0, vR 12 f0), (1, vR 12 f1), (2, vI (im 12 f0 9))]) hO dX11_exchangeDelays_4 (by decide) rfl rfl ?_
  refine zi_aload_n hO dX11_exchangeDelays_5 0 rfl ?_
  refine zi_aload_n hO dX11_exchangeDelays_6 1 rfl ?_
  refine zi_getI hO dX11_exchangeDelays_7 fX11_223 rfl rfl (zI hf1) ?_
  refine zi_putI hO dX11_exchangeDelays_10 gX11_223 rfl rfl (zI hf0) ?_
  refine zi_aload_n hO dX11_exchangeDelays_13 1 rfl ?_
  refine zi_iload_n hO dX11_exchangeDelays_14 2 rfl ?_
  refine zi_putI hO dX11_exchangeDelays_15 gX11_223 rfl rfl (zI hf1) ?_
  exact zr_V hO hR rfl dX11_exchangeDelays_18 h
theorem rX1_flightOrNull_0 {x : zX} {w : zWd} {im : zMem} {lv : Int64} {P : Option Nat → zMem → Int64 → Prop} {x1 : Int32} (hO : zOK x w zyX1_flightOrNull 2) (hR : zRetQ x w zyX1_flightOrNull 12 P) (hN : zN x 126 126)
 (h : ((x1 < 0 → P none im lv) ∧
 (¬ (x1 < 0) → (((im 10 0 1) ≤ x1 → P none im lv) ∧
 (¬ ((im 10 0 1) ≤ x1) → (vp_in x1 12 ∧ P (some (Int32.toNatClampNeg x1)) im lv)))))) :
 zW x w 0 [(0, vR 10 0), (1, vI x1)] [] im lv := by
  refine zi_iload_n hO dX1_flightOrNull_0 1 rfl ?_
  refine zi_if_lt (tgt := 21) hO dX1_flightOrNull_1 (by decide) (fun c1 => ?_) (fun c1 => ?_)
  · have h := h.1 c1
    refine zi_null hO dX1_flightOrNull_21 ?_
    exact zr_QN hO hR rfl dX1_flightOrNull_22 h
  · have h := h.2 c1
    refine zi_iload_n hO dX1_flightOrNull_4 1 rfl ?_
    refine zi_aload_n hO dX1_flightOrNull_5 0 rfl ?_
    refine zi_getI hO dX1_flightOrNull_6 fX1_17 rfl rfl (zI (by decide)) ?_
    refine zi_icmp_ge (tgt := 21) hO dX1_flightOrNull_9 (by decide) (fun c2 => ?_) (fun c2 => ?_)
    · have h := h.1 c2
      refine zi_null hO dX1_flightOrNull_21 ?_
      exact zr_QN hO hR rfl dX1_flightOrNull_22 h
    · have h := h.2 c2
      refine zi_aload_n hO dX1_flightOrNull_12 0 rfl ?_
      refine zi_getR (r' := 11) (i' := 0) hO dX1_flightOrNull_13 fX1_11 rfl rfl (zI (by decide)) rfl ?_
      refine zi_iload_n hO dX1_flightOrNull_16 1 rfl ?_
      obtain ⟨s1, h⟩ := h
      refine zi_aald (t := 1) (r' := 12) (i' := (Int32.toNatClampNeg x1)) hO dX1_flightOrNull_17 rfl (zI (by decide)) s1 rfl ?_
      refine zi_goto (tgt := 22) hO dX1_flightOrNull_18 (by decide) ?_
      exact zr_Q hO hR rfl dX1_flightOrNull_22 h
theorem rX11_sheetOrNull_0 {x : zX} {w : zWd} {im : zMem} {lv : Int64} {P : Option Nat → zMem → Int64 → Prop} {x1 : Int32} (hO : zOK x w zyX11_sheetOrNull 2) (hR : zRetQ x w zyX11_sheetOrNull 41 P) (hN : zN x 126 126)
 (h : ((x1 < 0 → P none im lv) ∧
 (¬ (x1 < 0) → ((8 ≤ x1 → P none im lv) ∧
 (¬ (8 ≤ x1) → (vp_in x1 8 ∧ P (some (Int32.toNatClampNeg x1)) im lv)))))) :
 zW x w 0 [(0, vR 0 0), (1, vI x1)] [] im lv := by
  refine zi_iload_n hO dX11_sheetOrNull_0 1 rfl ?_
  refine zi_if_lt (tgt := 19) hO dX11_sheetOrNull_1 (by decide) (fun c1 => ?_) (fun c1 => ?_)
  · have h := h.1 c1
    refine zi_null hO dX11_sheetOrNull_19 ?_
    exact zr_QN hO hR rfl dX11_sheetOrNull_20 h
  · have h := h.2 c1
    refine zi_iload_n hO dX11_sheetOrNull_4 1 rfl ?_
    refine zi_bipush (v := 8) hO dX11_sheetOrNull_5 (by decide) ?_
    refine zi_icmp_ge (tgt := 19) hO dX11_sheetOrNull_7 (by decide) (fun c2 => ?_) (fun c2 => ?_)
    · have h := h.1 c2
      refine zi_null hO dX11_sheetOrNull_19 ?_
      exact zr_QN hO hR rfl dX11_sheetOrNull_20 h
    · have h := h.2 c2
      refine zi_aload_n hO dX11_sheetOrNull_10 0 rfl ?_
      refine zi_getR (r' := 1) (i' := 0) hO dX11_sheetOrNull_11 fX11_11 rfl rfl (zI (by decide)) rfl ?_
      refine zi_iload_n hO dX11_sheetOrNull_14 1 rfl ?_
      obtain ⟨s1, h⟩ := h
      refine zi_aald (t := 0) (r' := 41) (i' := (Int32.toNatClampNeg x1)) hO dX11_sheetOrNull_15 rfl (zI (by decide)) s1 rfl ?_
      refine zi_goto (tgt := 20) hO dX11_sheetOrNull_16 (by decide) ?_
      exact zr_Q hO hR rfl dX11_sheetOrNull_20 h
theorem rX1_everyFlight_0 {x : zX} {w : zWd} {im : zMem} {lv : Int64} {P : Int32 → zMem → Int64 → Prop} (hO : zOK x w zyX1_everyFlight 2) (hR : zRetI x w zyX1_everyFlight P) (hN : zN x 126 126)
 (h : P ((1 <<< ((im 10 0 1) &&& 31)) - 1) im lv) :
 zW x w 0 [(0, vR 10 0)] [] im lv := by
  refine zi_iconst (v := 1) hO dX1_everyFlight_0 (by decide) ?_
  refine zi_aload_n hO dX1_everyFlight_1 0 rfl ?_
  refine zi_getI hO dX1_everyFlight_2 fX1_17 rfl rfl (zI (by decide)) ?_
  refine zi_ishl hO dX1_everyFlight_5 ?_
  refine zi_iconst (v := 1) hO dX1_everyFlight_6 (by decide) ?_
  refine zi_isub hO dX1_everyFlight_7 ?_
  exact zr_I hO hR rfl dX1_everyFlight_8 h
theorem rJ6_bitCount_0f7a4_0 {x : zX} {w : zWd} {im : zMem} {lv : Int64} {P : Int32 → zMem → Int64 → Prop} {x0 : Int32} (hO : zOK x w zyJ6_bitCount_0f7a4 2) (hR : zRetI x w zyJ6_bitCount_0f7a4 P) (hN : zN x 126 126)
 (h : P ((((((((x0 - (((Int32.toUInt32 x0 >>> (Int32.toUInt32 1 &&& Int32.toUInt32 31)).toInt32) &&& 1431655765)) &&& 858993459) + (((Int32.toUInt32 (x0 - (((Int32.toUInt32 x0 >>> (Int32.toUInt32 1 &&& Int32.toUInt32 31)).toInt32) &&& 1431655765)) >>> (Int32.toUInt32 2 &&& Int32.toUInt32 31)).toInt32) &&& 858993459)) + ((Int32.toUInt32 (((x0 - (((Int32.toUInt32 x0 >>> (Int32.toUInt32 1 &&& Int32.toUInt32 31)).toInt32) &&& 1431655765)) &&& 858993459) + (((Int32.toUInt32 (x0 - (((Int32.toUInt32 x0 >>> (Int32.toUInt32 1 &&& Int32.toUInt32 31)).toInt32) &&& 1431655765)) >>> (Int32.toUInt32 2 &&& Int32.toUInt32 31)).toInt32) &&& 858993459)) >>> (Int32.toUInt32 4 &&& Int32.toUInt32 31)).toInt32)) &&& 252645135) + ((Int32.toUInt32 (((((x0 - (((Int32.toUInt32 x0 >>> (Int32.toUInt32 1 &&& Int32.toUInt32 31)).toInt32) &&& 1431655765)) &&& 858993459) + (((Int32.toUInt32 (x0 - (((Int32.toUInt32 x0 >>> (Int32.toUInt32 1 &&& Int32.toUInt32 31)).toInt32) &&& 1431655765)) >>> (Int32.toUInt32 2 &&& Int32.toUInt32 31)).toInt32) &&& 858993459)) + ((Int32.toUInt32 (((x0 - (((Int32.toUInt32 x0 >>> (Int32.toUInt32 1 &&& Int32.toUInt32 31)).toInt32) &&& 1431655765)) &&& 858993459) + (((Int32.toUInt32 (x0 - (((Int32.toUInt32 x0 >>> (Int32.toUInt32 1 &&& Int32.toUInt32 31)).toInt32) &&& 1431655765)) >>> (Int32.toUInt32 2 &&& Int32.toUInt32 31)).toInt32) &&& 858993459)) >>> (Int32.toUInt32 4 &&& Int32.toUInt32 31)).toInt32)) &&& 252645135) >>> (Int32.toUInt32 8 &&& Int32.toUInt32 31)).toInt32)) + ((Int32.toUInt32 ((((((x0 - (((Int32.toUInt32 x0 >>> (Int32.toUInt32 1 &&& Int32.toUInt32 31)).toInt32) &&& 1431655765)) &&& 858993459) + (((Int32.toUInt32 (x0 - (((Int32.toUInt32 x0 >>> (Int32.toUInt32 1 &&& Int32.toUInt32 31)).toInt32) &&& 1431655765)) >>> (Int32.toUInt32 2 &&& Int32.toUInt32 31)).toInt32) &&& 858993459)) + ((Int32.toUInt32 (((x0 - (((Int32.toUInt32 x0 >>> (Int32.toUInt32 1 &&& Int32.toUInt32 31)).toInt32) &&& 1431655765)) &&& 858993459) + (((Int32.toUInt32 (x0 - (((Int32.toUInt32 x0 >>> (Int32.toUInt32 1 &&& Int32.toUInt32 31)).toInt32) &&& 1431655765)) >>> (Int32.toUInt32 2 &&& Int32.toUInt32 31)).toInt32) &&& 858993459)) >>> (Int32.toUInt32 4 &&& Int32.toUInt32 31)).toInt32)) &&& 252645135) + ((Int32.toUInt32 (((((x0 - (((Int32.toUInt32 x0 >>> (Int32.toUInt32 1 &&& Int32.toUInt32 31)).toInt32) &&& 1431655765)) &&& 858993459) + (((Int32.toUInt32 (x0 - (((Int32.toUInt32 x0 >>> (Int32.toUInt32 1 &&& Int32.toUInt32 31)).toInt32) &&& 1431655765)) >>> (Int32.toUInt32 2 &&& Int32.toUInt32 31)).toInt32) &&& 858993459)) + ((Int32.toUInt32 (((x0 - (((Int32.toUInt32 x0 >>> (Int32.toUInt32 1 &&& Int32.toUInt32 31)).toInt32) &&& 1431655765)) &&& 858993459) + (((Int32.toUInt32 (x0 - (((Int32.toUInt32 x0 >>> (Int32.toUInt32 1 &&& Int32.toUInt32 31)).toInt32) &&& 1431655765)) >>> (Int32.toUInt32 2 &&& Int32.toUInt32 31)).toInt32) &&& 858993459)) >>> (Int32.toUInt32 4 &&& Int32.toUInt32 31)).toInt32)) &&& 252645135) >>> (Int32.toUInt32 8 &&& Int32.toUInt32 31)).toInt32)) >>> (Int32.toUInt32 16 &&& Int32.toUInt32 31)).toInt32)) &&& 63) im lv) :
 zW x w 0 [(0, vI x0)] [] im lv := by
  refine zi_iload_n hO dJ6_bitCount_0f7a4_0 0 rfl ?_
  refine zi_iload_n hO dJ6_bitCount_0f7a4_1 0 rfl ?_
  refine zi_iconst (v := 1) hO dJ6_bitCount_0f7a4_2 (by decide) ?_
  refine zi_iushr hO dJ6_bitCount_0f7a4_3 ?_
  refine zi_ldcw (v := 1431655765) hO dJ6_bitCount_0f7a4_4 nJ6_265 ?_
  refine zi_iand hO dJ6_bitCount_0f7a4_7 ?_
  refine zi_isub hO dJ6_bitCount_0f7a4_8 ?_
  refine zi_istore_n (L' := [(0, vI (x0 - (((Int32.toUInt32 x0 >>> (Int32.toUInt32 1 &&& Int32.toUInt32 31)).toInt32) &&& 1431655765)))]) hO dJ6_bitCount_0f7a4_9 (by decide) rfl rfl ?_
  refine zi_iload_n hO dJ6_bitCount_0f7a4_10 0 rfl ?_
  refine zi_ldcw (v := 858993459) hO dJ6_bitCount_0f7a4_11 nJ6_266 ?_
  refine zi_iand hO dJ6_bitCount_0f7a4_14 ?_
  refine zi_iload_n hO dJ6_bitCount_0f7a4_15 0 rfl ?_
  refine zi_iconst (v := 2) hO dJ6_bitCount_0f7a4_16 (by decide) ?_
  refine zi_iushr hO dJ6_bitCount_0f7a4_17 ?_
  refine zi_ldcw (v := 858993459) hO dJ6_bitCount_0f7a4_18 nJ6_266 ?_
  refine zi_iand hO dJ6_bitCount_0f7a4_21 ?_
  refine zi_iadd hO dJ6_bitCount_0f7a4_22 ?_
  refine zi_istore_n (L' := [(0, vI (((x0 - (((Int32.toUInt32 x0 >>> (Int32.toUInt32 1 &&& Int32.toUInt32 31)).toInt32) &&& 1431655765)) &&& 858993459) + (((Int32.toUInt32 (x0 - (((Int32.toUInt32 x0 >>> (Int32.toUInt32 1 &&& Int32.toUInt32 31)).toInt32) &&& 1431655765)) >>> (Int32.toUInt32 2 &&& Int32.toUInt32 31)).toInt32) &&& 858993459)))]) hO dJ6_bitCount_0f7a4_23 (by decide) rfl rfl ?_
  refine zi_iload_n hO dJ6_bitCount_0f7a4_24 0 rfl ?_
  refine zi_iload_n hO dJ6_bitCount_0f7a4_25 0 rfl ?_
  refine zi_iconst (v := 4) hO dJ6_bitCount_0f7a4_26 (by decide) ?_
  refine zi_iushr hO dJ6_bitCount_0f7a4_27 ?_
  refine zi_iadd hO dJ6_bitCount_0f7a4_28 ?_
  refine zi_ldcw (v := 252645135) hO dJ6_bitCount_0f7a4_29 nJ6_267 ?_
  refine zi_iand hO dJ6_bitCount_0f7a4_32 ?_
  refine zi_istore_n (L' := [(0, vI (((((x0 - (((Int32.toUInt32 x0 >>> (Int32.toUInt32 1 &&& Int32.toUInt32 31)).toInt32) &&& 1431655765)) &&& 858993459) + (((Int32.toUInt32 (x0 - (((Int32.toUInt32 x0 >>> (Int32.toUInt32 1 &&& Int32.toUInt32 31)).toInt32) &&& 1431655765)) >>> (Int32.toUInt32 2 &&& Int32.toUInt32 31)).toInt32) &&& 858993459)) + ((Int32.toUInt32 (((x0 - (((Int32.toUInt32 x0 >>> (Int32.toUInt32 1 &&& Int32.toUInt32 31)).toInt32) &&& 1431655765)) &&& 858993459) + (((Int32.toUInt32 (x0 - (((Int32.toUInt32 x0 >>> (Int32.toUInt32 1 &&& Int32.toUInt32 31)).toInt32) &&& 1431655765)) >>> (Int32.toUInt32 2 &&& Int32.toUInt32 31)).toInt32) &&& 858993459)) >>> (Int32.toUInt32 4 &&& Int32.toUInt32 31)).toInt32)) &&& 252645135))]) hO dJ6_bitCount_0f7a4_33 (by decide) rfl rfl ?_
  refine zi_iload_n hO dJ6_bitCount_0f7a4_34 0 rfl ?_
  refine zi_iload_n hO dJ6_bitCount_0f7a4_35 0 rfl ?_
  refine zi_bipush (v := 8) hO dJ6_bitCount_0f7a4_36 (by decide) ?_
  refine zi_iushr hO dJ6_bitCount_0f7a4_38 ?_
  refine zi_iadd hO dJ6_bitCount_0f7a4_39 ?_
  refine zi_istore_n (L' := [(0, vI ((((((x0 - (((Int32.toUInt32 x0 >>> (Int32.toUInt32 1 &&& Int32.toUInt32 31)).toInt32) &&& 1431655765)) &&& 858993459) + (((Int32.toUInt32 (x0 - (((Int32.toUInt32 x0 >>> (Int32.toUInt32 1 &&& Int32.toUInt32 31)).toInt32) &&& 1431655765)) >>> (Int32.toUInt32 2 &&& Int32.toUInt32 31)).toInt32) &&& 858993459)) + ((Int32.toUInt32 (((x0 - (((Int32.toUInt32 x0 >>> (Int32.toUInt32 1 &&& Int32.toUInt32 31)).toInt32) &&& 1431655765)) &&& 858993459) + (((Int32.toUInt32 (x0 - (((Int32.toUInt32 x0 >>> (Int32.toUInt32 1 &&& Int32.toUInt32 31)).toInt32) &&& 1431655765)) >>> (Int32.toUInt32 2 &&& Int32.toUInt32 31)).toInt32) &&& 858993459)) >>> (Int32.toUInt32 4 &&& Int32.toUInt32 31)).toInt32)) &&& 252645135) + ((Int32.toUInt32 (((((x0 - (((Int32.toUInt32 x0 >>> (Int32.toUInt32 1 &&& Int32.toUInt32 31)).toInt32) &&& 1431655765)) &&& 858993459) + (((Int32.toUInt32 (x0 - (((Int32.toUInt32 x0 >>> (Int32.toUInt32 1 &&& Int32.toUInt32 31)).toInt32) &&& 1431655765)) >>> (Int32.toUInt32 2 &&& Int32.toUInt32 31)).toInt32) &&& 858993459)) + ((Int32.toUInt32 (((x0 - (((Int32.toUInt32 x0 >>> (Int32.toUInt32 1 &&& Int32.toUInt32 31)).toInt32) &&& 1431655765)) &&& 858993459) + (((Int32.toUInt32 (x0 - (((Int32.toUInt32 x0 >>> (Int32.toUInt32 1 &&& Int32.toUInt32 31)).toInt32) &&& 1431655765)) >>> (Int32.toUInt32 2 &&& Int32.toUInt32 31)).toInt32) &&& 858993459)) >>> (Int32.toUInt32 4 &&& Int32.toUInt32 31)).toInt32)) &&& 252645135) >>> (Int32.toUInt32 8 &&& Int32.toUInt32 31)).toInt32)))]) hO dJ6_bitCount_0f7a4_40 (by decide) rfl rfl ?_
  refine zi_iload_n hO dJ6_bitCount_0f7a4_41 0 rfl ?_
  refine zi_iload_n hO dJ6_bitCount_0f7a4_42 0 rfl ?_
  refine zi_bipush (v := 16) hO dJ6_bitCount_0f7a4_43 (by decide) ?_
  refine zi_iushr hO dJ6_bitCount_0f7a4_45 ?_
  refine zi_iadd hO dJ6_bitCount_0f7a4_46 ?_
  refine zi_istore_n (L' := [(0, vI (((((((x0 - (((Int32.toUInt32 x0 >>> (Int32.toUInt32 1 &&& Int32.toUInt32 31)).toInt32) &&& 1431655765)) &&& 858993459) + (((Int32.toUInt32 (x0 - (((Int32.toUInt32 x0 >>> (Int32.toUInt32 1 &&& Int32.toUInt32 31)).toInt32) &&& 1431655765)) >>> (Int32.toUInt32 2 &&& Int32.toUInt32 31)).toInt32) &&& 858993459)) + ((Int32.toUInt32 (((x0 - (((Int32.toUInt32 x0 >>> (Int32.toUInt32 1 &&& Int32.toUInt32 31)).toInt32) &&& 1431655765)) &&& 858993459) + (((Int32.toUInt32 (x0 - (((Int32.toUInt32 x0 >>> (Int32.toUInt32 1 &&& Int32.toUInt32 31)).toInt32) &&& 1431655765)) >>> (Int32.toUInt32 2 &&& Int32.toUInt32 31)).toInt32) &&& 858993459)) >>> (Int32.toUInt32 4 &&& Int32.toUInt32 31)).toInt32)) &&& 252645135) + ((Int32.toUInt32 (((((x0 - (((Int32.toUInt32 x0 >>> (Int32.toUInt32 1 &&& Int32.toUInt32 31)).toInt32) &&& 1431655765)) &&& 858993459) + (((Int32.toUInt32 (x0 - (((Int32.toUInt32 x0 >>> (Int32.toUInt32 1 &&& Int32.toUInt32 31)).toInt32) &&& 1431655765)) >>> (Int32.toUInt32 2 &&& Int32.toUInt32 31)).toInt32) &&& 858993459)) + ((Int32.toUInt32 (((x0 - (((Int32.toUInt32 x0 >>> (Int32.toUInt32 1 &&& Int32.toUInt32 31)).toInt32) &&& 1431655765)) &&& 858993459) + (((Int32.toUInt32 (x0 - (((Int32.toUInt32 x0 >>> (Int32.toUInt32 1 &&& Int32.toUInt32 31)).toInt32) &&& 1431655765)) >>> (Int32.toUInt32 2 &&& Int32.toUInt32 31)).toInt32) &&& 858993459)) >>> (Int32.toUInt32 4 &&& Int32.toUInt32 31)).toInt32)) &&& 252645135) >>> (Int32.toUInt32 8 &&& Int32.toUInt32 31)).toInt32)) + ((Int32.toUInt32 ((((((x0 - (((Int32.toUInt32 x0 >>> (Int32.toUInt32 1 &&& Int32.toUInt32 31)).toInt32) &&& 1431655765)) &&& 858993459) + (((Int32.toUInt32 (x0 - (((Int32.toUInt32 x0 >>> (Int32.toUInt32 1 &&& Int32.toUInt32 31)).toInt32) &&& 1431655765)) >>> (Int32.toUInt32 2 &&& Int32.toUInt32 31)).toInt32) &&& 858993459)) + ((Int32.toUInt32 (((x0 - (((Int32.toUInt32 x0 >>> (Int32.toUInt32 1 &&& Int32.toUInt32 31)).toInt32) &&& 1431655765)) &&& 858993459) + (((Int32.toUInt32 (x0 - (((Int32.toUInt32 x0 >>> (Int32.toUInt32 1 &&& Int32.toUInt32 31)).toInt32) &&& 1431655765)) >>> (Int32.toUInt32 2 &&& Int32.toUInt32 31)).toInt32) &&& 858993459)) >>> (Int32.toUInt32 4 &&& Int32.toUInt32 31)).toInt32)) &&& 252645135) + ((Int32.toUInt32 (((((x0 - (((Int32.toUInt32 x0 >>> (Int32.toUInt32 1 &&& Int32.toUInt32 31)).toInt32) &&& 1431655765)) &&& 858993459) + (((Int32.toUInt32 (x0 - (((Int32.toUInt32 x0 >>> (Int32.toUInt32 1 &&& Int32.toUInt32 31)).toInt32) &&& 1431655765)) >>> (Int32.toUInt32 2 &&& Int32.toUInt32 31)).toInt32) &&& 858993459)) + ((Int32.toUInt32 (((x0 - (((Int32.toUInt32 x0 >>> (Int32.toUInt32 1 &&& Int32.toUInt32 31)).toInt32) &&& 1431655765)) &&& 858993459) + (((Int32.toUInt32 (x0 - (((Int32.toUInt32 x0 >>> (Int32.toUInt32 1 &&& Int32.toUInt32 31)).toInt32) &&& 1431655765)) >>> (Int32.toUInt32 2 &&& Int32.toUInt32 31)).toInt32) &&& 858993459)) >>> (Int32.toUInt32 4 &&& Int32.toUInt32 31)).toInt32)) &&& 252645135) >>> (Int32.toUInt32 8 &&& Int32.toUInt32 31)).toInt32)) >>> (Int32.toUInt32 16 &&& Int32.toUInt32 31)).toInt32)))]) hO dJ6_bitCount_0f7a4_47 (by decide) rfl rfl ?_
  refine zi_iload_n hO dJ6_bitCount_0f7a4_48 0 rfl ?_
  refine zi_bipush (v := 63) hO dJ6_bitCount_0f7a4_49 (by decide) ?_
  refine zi_iand hO dJ6_bitCount_0f7a4_51 ?_
  exact zr_I hO hR rfl dJ6_bitCount_0f7a4_52 h
theorem rJ7_fill_53178_0 {x : zX} {w : zWd} {im : zMem} {lv : Int64} {P : zMem → Int64 → Prop} {ra : Nat} {ia : Nat} {Na : Nat} {x1 : Int32} (hO : zOK x w zyJ7_fill_53178 2) (hR : zRetV x w zyJ7_fill_53178 P) (hN : zN x 126 126) (hka : zkd ra = (1, Na, 0)) (hia : ia < zcnt ra)
 (h : zW x w 5 [(0, vR ra ia), (1, vI x1), (2, vI 0), (3, vI (Int32.ofNat Na))] [] im lv) :
 zW x w 0 [(0, vR ra ia), (1, vI x1)] [] im lv := by
  refine zi_iconst (v := 0) hO dJ7_fill_53178_0 (by decide) ?_
  refine zi_istore_n (L' := [(0, vR ra ia), (1, vI x1), (2, vI 0)]) hO dJ7_fill_53178_1 (by decide) rfl rfl ?_
  refine zi_aload_n hO dJ7_fill_53178_2 0 rfl ?_
  refine zi_alen hO dJ7_fill_53178_3 hka (zI hia) rfl ?_
  refine zi_istore_n (L' := [(0, vR ra ia), (1, vI x1), (2, vI 0), (3, vI (Int32.ofNat Na))]) hO dJ7_fill_53178_4 (by decide) rfl rfl ?_
  exact h
theorem rJ7_fill_53178_5 {x : zX} {w : zWd} {im : zMem} {lv : Int64} {P : zMem → Int64 → Prop} {ra : Nat} {ia : Nat} {Na : Nat} {x1 : Int32} {x2 : Int32} {x3 : Int32} (hO : zOK x w zyJ7_fill_53178 2) (hR : zRetV x w zyJ7_fill_53178 P) (hN : zN x 126 126) (hka : zkd ra = (1, Na, 0)) (hia : ia < zcnt ra)
 (h : ((x3 ≤ x2 → P im lv) ∧
 (¬ (x3 ≤ x2) → (vp_in x2 Na ∧ zW x w 5 [(0, vR ra ia), (1, vI x1), (2, vI (x2 + 1)), (3, vI x3)] [] (zwr im ra ia (Int32.toNatClampNeg x2) x1) lv)))) :
 zW x w 5 [(0, vR ra ia), (1, vI x1), (2, vI x2), (3, vI x3)] [] im lv := by
  refine zi_iload_n hO dJ7_fill_53178_5 2 rfl ?_
  refine zi_iload_n hO dJ7_fill_53178_6 3 rfl ?_
  refine zi_icmp_ge (tgt := 20) hO dJ7_fill_53178_7 (by decide) (fun c1 => ?_) (fun c1 => ?_)
  · have h := h.1 c1
    exact zr_V hO hR rfl dJ7_fill_53178_20 h
  · have h := h.2 c1
    refine zi_aload_n hO dJ7_fill_53178_10 0 rfl ?_
    refine zi_iload_n hO dJ7_fill_53178_11 2 rfl ?_
    refine zi_iload_n hO dJ7_fill_53178_12 1 rfl ?_
    obtain ⟨s1, h⟩ := h
    refine zi_iast hO dJ7_fill_53178_13 hka (zI hia) s1 ?_
    refine zi_iinc (v' := (x2 + 1)) (L' := [(0, vR ra ia), (1, vI x1), (2, vI (x2 + 1)), (3, vI x3)]) hO dJ7_fill_53178_14 2 rfl rfl (by decide) rfl rfl ?_
    refine zi_goto (tgt := 5) hO dJ7_fill_53178_17 (by decide) ?_
    exact h
theorem C_X11_isRoom (l : Launch) (w : zWd) (im : zMem) (lv : Int64) {s : Int32} : zSpecI l w 2 zyX11_isRoom [vI s] im lv (fun v im' lv' => v = vB (0 ≤ s ∧ s < 8) ∧ im' = im ∧ lv' = lv) := by
  refine ze_I (by decide) (Nat.le_of_ble_eq_true rfl) (fun x hO hR hN => rX11_isRoom_0 hO hR hN ?_)
  simp only [Int32.le_iff_toInt_le, Int32.lt_iff_toInt_lt, vB, Int32.reduceToInt, and_true]
  refine ⟨fun h => (if_neg (by omega)).symm, fun h => ⟨fun h2 => (if_neg (by omega)).symm, fun h2 => (if_pos (by omega)).symm⟩⟩
theorem C_X11_isSlot (l : Launch) (w : zWd) (im : zMem) (lv : Int64) {s : Int32} : zSpecI l w 2 zyX11_isSlot [vI s] im lv (fun v im' lv' => v = vB (0 ≤ s ∧ s < 48) ∧ im' = im ∧ lv' = lv) := by
  refine ze_I (by decide) (Nat.le_of_ble_eq_true rfl) (fun x hO hR hN => rX11_isSlot_0 hO hR hN ?_)
  simp only [Int32.le_iff_toInt_le, Int32.lt_iff_toInt_lt, vB, Int32.reduceToInt, and_true]
  refine ⟨fun h => (if_neg (by omega)).symm, fun h => ⟨fun h2 => (if_neg (by omega)).symm, fun h2 => (if_pos (by omega)).symm⟩⟩
theorem rX11_areSlots_0 {x : zX} {w : zWd} {im : zMem} {lv : Int64} {P : Int32 → zMem → Int64 → Prop} {x0 : Int32} {x1 : Int32} (hO : zOK x w zyX11_areSlots 3) (hR : zRetI x w zyX11_areSlots P) (hN : zN x 126 126)
 (h : ((¬ (0 ≤ x0 ∧ x0 < 48) → P 0 im lv) ∧
 (0 ≤ x0 ∧ x0 < 48 → ((x1 < 1 → P 0 im lv) ∧
 (¬ (x1 < 1) → (((48 - x0) < x1 → P 0 im lv) ∧
 (¬ ((48 - x0) < x1) → P 1 im lv))))))) :
 zW x w 0 [(0, vI x0), (1, vI x1)] [] im lv := by
  refine zi_iload_n hO dX11_areSlots_0 0 rfl ?_
  refine zc_SI (as := [vI x0]) hO hN dX11_areSlots_1 kX11_167 (by decide) rfl (Nat.le_of_ble_eq_true rfl) rfl rfl (C_X11_isSlot _ _ _ _) (fun v1 im1 lv1 hp1 => ?_)
  rw [hp1.1, hp1.2.1, hp1.2.2]
  refine zi_if_eq (tgt := 24) hO dX11_areSlots_4 (by decide) (fun c1 => ?_) (fun c1 => ?_)
  · have h := h.1 (vB_0.mp c1)
    refine zi_iconst (v := 0) hO dX11_areSlots_24 (by decide) ?_
    exact zr_Z hO hR rfl (Or.inl rfl) dX11_areSlots_25 h
  · have h := h.2 (vB_1.mp (vB_01.resolve_left c1))
    refine zi_iload_n hO dX11_areSlots_7 1 rfl ?_
    refine zi_iconst (v := 1) hO dX11_areSlots_8 (by decide) ?_
    refine zi_icmp_lt (tgt := 24) hO dX11_areSlots_9 (by decide) (fun c2 => ?_) (fun c2 => ?_)
    · have h := h.1 c2
      refine zi_iconst (v := 0) hO dX11_areSlots_24 (by decide) ?_
      exact zr_Z hO hR rfl (Or.inl rfl) dX11_areSlots_25 h
    · have h := h.2 c2
      refine zi_iload_n hO dX11_areSlots_12 1 rfl ?_
      refine zi_bipush (v := 48) hO dX11_areSlots_13 (by decide) ?_
      refine zi_iload_n hO dX11_areSlots_15 0 rfl ?_
      refine zi_isub hO dX11_areSlots_16 ?_
      refine zi_icmp_gt (tgt := 24) hO dX11_areSlots_17 (by decide) (fun c3 => ?_) (fun c3 => ?_)
      · have h := h.1 c3
        refine zi_iconst (v := 0) hO dX11_areSlots_24 (by decide) ?_
        exact zr_Z hO hR rfl (Or.inl rfl) dX11_areSlots_25 h
      · have h := h.2 c3
        refine zi_iconst (v := 1) hO dX11_areSlots_20 (by decide) ?_
        refine zi_goto (tgt := 25) hO dX11_areSlots_21 (by decide) ?_
        exact zr_Z hO hR rfl (Or.inr rfl) dX11_areSlots_25 h
theorem C_X11_areSlots (l : Launch) (w : zWd) (im : zMem) (lv : Int64) {s n : Int32} : zSpecI l w 3 zyX11_areSlots [vI s, vI n] im lv (fun v im' lv' => v = vB ((0 ≤ s ∧ s < 48) ∧ 1 ≤ n ∧ n ≤ (48 - s)) ∧ im' = im ∧ lv' = lv) := by
  refine ze_I (by decide) (Nat.le_of_ble_eq_true rfl) (fun x hO hR hN => rX11_areSlots_0 hO hR hN ?_)
  generalize (48 - s : Int32) = z
  simp only [Int32.le_iff_toInt_le, Int32.lt_iff_toInt_lt, vB, Int32.reduceToInt, and_true]
  refine ⟨fun h => (if_neg (by omega)).symm, fun h => ⟨fun h2 => (if_neg (by omega)).symm, fun h2 => ⟨fun h3 => (if_neg (by omega)).symm, fun h3 => (if_pos (by omega)).symm⟩⟩⟩
theorem C_X11_cellOf (l : Launch) (w : zWd) (im : zMem) (lv : Int64) {a b : Int32} : zSpecI l w 2 zyX11_cellOf [vI a, vI b] im lv (fun v im' lv' => v = a * 48 + b ∧ im' = im ∧ lv' = lv) :=
  ze_I (by decide) (Nat.le_of_ble_eq_true rfl) (fun x hO hR hN => rX11_cellOf_0 hO hR hN ⟨rfl, rfl, rfl⟩)
theorem C_X11_found (l : Launch) (w : zWd) (im : zMem) (lv : Int64) {k : Int32} : zSpecI l w 2 zyX11_found [vR 0 0, vI k] im lv (fun v im' lv' => v = -1000010 - k ∧ im' = zwr im 0 0 10 k ∧ lv' = lv) :=
  ze_I (by decide) (Nat.le_of_ble_eq_true rfl) (fun x hO hR hN => rX11_found_0 hO hR hN ⟨rfl, rfl, rfl⟩)
theorem C_X11_withoutFinding (l : Launch) (w : zWd) (im : zMem) (lv : Int64) {k : Int32} : zSpecI l w 2 zyX11_withoutFinding [vR 0 0, vI k] im lv (fun v im' lv' => v = k ∧ im' = zwr im 0 0 10 0 ∧ lv' = lv) :=
  ze_I (by decide) (Nat.le_of_ble_eq_true rfl) (fun x hO hR hN => rX11_withoutFinding_0 hO hR hN ⟨rfl, rfl, rfl⟩)
theorem C_X3_stormsIn (l : Launch) (w : zWd) (im : zMem) (lv : Int64) {a b : Int32} (h : vp_in a 20) : zSpecI l w 2 zyX3_stormsIn [vR 2 0, vI a, vI b] im lv (fun v im' lv' => v = vB (((b >>> ((im 5 0 (Int32.toNatClampNeg a)) &&& 31)) &&& 1) = 1) ∧ im' = im ∧ lv' = lv) :=
  ze_I (by decide) (Nat.le_of_ble_eq_true rfl) (fun x hO hR hN => rX3_stormsIn_0 hO hR hN ⟨h, fun q => ⟨(if_neg q).symm, rfl, rfl⟩, fun q => ⟨(if_pos q).symm, rfl, rfl⟩⟩)
theorem C_X2_hasWay (l : Launch) (w : zWd) (im : zMem) (lv : Int64) {f : Nat} (hf : f < 12) {s : Int32} : zSpecI l w 2 zyX2_hasWay [vR 12 f, vI s] im lv (fun v im' lv' => v = vB (0 ≤ s ∧ s < im 12 f 4) ∧ im' = im ∧ lv' = lv) := by
  refine ze_I (by decide) (Nat.le_of_ble_eq_true rfl) (fun x hO hR hN => rX2_hasWay_0 hO hR hN hf ?_)
  simp only [Int32.le_iff_toInt_le, Int32.lt_iff_toInt_lt, vB, Int32.reduceToInt, and_true]
  refine ⟨fun h => (if_neg (by omega)).symm, fun h => ⟨fun h2 => (if_neg (by omega)).symm, fun h2 => (if_pos (by omega)).symm⟩⟩
theorem C_X2_costOf (l : Launch) (w : zWd) (im : zMem) (lv : Int64) {f : Nat} (hf : f < 12) {a b : Int32} : zSpecI l w 2 zyX2_costOf [vR 12 f, vI a, vI b] im lv (fun v im' lv' => v = im 12 f 3 * b + 10 * a ∧ im' = im ∧ lv' = lv) :=
  ze_I (by decide) (Nat.le_of_ble_eq_true rfl) (fun x hO hR hN => rX2_costOf_0 hO hR hN hf ⟨rfl, rfl, rfl⟩)
theorem rX2_cost_0 {x : zX} {w : zWd} {im : zMem} {lv : Int64} {P : Int32 → zMem → Int64 → Prop} {f0 : Nat} (hO : zOK x w zyX2_cost 3) (hR : zRetI x w zyX2_cost P) (hN : zN x 126 126) (hf0 : f0 < 12)
 (h : P (((im 12 f0 3) * (im 12 f0 9)) + (10 * (im 12 f0 8))) im lv) :
 zW x w 0 [(0, vR 12 f0)] [] im lv := by
  refine zi_aload_n hO dX2_cost_0 0 rfl ?_
  refine zi_aload_n hO dX2_cost_1 0 rfl ?_
  refine zi_getI hO dX2_cost_2 fX2_37 rfl rfl (zI hf0) ?_
  refine zi_aload_n hO dX2_cost_5 0 rfl ?_
  refine zi_getI hO dX2_cost_6 fX2_40 rfl rfl (zI hf0) ?_
  refine zc_VI (as := [vI (im 12 f0 8), vI (im 12 f0 9)]) hO hN dX2_cost_9 kX2_43 (by decide) rfl (zI hf0) rfl rfl (Nat.le_of_ble_eq_true rfl) rfl rfl (C_X2_costOf _ _ _ _ hf0) (fun v1 im1 lv1 hp1 => ?_)
  rw [hp1.1, hp1.2.1, hp1.2.2]
  exact zr_I hO hR rfl dX2_cost_12 h
theorem C_X2_cost (l : Launch) (w : zWd) (im : zMem) (lv : Int64) {f : Nat} (hf : f < 12) : zSpecI l w 3 zyX2_cost [vR 12 f] im lv (fun v im' lv' => v = im 12 f 3 * im 12 f 9 + 10 * im 12 f 8 ∧ im' = im ∧ lv' = lv) :=
  ze_I (by decide) (Nat.le_of_ble_eq_true rfl) (fun x hO hR hN => rX2_cost_0 hO hR hN hf ⟨rfl, rfl, rfl⟩)
theorem C_X8_tooMuchIn (l : Launch) (w : zWd) (im : zMem) (lv : Int64) {a : Int32} (h : vp_in a 384) : zSpecI l w 3 zyX8_tooMuchIn [vR 20 0, vI a] im lv (fun v im' lv' => v = (if 0 < ((im 21 0 (Int32.toNatClampNeg a)) - (im 22 0 (Int32.toNatClampNeg a))) then ((im 21 0 (Int32.toNatClampNeg a)) - (im 22 0 (Int32.toNatClampNeg a))) else 0) ∧ im' = im ∧ lv' = lv) :=
  ze_I (by decide) (Nat.le_of_ble_eq_true rfl) (fun x hO hR hN => rX8_tooMuchIn_0 hO hR hN ⟨h, rfl, rfl, rfl⟩)
theorem C_X7_isMissing (l : Launch) (w : zWd) (im : zMem) (lv : Int64) {f : Nat} (hf : f < 8) : zSpecI l w 2 zyX7_isMissing [vR 41 f] im lv (fun v im' lv' => v = vB (im 41 f 0 = -1) ∧ im' = im ∧ lv' = lv) :=
  ze_I (by decide) (Nat.le_of_ble_eq_true rfl) (fun x hO hR hN => rX7_isMissing_0 hO hR hN hf ⟨fun q => ⟨(if_neg q).symm, rfl, rfl⟩, fun q => ⟨(if_pos q).symm, rfl, rfl⟩⟩)
theorem C_X7_hasPlaces (l : Launch) (w : zWd) (im : zMem) (lv : Int64) {f : Nat} (hf : f < 8) {i n : Int32} : zSpecI l w 2 zyX7_hasPlaces [vR 41 f, vI i, vI n] im lv (fun v im' lv' => v = vB (0 ≤ i ∧ 0 ≤ n ∧ n ≤ im 41 f 1 ∧ i ≤ im 41 f 1 - n) ∧ im' = im ∧ lv' = lv) := by
  refine ze_I (by decide) (Nat.le_of_ble_eq_true rfl) (fun x hO hR hN => rX7_hasPlaces_0 hO hR hN hf ?_)
  generalize (im 41 f 1 - n : Int32) = z
  simp only [Int32.le_iff_toInt_le, Int32.lt_iff_toInt_lt, vB, Int32.reduceToInt, and_true]
  refine ⟨fun h => (if_neg (by omega)).symm, fun h => ⟨fun h2 => (if_neg (by omega)).symm, fun h2 => ⟨fun h3 => (if_neg (by omega)).symm, fun h3 => ⟨fun h4 => (if_neg (by omega)).symm, fun h4 => (if_pos (by omega)).symm⟩⟩⟩⟩
theorem C_X11_exchangeDelays (l : Launch) (w : zWd) (im : zMem) (lv : Int64) {f g : Nat} (hf : f < 12) (hg : g < 12) : zSpecV l w 2 zyX11_exchangeDelays [vR 12 f, vR 12 g] im lv (fun im' lv' => im' = zwr (zwr im 12 f 9 (im 12 g 9)) 12 g 9 (im 12 f 9) ∧ lv' = lv) :=
  ze_V (by decide) (Nat.le_of_ble_eq_true rfl) (fun x hO hR hN => rX11_exchangeDelays_0 hO hR hN hf hg ⟨rfl, rfl⟩)
theorem zvi {x y : Int32} {N : Nat} (hN : N < 2 ^ 31) (h0 : ¬ x < 0) (h1 : ¬ y ≤ x) (hy : y ≤ nI N) : vp_in x N := by
  obtain ⟨j, h, rfl⟩ := nI_of h0
  refine vp_in_nI ?_ hN
  rw [Int32.le_iff_toInt_le] at h1 hy
  rw [nI_toInt h] at h1
  rw [nI_toInt hN] at hy
  omega
theorem C_X1_flightOrNull (l : Launch) (w : zWd) (im : zMem) (lv : Int64) {x : Int32} (h : im 10 0 1 ≤ 12) : zSpecQ l w 2 zyX1_flightOrNull 12 [vR 10 0, vI x] im lv (fun o im' lv' => o = (if 0 ≤ x ∧ x < im 10 0 1 then some (Int32.toNatClampNeg x) else none) ∧ im' = im ∧ lv' = lv) := by
  refine ze_Q (by decide) (Nat.le_of_ble_eq_true rfl) (fun x hO hR hN => rX1_flightOrNull_0 hO hR hN ?_)
  refine ⟨fun h => ⟨(if_neg ?_).symm, rfl, rfl⟩, fun h => ⟨fun h2 => ⟨(if_neg ?_).symm, rfl, rfl⟩, fun h2 => ⟨zvi (N := 12) (by decide) h h2 (by assumption), (if_pos ?_).symm, rfl, rfl⟩⟩⟩
  all_goals
    simp only [Int32.le_iff_toInt_le, Int32.lt_iff_toInt_lt, Int32.reduceToInt] at *
    omega
theorem C_X11_sheetOrNull (l : Launch) (w : zWd) (im : zMem) (lv : Int64) {x : Int32} : zSpecQ l w 2 zyX11_sheetOrNull 41 [vR 0 0, vI x] im lv (fun o im' lv' => o = (if 0 ≤ x ∧ x < 8 then some (Int32.toNatClampNeg x) else none) ∧ im' = im ∧ lv' = lv) := by
  refine ze_Q (by decide) (Nat.le_of_ble_eq_true rfl) (fun x hO hR hN => rX11_sheetOrNull_0 hO hR hN ?_)
  refine ⟨fun h => ⟨(if_neg ?_).symm, rfl, rfl⟩, fun h => ⟨fun h2 => ⟨(if_neg ?_).symm, rfl, rfl⟩, fun h2 => ⟨zvi (N := 8) (y := 8) (by decide) h h2 (by decide), (if_pos ?_).symm, rfl, rfl⟩⟩⟩
  all_goals
    simp only [Int32.le_iff_toInt_le, Int32.lt_iff_toInt_lt, Int32.reduceToInt] at *
    omega
def bcI (x0 : Int32) : Int32 := ((((((((x0 - (((Int32.toUInt32 x0 >>> (Int32.toUInt32 1 &&& Int32.toUInt32 31)).toInt32) &&& 1431655765)) &&& 858993459) + (((Int32.toUInt32 (x0 - (((Int32.toUInt32 x0 >>> (Int32.toUInt32 1 &&& Int32.toUInt32 31)).toInt32) &&& 1431655765)) >>> (Int32.toUInt32 2 &&& Int32.toUInt32 31)).toInt32) &&& 858993459)) + ((Int32.toUInt32 (((x0 - (((Int32.toUInt32 x0 >>> (Int32.toUInt32 1 &&& Int32.toUInt32 31)).toInt32) &&& 1431655765)) &&& 858993459) + (((Int32.toUInt32 (x0 - (((Int32.toUInt32 x0 >>> (Int32.toUInt32 1 &&& Int32.toUInt32 31)).toInt32) &&& 1431655765)) >>> (Int32.toUInt32 2 &&& Int32.toUInt32 31)).toInt32) &&& 858993459)) >>> (Int32.toUInt32 4 &&& Int32.toUInt32 31)).toInt32)) &&& 252645135) + ((Int32.toUInt32 (((((x0 - (((Int32.toUInt32 x0 >>> (Int32.toUInt32 1 &&& Int32.toUInt32 31)).toInt32) &&& 1431655765)) &&& 858993459) + (((Int32.toUInt32 (x0 - (((Int32.toUInt32 x0 >>> (Int32.toUInt32 1 &&& Int32.toUInt32 31)).toInt32) &&& 1431655765)) >>> (Int32.toUInt32 2 &&& Int32.toUInt32 31)).toInt32) &&& 858993459)) + ((Int32.toUInt32 (((x0 - (((Int32.toUInt32 x0 >>> (Int32.toUInt32 1 &&& Int32.toUInt32 31)).toInt32) &&& 1431655765)) &&& 858993459) + (((Int32.toUInt32 (x0 - (((Int32.toUInt32 x0 >>> (Int32.toUInt32 1 &&& Int32.toUInt32 31)).toInt32) &&& 1431655765)) >>> (Int32.toUInt32 2 &&& Int32.toUInt32 31)).toInt32) &&& 858993459)) >>> (Int32.toUInt32 4 &&& Int32.toUInt32 31)).toInt32)) &&& 252645135) >>> (Int32.toUInt32 8 &&& Int32.toUInt32 31)).toInt32)) + ((Int32.toUInt32 ((((((x0 - (((Int32.toUInt32 x0 >>> (Int32.toUInt32 1 &&& Int32.toUInt32 31)).toInt32) &&& 1431655765)) &&& 858993459) + (((Int32.toUInt32 (x0 - (((Int32.toUInt32 x0 >>> (Int32.toUInt32 1 &&& Int32.toUInt32 31)).toInt32) &&& 1431655765)) >>> (Int32.toUInt32 2 &&& Int32.toUInt32 31)).toInt32) &&& 858993459)) + ((Int32.toUInt32 (((x0 - (((Int32.toUInt32 x0 >>> (Int32.toUInt32 1 &&& Int32.toUInt32 31)).toInt32) &&& 1431655765)) &&& 858993459) + (((Int32.toUInt32 (x0 - (((Int32.toUInt32 x0 >>> (Int32.toUInt32 1 &&& Int32.toUInt32 31)).toInt32) &&& 1431655765)) >>> (Int32.toUInt32 2 &&& Int32.toUInt32 31)).toInt32) &&& 858993459)) >>> (Int32.toUInt32 4 &&& Int32.toUInt32 31)).toInt32)) &&& 252645135) + ((Int32.toUInt32 (((((x0 - (((Int32.toUInt32 x0 >>> (Int32.toUInt32 1 &&& Int32.toUInt32 31)).toInt32) &&& 1431655765)) &&& 858993459) + (((Int32.toUInt32 (x0 - (((Int32.toUInt32 x0 >>> (Int32.toUInt32 1 &&& Int32.toUInt32 31)).toInt32) &&& 1431655765)) >>> (Int32.toUInt32 2 &&& Int32.toUInt32 31)).toInt32) &&& 858993459)) + ((Int32.toUInt32 (((x0 - (((Int32.toUInt32 x0 >>> (Int32.toUInt32 1 &&& Int32.toUInt32 31)).toInt32) &&& 1431655765)) &&& 858993459) + (((Int32.toUInt32 (x0 - (((Int32.toUInt32 x0 >>> (Int32.toUInt32 1 &&& Int32.toUInt32 31)).toInt32) &&& 1431655765)) >>> (Int32.toUInt32 2 &&& Int32.toUInt32 31)).toInt32) &&& 858993459)) >>> (Int32.toUInt32 4 &&& Int32.toUInt32 31)).toInt32)) &&& 252645135) >>> (Int32.toUInt32 8 &&& Int32.toUInt32 31)).toInt32)) >>> (Int32.toUInt32 16 &&& Int32.toUInt32 31)).toInt32)) &&& 63)
theorem bc_ok : ∀ a, a < 64 → ∀ b, b < 64 → bcI (nI (64 * a + b)) = nI (btN (64 * a + b) 12) := by decide +kernel
theorem C_J6_bitCount (l : Launch) (w : zWd) (im : zMem) (lv : Int64) {n : Nat} (h : n < 4096) : zSpecI l w 2 zyJ6_bitCount_0f7a4 [vI (nI n)] im lv (fun v im' lv' => v = nI (btN n 12) ∧ im' = im ∧ lv' = lv) := by
  have e := bc_ok (n / 64) (by omega) (n % 64) (by omega)
  rw [show 64 * (n / 64) + n % 64 = n by omega] at e
  rw [← e]
  exact ze_I (by decide) (Nat.le_of_ble_eq_true rfl) (fun x hO hR hN => rJ6_bitCount_0f7a4_0 hO hR hN ⟨rfl, rfl, rfl⟩)
theorem C_J7_fill (l : Launch) (w : zWd) (im : zMem) (lv : Int64) {ra ia Na : Nat} {v : Int32} (hk : zkd ra = (1, Na, 0)) (hi : ia < zcnt ra) (hNa : Na < 2 ^ 30) : zSpecV l w 2 zyJ7_fill_53178 [vR ra ia, vI v] im lv (fun im' lv' => ((∀ r, ¬ r = ra → im' r = im r) ∧ (∀ i, ¬ i = ia → im' ra i = im ra i) ∧ ∀ k, k < Na → im' ra ia k = v) ∧ lv' = lv) := by
  refine ze_V (by decide) (Nat.le_of_ble_eq_true rfl) (fun x hO hR hN => rJ7_fill_53178_0 hO hR hN hk hi ?_)
  have key : ∀ n k (im1 : zMem), n + k = Na → (∀ r, ¬ r = ra → im1 r = im r) → (∀ i, ¬ i = ia → im1 ra i = im ra i) → (∀ j, j < k → im1 ra ia j = v) → zW x w 5 [(0, vR ra ia), (1, vI v), (2, vI (nI k)), (3, vI (Int32.ofNat Na))] [] im1 lv := by
    intro n
    induction n with
    | zero =>
      intro k im1 hk1 h1 h2 h3
      refine rJ7_fill_53178_5 hO hR hN hk hi ?_
      have : k = Na := by omega
      subst this
      exact ⟨fun _ => ⟨⟨h1, h2, h3⟩, rfl⟩, fun q => absurd (Int32.le_refl _) q⟩
    | succ n ih =>
      intro k im1 hk1 h1 h2 h3
      refine rJ7_fill_53178_5 hO hR hN hk hi ?_
      have e : (Int32.ofNat Na) = nI Na := rfl
      rw [nI_clamp (show k < 2 ^ 31 by omega), nI_1]
      refine ⟨fun q => ?_, fun _ => ⟨vp_in_nI (by omega) (by omega), ih (k + 1) _ (by omega) (fun r hr => by rw [zwr_r hr]; exact h1 r hr) (fun i hh => by funext j; rw [zwr_app, if_neg (by omega)]; exact congrFun (h2 i hh) j) (fun j hj => ?_)⟩⟩
      · rw [e, nI_leI (by omega) (by omega)] at q; omega
      · rw [zwr_app]
        by_cases hjk : j = k
        · rw [if_pos ⟨rfl, rfl, hjk⟩]
        · rw [if_neg (by omega)]; exact h3 j (by omega)
  exact key Na 0 im (by omega) (fun _ _ => rfl) (fun _ _ => rfl) (fun j hj => by omega)
