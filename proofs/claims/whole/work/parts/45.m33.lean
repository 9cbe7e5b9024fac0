/-! the class's reader: numbers, storms, bears -/
theorem rX5_stopAt_0 {x : zX} {w : zWd} {im : zMem} {lv : Int64} {P : zMem → Int64 → Prop} {x1 : Int32} (hO : zOK x w zyX5_stopAt 2) (hR : zRetV x w zyX5_stopAt P) (hN : zN x 126 126)
 (h : ((¬ ((im 18 0 6) = 0) → P im lv) ∧
 ((im 18 0 6) = 0 → P (zwr (zwr im 18 0 6 x1) 18 0 7 (im 16 0 4)) lv))) :
 zW x w 0 [(0, vR 18 0), (1, vI x1)] [] im lv := by
  refine zi_aload_n hO dX5_stopAt_0 0 rfl ?_
  refine zi_getI hO dX5_stopAt_1 fX5_22 rfl rfl (zI (by decide)) ?_
  refine zi_if_ne (tgt := 23) hO dX5_stopAt_4 (by decide) (fun c1 => ?_) (fun c1 => ?_)
  · have h := h.1 c1
    exact zr_V hO hR rfl dX5_stopAt_23 h
  · have h := h.2 c1
    refine zi_aload_n hO dX5_stopAt_7 0 rfl ?_
    refine zi_iload_n hO dX5_stopAt_8 1 rfl ?_
    refine zi_putI hO dX5_stopAt_9 gX5_22 rfl rfl (zI (by decide)) ?_
    refine zi_aload_n hO dX5_stopAt_12 0 rfl ?_
    refine zi_aload_n hO dX5_stopAt_13 0 rfl ?_
    refine zi_getR (r' := 16) (i' := 0) hO dX5_stopAt_14 fX5_28 rfl rfl (zI (by decide)) rfl ?_
    refine zi_getI hO dX5_stopAt_17 fX5_156 rfl rfl (zI (by decide)) ?_
    refine zi_putI hO dX5_stopAt_20 gX5_25 rfl rfl (zI (by decide)) ?_
    exact zr_V hO hR rfl dX5_stopAt_23 h
theorem rX5_readNumber_0 {x : zX} {w : zWd} {im : zMem} {lv : Int64} {P : Int32 → zMem → Int64 → Prop} {x1 : Int32} {x2 : Int32} (hO : zOK x w zyX5_readNumber 4) (hR : zRetI x w zyX5_readNumber P) (hN : zN x 126 126)
 (h : (((im 16 0 3) = 2 → (((lg_cmp lv (Int32.toInt64 x1)) < 0 → (∃ P1 : zMem → Int64 → Prop, zSpecV x.2.1 w 2 zyX5_stopAt [vR 18 0, vI 2] im lv P1 ∧ ∀ (im1 : zMem) (lv1 : Int64), P1 im1 lv1 → (((im1 18 0 6) = 0 → (∃ P2 : zMem → Int64 → Prop, zSpecV x.2.1 w 3 zyX10_advance [vR 16 0] im1 lv1 P2 ∧ ∀ (im2 : zMem) (lv2 : Int64), P2 im2 lv2 → P (Int64.toInt32 lv1) im2 lv2)) ∧
 (¬ ((im1 18 0 6) = 0) → P x1 im1 lv1)))) ∧
 (¬ ((lg_cmp lv (Int32.toInt64 x1)) < 0) → (((lg_cmp lv (Int32.toInt64 x2)) ≤ 0 → (((im 18 0 6) = 0 → (∃ P3 : zMem → Int64 → Prop, zSpecV x.2.1 w 3 zyX10_advance [vR 16 0] im lv P3 ∧ ∀ (im3 : zMem) (lv3 : Int64), P3 im3 lv3 → P (Int64.toInt32 lv) im3 lv3)) ∧
 (¬ ((im 18 0 6) = 0) → P x1 im lv))) ∧
 (¬ ((lg_cmp lv (Int32.toInt64 x2)) ≤ 0) → (∃ P4 : zMem → Int64 → Prop, zSpecV x.2.1 w 2 zyX5_stopAt [vR 18 0, vI 2] im lv P4 ∧ ∀ (im4 : zMem) (lv4 : Int64), P4 im4 lv4 → (((im4 18 0 6) = 0 → (∃ P5 : zMem → Int64 → Prop, zSpecV x.2.1 w 3 zyX10_advance [vR 16 0] im4 lv4 P5 ∧ ∀ (im5 : zMem) (lv5 : Int64), P5 im5 lv5 → P (Int64.toInt32 lv4) im5 lv5)) ∧
 (¬ ((im4 18 0 6) = 0) → P x1 im4 lv4)))))))) ∧
 (¬ ((im 16 0 3) = 2) → (∃ P6 : zMem → Int64 → Prop, zSpecV x.2.1 w 2 zyX5_stopAt [vR 18 0, vI 1] im lv P6 ∧ ∀ (im6 : zMem) (lv6 : Int64), P6 im6 lv6 → (((im6 18 0 6) = 0 → (∃ P7 : zMem → Int64 → Prop, zSpecV x.2.1 w 3 zyX10_advance [vR 16 0] im6 lv6 P7 ∧ ∀ (im7 : zMem) (lv7 : Int64), P7 im7 lv7 → P (Int64.toInt32 lv6) im7 lv7)) ∧
 (¬ ((im6 18 0 6) = 0) → P x1 im6 lv6)))))) :
 zW x w 0 [(0, vR 18 0), (1, vI x1), (2, vI x2)] [] im lv := by
  refine zi_aload_n hO dX5_readNumber_0 0 rfl ?_
  refine zi_getR (r' := 16) (i' := 0) hO dX5_readNumber_1 fX5_28 rfl rfl (zI (by decide)) rfl ?_
  refine zi_getI hO dX5_readNumber_4 fX5_61 rfl rfl (zI (by decide)) ?_
  refine zi_iconst (v := 2) hO dX5_readNumber_7 (by decide) ?_
  refine zi_icmp_eq (tgt := 19) hO dX5_readNumber_8 (by decide) (fun c1 => ?_) (fun c1 => ?_)
  · have h := h.1 c1
    refine zi_aload_n hO dX5_readNumber_19 0 rfl ?_
    refine zi_getR (r' := 16) (i' := 0) hO dX5_readNumber_20 fX5_28 rfl rfl (zI (by decide)) rfl ?_
    refine zi_getL hO dX5_readNumber_23 fX5_152 rfl rfl (zI (by decide)) ?_
    refine zi_iload_n hO dX5_readNumber_26 1 rfl ?_
    refine zi_i2l hO dX5_readNumber_27 ?_
    refine zi_lcmp hO dX5_readNumber_28 ?_
    refine zi_if_lt (tgt := 45) hO dX5_readNumber_29 (by decide) (fun c2 => ?_) (fun c2 => ?_)
    · have h := h.1 c2
      refine zi_aload_n hO dX5_readNumber_45 0 rfl ?_
      refine zi_iconst (v := 2) hO dX5_readNumber_46 (by decide) ?_
      obtain ⟨P1, hM1, h⟩ := h
      refine zc_VV (as := [vI 2]) hO hN dX5_readNumber_47 kX5_83 (by decide) rfl (zI (by decide)) rfl rfl (Nat.le_of_ble_eq_true rfl) rfl rfl hM1 (fun im1 lv1 hp1 => ?_)
      replace h := h im1 lv1 hp1
      refine zi_aload_n hO dX5_readNumber_50 0 rfl ?_
      refine zi_getI hO dX5_readNumber_51 fX5_22 rfl rfl (zI (by decide)) ?_
      refine zi_if_eq (tgt := 59) hO dX5_readNumber_54 (by decide) (fun c3 => ?_) (fun c3 => ?_)
      · have h := h.1 c3
        refine zi_aload_n hO dX5_readNumber_59 0 rfl ?_
        refine zi_getR (r' := 16) (i' := 0) hO dX5_readNumber_60 fX5_28 rfl rfl (zI (by decide)) rfl ?_
        refine zi_getL hO dX5_readNumber_63 fX5_152 rfl rfl (zI (by decide)) ?_
        refine zi_l2i hO dX5_readNumber_66 ?_
        refine zi_istore_n (L' := [(0, vR 18 0), (1, vI x1), (2, vI x2), (3, vI (Int64.toInt32 lv1))]) hO dX5_readNumber_67 (by decide) rfl rfl ?_
        refine zi_aload_n hO dX5_readNumber_68 0 rfl ?_
        refine zi_getR (r' := 16) (i' := 0) hO dX5_readNumber_69 fX5_28 rfl rfl (zI (by decide)) rfl ?_
        obtain ⟨P2, hM2, h⟩ := h
        refine zc_VV (as := []) hO hN dX5_readNumber_72 kX5_100 (by decide) rfl (zI (by decide)) rfl rfl (Nat.le_of_ble_eq_true rfl) rfl rfl hM2 (fun im2 lv2 hp2 => ?_)
        replace h := h im2 lv2 hp2
        refine zi_iload_n hO dX5_readNumber_75 3 rfl ?_
        exact zr_I hO hR rfl dX5_readNumber_76 h
      · have h := h.2 c3
        refine zi_iload_n hO dX5_readNumber_57 1 rfl ?_
        exact zr_I hO hR rfl dX5_readNumber_58 h
    · have h := h.2 c2
      refine zi_aload_n hO dX5_readNumber_32 0 rfl ?_
      refine zi_getR (r' := 16) (i' := 0) hO dX5_readNumber_33 fX5_28 rfl rfl (zI (by decide)) rfl ?_
      refine zi_getL hO dX5_readNumber_36 fX5_152 rfl rfl (zI (by decide)) ?_
      refine zi_iload_n hO dX5_readNumber_39 2 rfl ?_
      refine zi_i2l hO dX5_readNumber_40 ?_
      refine zi_lcmp hO dX5_readNumber_41 ?_
      refine zi_if_le (tgt := 50) hO dX5_readNumber_42 (by decide) (fun c4 => ?_) (fun c4 => ?_)
      · have h := h.1 c4
        refine zi_aload_n hO dX5_readNumber_50 0 rfl ?_
        refine zi_getI hO dX5_readNumber_51 fX5_22 rfl rfl (zI (by decide)) ?_
        refine zi_if_eq (tgt := 59) hO dX5_readNumber_54 (by decide) (fun c5 => ?_) (fun c5 => ?_)
        · have h := h.1 c5
          refine zi_aload_n hO dX5_readNumber_59 0 rfl ?_
          refine zi_getR (r' := 16) (i' := 0) hO dX5_readNumber_60 fX5_28 rfl rfl (zI (by decide)) rfl ?_
          refine zi_getL hO dX5_readNumber_63 fX5_152 rfl rfl (zI (by decide)) ?_
          refine zi_l2i hO dX5_readNumber_66 ?_
          refine zi_istore_n (L' := [(0, vR 18 0), (1, vI x1), (2, vI x2), (3, vI (Int64.toInt32 lv))]) hO dX5_readNumber_67 (by decide) rfl rfl ?_
          refine zi_aload_n hO dX5_readNumber_68 0 rfl ?_
          refine zi_getR (r' := 16) (i' := 0) hO dX5_readNumber_69 fX5_28 rfl rfl (zI (by decide)) rfl ?_
          obtain ⟨P3, hM3, h⟩ := h
          refine zc_VV (as := []) hO hN dX5_readNumber_72 kX5_100 (by decide) rfl (zI (by decide)) rfl rfl (Nat.le_of_ble_eq_true rfl) rfl rfl hM3 (fun im3 lv3 hp3 => ?_)
          replace h := h im3 lv3 hp3
          refine zi_iload_n hO dX5_readNumber_75 3 rfl ?_
          exact zr_I hO hR rfl dX5_readNumber_76 h
        · have h := h.2 c5
          refine zi_iload_n hO dX5_readNumber_57 1 rfl ?_
          exact zr_I hO hR rfl dX5_readNumber_58 h
      · have h := h.2 c4
        refine zi_aload_n hO dX5_readNumber_45 0 rfl ?_
        refine zi_iconst (v := 2) hO dX5_readNumber_46 (by decide) ?_
        obtain ⟨P4, hM4, h⟩ := h
        refine zc_VV (as := [vI 2]) hO hN dX5_readNumber_47 kX5_83 (by decide) rfl (zI (by decide)) rfl rfl (Nat.le_of_ble_eq_true rfl) rfl rfl hM4 (fun im4 lv4 hp4 => ?_)
        replace h := h im4 lv4 hp4
        refine zi_aload_n hO dX5_readNumber_50 0 rfl ?_
        refine zi_getI hO dX5_readNumber_51 fX5_22 rfl rfl (zI (by decide)) ?_
        refine zi_if_eq (tgt := 59) hO dX5_readNumber_54 (by decide) (fun c6 => ?_) (fun c6 => ?_)
        · have h := h.1 c6
          refine zi_aload_n hO dX5_readNumber_59 0 rfl ?_
          refine zi_getR (r' := 16) (i' := 0) hO dX5_readNumber_60 fX5_28 rfl rfl (zI (by decide)) rfl ?_
          refine zi_getL hO dX5_readNumber_63 fX5_152 rfl rfl (zI (by decide)) ?_
          refine zi_l2i hO dX5_readNumber_66 ?_
          refine zi_istore_n (L' := [(0, vR 18 0), (1, vI x1), (2, vI x2), (3, vI (Int64.toInt32 lv4))]) hO dX5_readNumber_67 (by decide) rfl rfl ?_
          refine zi_aload_n hO dX5_readNumber_68 0 rfl ?_
          refine zi_getR (r' := 16) (i' := 0) hO dX5_readNumber_69 fX5_28 rfl rfl (zI (by decide)) rfl ?_
          obtain ⟨P5, hM5, h⟩ := h
          refine zc_VV (as := []) hO hN dX5_readNumber_72 kX5_100 (by decide) rfl (zI (by decide)) rfl rfl (Nat.le_of_ble_eq_true rfl) rfl rfl hM5 (fun im5 lv5 hp5 => ?_)
          replace h := h im5 lv5 hp5
          refine zi_iload_n hO dX5_readNumber_75 3 rfl ?_
          exact zr_I hO hR rfl dX5_readNumber_76 h
        · have h := h.2 c6
          refine zi_iload_n hO dX5_readNumber_57 1 rfl ?_
          exact zr_I hO hR rfl dX5_readNumber_58 h
  · have h := h.2 c1
    refine zi_aload_n hO dX5_readNumber_11 0 rfl ?_
    refine zi_iconst (v := 1) hO dX5_readNumber_12 (by decide) ?_
    obtain ⟨P6, hM6, h⟩ := h
    refine zc_VV (as := [vI 1]) hO hN dX5_readNumber_13 kX5_83 (by decide) rfl (zI (by decide)) rfl rfl (Nat.le_of_ble_eq_true rfl) rfl rfl hM6 (fun im6 lv6 hp6 => ?_)
    replace h := h im6 lv6 hp6
    refine zi_goto (tgt := 50) hO dX5_readNumber_16 (by decide) ?_
    refine zi_aload_n hO dX5_readNumber_50 0 rfl ?_
    refine zi_getI hO dX5_readNumber_51 fX5_22 rfl rfl (zI (by decide)) ?_
    refine zi_if_eq (tgt := 59) hO dX5_readNumber_54 (by decide) (fun c7 => ?_) (fun c7 => ?_)
    · have h := h.1 c7
      refine zi_aload_n hO dX5_readNumber_59 0 rfl ?_
      refine zi_getR (r' := 16) (i' := 0) hO dX5_readNumber_60 fX5_28 rfl rfl (zI (by decide)) rfl ?_
      refine zi_getL hO dX5_readNumber_63 fX5_152 rfl rfl (zI (by decide)) ?_
      refine zi_l2i hO dX5_readNumber_66 ?_
      refine zi_istore_n (L' := [(0, vR 18 0), (1, vI x1), (2, vI x2), (3, vI (Int64.toInt32 lv6))]) hO dX5_readNumber_67 (by decide) rfl rfl ?_
      refine zi_aload_n hO dX5_readNumber_68 0 rfl ?_
      refine zi_getR (r' := 16) (i' := 0) hO dX5_readNumber_69 fX5_28 rfl rfl (zI (by decide)) rfl ?_
      obtain ⟨P7, hM7, h⟩ := h
      refine zc_VV (as := []) hO hN dX5_readNumber_72 kX5_100 (by decide) rfl (zI (by decide)) rfl rfl (Nat.le_of_ble_eq_true rfl) rfl rfl hM7 (fun im7 lv7 hp7 => ?_)
      replace h := h im7 lv7 hp7
      refine zi_iload_n hO dX5_readNumber_75 3 rfl ?_
      exact zr_I hO hR rfl dX5_readNumber_76 h
    · have h := h.2 c7
      refine zi_iload_n hO dX5_readNumber_57 1 rfl ?_
      exact zr_I hO hR rfl dX5_readNumber_58 h
theorem rX5_readSemicolon_0 {x : zX} {w : zWd} {im : zMem} {lv : Int64} {P : zMem → Int64 → Prop} (hO : zOK x w zyX5_readSemicolon 4) (hR : zRetV x w zyX5_readSemicolon P) (hN : zN x 126 126)
 (h : (((im 16 0 3) = 4 → ((¬ ((im 18 0 6) = 0) → P im lv) ∧
 ((im 18 0 6) = 0 → (∃ P1 : zMem → Int64 → Prop, zSpecV x.2.1 w 3 zyX10_advance [vR 16 0] im lv P1 ∧ ∀ (im1 : zMem) (lv1 : Int64), P1 im1 lv1 → P im1 lv1)))) ∧
 (¬ ((im 16 0 3) = 4) → (∃ P2 : zMem → Int64 → Prop, zSpecV x.2.1 w 2 zyX5_stopAt [vR 18 0, vI 1] im lv P2 ∧ ∀ (im2 : zMem) (lv2 : Int64), P2 im2 lv2 → ((¬ ((im2 18 0 6) = 0) → P im2 lv2) ∧
 ((im2 18 0 6) = 0 → (∃ P3 : zMem → Int64 → Prop, zSpecV x.2.1 w 3 zyX10_advance [vR 16 0] im2 lv2 P3 ∧ ∀ (im3 : zMem) (lv3 : Int64), P3 im3 lv3 → P im3 lv3))))))) :
 zW x w 0 [(0, vR 18 0)] [] im lv := by
  refine zi_aload_n hO dX5_readSemicolon_0 0 rfl ?_
  refine zi_getR (r' := 16) (i' := 0) hO dX5_readSemicolon_1 fX5_28 rfl rfl (zI (by decide)) rfl ?_
  refine zi_getI hO dX5_readSemicolon_4 fX5_61 rfl rfl (zI (by decide)) ?_
  refine zi_iconst (v := 4) hO dX5_readSemicolon_7 (by decide) ?_
  refine zi_icmp_eq (tgt := 16) hO dX5_readSemicolon_8 (by decide) (fun c1 => ?_) (fun c1 => ?_)
  · have h := h.1 c1
    refine zi_aload_n hO dX5_readSemicolon_16 0 rfl ?_
    refine zi_getI hO dX5_readSemicolon_17 fX5_22 rfl rfl (zI (by decide)) ?_
    refine zi_if_ne (tgt := 30) hO dX5_readSemicolon_20 (by decide) (fun c2 => ?_) (fun c2 => ?_)
    · have h := h.1 c2
      exact zr_V hO hR rfl dX5_readSemicolon_30 h
    · have h := h.2 c2
      refine zi_aload_n hO dX5_readSemicolon_23 0 rfl ?_
      refine zi_getR (r' := 16) (i' := 0) hO dX5_readSemicolon_24 fX5_28 rfl rfl (zI (by decide)) rfl ?_
      obtain ⟨P1, hM1, h⟩ := h
      refine zc_VV (as := []) hO hN dX5_readSemicolon_27 kX5_100 (by decide) rfl (zI (by decide)) rfl rfl (Nat.le_of_ble_eq_true rfl) rfl rfl hM1 (fun im1 lv1 hp1 => ?_)
      replace h := h im1 lv1 hp1
      exact zr_V hO hR rfl dX5_readSemicolon_30 h
  · have h := h.2 c1
    refine zi_aload_n hO dX5_readSemicolon_11 0 rfl ?_
    refine zi_iconst (v := 1) hO dX5_readSemicolon_12 (by decide) ?_
    obtain ⟨P2, hM2, h⟩ := h
    refine zc_VV (as := [vI 1]) hO hN dX5_readSemicolon_13 kX5_83 (by decide) rfl (zI (by decide)) rfl rfl (Nat.le_of_ble_eq_true rfl) rfl rfl hM2 (fun im2 lv2 hp2 => ?_)
    replace h := h im2 lv2 hp2
    refine zi_aload_n hO dX5_readSemicolon_16 0 rfl ?_
    refine zi_getI hO dX5_readSemicolon_17 fX5_22 rfl rfl (zI (by decide)) ?_
    refine zi_if_ne (tgt := 30) hO dX5_readSemicolon_20 (by decide) (fun c3 => ?_) (fun c3 => ?_)
    · have h := h.1 c3
      exact zr_V hO hR rfl dX5_readSemicolon_30 h
    · have h := h.2 c3
      refine zi_aload_n hO dX5_readSemicolon_23 0 rfl ?_
      refine zi_getR (r' := 16) (i' := 0) hO dX5_readSemicolon_24 fX5_28 rfl rfl (zI (by decide)) rfl ?_
      obtain ⟨P3, hM3, h⟩ := h
      refine zc_VV (as := []) hO hN dX5_readSemicolon_27 kX5_100 (by decide) rfl (zI (by decide)) rfl rfl (Nat.le_of_ble_eq_true rfl) rfl rfl hM3 (fun im3 lv3 hp3 => ?_)
      replace h := h im3 lv3 hp3
      exact zr_V hO hR rfl dX5_readSemicolon_30 h
theorem rX5_readBear_0 {x : zX} {w : zWd} {im : zMem} {lv : Int64} {P : zMem → Int64 → Prop} (hO : zOK x w zyX5_readBear 5) (hR : zRetV x w zyX5_readBear P) (hN : zN x 126 126)
 (h : (∃ P1 : zMem → Int64 → Prop, zSpecV x.2.1 w 3 zyX10_advance [vR 16 0] im lv P1 ∧ ∀ (im1 : zMem) (lv1 : Int64), P1 im1 lv1 → (∃ P2 : Int32 → zMem → Int64 → Prop, zSpecI x.2.1 w 4 zyX5_readNumber [vR 18 0, vI 0, vI 7] im1 lv1 P2 ∧ ∀ (v2 : Int32) (im2 : zMem) (lv2 : Int64), P2 v2 im2 lv2 → (∃ P3 : Int32 → zMem → Int64 → Prop, zSpecI x.2.1 w 4 zyX5_readNumber [vR 18 0, vI 0, vI 99] im2 lv2 P3 ∧ ∀ (v3 : Int32) (im3 : zMem) (lv3 : Int64), P3 v3 im3 lv3 → (∃ P4 : zMem → Int64 → Prop, zSpecV x.2.1 w 4 zyX5_readSemicolon [vR 18 0] im3 lv3 P4 ∧ ∀ (im4 : zMem) (lv4 : Int64), P4 im4 lv4 → (vp_in v2 8 ∧ P (zwr im4 19 0 (Int32.toNatClampNeg v2) v3) lv4)))))) :
 zW x w 0 [(0, vR 18 0)] [] im lv := by
  refine zi_aload_n hO dX5_readBear_0 0 rfl ?_
  refine zi_getR (r' := 16) (i' := 0) hO dX5_readBear_1 fX5_28 rfl rfl (zI (by decide)) rfl ?_
  obtain ⟨P1, hM1, h⟩ := h
  refine zc_VV (as := []) hO hN dX5_readBear_4 kX5_100 (by decide) rfl (zI (by decide)) rfl rfl (Nat.le_of_ble_eq_true rfl) rfl rfl hM1 (fun im1 lv1 hp1 => ?_)
  replace h := h im1 lv1 hp1
  refine zi_aload_n hO dX5_readBear_7 0 rfl ?_
  refine zi_iconst (v := 0) hO dX5_readBear_8 (by decide) ?_
  refine zi_bipush (v := 7) hO dX5_readBear_9 (by decide) ?_
  obtain ⟨P2, hM2, h⟩ := h
  refine zc_VI (as := [vI 0, vI 7]) hO hN dX5_readBear_11 kX5_103 (by decide) rfl (zI (by decide)) rfl rfl (Nat.le_of_ble_eq_true rfl) rfl rfl hM2 (fun v2 im2 lv2 hp2 => ?_)
  replace h := h v2 im2 lv2 hp2
  refine zi_istore_n (L' := [(0, vR 18 0), (1, vI v2)]) hO dX5_readBear_14 (by decide) rfl rfl ?_
  refine zi_aload_n hO dX5_readBear_15 0 rfl ?_
  refine zi_iconst (v := 0) hO dX5_readBear_16 (by decide) ?_
  refine zi_bipush (v := 99) hO dX5_readBear_17 (by decide) ?_
  obtain ⟨P3, hM3, h⟩ := h
  refine zc_VI (as := [vI 0, vI 99]) hO hN dX5_readBear_19 kX5_103 (by decide) rfl (zI (by decide)) rfl rfl (Nat.le_of_ble_eq_true rfl) rfl rfl hM3 (fun v3 im3 lv3 hp3 => ?_)
  replace h := h v3 im3 lv3 hp3
  refine zi_istore_n (L' := [(0, vR 18 0), (1, vI v2), (2, vI v3)]) hO dX5_readBear_22 (by decide) rfl rfl ?_
  refine zi_aload_n hO dX5_readBear_23 0 rfl ?_
  obtain ⟨P4, hM4, h⟩ := h
  refine zc_VV (as := []) hO hN dX5_readBear_24 kX5_123 (by decide) rfl (zI (by decide)) rfl rfl (Nat.le_of_ble_eq_true rfl) rfl rfl hM4 (fun im4 lv4 hp4 => ?_)
  replace h := h im4 lv4 hp4
  refine zi_aload_n hO dX5_readBear_27 0 rfl ?_
  refine zi_getR (r' := 19) (i' := 0) hO dX5_readBear_28 fX5_9 rfl rfl (zI (by decide)) rfl ?_
  refine zi_iload_n hO dX5_readBear_31 1 rfl ?_
  refine zi_iload_n hO dX5_readBear_32 2 rfl ?_
  obtain ⟨s5, h⟩ := h
  refine zi_iast hO dX5_readBear_33 rfl (zI (by decide)) s5 ?_
  exact zr_V hO hR rfl dX5_readBear_34 h
theorem rX5_readStorm_0 {x : zX} {w : zWd} {im : zMem} {lv : Int64} {P : zMem → Int64 → Prop} (hO : zOK x w zyX5_readStorm 5) (hR : zRetV x w zyX5_readStorm P) (hN : zN x 126 126)
 (h : (((im 18 0 5) < 20 → (∃ P1 : zMem → Int64 → Prop, zSpecV x.2.1 w 3 zyX10_advance [vR 16 0] im lv P1 ∧ ∀ (im1 : zMem) (lv1 : Int64), P1 im1 lv1 → (∃ P2 : Int32 → zMem → Int64 → Prop, zSpecI x.2.1 w 4 zyX5_readNumber [vR 18 0, vI 1, vI 3] im1 lv1 P2 ∧ ∀ (v2 : Int32) (im2 : zMem) (lv2 : Int64), P2 v2 im2 lv2 → (vp_in (im1 18 0 5) 20 ∧ (∃ P4 : Int32 → zMem → Int64 → Prop, zSpecI x.2.1 w 4 zyX5_readNumber [vR 18 0, vI 0, vI 7] (zwr im2 5 0 (Int32.toNatClampNeg (im1 18 0 5)) v2) lv2 P4 ∧ ∀ (v4 : Int32) (im4 : zMem) (lv4 : Int64), P4 v4 im4 lv4 → (vp_in (im2 18 0 5) 20 ∧ (∃ P6 : Int32 → zMem → Int64 → Prop, zSpecI x.2.1 w 4 zyX5_readNumber [vR 18 0, vI 0, vI 47] (zwr im4 6 0 (Int32.toNatClampNeg (im2 18 0 5)) v4) lv4 P6 ∧ ∀ (v6 : Int32) (im6 : zMem) (lv6 : Int64), P6 v6 im6 lv6 → (vp_in (im6 18 0 5) 20 ∧ (∃ P8 : Int32 → zMem → Int64 → Prop, zSpecI x.2.1 w 4 zyX5_readNumber [vR 18 0, vI (v6 + 1), vI 48] (zwr im6 7 0 (Int32.toNatClampNeg (im6 18 0 5)) v6) lv6 P8 ∧ ∀ (v8 : Int32) (im8 : zMem) (lv8 : Int64), P8 v8 im8 lv8 → (∃ P9 : Int32 → zMem → Int64 → Prop, zSpecI x.2.1 w 4 zyX5_readNumber [vR 18 0, vI 0, vI 99] (zwr im8 8 0 (Int32.toNatClampNeg (im6 18 0 5)) v8) lv8 P9 ∧ ∀ (v9 : Int32) (im9 : zMem) (lv9 : Int64), P9 v9 im9 lv9 → (vp_in (im8 18 0 5) 20 ∧ (∃ P11 : zMem → Int64 → Prop, zSpecV x.2.1 w 4 zyX5_readSemicolon [vR 18 0] (zwr im9 9 0 (Int32.toNatClampNeg (im8 18 0 5)) v9) lv9 P11 ∧ ∀ (im11 : zMem) (lv11 : Int64), P11 im11 lv11 → P (zwr im11 18 0 5 ((im11 18 0 5) + 1)) lv11)))))))))))) ∧
 (¬ ((im 18 0 5) < 20) → (∃ P12 : zMem → Int64 → Prop, zSpecV x.2.1 w 2 zyX5_stopAt [vR 18 0, vI 4] im lv P12 ∧ ∀ (im12 : zMem) (lv12 : Int64), P12 im12 lv12 → P im12 lv12)))) :
 zW x w 0 [(0, vR 18 0)] [] im lv := by
  refine zi_aload_n hO dX5_readStorm_0 0 rfl ?_
  refine zi_getI hO dX5_readStorm_1 fX5_19 rfl rfl (zI (by decide)) ?_
  refine zi_bipush (v := 20) hO dX5_readStorm_4 (by decide) ?_
  refine zi_icmp_lt (tgt := 15) hO dX5_readStorm_6 (by decide) (fun c1 => ?_) (fun c1 => ?_)
  · have h := h.1 c1
    refine zi_aload_n hO dX5_readStorm_15 0 rfl ?_
    refine zi_getR (r' := 16) (i' := 0) hO dX5_readStorm_16 fX5_28 rfl rfl (zI (by decide)) rfl ?_
    obtain ⟨P1, hM1, h⟩ := h
    refine zc_VV (as := []) hO hN dX5_readStorm_19 kX5_100 (by decide) rfl (zI (by decide)) rfl rfl (Nat.le_of_ble_eq_true rfl) rfl rfl hM1 (fun im1 lv1 hp1 => ?_)
    replace h := h im1 lv1 hp1
    refine zi_aload_n hO dX5_readStorm_22 0 rfl ?_
    refine zi_getR (r' := 2) (i' := 0) hO dX5_readStorm_23 fX5_32 rfl rfl (zI (by decide)) rfl ?_
    refine zi_getR (r' := 5) (i' := 0) hO dX5_readStorm_26 fX5_137 rfl rfl (zI (by decide)) rfl ?_
    refine zi_aload_n hO dX5_readStorm_29 0 rfl ?_
    refine zi_getI hO dX5_readStorm_30 fX5_19 rfl rfl (zI (by decide)) ?_
    refine zi_aload_n hO dX5_readStorm_33 0 rfl ?_
    refine zi_iconst (v := 1) hO dX5_readStorm_34 (by decide) ?_
    refine zi_iconst (v := 3) hO dX5_readStorm_35 (by decide) ?_
    obtain ⟨P2, hM2, h⟩ := h
    refine zc_VI (as := [vI 1, vI 3]) hO hN dX5_readStorm_36 kX5_103 (by decide) rfl (zI (by decide)) rfl rfl (Nat.le_of_ble_eq_true rfl) rfl rfl hM2 (fun v2 im2 lv2 hp2 => ?_)
    replace h := h v2 im2 lv2 hp2
    obtain ⟨s3, h⟩ := h
    refine zi_iast hO dX5_readStorm_39 rfl (zI (by decide)) s3 ?_
    refine zi_aload_n hO dX5_readStorm_40 0 rfl ?_
    refine zi_getR (r' := 2) (i' := 0) hO dX5_readStorm_41 fX5_32 rfl rfl (zI (by decide)) rfl ?_
    refine zi_getR (r' := 6) (i' := 0) hO dX5_readStorm_44 fX5_140 rfl rfl (zI (by decide)) rfl ?_
    refine zi_aload_n hO dX5_readStorm_47 0 rfl ?_
    refine zi_getI hO dX5_readStorm_48 fX5_19 rfl rfl (zI (by decide)) ?_
    refine zi_aload_n hO dX5_readStorm_51 0 rfl ?_
    refine zi_iconst (v := 0) hO dX5_readStorm_52 (by decide) ?_
    refine zi_bipush (v := 7) hO dX5_readStorm_53 (by decide) ?_
    obtain ⟨P4, hM4, h⟩ := h
    refine zc_VI (as := [vI 0, vI 7]) hO hN dX5_readStorm_55 kX5_103 (by decide) rfl (zI (by decide)) rfl rfl (Nat.le_of_ble_eq_true rfl) rfl rfl hM4 (fun v4 im4 lv4 hp4 => ?_)
    replace h := h v4 im4 lv4 hp4
    obtain ⟨s5, h⟩ := h
    refine zi_iast hO dX5_readStorm_58 rfl (zI (by decide)) s5 ?_
    refine zi_aload_n hO dX5_readStorm_59 0 rfl ?_
    refine zi_iconst (v := 0) hO dX5_readStorm_60 (by decide) ?_
    refine zi_bipush (v := 47) hO dX5_readStorm_61 (by decide) ?_
    obtain ⟨P6, hM6, h⟩ := h
    refine zc_VI (as := [vI 0, vI 47]) hO hN dX5_readStorm_63 kX5_103 (by decide) rfl (zI (by decide)) rfl rfl (Nat.le_of_ble_eq_true rfl) rfl rfl hM6 (fun v6 im6 lv6 hp6 => ?_)
    replace h := h v6 im6 lv6 hp6
    refine zi_istore_n (L' := [(0, vR 18 0), (1, vI v6)]) hO dX5_readStorm_66 (by decide) rfl rfl ?_
    refine zi_aload_n hO dX5_readStorm_67 0 rfl ?_
    refine zi_getR (r' := 2) (i' := 0) hO dX5_readStorm_68 fX5_32 rfl rfl (zI (by decide)) rfl ?_
    refine zi_getR (r' := 7) (i' := 0) hO dX5_readStorm_71 fX5_143 rfl rfl (zI (by decide)) rfl ?_
    refine zi_aload_n hO dX5_readStorm_74 0 rfl ?_
    refine zi_getI hO dX5_readStorm_75 fX5_19 rfl rfl (zI (by decide)) ?_
    refine zi_iload_n hO dX5_readStorm_78 1 rfl ?_
    obtain ⟨s7, h⟩ := h
    refine zi_iast hO dX5_readStorm_79 rfl (zI (by decide)) s7 ?_
    refine zi_aload_n hO dX5_readStorm_80 0 rfl ?_
    refine zi_getR (r' := 2) (i' := 0) hO dX5_readStorm_81 fX5_32 rfl rfl (zI (by decide)) rfl ?_
    refine zi_getR (r' := 8) (i' := 0) hO dX5_readStorm_84 fX5_146 rfl rfl (zI (by decide)) rfl ?_
    refine zi_aload_n hO dX5_readStorm_87 0 rfl ?_
    refine zi_getI hO dX5_readStorm_88 fX5_19 rfl rfl (zI (by decide)) ?_
    refine zi_aload_n hO dX5_readStorm_91 0 rfl ?_
    refine zi_iload_n hO dX5_readStorm_92 1 rfl ?_
    refine zi_iconst (v := 1) hO dX5_readStorm_93 (by decide) ?_
    refine zi_iadd hO dX5_readStorm_94 ?_
    refine zi_bipush (v := 48) hO dX5_readStorm_95 (by decide) ?_
    obtain ⟨P8, hM8, h⟩ := h
    refine zc_VI (as := [vI (v6 + 1), vI 48]) hO hN dX5_readStorm_97 kX5_103 (by decide) rfl (zI (by decide)) rfl rfl (Nat.le_of_ble_eq_true rfl) rfl rfl hM8 (fun v8 im8 lv8 hp8 => ?_)
    replace h := h v8 im8 lv8 hp8
    refine zi_iast hO dX5_readStorm_100 rfl (zI (by decide)) s7 ?_
    refine zi_aload_n hO dX5_readStorm_101 0 rfl ?_
    refine zi_getR (r' := 2) (i' := 0) hO dX5_readStorm_102 fX5_32 rfl rfl (zI (by decide)) rfl ?_
    refine zi_getR (r' := 9) (i' := 0) hO dX5_readStorm_105 fX5_149 rfl rfl (zI (by decide)) rfl ?_
    refine zi_aload_n hO dX5_readStorm_108 0 rfl ?_
    refine zi_getI hO dX5_readStorm_109 fX5_19 rfl rfl (zI (by decide)) ?_
    refine zi_aload_n hO dX5_readStorm_112 0 rfl ?_
    refine zi_iconst (v := 0) hO dX5_readStorm_113 (by decide) ?_
    refine zi_bipush (v := 99) hO dX5_readStorm_114 (by decide) ?_
    obtain ⟨P9, hM9, h⟩ := h
    refine zc_VI (as := [vI 0, vI 99]) hO hN dX5_readStorm_116 kX5_103 (by decide) rfl (zI (by decide)) rfl rfl (Nat.le_of_ble_eq_true rfl) rfl rfl hM9 (fun v9 im9 lv9 hp9 => ?_)
    replace h := h v9 im9 lv9 hp9
    obtain ⟨s10, h⟩ := h
    refine zi_iast hO dX5_readStorm_119 rfl (zI (by decide)) s10 ?_
    refine zi_aload_n hO dX5_readStorm_120 0 rfl ?_
    obtain ⟨P11, hM11, h⟩ := h
    refine zc_VV (as := []) hO hN dX5_readStorm_121 kX5_123 (by decide) rfl (zI (by decide)) rfl rfl (Nat.le_of_ble_eq_true rfl) rfl rfl hM11 (fun im11 lv11 hp11 => ?_)
    replace h := h im11 lv11 hp11
    refine zi_aload_n hO dX5_readStorm_124 0 rfl ?_
    refine zi_dup hO dX5_readStorm_125 rfl ?_
    refine zi_getI hO dX5_readStorm_126 fX5_19 rfl rfl (zI (by decide)) ?_
    refine zi_iconst (v := 1) hO dX5_readStorm_129 (by decide) ?_
    refine zi_iadd hO dX5_readStorm_130 ?_
    refine zi_putI hO dX5_readStorm_131 gX5_19 rfl rfl (zI (by decide)) ?_
    exact zr_V hO hR rfl dX5_readStorm_134 h
  · have h := h.2 c1
    refine zi_aload_n hO dX5_readStorm_9 0 rfl ?_
    refine zi_iconst (v := 4) hO dX5_readStorm_10 (by decide) ?_
    obtain ⟨P12, hM12, h⟩ := h
    refine zc_VV (as := [vI 4]) hO hN dX5_readStorm_11 kX5_83 (by decide) rfl (zI (by decide)) rfl rfl (Nat.le_of_ble_eq_true rfl) rfl rfl hM12 (fun im12 lv12 hp12 => ?_)
    replace h := h im12 lv12 hp12
    exact zr_V hO hR rfl dX5_readStorm_14 h
/-- where the class's reader stands -/
def RSC (m im : zMem) (lv : Int64) (s : Nat × Nat) : Prop := TD m im ∧ TkC m im lv s.1 ∧ im 18 0 6 = nI s.2 ∧ (¬ s.2 = 0 → im 18 0 7 = nI s.1) ∧ s.1 ≤ tn m ∧ s.2 ≤ 4
abbrev Srb : Nat → Nat → Nat → Prop := fun r _ k => (r = 16 ∧ 2 ≤ k ∧ k ≤ 4) ∨ (r = 18 ∧ 6 ≤ k ∧ k ≤ 7)
theorem RSC.fr {m im im' : zMem} {lv : Int64} {s : Nat × Nat} (h : RSC m im lv s) (h16 : im' 16 = im 16) (h17 : im' 17 = im 17) (h6 : im' 18 0 6 = im 18 0 6) (h7 : im' 18 0 7 = im 18 0 7) : RSC m im' lv s := by
  unfold RSC TD TkC at *
  rw [h16, h17, h6, h7]
  exact h
theorem RSC.wr {m im : zMem} {lv : Int64} {s : Nat × Nat} (h : RSC m im lv s) {r i k : Nat} {v : Int32} (h1 : ¬ r = 16) (h2 : ¬ r = 17) (h3 : ¬ (r = 18 ∧ 6 ≤ k ∧ k ≤ 7)) : RSC m (zwr im r i k v) lv s :=
  h.fr (zwr_r (fun z => h1 z.symm)) (zwr_r (fun z => h2 z.symm)) (by rw [zwr_app, if_neg (by omega)]) (by rw [zwr_app, if_neg (by omega)])
theorem zcr {im im' : zMem} (h : Fr Srb im im') {r i k : Nat} (hr : ¬ r = 16) (h2 : ¬ r = 18) : im' r i k = im r i k := h r i k (by omega)
theorem C_X5_stopAt (l : Launch) (w : zWd) {m im : zMem} (lv : Int64) {s : Nat × Nat} (hS : RSC m im lv s) {k : Nat} (hk1 : 1 ≤ k) (hk : k ≤ 4) {x1 : Int32} (hx : x1 = nI k) : zSpecV l w 2 zyX5_stopAt [vR 18 0, vI x1] im lv (fun im' lv' => (Fr Srb im im' ∧ RSC m im' lv (bdS k s)) ∧ lv' = lv) := by
  refine ze_V (by decide) (Nat.le_of_ble_eq_true rfl) (fun x hO hR hN => rX5_stopAt_0 hO hR hN ?_)
  subst hx
  have hS' := hS
  obtain ⟨a, b, d, e, f, g⟩ := hS
  rw [d, show (0 : Int32) = nI 0 from rfl, nI_eq (by omega) (by decide)]
  unfold bdS
  refine ⟨fun z => ⟨⟨Fr.refl, ?_⟩, rfl⟩, fun z => ⟨⟨?_, ?_⟩, rfl⟩⟩
  · rw [if_neg z]; exact hS'
  · exact (Fr.refl.wr (by decide)).wr (by decide)
  · rw [if_pos z]
    refine ⟨a.fr (by rw [zwr_r (by decide), zwr_r (by decide)]) (by rw [zwr_r (by decide), zwr_r (by decide)]), ?_, ?_, fun _ => ?_, f, hk⟩
    · unfold TkC at *
      rw [zwr_r (by decide), zwr_r (by decide)]
      exact b
    · rw [zwr_k (by decide), zwr_eq]
    · rw [zwr_eq]; exact b.2.2.1
theorem bdS_ne {k : Nat} {s : Nat × Nat} (h : 1 ≤ k) : ¬ (bdS k s).2 = 0 := by
  unfold bdS
  by_cases hs : s.2 = 0
  · rw [if_pos hs]
    show ¬ k = 0
    omega
  · rw [if_neg hs]
    exact hs
theorem advR (l : Launch) (w : zWd) {m im : zMem} (lv : Int64) (hT : WT m) {a : Nat} (hS : RSC m im lv (a, 0)) : ∃ P1 : zMem → Int64 → Prop, zSpecV l w 3 zyX10_advance [vR 16 0] im lv P1 ∧ ∀ im' lv', P1 im' lv' → Fr Srb im im' ∧ RSC m im' lv' (nx m a, 0) := by
  obtain ⟨h1, b, d, e, f, g⟩ := hS
  have hle := te_le f
  refine ⟨_, C_X10_advance l w lv hT h1 b.1 hle, ?_⟩
  rintro im' lv' ⟨g1, g2⟩
  exact ⟨Fr.mono g1 (fun r i k z => Or.inl z), h1.fr (g1 16 0 1 (by omega)) (Fr.row g1 (fun _ _ z => absurd z.1 (by decide))), g2, (g1 18 0 6 (by omega)).trans d, fun z => absurd rfl z, nx_le f, Nat.zero_le 4⟩
theorem l_lt {a b : Nat} (ha : a < 2 ^ 31) (hb : b < 2 ^ 31) : lg_cmp (Int64.ofNat a) (Int32.toInt64 (nI b)) < 0 ↔ a < b := by
  rw [lg_lt, wI hb]
  exact lN_lt ha hb
theorem l_le {a b : Nat} (ha : a < 2 ^ 31) (hb : b < 2 ^ 31) : lg_cmp (Int64.ofNat a) (Int32.toInt64 (nI b)) ≤ 0 ↔ a ≤ b := by
  rw [lg_le, wI hb]
  exact lN_le ha hb
theorem C_X5_readNumber (l : Launch) (w : zWd) {m im : zMem} (lv : Int64) (hT : WT m) {s : Nat × Nat} (hS : RSC m im lv s) {lo hi : Nat} {x1 x2 : Int32} (hx : s.2 = 0 → x1 = nI lo ∧ x2 = nI hi ∧ lo < 1000 ∧ hi < 1000) : zSpecI l w 4 zyX5_readNumber [vR 18 0, vI x1, vI x2] im lv (fun v im' lv' => Fr Srb im im' ∧ RSC m im' lv' (nmS m lo hi s) ∧ ((nmS m lo hi s).2 = 0 → v = nI (nv m s.1)) ∧ (¬ (nmS m lo hi s).2 = 0 → v = x1)) := by
  refine ze_I (by decide) (Nat.le_of_ble_eq_true rfl) (fun x hO hR hN => rX5_readNumber_0 hO hR hN ?_)
  have hkl := kd_le (m := m) (a := s.1)
  have e3 : im 16 0 3 = 2 ↔ kd m s.1 = 2 := by rw [hS.2.1.2.1]; exact nI_eq (b := 2) (by omega) (by decide)
  have e6 : im 18 0 6 = 0 ↔ s.2 = 0 := by rw [hS.2.2.1]; exact nI_eq (b := 0) (by have := hS.2.2.2.2.2; omega) (by decide)
  rw [e3, e6]
  -- a stop, and what follows
  have stop : ∀ k, 1 ≤ k → k ≤ 4 → nmS m lo hi s = bdS k s → ∃ P1 : zMem → Int64 → Prop, zSpecV x.2.1 w 2 zyX5_stopAt [vR 18 0, vI (nI k)] im lv P1 ∧ ∀ (im1 : zMem) (lv1 : Int64), P1 im1 lv1 → (((im1 18 0 6) = 0 → (∃ P2 : zMem → Int64 → Prop, zSpecV x.2.1 w 3 zyX10_advance [vR 16 0] im1 lv1 P2 ∧ ∀ (im2 : zMem) (lv2 : Int64), P2 im2 lv2 → Fr Srb im im2 ∧ RSC m im2 lv2 (nmS m lo hi s) ∧ ((nmS m lo hi s).2 = 0 → (Int64.toInt32 lv1) = nI (nv m s.1)) ∧ (¬ (nmS m lo hi s).2 = 0 → (Int64.toInt32 lv1) = x1))) ∧ (¬ ((im1 18 0 6) = 0) → Fr Srb im im1 ∧ RSC m im1 lv1 (nmS m lo hi s) ∧ ((nmS m lo hi s).2 = 0 → x1 = nI (nv m s.1)) ∧ (¬ (nmS m lo hi s).2 = 0 → x1 = x1))) := by
    intro k h1 h4 hn
    refine ⟨_, C_X5_stopAt _ _ _ hS h1 h4 rfl, ?_⟩
    rintro im1 lv1 ⟨⟨g1, g2⟩, rfl⟩
    have hne : ¬ (bdS k s).2 = 0 := bdS_ne h1
    rw [hn]
    refine ⟨fun z => ?_, fun _ => ⟨g1, g2, fun z => absurd z hne, fun _ => rfl⟩⟩
    exfalso
    rw [g2.2.2.1] at z
    exact hne ((nI_eq (b := 0) (by have := g2.2.2.2.2.2; omega) (by decide)).mp z)
  by_cases h0 : s.2 = 0
  · obtain ⟨rfl, rfl, hlo, hhi⟩ := hx h0
    refine ⟨fun hk => ?_, fun hk => ?_⟩
    · have hlv := hS.2.1.2.2.2.2 hk
      have hv9 := nv_le hk
      rw [hlv, l_lt (by omega) (by omega), l_le (by omega) (by omega)]
      rw [hlv] at hS stop
      refine ⟨fun z => ?_, fun z => ⟨fun y => ⟨fun _ => ?_, fun q => absurd h0 q⟩, fun y => ?_⟩⟩
      · exact stop 2 (by decide) (by decide) (by unfold nmS bdS; rw [if_pos h0, if_pos hk, if_neg (by omega), if_pos h0])
      · obtain ⟨sa, sf⟩ := s
        dsimp only at h0
        subst h0
        obtain ⟨P1, p1, p2⟩ := advR x.2.1 w _ hT hS
        refine ⟨P1, p1, fun im3 lv3 h3 => ?_⟩
        obtain ⟨g1, g2⟩ := p2 im3 lv3 h3
        have hn : nmS m lo hi (sa, 0) = (nx m sa, 0) := by unfold nmS; rw [if_pos rfl, if_pos hk, if_pos ⟨by omega, y⟩]
        rw [hn]
        exact ⟨g1, g2, fun _ => lN_i _, fun q => absurd rfl q⟩
      · exact stop 2 (by decide) (by decide) (by unfold nmS bdS; rw [if_pos h0, if_pos hk, if_neg (by omega), if_pos h0])
    · exact stop 1 (by decide) (by decide) (by unfold nmS bdS; rw [if_pos h0, if_neg hk, if_pos h0])
  · have hn : nmS m lo hi s = s := by unfold nmS; rw [if_neg h0]
    have hbd : ∀ k, nmS m lo hi s = bdS k s := fun k => by rw [hn]; unfold bdS; rw [if_neg h0]
    refine ⟨fun hk => ⟨fun z => stop 2 (by decide) (by decide) (hbd 2), fun z => ⟨fun y => ⟨fun q => absurd q h0, fun _ => ?_⟩, fun y => stop 2 (by decide) (by decide) (hbd 2)⟩⟩, fun hk => stop 1 (by decide) (by decide) (hbd 1)⟩
    rw [hn]
    exact ⟨Fr.refl, hS, fun q => absurd q h0, fun _ => rfl⟩
theorem C_X5_readSemicolon (l : Launch) (w : zWd) {m im : zMem} (lv : Int64) (hT : WT m) {s : Nat × Nat} (hS : RSC m im lv s) : zSpecV l w 4 zyX5_readSemicolon [vR 18 0] im lv (fun im' lv' => Fr Srb im im' ∧ RSC m im' lv' (semS m s)) := by
  refine ze_V (by decide) (Nat.le_of_ble_eq_true rfl) (fun x hO hR hN => rX5_readSemicolon_0 hO hR hN ?_)
  have hkl := kd_le (m := m) (a := s.1)
  have e3 : im 16 0 3 = 4 ↔ kd m s.1 = 4 := by rw [hS.2.1.2.1]; exact nI_eq (b := 4) (by omega) (by decide)
  have e6 : im 18 0 6 = 0 ↔ s.2 = 0 := by rw [hS.2.2.1]; exact nI_eq (b := 0) (by have := hS.2.2.2.2.2; omega) (by decide)
  rw [e3, e6]
  refine ⟨fun hk => ⟨fun z => ⟨Fr.refl, ?_⟩, fun z => ?_⟩, fun hk => ⟨_, C_X5_stopAt _ _ _ hS (k := 1) (by decide) (by decide) rfl, ?_⟩⟩
  · unfold semS ndS; rw [if_neg z]; exact hS
  · obtain ⟨sa, sf⟩ := s
    dsimp only at z
    subst z
    obtain ⟨P1, p1, p2⟩ := advR x.2.1 w _ hT hS
    refine ⟨P1, p1, fun im3 lv3 h3 => ?_⟩
    have hn : semS m (sa, 0) = (nx m sa, 0) := by unfold semS ndS; rw [if_pos rfl, if_pos hk]
    rw [hn]
    exact p2 im3 lv3 h3
  · rintro im1 lv1 ⟨⟨g1, g2⟩, rfl⟩
    have hn : semS m s = bdS 1 s := by
      unfold semS ndS bdS
      rw [if_neg hk]
    have hne : ¬ (bdS 1 s).2 = 0 := bdS_ne (Nat.le_refl _)
    rw [hn]
    refine ⟨fun _ => ⟨g1, g2⟩, fun z => ?_⟩
    exfalso
    rw [g2.2.2.1] at z
    exact hne ((nI_eq (b := 0) (by have := g2.2.2.2.2.2; omega) (by decide)).mp z)
abbrev Sbr : Nat → Nat → Nat → Prop := fun r i k => Srb r i k ∨ r = 19
theorem C_X5_readBear (l : Launch) (w : zWd) {m im : zMem} (lv : Int64) (hT : WT m) {a : Nat} (hS : RSC m im lv (a, 0)) : zSpecV l w 5 zyX5_readBear [vR 18 0] im lv (fun im' lv' => Fr Sbr im im' ∧ RSC m im' lv' (semS m (brS m (nx m a)).1) ∧ ((semS m (brS m (nx m a)).1).2 = 0 → ∀ r, im' 19 0 r = if r = (brS m (nx m a)).2.1 then nI (brS m (nx m a)).2.2 else im 19 0 r)) := by
  refine ze_V (by decide) (Nat.le_of_ble_eq_true rfl) (fun x hO hR hN => rX5_readBear_0 hO hR hN ?_)
  obtain ⟨P1, p1, p2⟩ := advR x.2.1 w lv hT hS
  refine ⟨P1, p1, fun im1 lv1 h1 => ?_⟩
  obtain ⟨g1, r1⟩ := p2 im1 lv1 h1
  refine ⟨_, C_X5_readNumber _ _ _ hT r1 (lo := 0) (hi := 7) (fun _ => ⟨rfl, rfl, by decide, by decide⟩), ?_⟩
  rintro v2 im2 lv2 ⟨g2, r2, n2, z2⟩
  refine ⟨_, C_X5_readNumber _ _ _ hT r2 (lo := 0) (hi := 99) (fun _ => ⟨rfl, rfl, by decide, by decide⟩), ?_⟩
  rintro v3 im3 lv3 ⟨g3, r3, n3, z3⟩
  refine ⟨_, C_X5_readSemicolon _ _ _ hT r3, ?_⟩
  rintro im4 lv4 ⟨g4, r4⟩
  have hfr : Fr Srb im im4 := ((g1.trans g2).trans g3).trans g4
  have hv2 : ∃ q, v2 = nI q ∧ q ≤ 7 ∧ ((nmS m 0 7 (nx m a, 0)).2 = 0 → q = nv m (nx m a)) := by
    by_cases h : (nmS m 0 7 (nx m a, 0)).2 = 0
    · exact ⟨nv m (nx m a), n2 h, (nmS_0 h).2.2.2.1, fun _ => rfl⟩
    · exact ⟨0, z2 h, by decide, fun q => absurd q h⟩
  obtain ⟨q, rfl, hq7, hq⟩ := hv2
  rw [nI_clamp (show q < 2 ^ 31 by omega)]
  refine ⟨vp_in_nI (by omega) (by decide), (Fr.mono hfr (fun r i k z => Or.inl z)).wr (Or.inr rfl), r4.wr (by decide) (by decide) (by omega), fun h r => ?_⟩
  have hs := (semS_0 h).1
  have h0 := nmS_0 (lo := 0) (hi := 99) (s := nmS m 0 7 (nx m a, 0)) hs
  rw [zwr_app, n3 hs, hq h0.1, zcr hfr (by decide) (by decide)]
  show _ = if r = nv m (nx m a) then nI (nv m (nmS m 0 7 (nx m a, 0)).1) else im 19 0 r
  by_cases hr : r = nv m (nx m a)
  · rw [if_pos ⟨rfl, rfl, hr⟩, if_pos hr]
  · rw [if_neg (fun z => hr z.2.2), if_neg hr]
abbrev Sst (ns : Nat) : Nat → Nat → Nat → Prop := fun r i k => Srb r i k ∨ (r = 18 ∧ k = 5) ∨ (5 ≤ r ∧ r ≤ 9 ∧ k = ns)
def smC (im : zMem) (k : Nat) (d : Nat × Nat × Nat × Nat × Nat) : Prop := im 5 0 k = nI d.1 ∧ im 6 0 k = nI d.2.1 ∧ im 7 0 k = nI d.2.2.1 ∧ im 8 0 k = nI d.2.2.2.1 ∧ im 9 0 k = nI d.2.2.2.2
theorem C_X5_readStorm (l : Launch) (w : zWd) {m im : zMem} (lv : Int64) (hT : WT m) {a ns : Nat} (hS : RSC m im lv (a, 0)) (hns : ns < 20) (h5 : im 18 0 5 = nI ns) : zSpecV l w 5 zyX5_readStorm [vR 18 0] im lv (fun im' lv' => Fr (Sst ns) im im' ∧ RSC m im' lv' (semS m (smS m (nx m a)).1) ∧ im' 18 0 5 = nI (ns + 1) ∧ ((semS m (smS m (nx m a)).1).2 = 0 → smC im' ns (smS m (nx m a)).2)) := by
  refine ze_V (by decide) (Nat.le_of_ble_eq_true rfl) (fun x hO hR hN => rX5_readStorm_0 hO hR hN ?_)
  have cl : Int32.toNatClampNeg (nI ns) = ns := nI_clamp (by omega)
  have vn : vp_in (nI ns) 20 := vp_in_nI hns (by decide)
  rw [h5]
  refine ⟨fun _ => ?_, fun q => absurd (nI_lt (b := 20) hns (by decide)) q⟩
  obtain ⟨P1, p1, p2⟩ := advR x.2.1 w lv hT hS
  refine ⟨P1, p1, fun im1 lv1 h1 => ?_⟩
  obtain ⟨g1, r1⟩ := p2 im1 lv1 h1
  have e1 : im1 18 0 5 = nI ns := (g1 18 0 5 (by omega)).trans h5
  refine ⟨_, C_X5_readNumber _ _ _ hT r1 (lo := 1) (hi := 3) (fun _ => ⟨rfl, rfl, by decide, by decide⟩), ?_⟩
  rintro v2 im2 lv2 ⟨g2, r2, n2, -⟩
  have e2 : im2 18 0 5 = nI ns := (g2 18 0 5 (by omega)).trans e1
  rw [e1, cl]
  refine ⟨vn, _, C_X5_readNumber _ _ _ hT (r2.wr (by decide) (by decide) (by omega)) (lo := 0) (hi := 7) (fun _ => ⟨rfl, rfl, by decide, by decide⟩), ?_⟩
  rintro v4 im4 lv4 ⟨g4, r4, n4, -⟩
  have e4 : im4 18 0 5 = nI ns := by rw [g4 18 0 5 (by omega), zwr_r (by decide)]; exact e2
  rw [e2, cl]
  refine ⟨vn, _, C_X5_readNumber _ _ _ hT (r4.wr (by decide) (by decide) (by omega)) (lo := 0) (hi := 47) (fun _ => ⟨rfl, rfl, by decide, by decide⟩), ?_⟩
  rintro v6 im6 lv6 ⟨g6, r6, n6, -⟩
  have e6 : im6 18 0 5 = nI ns := by rw [g6 18 0 5 (by omega), zwr_r (by decide)]; exact e4
  rw [e6, cl]
  refine ⟨vn, _, C_X5_readNumber _ _ _ hT (r6.wr (by decide) (by decide) (by omega)) (lo := nv m (nmS m 0 7 (nmS m 1 3 (nx m a, 0))).1 + 1) (hi := 48) (fun h => ⟨?_, rfl, ?_, by decide⟩), ?_⟩
  · rw [n6 h, nI_1]
  · have := (nmS_0 h).2.2.2.1; omega
  rintro v8 im8 lv8 ⟨g8, r8, n8, -⟩
  have e8 : im8 18 0 5 = nI ns := by rw [g8 18 0 5 (by omega), zwr_r (by decide)]; exact e6
  refine ⟨_, C_X5_readNumber _ _ _ hT (r8.wr (by decide) (by decide) (by omega)) (lo := 0) (hi := 99) (fun _ => ⟨rfl, rfl, by decide, by decide⟩), ?_⟩
  rintro v9 im9 lv9 ⟨g9, r9, n9, -⟩
  rw [e8, cl]
  refine ⟨vn, _, C_X5_readSemicolon _ _ _ hT (r9.wr (by decide) (by decide) (by omega)), ?_⟩
  rintro im11 lv11 ⟨g11, r11⟩
  have e11 : im11 18 0 5 = nI ns := by
    rw [g11 18 0 5 (by omega), zwr_r (by decide), g9 18 0 5 (by omega), zwr_r (by decide)]; exact e8
  rw [e11, nI_1]
  have mo : ∀ {a b : zMem}, Fr Srb a b → Fr (Sst ns) a b := fun h => Fr.mono h (fun r i k z => Or.inl z)
  have w5 : ∀ r, 5 ≤ r ∧ r ≤ 9 → Sst ns r 0 ns := fun r h => Or.inr (Or.inr ⟨h.1, h.2, rfl⟩)
  have f1 : Fr (Sst ns) im (zwr im2 5 0 ns v2) := ((mo g1).trans (mo g2)).wr (w5 5 (by decide))
  have f2 : Fr (Sst ns) im (zwr im4 6 0 ns v4) := (f1.trans (mo g4)).wr (w5 6 (by decide))
  have f3 : Fr (Sst ns) im (zwr im6 7 0 ns v6) := (f2.trans (mo g6)).wr (w5 7 (by decide))
  have f4 : Fr (Sst ns) im (zwr im8 8 0 ns v8) := (f3.trans (mo g8)).wr (w5 8 (by decide))
  have f5 : Fr (Sst ns) im (zwr im9 9 0 ns v9) := (f4.trans (mo g9)).wr (w5 9 (by decide))
  refine ⟨(f5.trans (mo g11)).wr (Or.inr (Or.inl ⟨rfl, rfl⟩)), r11.wr (by decide) (by decide) (by omega), zwr_eq, fun h => ?_⟩
  have hs := (semS_0 h).1
  have t5 : (nmS m 0 99 (nmS m (nv m (nmS m 0 7 (nmS m 1 3 (nx m a, 0))).1 + 1) 48 (nmS m 0 47 (nmS m 0 7 (nmS m 1 3 (nx m a, 0)))))).2 = 0 := hs
  have t4 := (nmS_0 t5).1
  have t3 := (nmS_0 t4).1
  have t2 := (nmS_0 t3).1
  have t1 := (nmS_0 t2).1
  refine ⟨?_, ?_, ?_, ?_, ?_⟩
  · rw [zwr_r (by decide), zcr g11 (by decide) (by decide), zwr_r (by decide), zcr g9 (by decide) (by decide), zwr_r (by decide), zcr g8 (by decide) (by decide), zwr_r (by decide), zcr g6 (by decide) (by decide), zwr_r (by decide), zcr g4 (by decide) (by decide), zwr_eq]
    exact n2 t1
  · rw [zwr_r (by decide), zcr g11 (by decide) (by decide), zwr_r (by decide), zcr g9 (by decide) (by decide), zwr_r (by decide), zcr g8 (by decide) (by decide), zwr_r (by decide), zcr g6 (by decide) (by decide), zwr_eq]
    exact n4 t2
  · rw [zwr_r (by decide), zcr g11 (by decide) (by decide), zwr_r (by decide), zcr g9 (by decide) (by decide), zwr_r (by decide), zcr g8 (by decide) (by decide), zwr_eq]
    exact n6 t3
  · rw [zwr_r (by decide), zcr g11 (by decide) (by decide), zwr_r (by decide), zcr g9 (by decide) (by decide), zwr_eq]
    exact n8 t4
  · rw [zwr_r (by decide), zcr g11 (by decide) (by decide), zwr_eq]
    exact n9 t5
