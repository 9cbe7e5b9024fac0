/-! the class's reader: a whole text -/
theorem rX10_rewind_0 {x : zX} {w : zWd} {im : zMem} {lv : Int64} {P : zMem → Int64 → Prop} (hO : zOK x w zyX10_rewind 4) (hR : zRetV x w zyX10_rewind P) (hN : zN x 126 126)
 (h : (∃ P1 : zMem → Int64 → Prop, zSpecV x.2.1 w 3 zyX10_advance [vR 16 0] (zwr im 16 0 2 0) lv P1 ∧ ∀ (im1 : zMem) (lv1 : Int64), P1 im1 lv1 → P im1 lv1)) :
 zW x w 0 [(0, vR 16 0)] [] im lv := by
  refine zi_aload_n hO dX10_rewind_0 0 rfl ?_
  refine zi_iconst (v := 0) hO dX10_rewind_1 (by decide) ?_
  refine zi_putI hO dX10_rewind_2 gX10_19 rfl rfl (zI (by decide)) ?_
  refine zi_aload_n hO dX10_rewind_5 0 rfl ?_
  obtain ⟨P1, hM1, h⟩ := h
  refine zc_VV (as := []) hO hN dX10_rewind_6 kX10_34 (by decide) rfl (zI (by decide)) rfl rfl (Nat.le_of_ble_eq_true rfl) rfl rfl hM1 (fun im1 lv1 hp1 => ?_)
  replace h := h im1 lv1 hp1
  exact zr_V hO hR rfl dX10_rewind_9 h
theorem rX5_readTape_0 {x : zX} {w : zWd} {im : zMem} {lv : Int64} {P : Int32 → zMem → Int64 → Prop} (hO : zOK x w zyX5_readTape 8) (hR : zRetI x w zyX5_readTape P) (hN : zN x 126 126)
 (h : (∃ P1 : zMem → Int64 → Prop, zSpecV x.2.1 w 2 zyJ7_fill_53178 [vR 19 0, vI (-1)] (zwr (zwr (zwr im 18 0 6 0) 18 0 4 (im 10 0 1)) 18 0 5 (im 2 0 7)) lv P1 ∧ ∀ (im1 : zMem) (lv1 : Int64), P1 im1 lv1 → (∃ P2 : zMem → Int64 → Prop, zSpecV x.2.1 w 4 zyX10_rewind [vR 16 0] im1 lv1 P2 ∧ ∀ (im2 : zMem) (lv2 : Int64), P2 im2 lv2 → zW x w 44 [(0, vR 18 0), (1, vI 0)] [] im2 lv2))) :
 zW x w 0 [(0, vR 18 0)] [] im lv := by
  refine zi_aload_n hO dX5_readTape_0 0 rfl ?_
  refine zi_iconst (v := 0) hO dX5_readTape_1 (by decide) ?_
  refine zi_putI hO dX5_readTape_2 gX5_22 rfl rfl (zI (by decide)) ?_
  refine zi_aload_n hO dX5_readTape_5 0 rfl ?_
  refine zi_aload_n hO dX5_readTape_6 0 rfl ?_
  refine zi_getR (r' := 10) (i' := 0) hO dX5_readTape_7 fX5_36 rfl rfl (zI (by decide)) rfl ?_
  refine zi_getI hO dX5_readTape_10 fX5_40 rfl rfl (zI (by decide)) ?_
  refine zi_putI hO dX5_readTape_13 gX5_15 rfl rfl (zI (by decide)) ?_
  refine zi_aload_n hO dX5_readTape_16 0 rfl ?_
  refine zi_aload_n hO dX5_readTape_17 0 rfl ?_
  refine zi_getR (r' := 2) (i' := 0) hO dX5_readTape_18 fX5_32 rfl rfl (zI (by decide)) rfl ?_
  refine zi_getI hO dX5_readTape_21 fX5_45 rfl rfl (zI (by decide)) ?_
  refine zi_putI hO dX5_readTape_24 gX5_19 rfl rfl (zI (by decide)) ?_
  refine zi_aload_n hO dX5_readTape_27 0 rfl ?_
  refine zi_getR (r' := 19) (i' := 0) hO dX5_readTape_28 fX5_9 rfl rfl (zI (by decide)) rfl ?_
  refine zi_iconst (v := (-1)) hO dX5_readTape_31 (by decide) ?_
  obtain ⟨P1, hM1, h⟩ := h
  refine zc_SV (as := [vR 19 0, vI (-1)]) hO hN dX5_readTape_32 kX5_50 (by decide) rfl (Nat.le_of_ble_eq_true rfl) rfl rfl hM1 (fun im1 lv1 hp1 => ?_)
  replace h := h im1 lv1 hp1
  refine zi_aload_n hO dX5_readTape_35 0 rfl ?_
  refine zi_getR (r' := 16) (i' := 0) hO dX5_readTape_36 fX5_28 rfl rfl (zI (by decide)) rfl ?_
  obtain ⟨P2, hM2, h⟩ := h
  refine zc_VV (as := []) hO hN dX5_readTape_39 kX5_56 (by decide) rfl (zI (by decide)) rfl rfl (Nat.le_of_ble_eq_true rfl) rfl rfl hM2 (fun im2 lv2 hp2 => ?_)
  replace h := h im2 lv2 hp2
  refine zi_iconst (v := 0) hO dX5_readTape_42 (by decide) ?_
  refine zi_istore_n (L' := [(0, vR 18 0), (1, vI 0)]) hO dX5_readTape_43 (by decide) rfl rfl ?_
  exact h
theorem rX5_readTape_44 {x : zX} {w : zWd} {im : zMem} {lv : Int64} {P : Int32 → zMem → Int64 → Prop} {x1 : Int32} (hO : zOK x w zyX5_readTape 8) (hR : zRetI x w zyX5_readTape P) (hN : zN x 126 126)
 (h : ((500 ≤ x1 → ((¬ ((im 18 0 6) = 0) → P 0 im lv) ∧
 ((im 18 0 6) = 0 → P 1 im lv))) ∧
 (¬ (500 ≤ x1) → ((¬ ((im 18 0 6) = 0) → P 0 im lv) ∧
 ((im 18 0 6) = 0 → (((im 16 0 3) = 0 → P 1 im lv) ∧
 (¬ ((im 16 0 3) = 0) → ((¬ ((im 16 0 3) = 1 ∧ (lg_cmp lv (112615810885748 : Int64)) = 0) → ((¬ ((im 16 0 3) = 1 ∧ (lg_cmp lv (1650811250 : Int64)) = 0) → ((¬ ((im 16 0 3) = 1 ∧ (lg_cmp lv (495874699885 : Int64)) = 0) → (∃ P4 : zMem → Int64 → Prop, zSpecV x.2.1 w 2 zyX5_stopAt [vR 18 0, vI 1] im lv P4 ∧ ∀ (im4 : zMem) (lv4 : Int64), P4 im4 lv4 → zW x w 44 [(0, vR 18 0), (1, vI (x1 + 1))] [] im4 lv4)) ∧
 ((im 16 0 3) = 1 ∧ (lg_cmp lv (495874699885 : Int64)) = 0 → (∃ P5 : zMem → Int64 → Prop, zSpecV x.2.1 w 5 zyX5_readStorm [vR 18 0] im lv P5 ∧ ∀ (im5 : zMem) (lv5 : Int64), P5 im5 lv5 → zW x w 44 [(0, vR 18 0), (1, vI (x1 + 1))] [] im5 lv5)))) ∧
 ((im 16 0 3) = 1 ∧ (lg_cmp lv (1650811250 : Int64)) = 0 → (∃ P6 : zMem → Int64 → Prop, zSpecV x.2.1 w 5 zyX5_readBear [vR 18 0] im lv P6 ∧ ∀ (im6 : zMem) (lv6 : Int64), P6 im6 lv6 → zW x w 44 [(0, vR 18 0), (1, vI (x1 + 1))] [] im6 lv6)))) ∧
 ((im 16 0 3) = 1 ∧ (lg_cmp lv (112615810885748 : Int64)) = 0 → (∃ P7 : zMem → Int64 → Prop, zSpecV x.2.1 w 7 zyX5_readFlight [vR 18 0] im lv P7 ∧ ∀ (im7 : zMem) (lv7 : Int64), P7 im7 lv7 → zW x w 44 [(0, vR 18 0), (1, vI (x1 + 1))] [] im7 lv7)))))))))) :
 zW x w 44 [(0, vR 18 0), (1, vI x1)] [] im lv := by
  refine zi_iload_n hO dX5_readTape_44 1 rfl ?_
  refine zi_sipush (v := 500) hO dX5_readTape_45 (by decide) ?_
  refine zi_icmp_ge (tgt := 139) hO dX5_readTape_48 (by decide) (fun c1 => ?_) (fun c1 => ?_)
  · have h := h.1 c1
    refine zi_aload_n hO dX5_readTape_139 0 rfl ?_
    refine zi_getI hO dX5_readTape_140 fX5_22 rfl rfl (zI (by decide)) ?_
    refine zi_if_ne (tgt := 150) hO dX5_readTape_143 (by decide) (fun c2 => ?_) (fun c2 => ?_)
    · have h := h.1 c2
      refine zi_iconst (v := 0) hO dX5_readTape_150 (by decide) ?_
      exact zr_Z hO hR rfl (Or.inl rfl) dX5_readTape_151 h
    · have h := h.2 c2
      refine zi_iconst (v := 1) hO dX5_readTape_146 (by decide) ?_
      refine zi_goto (tgt := 151) hO dX5_readTape_147 (by decide) ?_
      exact zr_Z hO hR rfl (Or.inr rfl) dX5_readTape_151 h
  · have h := h.2 c1
    refine zi_aload_n hO dX5_readTape_51 0 rfl ?_
    refine zi_getI hO dX5_readTape_52 fX5_22 rfl rfl (zI (by decide)) ?_
    refine zi_if_ne (tgt := 139) hO dX5_readTape_55 (by decide) (fun c3 => ?_) (fun c3 => ?_)
    · have h := h.1 c3
      refine zi_aload_n hO dX5_readTape_139 0 rfl ?_
      refine zi_getI hO dX5_readTape_140 fX5_22 rfl rfl (zI (by decide)) ?_
      refine zi_if_ne (tgt := 150) hO dX5_readTape_143 (by decide) (fun _ => ?_) (fun c4 => absurd c4 c3)
      refine zi_iconst (v := 0) hO dX5_readTape_150 (by decide) ?_
      exact zr_Z hO hR rfl (Or.inl rfl) dX5_readTape_151 h
    · have h := h.2 c3
      refine zi_aload_n hO dX5_readTape_58 0 rfl ?_
      refine zi_getR (r' := 16) (i' := 0) hO dX5_readTape_59 fX5_28 rfl rfl (zI (by decide)) rfl ?_
      refine zi_getI hO dX5_readTape_62 fX5_61 rfl rfl (zI (by decide)) ?_
      refine zi_if_eq (tgt := 139) hO dX5_readTape_65 (by decide) (fun c5 => ?_) (fun c5 => ?_)
      · have h := h.1 c5
        refine zi_aload_n hO dX5_readTape_139 0 rfl ?_
        refine zi_getI hO dX5_readTape_140 fX5_22 rfl rfl (zI (by decide)) ?_
        refine zi_if_ne (tgt := 150) hO dX5_readTape_143 (by decide) (fun c6 => absurd c3 c6) (fun _ => ?_)
        refine zi_iconst (v := 1) hO dX5_readTape_146 (by decide) ?_
        refine zi_goto (tgt := 151) hO dX5_readTape_147 (by decide) ?_
        exact zr_Z hO hR rfl (Or.inr rfl) dX5_readTape_151 h
      · have h := h.2 c5
        refine zi_aload_n hO dX5_readTape_68 0 rfl ?_
        refine zi_getR (r' := 16) (i' := 0) hO dX5_readTape_69 fX5_28 rfl rfl (zI (by decide)) rfl ?_
        refine zi_ldc2 (v := 112615810885748) hO dX5_readTape_72 nX5_64 ?_
        refine zc_VI (as := [vL (112615810885748 : Int64)]) hO hN dX5_readTape_75 kX5_66 (by decide) rfl (zI (by decide)) rfl rfl (Nat.le_of_ble_eq_true rfl) rfl rfl (C_X10_isName _ _ _ _) (fun v1 im1 lv1 hp1 => ?_)
        rw [hp1.1, hp1.2.1, hp1.2.2]
        refine zi_if_eq (tgt := 88) hO dX5_readTape_78 (by decide) (fun c7 => ?_) (fun c7 => ?_)
        · have h := h.1 (vB_0.mp c7)
          refine zi_aload_n hO dX5_readTape_88 0 rfl ?_
          refine zi_getR (r' := 16) (i' := 0) hO dX5_readTape_89 fX5_28 rfl rfl (zI (by decide)) rfl ?_
          refine zi_ldc2 (v := 1650811250) hO dX5_readTape_92 nX5_73 ?_
          refine zc_VI (as := [vL (1650811250 : Int64)]) hO hN dX5_readTape_95 kX5_66 (by decide) rfl (zI (by decide)) rfl rfl (Nat.le_of_ble_eq_true rfl) rfl rfl (C_X10_isName _ _ _ _) (fun v2 im2 lv2 hp2 => ?_)
          rw [hp2.1, hp2.2.1, hp2.2.2]
          refine zi_if_eq (tgt := 108) hO dX5_readTape_98 (by decide) (fun c8 => ?_) (fun c8 => ?_)
          · have h := h.1 (vB_0.mp c8)
            refine zi_aload_n hO dX5_readTape_108 0 rfl ?_
            refine zi_getR (r' := 16) (i' := 0) hO dX5_readTape_109 fX5_28 rfl rfl (zI (by decide)) rfl ?_
            refine zi_ldc2 (v := 495874699885) hO dX5_readTape_112 nX5_78 ?_
            refine zc_VI (as := [vL (495874699885 : Int64)]) hO hN dX5_readTape_115 kX5_66 (by decide) rfl (zI (by decide)) rfl rfl (Nat.le_of_ble_eq_true rfl) rfl rfl (C_X10_isName _ _ _ _) (fun v3 im3 lv3 hp3 => ?_)
            rw [hp3.1, hp3.2.1, hp3.2.2]
            refine zi_if_eq (tgt := 128) hO dX5_readTape_118 (by decide) (fun c9 => ?_) (fun c9 => ?_)
            · have h := h.1 (vB_0.mp c9)
              refine zi_aload_n hO dX5_readTape_128 0 rfl ?_
              refine zi_iconst (v := 1) hO dX5_readTape_129 (by decide) ?_
              obtain ⟨P4, hM4, h⟩ := h
              refine zc_VV (as := [vI 1]) hO hN dX5_readTape_130 kX5_83 (by decide) rfl (zI (by decide)) rfl rfl (Nat.le_of_ble_eq_true rfl) rfl rfl hM4 (fun im4 lv4 hp4 => ?_)
              replace h := h im4 lv4 hp4
              refine zi_iinc (v' := (x1 + 1)) (L' := [(0, vR 18 0), (1, vI (x1 + 1))]) hO dX5_readTape_133 1 rfl rfl (by decide) rfl rfl ?_
              refine zi_goto (tgt := 44) hO dX5_readTape_136 (by decide) ?_
              exact h
            · have h := h.2 (vB_1.mp (vB_01.resolve_left c9))
              refine zi_aload_n hO dX5_readTape_121 0 rfl ?_
              obtain ⟨P5, hM5, h⟩ := h
              refine zc_VV (as := []) hO hN dX5_readTape_122 kX5_80 (by decide) rfl (zI (by decide)) rfl rfl (Nat.le_of_ble_eq_true rfl) rfl rfl hM5 (fun im5 lv5 hp5 => ?_)
              replace h := h im5 lv5 hp5
              refine zi_goto (tgt := 133) hO dX5_readTape_125 (by decide) ?_
              refine zi_iinc (v' := (x1 + 1)) (L' := [(0, vR 18 0), (1, vI (x1 + 1))]) hO dX5_readTape_133 1 rfl rfl (by decide) rfl rfl ?_
              refine zi_goto (tgt := 44) hO dX5_readTape_136 (by decide) ?_
              exact h
          · have h := h.2 (vB_1.mp (vB_01.resolve_left c8))
            refine zi_aload_n hO dX5_readTape_101 0 rfl ?_
            obtain ⟨P6, hM6, h⟩ := h
            refine zc_VV (as := []) hO hN dX5_readTape_102 kX5_75 (by decide) rfl (zI (by decide)) rfl rfl (Nat.le_of_ble_eq_true rfl) rfl rfl hM6 (fun im6 lv6 hp6 => ?_)
            replace h := h im6 lv6 hp6
            refine zi_goto (tgt := 133) hO dX5_readTape_105 (by decide) ?_
            refine zi_iinc (v' := (x1 + 1)) (L' := [(0, vR 18 0), (1, vI (x1 + 1))]) hO dX5_readTape_133 1 rfl rfl (by decide) rfl rfl ?_
            refine zi_goto (tgt := 44) hO dX5_readTape_136 (by decide) ?_
            exact h
        · have h := h.2 (vB_1.mp (vB_01.resolve_left c7))
          refine zi_aload_n hO dX5_readTape_81 0 rfl ?_
          obtain ⟨P7, hM7, h⟩ := h
          refine zc_VV (as := []) hO hN dX5_readTape_82 kX5_70 (by decide) rfl (zI (by decide)) rfl rfl (Nat.le_of_ble_eq_true rfl) rfl rfl hM7 (fun im7 lv7 hp7 => ?_)
          replace h := h im7 lv7 hp7
          refine zi_goto (tgt := 133) hO dX5_readTape_85 (by decide) ?_
          refine zi_iinc (v' := (x1 + 1)) (L' := [(0, vR 18 0), (1, vI (x1 + 1))]) hO dX5_readTape_133 1 rfl rfl (by decide) rfl rfl ?_
          refine zi_goto (tgt := 44) hO dX5_readTape_136 (by decide) ?_
          exact h
theorem rX3_bearInAllSlots_0 {x : zX} {w : zWd} {im : zMem} {lv : Int64} {P : zMem → Int64 → Prop} {x1 : Int32} {x2 : Int32} (hO : zOK x w zyX3_bearInAllSlots 3) (hR : zRetV x w zyX3_bearInAllSlots P) (hN : zN x 126 126)
 (h : zW x w 2 [(0, vR 2 0), (1, vI x1), (2, vI x2), (3, vI 0)] [] im lv) :
 zW x w 0 [(0, vR 2 0), (1, vI x1), (2, vI x2)] [] im lv := by
  refine zi_iconst (v := 0) hO dX3_bearInAllSlots_0 (by decide) ?_
  refine zi_istore_n (L' := [(0, vR 2 0), (1, vI x1), (2, vI x2), (3, vI 0)]) hO dX3_bearInAllSlots_1 (by decide) rfl rfl ?_
  exact h
theorem rX3_bearInAllSlots_2 {x : zX} {w : zWd} {im : zMem} {lv : Int64} {P : zMem → Int64 → Prop} {x1 : Int32} {x2 : Int32} {x3 : Int32} (hO : zOK x w zyX3_bearInAllSlots 3) (hR : zRetV x w zyX3_bearInAllSlots P) (hN : zN x 126 126)
 (h : ((48 ≤ x3 → P im lv) ∧
 (¬ (48 ≤ x3) → (vp_in ((x1 * 48) + x3) 384 ∧ zW x w 2 [(0, vR 2 0), (1, vI x1), (2, vI x2), (3, vI (x3 + 1))] [] (zwr im 3 0 (Int32.toNatClampNeg ((x1 * 48) + x3)) x2) lv)))) :
 zW x w 2 [(0, vR 2 0), (1, vI x1), (2, vI x2), (3, vI x3)] [] im lv := by
  refine zi_iload_n hO dX3_bearInAllSlots_2 3 rfl ?_
  refine zi_bipush (v := 48) hO dX3_bearInAllSlots_3 (by decide) ?_
  refine zi_icmp_ge (tgt := 25) hO dX3_bearInAllSlots_5 (by decide) (fun c1 => ?_) (fun c1 => ?_)
  · have h := h.1 c1
    exact zr_V hO hR rfl dX3_bearInAllSlots_25 h
  · have h := h.2 c1
    refine zi_aload_n hO dX3_bearInAllSlots_8 0 rfl ?_
    refine zi_getR (r' := 3) (i' := 0) hO dX3_bearInAllSlots_9 fX3_9 rfl rfl (zI (by decide)) rfl ?_
    refine zi_iload_n hO dX3_bearInAllSlots_12 1 rfl ?_
    refine zi_iload_n hO dX3_bearInAllSlots_13 3 rfl ?_
    refine zc_NI (as := [vI x1, vI x3]) hO hN dX3_bearInAllSlots_14 kX3_46 ksX3_46 (by decide) rfl (Nat.le_of_ble_eq_true rfl) rfl rfl (C_X11_cellOf _ _ _ _) (fun v1 im1 lv1 hp1 => ?_)
    rw [hp1.1, hp1.2.1, hp1.2.2]
    refine zi_iload_n hO dX3_bearInAllSlots_17 2 rfl ?_
    obtain ⟨s2, h⟩ := h
    refine zi_iast hO dX3_bearInAllSlots_18 rfl (zI (by decide)) s2 ?_
    refine zi_iinc (v' := (x3 + 1)) (L' := [(0, vR 2 0), (1, vI x1), (2, vI x2), (3, vI (x3 + 1))]) hO dX3_bearInAllSlots_19 3 rfl rfl (by decide) rfl rfl ?_
    refine zi_goto (tgt := 2) hO dX3_bearInAllSlots_22 (by decide) ?_
    exact h
theorem rX5_carryOut_0 {x : zX} {w : zWd} {im : zMem} {lv : Int64} {P : zMem → Int64 → Prop} (hO : zOK x w zyX5_carryOut 4) (hR : zRetV x w zyX5_carryOut P) (hN : zN x 126 126)
 (h : zW x w 24 [(0, vR 18 0), (1, vI 0)] [] (zwr (zwr im 10 0 1 (im 18 0 4)) 2 0 7 (im 18 0 5)) lv) :
 zW x w 0 [(0, vR 18 0)] [] im lv := by
  refine zi_aload_n hO dX5_carryOut_0 0 rfl ?_
  refine zi_getR (r' := 10) (i' := 0) hO dX5_carryOut_1 fX5_36 rfl rfl (zI (by decide)) rfl ?_
  refine zi_aload_n hO dX5_carryOut_4 0 rfl ?_
  refine zi_getI hO dX5_carryOut_5 fX5_15 rfl rfl (zI (by decide)) ?_
  refine zi_putI hO dX5_carryOut_8 gX5_40 rfl rfl (zI (by decide)) ?_
  refine zi_aload_n hO dX5_carryOut_11 0 rfl ?_
  refine zi_getR (r' := 2) (i' := 0) hO dX5_carryOut_12 fX5_32 rfl rfl (zI (by decide)) rfl ?_
  refine zi_aload_n hO dX5_carryOut_15 0 rfl ?_
  refine zi_getI hO dX5_carryOut_16 fX5_19 rfl rfl (zI (by decide)) ?_
  refine zi_putI hO dX5_carryOut_19 gX5_45 rfl rfl (zI (by decide)) ?_
  refine zi_iconst (v := 0) hO dX5_carryOut_22 (by decide) ?_
  refine zi_istore_n (L' := [(0, vR 18 0), (1, vI 0)]) hO dX5_carryOut_23 (by decide) rfl rfl ?_
  exact h
theorem rX5_carryOut_24 {x : zX} {w : zWd} {im : zMem} {lv : Int64} {P : zMem → Int64 → Prop} {x1 : Int32} (hO : zOK x w zyX5_carryOut 4) (hR : zRetV x w zyX5_carryOut P) (hN : zN x 126 126)
 (h : ((8 ≤ x1 → P im lv) ∧
 (¬ (8 ≤ x1) → (vp_in x1 8 ∧ (((im 19 0 (Int32.toNatClampNeg x1)) = (-1) → zW x w 24 [(0, vR 18 0), (1, vI (x1 + 1))] [] im lv) ∧
 (¬ ((im 19 0 (Int32.toNatClampNeg x1)) = (-1)) → (∃ P2 : zMem → Int64 → Prop, zSpecV x.2.1 w 3 zyX3_bearInAllSlots [vR 2 0, vI x1, vI (im 19 0 (Int32.toNatClampNeg x1))] im lv P2 ∧ ∀ (im2 : zMem) (lv2 : Int64), P2 im2 lv2 → zW x w 24 [(0, vR 18 0), (1, vI (x1 + 1))] [] im2 lv2))))))) :
 zW x w 24 [(0, vR 18 0), (1, vI x1)] [] im lv := by
  refine zi_iload_n hO dX5_carryOut_24 1 rfl ?_
  refine zi_bipush (v := 8) hO dX5_carryOut_25 (by decide) ?_
  refine zi_icmp_ge (tgt := 60) hO dX5_carryOut_27 (by decide) (fun c1 => ?_) (fun c1 => ?_)
  · have h := h.1 c1
    exact zr_V hO hR rfl dX5_carryOut_60 h
  · have h := h.2 c1
    refine zi_aload_n hO dX5_carryOut_30 0 rfl ?_
    refine zi_getR (r' := 19) (i' := 0) hO dX5_carryOut_31 fX5_9 rfl rfl (zI (by decide)) rfl ?_
    refine zi_iload_n hO dX5_carryOut_34 1 rfl ?_
    obtain ⟨s1, h⟩ := h
    refine zi_iald hO dX5_carryOut_35 rfl (zI (by decide)) s1 ?_
    refine zi_iconst (v := (-1)) hO dX5_carryOut_36 (by decide) ?_
    refine zi_icmp_eq (tgt := 54) hO dX5_carryOut_37 (by decide) (fun c2 => ?_) (fun c2 => ?_)
    · have h := h.1 c2
      refine zi_iinc (v' := (x1 + 1)) (L' := [(0, vR 18 0), (1, vI (x1 + 1))]) hO dX5_carryOut_54 1 rfl rfl (by decide) rfl rfl ?_
      refine zi_goto (tgt := 24) hO dX5_carryOut_57 (by decide) ?_
      exact h
    · have h := h.2 c2
      refine zi_aload_n hO dX5_carryOut_40 0 rfl ?_
      refine zi_getR (r' := 2) (i' := 0) hO dX5_carryOut_41 fX5_32 rfl rfl (zI (by decide)) rfl ?_
      refine zi_iload_n hO dX5_carryOut_44 1 rfl ?_
      refine zi_aload_n hO dX5_carryOut_45 0 rfl ?_
      refine zi_getR (r' := 19) (i' := 0) hO dX5_carryOut_46 fX5_9 rfl rfl (zI (by decide)) rfl ?_
      refine zi_iload_n hO dX5_carryOut_49 1 rfl ?_
      refine zi_iald hO dX5_carryOut_50 rfl (zI (by decide)) s1 ?_
      obtain ⟨P2, hM2, h⟩ := h
      refine zc_VV (as := [vI x1, vI (im 19 0 (Int32.toNatClampNeg x1))]) hO hN dX5_carryOut_51 kX5_87 (by decide) rfl (zI (by decide)) rfl rfl (Nat.le_of_ble_eq_true rfl) rfl rfl hM2 (fun im2 lv2 hp2 => ?_)
      replace h := h im2 lv2 hp2
      refine zi_iinc (v' := (x1 + 1)) (L' := [(0, vR 18 0), (1, vI (x1 + 1))]) hO dX5_carryOut_54 1 rfl rfl (by decide) rfl rfl ?_
      refine zi_goto (tgt := 24) hO dX5_carryOut_57 (by decide) ?_
      exact h
theorem rX11_read_0 {x : zX} {w : zWd} {im : zMem} {lv : Int64} {P : Int32 → zMem → Int64 → Prop} (hO : zOK x w zyX11_read 9) (hR : zRetI x w zyX11_read P) (hN : zN x 126 126)
 (h : (∃ P1 : Int32 → zMem → Int64 → Prop, zSpecI x.2.1 w 8 zyX5_readTape [vR 18 0] im lv P1 ∧ ∀ (v1 : Int32) (im1 : zMem) (lv1 : Int64), P1 v1 im1 lv1 → ((¬ (v1 = 0) → (∃ P2 : zMem → Int64 → Prop, zSpecV x.2.1 w 4 zyX5_carryOut [vR 18 0] (zwr im1 16 0 1 0) lv1 P2 ∧ ∀ (im2 : zMem) (lv2 : Int64), P2 im2 lv2 → P (im2 10 0 1) im2 lv2)) ∧
 (v1 = 0 → P ((-1000100) - (im1 18 0 7)) (zwr (zwr im1 16 0 1 0) 0 0 11 (im1 18 0 6)) lv1)))) :
 zW x w 0 [(0, vR 0 0)] [] im lv := by
  refine zi_aload_n hO dX11_read_0 0 rfl ?_
  refine zi_getR (r' := 18) (i' := 0) hO dX11_read_1 fX11_41 rfl rfl (zI (by decide)) rfl ?_
  obtain ⟨P1, hM1, h⟩ := h
  refine zc_VI (as := []) hO hN dX11_read_4 kX11_183 (by decide) rfl (zI (by decide)) rfl rfl (Nat.le_of_ble_eq_true rfl) rfl rfl hM1 (fun v1 im1 lv1 hp1 => ?_)
  replace h := h v1 im1 lv1 hp1
  refine zi_istore_n (L' := [(0, vR 0 0), (1, vI v1)]) hO dX11_read_7 (by decide) rfl rfl ?_
  refine zi_aload_n hO dX11_read_8 0 rfl ?_
  refine zi_getR (r' := 16) (i' := 0) hO dX11_read_9 fX11_32 rfl rfl (zI (by decide)) rfl ?_
  refine zi_iconst (v := 0) hO dX11_read_12 (by decide) ?_
  refine zi_putI hO dX11_read_13 gX11_179 rfl rfl (zI (by decide)) ?_
  refine zi_iload_n hO dX11_read_16 1 rfl ?_
  refine zi_if_ne (tgt := 42) hO dX11_read_17 (by decide) (fun c1 => ?_) (fun c1 => ?_)
  · have h := h.1 c1
    refine zi_aload_n hO dX11_read_42 0 rfl ?_
    refine zi_getR (r' := 18) (i' := 0) hO dX11_read_43 fX11_41 rfl rfl (zI (by decide)) rfl ?_
    obtain ⟨P2, hM2, h⟩ := h
    refine zc_VV (as := []) hO hN dX11_read_46 kX11_193 (by decide) rfl (zI (by decide)) rfl rfl (Nat.le_of_ble_eq_true rfl) rfl rfl hM2 (fun im2 lv2 hp2 => ?_)
    replace h := h im2 lv2 hp2
    refine zi_aload_n hO dX11_read_49 0 rfl ?_
    refine zi_getR (r' := 10) (i' := 0) hO dX11_read_50 fX11_25 rfl rfl (zI (by decide)) rfl ?_
    refine zi_getI hO dX11_read_53 fX11_196 rfl rfl (zI (by decide)) ?_
    exact zr_I hO hR rfl dX11_read_56 h
  · have h := h.2 c1
    refine zi_aload_n hO dX11_read_20 0 rfl ?_
    refine zi_aload_n hO dX11_read_21 0 rfl ?_
    refine zi_getR (r' := 18) (i' := 0) hO dX11_read_22 fX11_41 rfl rfl (zI (by decide)) rfl ?_
    refine zi_getI hO dX11_read_25 fX11_186 rfl rfl (zI (by decide)) ?_
    refine zi_putI hO dX11_read_28 gX11_92 rfl rfl (zI (by decide)) ?_
    refine zi_ldc (v := (-1000100)) hO dX11_read_31 nX11_189 ?_
    refine zi_aload_n hO dX11_read_33 0 rfl ?_
    refine zi_getR (r' := 18) (i' := 0) hO dX11_read_34 fX11_41 rfl rfl (zI (by decide)) rfl ?_
    refine zi_getI hO dX11_read_37 fX11_190 rfl rfl (zI (by decide)) ?_
    refine zi_isub hO dX11_read_40 ?_
    exact zr_I hO hR rfl dX11_read_41 h
theorem C_X10_rewind (l : Launch) (w : zWd) {m im : zMem} (lv : Int64) (hT : WT m) (hD : TD m im) : zSpecV l w 4 zyX10_rewind [vR 16 0] im lv (fun im' lv' => Fr S16 im im' ∧ TkC m im' lv' (sk m 0)) := by
  refine ze_V (by decide) (Nat.le_of_ble_eq_true rfl) (fun x hO hR hN => rX10_rewind_0 hO hR hN ?_)
  refine ⟨_, C_X10_advance _ _ _ hT (c := 0) (hD.fr (z16 (by decide)) (zwr_r (by decide))) zwr_eq (Nat.zero_le _), ?_⟩
  rintro im1 lv1 ⟨g1, g2⟩
  exact ⟨(Fr.refl.wr (by decide)).trans g1, g2⟩
theorem C_X5_readFlight_full (l : Launch) (w : zWd) {m im : zMem} (lv : Int64) {s : Nat × Nat} (hS : RSC m im lv s) (h4 : im 18 0 4 = nI 12) : zSpecV l w 7 zyX5_readFlight [vR 18 0] im lv (fun im' lv' => (Fr Srb im im' ∧ RSC m im' lv (bdS 4 s)) ∧ lv' = lv) := by
  refine ze_V (by decide) (Nat.le_of_ble_eq_true rfl) (fun x hO hR hN => rX5_readFlight_0 hO hR hN ?_)
  rw [h4]
  refine ⟨fun q => absurd q (by decide), fun _ => ⟨_, C_X5_stopAt _ _ _ hS (k := 4) (by decide) (by decide) rfl, ?_⟩⟩
  rintro im1 lv1 h
  exact h
theorem C_X5_readStorm_full (l : Launch) (w : zWd) {m im : zMem} (lv : Int64) {s : Nat × Nat} (hS : RSC m im lv s) (h5 : im 18 0 5 = nI 20) : zSpecV l w 5 zyX5_readStorm [vR 18 0] im lv (fun im' lv' => (Fr Srb im im' ∧ RSC m im' lv (bdS 4 s)) ∧ lv' = lv) := by
  refine ze_V (by decide) (Nat.le_of_ble_eq_true rfl) (fun x hO hR hN => rX5_readStorm_0 hO hR hN ?_)
  rw [h5]
  refine ⟨fun q => absurd q (by decide), fun _ => ⟨_, C_X5_stopAt _ _ _ hS (k := 4) (by decide) (by decide) rfl, ?_⟩⟩
  rintro im1 lv1 h
  exact h
abbrev Srt (m : zMem) : Nat → Nat → Nat → Prop := fun r i k => (r = 16 ∧ 2 ≤ k ∧ k ≤ 4) ∨ (r = 18 ∧ 4 ≤ k) ∨ r = 19 ∨ (5 ≤ r ∧ r ≤ 9 ∧ nst m ≤ k) ∨ (12 ≤ r ∧ r ≤ 15 ∧ nfl m ≤ i)
def tlB (o : Option Nat) : Int32 := match o with
  | none => -1
  | some v => nI v
def InvC (m im : zMem) (q : zTx) : Prop := (im 18 0 4 = nI (nfl m + q.1.length) ∧ im 18 0 5 = nI (nst m + q.2.1.length)) ∧ ((∀ j, j < q.1.length → flC im (nfl m + j) (q.1.getD j dF)) ∧ (∀ j, j < q.2.1.length → smC im (nst m + j) (q.2.1.getD j dS)) ∧ ∀ r, r < 8 → im 19 0 r = tlB (lsB q.2.2 r)) ∧ okT' m q
theorem flC_fr {im im' : zMem} {f : Nat} {d : zFl} (h : flC im f d) (hf : ∀ r k, 12 ≤ r → r ≤ 15 → im' r f k = im r f k) : flC im' f d := by
  unfold flC wyC lgC at *
  rw [hf 12 _ (by decide) (by decide), hf 12 _ (by decide) (by decide), hf 12 _ (by decide) (by decide), hf 12 _ (by decide) (by decide), hf 12 _ (by decide) (by decide), hf 12 _ (by decide) (by decide), hf 12 _ (by decide) (by decide)]
  obtain ⟨a, b, c, d⟩ := h
  refine ⟨a, b, c, fun w hw => ⟨by rw [hf 13 _ (by decide) (by decide)]; exact (d w hw).1, fun j hj => by rw [hf 14 _ (by decide) (by decide), hf 15 _ (by decide) (by decide)]; exact (d w hw).2 j hj⟩⟩
theorem smC_fr {im im' : zMem} {k : Nat} {d : Nat × Nat × Nat × Nat × Nat} (h : smC im k d) (hf : ∀ r, 5 ≤ r → r ≤ 9 → im' r 0 k = im r 0 k) : smC im' k d := by
  unfold smC at *
  rw [hf 5 (by decide) (by decide), hf 6 (by decide) (by decide), hf 7 (by decide) (by decide), hf 8 (by decide) (by decide), hf 9 (by decide) (by decide)]
  exact h
theorem C_X5_readTape (l : Launch) (w : zWd) {m im : zMem} (lv : Int64) (hW : WF m) (hT : WT m) (hC : RC m im) (hD : TD m im) : zSpecI l w 8 zyX5_readTape [vR 18 0] im lv (fun v im' _ => ((v = 1 ∧ (txS m).1.2 = 0 ∧ InvC m im' (txS m).2) ∨ (v = 0 ∧ ¬ (txS m).1.2 = 0 ∧ im' 18 0 6 = nI (txS m).1.2 ∧ im' 18 0 7 = nI (txS m).1.1)) ∧ Fr (Srt m) im im') := by
  refine ze_I (by decide) (Nat.le_of_ble_eq_true rfl) (fun x hO hR hN => ?_)
  have h5 := hT.1.2
  have hb : ∀ k, k < tn m → tb m k ≤ 255 := fun k hk => (hT.2 k hk).2
  have mo : ∀ {a b : zMem}, Fr Srb a b → Fr (Srt m) a b := fun h => Fr.mono h (fun r i k z => by omega)
  have stopd : ∀ {x1 : Int32} {im1 : zMem} {lv1 : Int64} {s : Nat × Nat}, RSC m im1 lv1 s → ¬ s.2 = 0 → (txS m).1 = s → Fr (Srt m) im im1 → zW x w 44 [(0, vR 18 0), (1, vI x1)] [] im1 lv1 := by
    intro x1 im1 lv1 s hr hs ht hf
    have e6 : ¬ im1 18 0 6 = 0 := fun z => hs (by rw [hr.2.2.1] at z; exact (nI_eq (b := 0) (by have := hr.2.2.2.2.2; omega) (by decide)).mp z)
    have fin : ((0 : Int32) = 1 ∧ (txS m).1.2 = 0 ∧ InvC m im1 (txS m).2 ∨ (0 : Int32) = 0 ∧ ¬ (txS m).1.2 = 0 ∧ im1 18 0 6 = nI (txS m).1.2 ∧ im1 18 0 7 = nI (txS m).1.1) ∧ Fr (Srt m) im im1 := by
      refine ⟨Or.inr ⟨rfl, ?_, ?_, ?_⟩, hf⟩
      · rw [ht]; exact hs
      · rw [ht]; exact hr.2.2.1
      · rw [ht]; exact hr.2.2.2.1 hs
    exact rX5_readTape_44 hO hR hN ⟨fun _ => ⟨fun _ => fin, fun z => absurd z e6⟩, fun _ => ⟨fun _ => fin, fun z => absurd z e6⟩⟩
  have key : ∀ n i (q : zTx) a (im1 : zMem) (lv1 : Int64), n + i = 500 → RSC m im1 lv1 (a, 0) → i ≤ a → InvC m im1 q → Fr (Srt m) im im1 → ∀ n1, n1 = n + 1 → allS m n1 q a = txS m → zW x w 44 [(0, vR 18 0), (1, vI (nI i))] [] im1 lv1 := by
    intro n
    induction n with
    | zero =>
      intro i q a im1 lv1 hn hr hia hI hf n1 hn1 he
      subst hn1
      have : i = 500 := by omega
      subst this
      have e6 : im1 18 0 6 = 0 := hr.2.2.1
      have hk : kd m a = 0 := kd_0 (by omega)
      rw [allS, if_pos hk] at he
      refine rX5_readTape_44 hO hR hN ⟨fun _ => ⟨fun z => absurd e6 z, fun _ => ⟨Or.inl ⟨rfl, ?_, ?_⟩, hf⟩⟩, fun z => absurd (by decide) z⟩
      · rw [← he]
      · rw [← he]; exact hI
    | succ n ih =>
      intro i q a im1 lv1 hn hr hia hI hf n1 hn1 he
      subst hn1
      have e6 : im1 18 0 6 = 0 := hr.2.2.1
      have hkl := kd_le (m := m) (a := a)
      have e3 : im1 16 0 3 = 0 ↔ kd m a = 0 := by rw [show im1 16 0 3 = nI (kd m a) from hr.2.1.2.1]; exact nI_eq (b := 0) (by omega) (by decide)
      refine rX5_readTape_44 hO hR hN ?_
      rw [e3, isN hT hr (W := wFl) (y := (112615810885748 : Int64)) (by decide) (by decide) rfl, isN hT hr (W := wBr) (y := (1650811250 : Int64)) (by decide) (by decide) rfl, isN hT hr (W := wSt) (y := (495874699885 : Int64)) (by decide) (by decide) rfl, nI_1 i]
      dsimp only
      rw [allS] at he
      refine ⟨fun z => absurd z (nI_ge (b := 500) (by omega) (by decide)), fun _ => ⟨fun z => absurd e6 z, fun _ => ⟨fun hk => ?_, fun hk => ?_⟩⟩⟩
      · rw [if_pos hk] at he
        refine ⟨Or.inl ⟨rfl, ?_, ?_⟩, hf⟩
        · rw [← he]
        · rw [← he]; exact hI
      rw [if_neg hk] at he
      -- what follows a told thing
      have go : ∀ (im2 : zMem) (lv2 : Int64), RSC m im2 lv2 (oneS m q a).1 → ((oneS m q a).1.2 = 0 → InvC m im2 (oneS m q a).2) → Fr (Srt m) im im2 → zW x w 44 [(0, vR 18 0), (1, vI (nI (i + 1)))] [] im2 lv2 := by
        intro im2 lv2 r2 hI2 hf2
        by_cases hz : (oneS m q a).1.2 = 0
        · rw [if_pos hz] at he
          have hgt := oneS_gt hz
          have r2' : RSC m im2 lv2 ((oneS m q a).1.1, 0) := by rw [← hz]; exact r2
          exact ih (i + 1) _ _ im2 lv2 (by omega) r2' (by omega) (hI2 hz) hf2 _ rfl he
        · rw [if_neg hz] at he
          exact stopd r2 hz (by rw [← he]) hf2
      have hok : (oneS m q a).1.2 = 0 → okT' m (oneS m q a).2 := fun h => oneS_ok hI.2.2 h
      obtain ⟨⟨i4, i5⟩, ⟨rF, rS, rB⟩, ⟨o1, o1'⟩, ⟨o2, o2'⟩, o3⟩ := hI
      refine ⟨fun hw1 => ⟨fun hw2 => ⟨fun hw3 => ?_, fun hw3 => ?_⟩, fun hw2 => ?_⟩, fun hw1 => ?_⟩
      · -- no such word
        refine ⟨_, C_X5_stopAt _ _ _ hr (k := 1) (by decide) (by decide) rfl, ?_⟩
        rintro im2 lv2 ⟨⟨g1, g2⟩, rfl⟩
        have ho : oneS m q a = ((a, 1), q) := by unfold oneS; rw [if_neg hw1, if_neg hw3, if_neg hw2]
        refine go im2 lv2 (by rw [ho]; exact g2) (fun z => ?_) (hf.trans (mo g1))
        rw [ho] at z
        exact absurd z (by simp)
      · -- storm
        by_cases hfull : nst m + q.2.1.length = 20
        · refine ⟨_, C_X5_readStorm_full _ _ _ hr (by rw [i5, hfull]), ?_⟩
          rintro im2 lv2 ⟨⟨g1, g2⟩, rfl⟩
          have ho : oneS m q a = ((a, 4), q) := by unfold oneS; rw [if_neg hw1, if_pos hw3, if_pos hfull]
          refine go im2 lv2 (by rw [ho]; exact g2) (fun z => ?_) (hf.trans (mo g1))
          rw [ho] at z
          exact absurd z (by simp)
        · refine ⟨_, C_X5_readStorm _ _ _ hT hr (ns := nst m + q.2.1.length) (by omega) i5, ?_⟩
          rintro im2 lv2 ⟨g1, g2, g3, g4⟩
          have ho : oneS m q a = (semS m (smS m (nx m a)).1, (q.1, q.2.1 ++ [(smS m (nx m a)).2], q.2.2)) := by unfold oneS; rw [if_neg hw1, if_pos hw3, if_neg hfull]; rfl
          have gf : Fr (Srt m) im1 im2 := Fr.mono g1 (fun r i k z => by omega)
          refine go im2 lv2 (by rw [ho]; exact g2) (fun z => ?_) (hf.trans gf)
          have hok' := hok z
          rw [ho] at z hok' ⊢
          have z : (semS m (smS m (nx m a)).1).2 = 0 := z
          refine ⟨⟨(g1 18 0 4 (by omega)).trans i4, ?_⟩, ⟨fun j hj => ?_, fun j hj => ?_, fun r hr => ?_⟩, hok'⟩
          · show im2 18 0 5 = nI (nst m + (q.2.1 ++ [(smS m (nx m a)).2]).length)
            rw [g3, List.length_append, List.length_singleton, Nat.add_assoc]
          · exact flC_fr (rF j hj) (fun r k h1 h2 => g1 r _ k (by omega))
          · have hj : j < (q.2.1 ++ [(smS m (nx m a)).2]).length := hj
            rw [List.length_append, List.length_singleton] at hj
            show smC im2 (nst m + j) ((q.2.1 ++ [(smS m (nx m a)).2]).getD j dS)
            by_cases hjl : j = q.2.1.length
            · subst hjl
              rw [gA_m]
              exact g4 z
            · rw [gA_l (by omega)]
              exact smC_fr (rS j (by omega)) (fun r h1 h2 => g1 r 0 _ (by omega))
          · exact (g1 19 0 r (by omega)).trans (rB r hr)
      · -- bear
        refine ⟨_, C_X5_readBear _ _ _ hT hr, ?_⟩
        rintro im2 lv2 ⟨g1, g2, g4⟩
        have hw3 : ¬ wd m a = wSt := by rw [hw2]; decide
        have ho : oneS m q a = (semS m (brS m (nx m a)).1, (q.1, q.2.1, q.2.2 ++ [(brS m (nx m a)).2])) := by unfold oneS; rw [if_neg hw1, if_neg hw3, if_pos hw2]; rfl
        have gf : Fr (Srt m) im1 im2 := Fr.mono g1 (fun r i k z => by omega)
        refine go im2 lv2 (by rw [ho]; exact g2) (fun z => ?_) (hf.trans gf)
        have hok' := hok z
        rw [ho] at z hok' ⊢
        have z : (semS m (brS m (nx m a)).1).2 = 0 := z
        refine ⟨⟨(g1 18 0 4 (by omega)).trans i4, (g1 18 0 5 (by omega)).trans i5⟩, ⟨fun j hj => ?_, fun j hj => ?_, fun r hr => ?_⟩, hok'⟩
        · exact flC_fr (rF j hj) (fun r k h1 h2 => g1 r _ k (by omega))
        · exact smC_fr (rS j hj) (fun r h1 h2 => g1 r 0 _ (by omega))
        · show im2 19 0 r = tlB (lsB (q.2.2 ++ [(brS m (nx m a)).2]) r)
          rw [g4 z r, lsB_app, rB r hr]
          by_cases hrr : r = (brS m (nx m a)).2.1
          · rw [if_pos hrr, if_pos hrr.symm]; rfl
          · rw [if_neg hrr, if_neg (fun y => hrr y.symm)]
      · -- flight
        by_cases hfull : nfl m + q.1.length = 12
        · refine ⟨_, C_X5_readFlight_full _ _ _ hr (by rw [i4, hfull]), ?_⟩
          rintro im2 lv2 ⟨⟨g1, g2⟩, rfl⟩
          have ho : oneS m q a = ((a, 4), q) := by unfold oneS; rw [if_pos hw1, if_pos hfull]
          refine go im2 lv2 (by rw [ho]; exact g2) (fun z => ?_) (hf.trans (mo g1))
          rw [ho] at z
          exact absurd z (by simp)
        · refine ⟨_, C_X5_readFlight _ _ _ hT hr (nf := nfl m + q.1.length) (by omega) i4, ?_⟩
          rintro im2 lv2 ⟨g1, g2, g3, g4⟩
          have ho : oneS m q a = (semS m (flS m (nx m a)).1, (q.1 ++ [(flS m (nx m a)).2], q.2.1, q.2.2)) := by unfold oneS; rw [if_pos hw1, if_neg hfull]; rfl
          have gf : Fr (Srt m) im1 im2 := Fr.mono g1 (fun r i k z => by omega)
          refine go im2 lv2 (by rw [ho]; exact g2) (fun z => ?_) (hf.trans gf)
          have hok' := hok z
          rw [ho] at z hok' ⊢
          have z : (semS m (flS m (nx m a)).1).2 = 0 := z
          refine ⟨⟨?_, (g1 18 0 5 (by omega)).trans i5⟩, ⟨fun j hj => ?_, fun j hj => ?_, fun r hr => ?_⟩, hok'⟩
          · show im2 18 0 4 = nI (nfl m + (q.1 ++ [(flS m (nx m a)).2]).length)
            rw [g3, List.length_append, List.length_singleton, Nat.add_assoc]
          · have hj : j < (q.1 ++ [(flS m (nx m a)).2]).length := hj
            rw [List.length_append, List.length_singleton] at hj
            show flC im2 (nfl m + j) ((q.1 ++ [(flS m (nx m a)).2]).getD j dF)
            by_cases hjl : j = q.1.length
            · subst hjl
              rw [gA_m]
              exact g4 z
            · rw [gA_l (by omega)]
              exact flC_fr (rF j (by omega)) (fun r k h1 h2 => g1 r _ k (by omega))
          · exact smC_fr (rS j hj) (fun r h1 h2 => g1 r 0 _ (by omega))
          · exact (g1 19 0 r (by omega)).trans (rB r hr)
  refine rX5_readTape_0 hO hR hN ?_
  rw [hC.1, hC.2.2.1]
  refine ⟨_, C_J7_fill _ _ _ _ (ra := 19) (ia := 0) rfl (by decide) (by decide), ?_⟩
  rintro im1 lv1 ⟨⟨g1, -, g2⟩, rfl⟩
  have hD1 : TD m im1 := hD.fr (by rw [g1 16 (by decide), zwr_r (by decide), zwr_r (by decide), zwr_r (by decide)]) (by rw [g1 17 (by decide), zwr_r (by decide), zwr_r (by decide), zwr_r (by decide)])
  refine ⟨_, C_X10_rewind _ _ _ hT hD1, ?_⟩
  rintro im2 lv2 ⟨g3, g4⟩
  have e6 : im2 18 0 6 = nI 0 := by rw [g3 18 0 6 (by omega), g1 18 (by decide), zwr_k (by decide), zwr_k (by decide), zwr_eq]; rfl
  have e4 : im2 18 0 4 = nI (nfl m) := by rw [g3 18 0 4 (by omega), g1 18 (by decide), zwr_k (by decide), zwr_eq]
  have e5 : im2 18 0 5 = nI (nst m) := by rw [g3 18 0 5 (by omega), g1 18 (by decide), zwr_eq]
  refine key 500 0 ([], [], []) (sk m 0) im2 lv2 rfl ⟨hD1.fr (g3 16 0 1 (by omega)) (Fr.row g3 (fun _ _ z => absurd z.1 (by decide))), g4, e6, fun z => absurd rfl z, sk_le (Nat.zero_le _), Nat.zero_le _⟩ (Nat.zero_le _) ⟨⟨e4, e5⟩, ⟨fun j hj => absurd hj (Nat.not_lt_zero _), fun j hj => absurd hj (Nat.not_lt_zero _), fun r hr => ?_⟩, ⟨⟨hW.1.2, fun d hd => absurd hd List.not_mem_nil⟩, ⟨hW.2.2.1.2, fun d hd => absurd hd List.not_mem_nil⟩, fun d hd => absurd hd List.not_mem_nil⟩⟩ ?_ 501 rfl (by unfold txS; rfl)
  · rw [g3 19 0 r (by omega), g2 r hr]; rfl
  · intro r i k hrk
    rw [g3 r i k (by omega), g1 r (by omega), zwr_app, if_neg (by omega), zwr_app, if_neg (by omega), zwr_app, if_neg (by omega)]
theorem C_X3_bearInAllSlots (l : Launch) (w : zWd) {im : zMem} (lv : Int64) {r : Nat} (hr : r < 8) {z : Int32} : zSpecV l w 3 zyX3_bearInAllSlots [vR 2 0, vI (nI r), vI z] im lv (fun im' lv' => ((∀ q, ¬ q = 3 → im' q = im q) ∧ ∀ k, k < 384 → im' 3 0 k = if k / 48 = r then z else im 3 0 k) ∧ lv' = lv) := by
  refine ze_V (by decide) (Nat.le_of_ble_eq_true rfl) (fun x hO hR hN => rX3_bearInAllSlots_0 hO hR hN ?_)
  have key : ∀ n t (im1 : zMem), n + t = 48 → (∀ q, ¬ q = 3 → im1 q = im q) → (∀ k, k < 384 → im1 3 0 k = if k / 48 = r ∧ k % 48 < t then z else im 3 0 k) → zW x w 2 [(0, vR 2 0), (1, vI (nI r)), (2, vI z), (3, vI (nI t))] [] im1 lv := by
    intro n
    induction n with
    | zero =>
      intro t im1 ht h1 h2
      have : t = 48 := by omega
      subst this
      refine rX3_bearInAllSlots_2 hO hR hN ⟨fun _ => ⟨⟨h1, fun k hk => ?_⟩, rfl⟩, fun q => absurd (by decide) q⟩
      rw [h2 k hk]
      by_cases hkr : k / 48 = r
      · rw [if_pos ⟨hkr, Nat.mod_lt _ (by decide)⟩, if_pos hkr]
      · rw [if_neg (fun q => hkr q.1), if_neg hkr]
    | succ n ih =>
      intro t im1 ht h1 h2
      refine rX3_bearInAllSlots_2 hO hR hN ?_
      rw [show nI r * 48 + nI t = nI (r * 48 + t) by simp only [zlit, nI_add, pk_mul], nI_clamp (show r * 48 + t < 2 ^ 31 by omega), nI_1 t]
      refine ⟨fun q => absurd q (nI_ge (b := 48) (by omega) (by decide)), fun _ => ⟨vp_in_nI (by omega) (by decide), ih (t + 1) _ (by omega) (fun q hq => by rw [zwr_r hq]; exact h1 q hq) (fun k hk => ?_)⟩⟩
      rw [zwr_app, h2 k hk]
      by_cases hkk : k = r * 48 + t
      · rw [if_pos ⟨rfl, rfl, hkk⟩, if_pos (by omega)]
      · rw [if_neg (fun q => hkk q.2.2)]
        by_cases hc : k / 48 = r ∧ k % 48 < t
        · rw [if_pos hc, if_pos (by omega)]
        · rw [if_neg hc, if_neg (by omega)]
  exact key 48 0 im rfl (fun _ _ => rfl) (fun k hk => by rw [if_neg (by omega)])
def Sco : Nat → Nat → Nat → Prop := fun r _ k => r = 3 ∨ (r = 10 ∧ k = 1) ∨ (r = 2 ∧ k = 7)
theorem C_X5_carryOut (l : Launch) (w : zWd) {im : zMem} (lv : Int64) {t : Nat → Option Nat} (h19 : ∀ r, r < 8 → im 19 0 r = tlB (t r)) (ht : ∀ r v, t r = some v → v ≤ 99) : zSpecV l w 4 zyX5_carryOut [vR 18 0] im lv (fun im' lv' => (Fr Sco im im' ∧ im' 10 0 1 = im 18 0 4 ∧ im' 2 0 7 = im 18 0 5 ∧ ∀ k, k < 384 → im' 3 0 k = match t (k / 48) with | none => im 3 0 k | some v => nI v) ∧ lv' = lv) := by
  refine ze_V (by decide) (Nat.le_of_ble_eq_true rfl) (fun x hO hR hN => rX5_carryOut_0 hO hR hN ?_)
  have key : ∀ n r (im1 : zMem), n + r = 8 → Fr Sco im im1 → im1 10 0 1 = im 18 0 4 → im1 2 0 7 = im 18 0 5 → (∀ k, k < 384 → im1 3 0 k = if k / 48 < r then (match t (k / 48) with | none => im 3 0 k | some v => nI v) else im 3 0 k) → zW x w 24 [(0, vR 18 0), (1, vI (nI r))] [] im1 lv := by
    intro n
    induction n with
    | zero =>
      intro r im1 hn h1 h2 h3 h4
      have : r = 8 := by omega
      subst this
      exact rX5_carryOut_24 hO hR hN ⟨fun _ => ⟨⟨h1, h2, h3, fun k hk => by rw [h4 k hk, if_pos (by omega)]⟩, rfl⟩, fun q => absurd (by decide) q⟩
    | succ n ih =>
      intro r im1 hn h1 h2 h3 h4
      refine rX5_carryOut_24 hO hR hN ?_
      have e19 : im1 19 0 r = tlB (t r) := (h1 19 0 r (by unfold Sco; omega)).trans (h19 r (by omega))
      rw [nI_clamp (show r < 2 ^ 31 by omega), e19, nI_1 r]
      refine ⟨fun q => absurd q (nI_ge (b := 8) (by omega) (by decide)), fun _ => ⟨vp_in_nI (by omega) (by decide), fun q => ?_, fun q => ⟨_, C_X3_bearInAllSlots _ _ _ (by omega), ?_⟩⟩⟩
      · cases e : t r with
        | some v =>
          rw [e] at q
          have := ht r v e
          exact absurd (show nI v ≤ -1 by rw [show nI v = -1 from q]; exact Int32.le_refl _) (nIm1 (by omega))
        | none =>
          refine ih (r + 1) im1 (by omega) h1 h2 h3 (fun k hk => ?_)
          rw [h4 k hk]
          by_cases hkr : k / 48 = r
          · rw [if_neg (by omega), if_pos (by omega), hkr, e]
          · by_cases hlt : k / 48 < r
            · rw [if_pos hlt, if_pos (by omega)]
            · rw [if_neg hlt, if_neg (by omega)]
      · rintro im2 lv2 ⟨⟨g1, g2⟩, rfl⟩
        cases e : t r with
        | none => rw [e] at q; exact absurd rfl q
        | some v =>
          rw [e] at g2
          refine ih (r + 1) im2 (by omega) (fun r' i k hz => ?_) (by rw [g1 10 (by decide)]; exact h2) (by rw [g1 2 (by decide)]; exact h3) (fun k hk => ?_)
          · rw [g1 r' (fun y => hz (Or.inl y))]; exact h1 r' i k hz
          · rw [g2 k hk, h4 k hk]
            by_cases hkr : k / 48 = r
            · rw [if_pos hkr, if_pos (by omega), hkr, e]; rfl
            · rw [if_neg hkr]
              by_cases hlt : k / 48 < r
              · rw [if_pos hlt, if_pos (by omega)]
              · rw [if_neg hlt, if_neg (by omega)]
  refine key 8 0 _ rfl ((Fr.refl.wr (Or.inr (Or.inl ⟨rfl, rfl⟩))).wr (Or.inr (Or.inr ⟨rfl, rfl⟩))) (by rw [zwr_r (by decide), zwr_eq]) zwr_eq (fun k hk => by rw [if_neg (by omega), zwr_r (by decide), zwr_r (by decide)])
def rcF (m im : zMem) (v : Int32) (im' : zMem) : Prop := ¬ (txS m).1.2 = 0 ∧ v = -1000100 - nI (txS m).1.1 ∧ (∀ r i k, ¬ (Srt m r i k ∨ (r = 16 ∧ k = 1) ∨ (r = 0 ∧ k = 11)) → im' r i k = im r i k) ∧ im' 16 0 1 = 0 ∧ im' 0 0 11 = nI (txS m).1.2
def rcE (m im : zMem) (v : Int32) (im' : zMem) : Prop := (txS m).1.2 = 0 ∧ v = nI (nfl m + (txS m).2.1.length) ∧ (∀ r i k, ¬ (Srt m r i k ∨ (r = 16 ∧ k = 1) ∨ Sco r i k) → im' r i k = im r i k) ∧ im' 16 0 1 = 0 ∧ im' 10 0 1 = nI (nfl m + (txS m).2.1.length) ∧ im' 2 0 7 = nI (nst m + (txS m).2.2.1.length) ∧ (∀ j, j < (txS m).2.1.length → flC im' (nfl m + j) ((txS m).2.1.getD j dF)) ∧ (∀ j, j < (txS m).2.2.1.length → smC im' (nst m + j) ((txS m).2.2.1.getD j dS)) ∧ ∀ k, k < 384 → im' 3 0 k = match lsB (txS m).2.2.2 (k / 48) with | none => im 3 0 k | some v => nI v
theorem lsB_mem {l : List (Nat × Nat)} {r v : Nat} (h : lsB l r = some v) : ∃ d, d ∈ l ∧ d.2 = v := by
  induction l with
  | nil => cases h
  | cons q l ih =>
    rw [lsB] at h
    cases e : lsB l r with
    | some u =>
      rw [e] at h
      cases h
      obtain ⟨d, h1, h2⟩ := ih e
      exact ⟨d, List.mem_cons_of_mem _ h1, h2⟩
    | none =>
      rw [e] at h
      dsimp only at h
      split at h
      · cases h; exact ⟨q, List.mem_cons_self, rfl⟩
      · cases h
theorem C_X11_read (l : Launch) (w : zWd) {m im : zMem} (lv : Int64) (hW : WF m) (hT : WT m) (hC : RC m im) (hD : TD m im) : zSpecI l w 9 zyX11_read [vR 0 0] im lv (fun v im' _ => rcF m im v im' ∨ rcE m im v im') := by
  refine ze_I (by decide) (Nat.le_of_ble_eq_true rfl) (fun x hO hR hN => rX11_read_0 hO hR hN ⟨_, C_X5_readTape _ _ _ hW hT hC hD, ?_⟩)
  rintro v1 im1 lv1 ⟨h | h, hf⟩
  · obtain ⟨rfl, h0, ⟨i4, i5⟩, ⟨rF, rS, rB⟩, ok⟩ := h
    refine ⟨fun _ => ⟨_, C_X5_carryOut _ _ _ (t := lsB (txS m).2.2.2) (fun r hr => by rw [zwr_r (by decide)]; exact rB r hr) (fun r v hv => ?_), ?_⟩, fun q => absurd q (by decide)⟩
    · obtain ⟨d, h1, h2⟩ := lsB_mem hv
      have := (ok.2.2 d h1).2
      omega
    · rintro im2 lv2 ⟨⟨g1, g2, g3, g4⟩, rfl⟩
      rw [zwr_r (by decide)] at g2 g3
      have hfr : ∀ r i k, ¬ (r = 16 ∧ k = 1) → ¬ Sco r i k → im2 r i k = im1 r i k := fun r i k q1 q2 => by
        rw [g1 r i k q2, zwr_app, if_neg (fun z => q1 ⟨z.1, z.2.2⟩)]
      refine Or.inr ⟨h0, ?_, fun r i k hz => ?_, ?_, ?_, ?_, fun j hj => ?_, fun j hj => ?_, fun k hk => ?_⟩
      · rw [g2]; exact i4
      · rw [hfr r i k (fun z => hz (Or.inr (Or.inl z))) (fun z => hz (Or.inr (Or.inr z)))]
        exact hf r i k (fun z => hz (Or.inl z))
      · rw [g1 16 0 1 (by unfold Sco; omega), zwr_eq]
      · rw [g2]; exact i4
      · rw [g3]; exact i5
      · exact flC_fr (rF j hj) (fun r k h1 h2 => hfr r _ k (by omega) (by unfold Sco; omega))
      · exact smC_fr (rS j hj) (fun r h1 h2 => hfr r 0 _ (by omega) (by unfold Sco; omega))
      · rw [g4 k hk, zwr_r (by decide), hf 3 0 k (by omega)]
  · obtain ⟨rfl, h0, h6, h7⟩ := h
    refine ⟨fun q => absurd rfl q, fun _ => Or.inl ⟨h0, ?_, fun r i k hz => ?_, ?_, ?_⟩⟩
    · rw [h7]
    · rw [zwr_app, if_neg (fun z => hz (Or.inr (Or.inr ⟨z.1, z.2.2⟩))), zwr_app, if_neg (fun z => hz (Or.inr (Or.inl ⟨z.1, z.2.2⟩)))]
      exact hf r i k (fun z => hz (Or.inl z))
    · rw [zwr_r (by decide), zwr_eq]
    · rw [zwr_eq]; exact h6
