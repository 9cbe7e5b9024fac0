theorem rX12_sheet_0 {x : zX} {w : zWd} {im : zMem} {lv : Int64} {P : Int32 → zMem → Int64 → Prop} {x1 : Int32} {x2 : Int32} {x3 : Int32} (hO : zOK x w zyX12_sheet 4) (hR : zRetI x w zyX12_sheet P) (hN : zN x 126 126)
 (h : ((¬ (0 ≤ x1 ∧ x1 ≤ 7) → P (-1000001) (zwr im 43 0 0 0) lv) ∧
 (0 ≤ x1 ∧ x1 ≤ 7 → ((¬ (0 ≤ x2 ∧ x2 ≤ 2) → P (-1000001) (zwr im 43 0 0 0) lv) ∧
 (0 ≤ x2 ∧ x2 ≤ 2 → ((x3 ≤ 48 → ((0 ≤ x3 → (vp_in x1 8 ∧ zW x w 65 [(0, vR 43 0), (1, vI x1), (2, vI x2), (3, vI x3), (4, vI 0)] [] (zwr (zwr (zwr (zwr im 43 0 0 0) 43 0 1 0) 44 0 (Int32.toNatClampNeg x1) x2) 45 0 (Int32.toNatClampNeg x1) x3) lv)) ∧
 (¬ (0 ≤ x3) → P ((-1000010) - 4) (zwr (zwr (zwr im 43 0 0 0) 43 0 1 0) 43 0 1 4) lv))) ∧
 (¬ (x3 ≤ 48) → P (-1000001) (zwr im 43 0 0 0) lv))))))) :
 zW x w 0 [(0, vR 43 0), (1, vI x1), (2, vI x2), (3, vI x3)] [] im lv := by
  refine zi_aload_n hO dX12_sheet_0 0 rfl ?_
  refine zi_iconst (v := 0) hO dX12_sheet_1 (by decide) ?_
  refine zi_putI hO dX12_sheet_2 gX12_1 rfl rfl (zI (by decide)) ?_
  refine zi_iload_n hO dX12_sheet_5 1 rfl ?_
  refine zc_SI (as := [vI x1]) hO hN dX12_sheet_6 kX12_17 (by decide) rfl (Nat.le_of_ble_eq_true rfl) rfl rfl (C_X12_isSheet _ _ _ _) (fun v1 im1 lv1 hp1 => ?_)
  rw [hp1.1, hp1.2.1, hp1.2.2]
  refine zi_if_eq (tgt := 30) hO dX12_sheet_9 (by decide) (fun c1 => ?_) (fun c1 => ?_)
  · have h := h.1 (vB_0.mp c1)
    refine zi_ldc (v := (-1000001)) hO dX12_sheet_30 nX12_23 ?_
    exact zr_I hO hR rfl dX12_sheet_32 h
  · have h := h.2 (vB_1.mp (vB_01.resolve_left c1))
    refine zi_iload_n hO dX12_sheet_12 2 rfl ?_
    refine zi_i2l hO dX12_sheet_13 ?_
    refine zi_lconst (v := 0) hO dX12_sheet_14 (by decide) ?_
    refine zi_ldc2 (v := 2) hO dX12_sheet_15 nX12_21 ?_
    refine zc_SI (as := [vL (Int32.toInt64 x2), vL (0 : Int64), vL (2 : Int64)]) hO hN dX12_sheet_18 kX12_13 (by decide) rfl (Nat.le_of_ble_eq_true rfl) rfl rfl (C_X12_in _ _ _ _ (a := x2) (b := 0) (c := 2) rfl (by decide) (by decide)) (fun v2 im2 lv2 hp2 => ?_)
    rw [hp2.1, hp2.2.1, hp2.2.2]
    refine zi_if_eq (tgt := 30) hO dX12_sheet_21 (by decide) (fun c2 => ?_) (fun c2 => ?_)
    · have h := h.1 (vB_0.mp c2)
      refine zi_ldc (v := (-1000001)) hO dX12_sheet_30 nX12_23 ?_
      exact zr_I hO hR rfl dX12_sheet_32 h
    · have h := h.2 (vB_1.mp (vB_01.resolve_left c2))
      refine zi_iload_n hO dX12_sheet_24 3 rfl ?_
      refine zi_bipush (v := 48) hO dX12_sheet_25 (by decide) ?_
      refine zi_icmp_le (tgt := 33) hO dX12_sheet_27 (by decide) (fun c3 => ?_) (fun c3 => ?_)
      · have h := h.1 c3
        refine zi_aload_n hO dX12_sheet_33 0 rfl ?_
        refine zi_iconst (v := 0) hO dX12_sheet_34 (by decide) ?_
        refine zi_putI hO dX12_sheet_35 gX12_7 rfl rfl (zI (by decide)) ?_
        refine zi_iload_n hO dX12_sheet_38 3 rfl ?_
        refine zi_if_ge (tgt := 48) hO dX12_sheet_39 (by decide) (fun c4 => ?_) (fun c4 => ?_)
        · have h := h.1 c4
          refine zi_aload_n hO dX12_sheet_48 0 rfl ?_
          refine zi_getR (r' := 44) (i' := 0) hO dX12_sheet_49 fX12_28 rfl rfl (zI (by decide)) rfl ?_
          refine zi_iload_n hO dX12_sheet_52 1 rfl ?_
          refine zi_iload_n hO dX12_sheet_53 2 rfl ?_
          obtain ⟨s3, h⟩ := h
          refine zi_iast hO dX12_sheet_54 rfl (zI (by decide)) s3 ?_
          refine zi_aload_n hO dX12_sheet_55 0 rfl ?_
          refine zi_getR (r' := 45) (i' := 0) hO dX12_sheet_56 fX12_32 rfl rfl (zI (by decide)) rfl ?_
          refine zi_iload_n hO dX12_sheet_59 1 rfl ?_
          refine zi_iload_n hO dX12_sheet_60 3 rfl ?_
          refine zi_iast hO dX12_sheet_61 rfl (zI (by decide)) s3 ?_
          refine zi_iconst (v := 0) hO dX12_sheet_62 (by decide) ?_
          refine zi_istore (L' := [(0, vR 43 0), (1, vI x1), (2, vI x2), (3, vI x3), (4, vI 0)]) hO dX12_sheet_63 (by decide) rfl rfl ?_
          exact h
        · have h := h.2 c4
          refine zi_aload_n hO dX12_sheet_42 0 rfl ?_
          refine zi_iconst (v := 4) hO dX12_sheet_43 (by decide) ?_
          refine zc_VI (as := [vI 4]) hO hN dX12_sheet_44 kX12_24 (by decide) rfl (zI (by decide)) rfl rfl (Nat.le_of_ble_eq_true rfl) rfl rfl (C_X12_found _ _ _ _) (fun v4 im4 lv4 hp4 => ?_)
          rw [hp4.1, hp4.2.1, hp4.2.2]
          exact zr_I hO hR rfl dX12_sheet_47 h
      · have h := h.2 c3
        refine zi_ldc (v := (-1000001)) hO dX12_sheet_30 nX12_23 ?_
        exact zr_I hO hR rfl dX12_sheet_32 h
theorem rX12_sheet_65 {x : zX} {w : zWd} {im : zMem} {lv : Int64} {P : Int32 → zMem → Int64 → Prop} {x1 : Int32} {x2 : Int32} {x3 : Int32} {x4 : Int32} (hO : zOK x w zyX12_sheet 4) (hR : zRetI x w zyX12_sheet P) (hN : zN x 126 126)
 (h : ((48 ≤ x4 → P x3 im lv) ∧
 (¬ (48 ≤ x4) → (vp_in ((48 * x1) + x4) 384 ∧ zW x w 65 [(0, vR 43 0), (1, vI x1), (2, vI x2), (3, vI x3), (4, vI (x4 + 1))] [] (zwr im 46 0 (Int32.toNatClampNeg ((48 * x1) + x4)) 0) lv)))) :
 zW x w 65 [(0, vR 43 0), (1, vI x1), (2, vI x2), (3, vI x3), (4, vI x4)] [] im lv := by
  refine zi_iload hO dX12_sheet_65 4 rfl ?_
  refine zi_bipush (v := 48) hO dX12_sheet_67 (by decide) ?_
  refine zi_icmp_ge (tgt := 91) hO dX12_sheet_69 (by decide) (fun c1 => ?_) (fun c1 => ?_)
  · have h := h.1 c1
    refine zi_iload_n hO dX12_sheet_91 3 rfl ?_
    exact zr_I hO hR rfl dX12_sheet_92 h
  · have h := h.2 c1
    refine zi_aload_n hO dX12_sheet_72 0 rfl ?_
    refine zi_getR (r' := 46) (i' := 0) hO dX12_sheet_73 fX12_35 rfl rfl (zI (by decide)) rfl ?_
    refine zi_bipush (v := 48) hO dX12_sheet_76 (by decide) ?_
    refine zi_iload_n hO dX12_sheet_78 1 rfl ?_
    refine zi_imul hO dX12_sheet_79 ?_
    refine zi_iload hO dX12_sheet_80 4 rfl ?_
    refine zi_iadd hO dX12_sheet_82 ?_
    refine zi_iconst (v := 0) hO dX12_sheet_83 (by decide) ?_
    obtain ⟨s1, h⟩ := h
    refine zi_iast hO dX12_sheet_84 rfl (zI (by decide)) s1 ?_
    refine zi_iinc (v' := (x4 + 1)) (L' := [(0, vR 43 0), (1, vI x1), (2, vI x2), (3, vI x3), (4, vI (x4 + 1))]) hO dX12_sheet_85 4 rfl rfl (by decide) rfl rfl ?_
    refine zi_goto (tgt := 65) hO dX12_sheet_88 (by decide) ?_
    exact h
theorem rX12_set_0 {x : zX} {w : zWd} {im : zMem} {lv : Int64} {P : Int32 → zMem → Int64 → Prop} {x1 : Int32} {x2 : Int32} {x3 : Int32} (hO : zOK x w zyX12_set 4) (hR : zRetI x w zyX12_set P) (hN : zN x 126 126)
 (h : ((0 ≤ x1 ∧ x1 ≤ 7 → (vp_in x1 8 ∧ ((0 ≤ (im 44 0 (Int32.toNatClampNeg x1)) → ((0 ≤ x2 ∧ x2 ≤ ((im 45 0 (Int32.toNatClampNeg x1)) - 1) → ((¬ ((im 44 0 (Int32.toNatClampNeg x1)) = 0) → ((¬ ((im 44 0 (Int32.toNatClampNeg x1)) = 1) → (vp_in ((48 * x1) + x2) 384 ∧ P ((zwr (zwr (zwr im 43 0 0 0) 43 0 1 0) 46 0 (Int32.toNatClampNeg ((48 * x1) + x2)) x3) 46 0 (Int32.toNatClampNeg ((48 * x1) + x2))) (zwr (zwr (zwr im 43 0 0 0) 43 0 1 0) 46 0 (Int32.toNatClampNeg ((48 * x1) + x2)) x3) lv)) ∧
 ((im 44 0 (Int32.toNatClampNeg x1)) = 1 → (vp_in ((48 * x1) + x2) 384 ∧ P ((zwr (zwr (zwr im 43 0 0 0) 43 0 1 0) 46 0 (Int32.toNatClampNeg ((48 * x1) + x2)) ((Int32.toInt16 x3).toInt32)) 46 0 (Int32.toNatClampNeg ((48 * x1) + x2))) (zwr (zwr (zwr im 43 0 0 0) 43 0 1 0) 46 0 (Int32.toNatClampNeg ((48 * x1) + x2)) ((Int32.toInt16 x3).toInt32)) lv)))) ∧
 ((im 44 0 (Int32.toNatClampNeg x1)) = 0 → (vp_in ((48 * x1) + x2) 384 ∧ P ((zwr (zwr (zwr im 43 0 0 0) 43 0 1 0) 46 0 (Int32.toNatClampNeg ((48 * x1) + x2)) ((Int32.toInt8 x3).toInt32)) 46 0 (Int32.toNatClampNeg ((48 * x1) + x2))) (zwr (zwr (zwr im 43 0 0 0) 43 0 1 0) 46 0 (Int32.toNatClampNeg ((48 * x1) + x2)) ((Int32.toInt8 x3).toInt32)) lv)))) ∧
 (¬ (0 ≤ x2 ∧ x2 ≤ ((im 45 0 (Int32.toNatClampNeg x1)) - 1)) → P ((-1000010) - 2) (zwr (zwr (zwr im 43 0 0 0) 43 0 1 0) 43 0 1 2) lv))) ∧
 (¬ (0 ≤ (im 44 0 (Int32.toNatClampNeg x1))) → P ((-1000010) - 1) (zwr (zwr (zwr im 43 0 0 0) 43 0 1 0) 43 0 1 1) lv)))) ∧
 (¬ (0 ≤ x1 ∧ x1 ≤ 7) → P (-1000001) (zwr im 43 0 0 0) lv))) :
 zW x w 0 [(0, vR 43 0), (1, vI x1), (2, vI x2), (3, vI x3)] [] im lv := by
  refine zi_aload_n hO dX12_set_0 0 rfl ?_
  refine zi_iconst (v := 0) hO dX12_set_1 (by decide) ?_
  refine zi_putI hO dX12_set_2 gX12_1 rfl rfl (zI (by decide)) ?_
  refine zi_iload_n hO dX12_set_5 1 rfl ?_
  refine zc_SI (as := [vI x1]) hO hN dX12_set_6 kX12_17 (by decide) rfl (Nat.le_of_ble_eq_true rfl) rfl rfl (C_X12_isSheet _ _ _ _) (fun v1 im1 lv1 hp1 => ?_)
  rw [hp1.1, hp1.2.1, hp1.2.2]
  refine zi_if_ne (tgt := 15) hO dX12_set_9 (by decide) (fun c1 => ?_) (fun c1 => ?_)
  · have h := h.1 (vB_1.mp (vB_01.resolve_left c1))
    refine zi_aload_n hO dX12_set_15 0 rfl ?_
    refine zi_iconst (v := 0) hO dX12_set_16 (by decide) ?_
    refine zi_putI hO dX12_set_17 gX12_7 rfl rfl (zI (by decide)) ?_
    refine zi_aload_n hO dX12_set_20 0 rfl ?_
    refine zi_getR (r' := 44) (i' := 0) hO dX12_set_21 fX12_28 rfl rfl (zI (by decide)) rfl ?_
    refine zi_iload_n hO dX12_set_24 1 rfl ?_
    obtain ⟨s2, h⟩ := h
    refine zi_iald hO dX12_set_25 rfl (zI (by decide)) s2 ?_
    refine zi_if_ge (tgt := 35) hO dX12_set_26 (by decide) (fun c2 => ?_) (fun c2 => ?_)
    · have h := h.1 c2
      refine zi_iload_n hO dX12_set_35 2 rfl ?_
      refine zi_i2l hO dX12_set_36 ?_
      refine zi_lconst (v := 0) hO dX12_set_37 (by decide) ?_
      refine zi_aload_n hO dX12_set_38 0 rfl ?_
      refine zi_getR (r' := 45) (i' := 0) hO dX12_set_39 fX12_32 rfl rfl (zI (by decide)) rfl ?_
      refine zi_iload_n hO dX12_set_42 1 rfl ?_
      refine zi_iald hO dX12_set_43 rfl (zI (by decide)) s2 ?_
      refine zi_iconst (v := 1) hO dX12_set_44 (by decide) ?_
      refine zi_isub hO dX12_set_45 ?_
      refine zi_i2l hO dX12_set_46 ?_
      refine zc_SI (as := [vL (Int32.toInt64 x2), vL (0 : Int64), vL (Int32.toInt64 ((im 45 0 (Int32.toNatClampNeg x1)) - 1))]) hO hN dX12_set_47 kX12_13 (by decide) rfl (Nat.le_of_ble_eq_true rfl) rfl rfl (C_X12_in _ _ _ _ (a := x2) (b := 0) (c := ((im 45 0 (Int32.toNatClampNeg x1)) - 1)) rfl (by decide) rfl) (fun v3 im3 lv3 hp3 => ?_)
      rw [hp3.1, hp3.2.1, hp3.2.2]
      refine zi_if_ne (tgt := 59) hO dX12_set_50 (by decide) (fun c3 => ?_) (fun c3 => ?_)
      · have h := h.1 (vB_1.mp (vB_01.resolve_left c3))
        refine zi_aload_n hO dX12_set_59 0 rfl ?_
        refine zi_getR (r' := 46) (i' := 0) hO dX12_set_60 fX12_35 rfl rfl (zI (by decide)) rfl ?_
        refine zi_bipush (v := 48) hO dX12_set_63 (by decide) ?_
        refine zi_iload_n hO dX12_set_65 1 rfl ?_
        refine zi_imul hO dX12_set_66 ?_
        refine zi_iload_n hO dX12_set_67 2 rfl ?_
        refine zi_iadd hO dX12_set_68 ?_
        refine zi_aload_n hO dX12_set_69 0 rfl ?_
        refine zi_getR (r' := 44) (i' := 0) hO dX12_set_70 fX12_28 rfl rfl (zI (by decide)) rfl ?_
        refine zi_iload_n hO dX12_set_73 1 rfl ?_
        refine zi_iald hO dX12_set_74 rfl (zI (by decide)) s2 ?_
        refine zi_if_ne (tgt := 83) hO dX12_set_75 (by decide) (fun c4 => ?_) (fun c4 => ?_)
        · have h := h.1 c4
          refine zi_aload_n hO dX12_set_83 0 rfl ?_
          refine zi_getR (r' := 44) (i' := 0) hO dX12_set_84 fX12_28 rfl rfl (zI (by decide)) rfl ?_
          refine zi_iload_n hO dX12_set_87 1 rfl ?_
          refine zi_iald hO dX12_set_88 rfl (zI (by decide)) s2 ?_
          refine zi_iconst (v := 1) hO dX12_set_89 (by decide) ?_
          refine zi_icmp_ne (tgt := 98) hO dX12_set_90 (by decide) (fun c5 => ?_) (fun c5 => ?_)
          · have h := h.1 c5
            refine zi_iload_n hO dX12_set_98 3 rfl ?_
            obtain ⟨s4, h⟩ := h
            refine zi_iast hO dX12_set_99 rfl (zI (by decide)) s4 ?_
            refine zi_aload_n hO dX12_set_100 0 rfl ?_
            refine zi_getR (r' := 46) (i' := 0) hO dX12_set_101 fX12_35 rfl rfl (zI (by decide)) rfl ?_
            refine zi_bipush (v := 48) hO dX12_set_104 (by decide) ?_
            refine zi_iload_n hO dX12_set_106 1 rfl ?_
            refine zi_imul hO dX12_set_107 ?_
            refine zi_iload_n hO dX12_set_108 2 rfl ?_
            refine zi_iadd hO dX12_set_109 ?_
            refine zi_iald hO dX12_set_110 rfl (zI (by decide)) s4 ?_
            exact zr_I hO hR rfl dX12_set_111 h
          · have h := h.2 c5
            refine zi_iload_n hO dX12_set_93 3 rfl ?_
            refine zi_i2s hO dX12_set_94 ?_
            refine zi_goto (tgt := 99) hO dX12_set_95 (by decide) ?_
            obtain ⟨s5, h⟩ := h
            refine zi_iast hO dX12_set_99 rfl (zI (by decide)) s5 ?_
            refine zi_aload_n hO dX12_set_100 0 rfl ?_
            refine zi_getR (r' := 46) (i' := 0) hO dX12_set_101 fX12_35 rfl rfl (zI (by decide)) rfl ?_
            refine zi_bipush (v := 48) hO dX12_set_104 (by decide) ?_
            refine zi_iload_n hO dX12_set_106 1 rfl ?_
            refine zi_imul hO dX12_set_107 ?_
            refine zi_iload_n hO dX12_set_108 2 rfl ?_
            refine zi_iadd hO dX12_set_109 ?_
            refine zi_iald hO dX12_set_110 rfl (zI (by decide)) s5 ?_
            exact zr_I hO hR rfl dX12_set_111 h
        · have h := h.2 c4
          refine zi_iload_n hO dX12_set_78 3 rfl ?_
          refine zi_i2b hO dX12_set_79 ?_
          refine zi_goto (tgt := 99) hO dX12_set_80 (by decide) ?_
          obtain ⟨s6, h⟩ := h
          refine zi_iast hO dX12_set_99 rfl (zI (by decide)) s6 ?_
          refine zi_aload_n hO dX12_set_100 0 rfl ?_
          refine zi_getR (r' := 46) (i' := 0) hO dX12_set_101 fX12_35 rfl rfl (zI (by decide)) rfl ?_
          refine zi_bipush (v := 48) hO dX12_set_104 (by decide) ?_
          refine zi_iload_n hO dX12_set_106 1 rfl ?_
          refine zi_imul hO dX12_set_107 ?_
          refine zi_iload_n hO dX12_set_108 2 rfl ?_
          refine zi_iadd hO dX12_set_109 ?_
          refine zi_iald hO dX12_set_110 rfl (zI (by decide)) s6 ?_
          exact zr_I hO hR rfl dX12_set_111 h
      · have h := h.2 (vB_0.mp c3)
        refine zi_aload_n hO dX12_set_53 0 rfl ?_
        refine zi_iconst (v := 2) hO dX12_set_54 (by decide) ?_
        refine zc_VI (as := [vI 2]) hO hN dX12_set_55 kX12_24 (by decide) rfl (zI (by decide)) rfl rfl (Nat.le_of_ble_eq_true rfl) rfl rfl (C_X12_found _ _ _ _) (fun v7 im7 lv7 hp7 => ?_)
        rw [hp7.1, hp7.2.1, hp7.2.2]
        exact zr_I hO hR rfl dX12_set_58 h
    · have h := h.2 c2
      refine zi_aload_n hO dX12_set_29 0 rfl ?_
      refine zi_iconst (v := 1) hO dX12_set_30 (by decide) ?_
      refine zc_VI (as := [vI 1]) hO hN dX12_set_31 kX12_24 (by decide) rfl (zI (by decide)) rfl rfl (Nat.le_of_ble_eq_true rfl) rfl rfl (C_X12_found _ _ _ _) (fun v8 im8 lv8 hp8 => ?_)
      rw [hp8.1, hp8.2.1, hp8.2.2]
      exact zr_I hO hR rfl dX12_set_34 h
  · have h := h.2 (vB_0.mp c1)
    refine zi_ldc (v := (-1000001)) hO dX12_set_12 nX12_23 ?_
    exact zr_I hO hR rfl dX12_set_14 h
theorem rX12_copy_0 {x : zX} {w : zWd} {im : zMem} {lv : Int64} {P : Int32 → zMem → Int64 → Prop} {x1 : Int32} {x2 : Int32} {x3 : Int32} {x4 : Int32} {x5 : Int32} (hO : zOK x w zyX12_copy 4) (hR : zRetI x w zyX12_copy P) (hN : zN x 126 126)
 (h : ((¬ (0 ≤ x1 ∧ x1 ≤ 7) → P (-1000001) (zwr im 43 0 0 0) lv) ∧
 (0 ≤ x1 ∧ x1 ≤ 7 → ((0 ≤ x3 ∧ x3 ≤ 7 → (vp_in x1 8 ∧ (((im 44 0 (Int32.toNatClampNeg x1)) < 0 → P ((-1000010) - 1) (zwr (zwr (zwr im 43 0 0 0) 43 0 1 0) 43 0 1 1) lv) ∧
 (¬ ((im 44 0 (Int32.toNatClampNeg x1)) < 0) → (vp_in x3 8 ∧ ((0 ≤ (im 44 0 (Int32.toNatClampNeg x3)) → (((im 44 0 (Int32.toNatClampNeg x1)) = (im 44 0 (Int32.toNatClampNeg x3)) → ((x2 < 0 → P ((-1000010) - 2) (zwr (zwr (zwr im 43 0 0 0) 43 0 1 0) 43 0 1 2) lv) ∧
 (¬ (x2 < 0) → ((x4 < 0 → P ((-1000010) - 2) (zwr (zwr (zwr im 43 0 0 0) 43 0 1 0) 43 0 1 2) lv) ∧
 (¬ (x4 < 0) → ((x5 < 0 → P ((-1000010) - 2) (zwr (zwr (zwr im 43 0 0 0) 43 0 1 0) 43 0 1 2) lv) ∧
 (¬ (x5 < 0) → ((0 < (lg_cmp ((Int32.toInt64 x2) + (Int32.toInt64 x5)) (Int32.toInt64 (im 45 0 (Int32.toNatClampNeg x1)))) → P ((-1000010) - 2) (zwr (zwr (zwr im 43 0 0 0) 43 0 1 0) 43 0 1 2) lv) ∧
 (¬ (0 < (lg_cmp ((Int32.toInt64 x2) + (Int32.toInt64 x5)) (Int32.toInt64 (im 45 0 (Int32.toNatClampNeg x1))))) → (((lg_cmp ((Int32.toInt64 x4) + (Int32.toInt64 x5)) (Int32.toInt64 (im 45 0 (Int32.toNatClampNeg x3)))) ≤ 0 → ((x2 < x4 → zW x w 143 [(0, vR 43 0), (1, vI x1), (2, vI x2), (3, vI x3), (4, vI x4), (5, vI x5), (6, vI 0), (7, vI 0)] [] (zwr (zwr im 43 0 0 0) 43 0 1 0) lv) ∧
 (¬ (x2 < x4) → zW x w 143 [(0, vR 43 0), (1, vI x1), (2, vI x2), (3, vI x3), (4, vI x4), (5, vI x5), (6, vI 1), (7, vI 0)] [] (zwr (zwr im 43 0 0 0) 43 0 1 0) lv))) ∧
 (¬ ((lg_cmp ((Int32.toInt64 x4) + (Int32.toInt64 x5)) (Int32.toInt64 (im 45 0 (Int32.toNatClampNeg x3)))) ≤ 0) → P ((-1000010) - 2) (zwr (zwr (zwr im 43 0 0 0) 43 0 1 0) 43 0 1 2) lv))))))))))) ∧
 (¬ ((im 44 0 (Int32.toNatClampNeg x1)) = (im 44 0 (Int32.toNatClampNeg x3))) → P ((-1000010) - 5) (zwr (zwr (zwr im 43 0 0 0) 43 0 1 0) 43 0 1 5) lv))) ∧
 (¬ (0 ≤ (im 44 0 (Int32.toNatClampNeg x3))) → P ((-1000010) - 1) (zwr (zwr (zwr im 43 0 0 0) 43 0 1 0) 43 0 1 1) lv))))))) ∧
 (¬ (0 ≤ x3 ∧ x3 ≤ 7) → P (-1000001) (zwr im 43 0 0 0) lv))))) :
 zW x w 0 [(0, vR 43 0), (1, vI x1), (2, vI x2), (3, vI x3), (4, vI x4), (5, vI x5)] [] im lv := by
  refine zi_aload_n hO dX12_copy_0 0 rfl ?_
  refine zi_iconst (v := 0) hO dX12_copy_1 (by decide) ?_
  refine zi_putI hO dX12_copy_2 gX12_1 rfl rfl (zI (by decide)) ?_
  refine zi_iload_n hO dX12_copy_5 1 rfl ?_
  refine zc_SI (as := [vI x1]) hO hN dX12_copy_6 kX12_17 (by decide) rfl (Nat.le_of_ble_eq_true rfl) rfl rfl (C_X12_isSheet _ _ _ _) (fun v1 im1 lv1 hp1 => ?_)
  rw [hp1.1, hp1.2.1, hp1.2.2]
  refine zi_if_eq (tgt := 19) hO dX12_copy_9 (by decide) (fun c1 => ?_) (fun c1 => ?_)
  · have h := h.1 (vB_0.mp c1)
    refine zi_ldc (v := (-1000001)) hO dX12_copy_19 nX12_23 ?_
    exact zr_I hO hR rfl dX12_copy_21 h
  · have h := h.2 (vB_1.mp (vB_01.resolve_left c1))
    refine zi_iload_n hO dX12_copy_12 3 rfl ?_
    refine zc_SI (as := [vI x3]) hO hN dX12_copy_13 kX12_17 (by decide) rfl (Nat.le_of_ble_eq_true rfl) rfl rfl (C_X12_isSheet _ _ _ _) (fun v2 im2 lv2 hp2 => ?_)
    rw [hp2.1, hp2.2.1, hp2.2.2]
    refine zi_if_ne (tgt := 22) hO dX12_copy_16 (by decide) (fun c2 => ?_) (fun c2 => ?_)
    · have h := h.1 (vB_1.mp (vB_01.resolve_left c2))
      refine zi_aload_n hO dX12_copy_22 0 rfl ?_
      refine zi_iconst (v := 0) hO dX12_copy_23 (by decide) ?_
      refine zi_putI hO dX12_copy_24 gX12_7 rfl rfl (zI (by decide)) ?_
      refine zi_aload_n hO dX12_copy_27 0 rfl ?_
      refine zi_getR (r' := 44) (i' := 0) hO dX12_copy_28 fX12_28 rfl rfl (zI (by decide)) rfl ?_
      refine zi_iload_n hO dX12_copy_31 1 rfl ?_
      obtain ⟨s3, h⟩ := h
      refine zi_iald hO dX12_copy_32 rfl (zI (by decide)) s3 ?_
      refine zi_if_lt (tgt := 45) hO dX12_copy_33 (by decide) (fun c3 => ?_) (fun c3 => ?_)
      · have h := h.1 c3
        refine zi_aload_n hO dX12_copy_45 0 rfl ?_
        refine zi_iconst (v := 1) hO dX12_copy_46 (by decide) ?_
        refine zc_VI (as := [vI 1]) hO hN dX12_copy_47 kX12_24 (by decide) rfl (zI (by decide)) rfl rfl (Nat.le_of_ble_eq_true rfl) rfl rfl (C_X12_found _ _ _ _) (fun v4 im4 lv4 hp4 => ?_)
        rw [hp4.1, hp4.2.1, hp4.2.2]
        exact zr_I hO hR rfl dX12_copy_50 h
      · have h := h.2 c3
        refine zi_aload_n hO dX12_copy_36 0 rfl ?_
        refine zi_getR (r' := 44) (i' := 0) hO dX12_copy_37 fX12_28 rfl rfl (zI (by decide)) rfl ?_
        refine zi_iload_n hO dX12_copy_40 3 rfl ?_
        obtain ⟨s5, h⟩ := h
        refine zi_iald hO dX12_copy_41 rfl (zI (by decide)) s5 ?_
        refine zi_if_ge (tgt := 51) hO dX12_copy_42 (by decide) (fun c4 => ?_) (fun c4 => ?_)
        · have h := h.1 c4
          refine zi_aload_n hO dX12_copy_51 0 rfl ?_
          refine zi_getR (r' := 44) (i' := 0) hO dX12_copy_52 fX12_28 rfl rfl (zI (by decide)) rfl ?_
          refine zi_iload_n hO dX12_copy_55 1 rfl ?_
          refine zi_iald hO dX12_copy_56 rfl (zI (by decide)) s3 ?_
          refine zi_aload_n hO dX12_copy_57 0 rfl ?_
          refine zi_getR (r' := 44) (i' := 0) hO dX12_copy_58 fX12_28 rfl rfl (zI (by decide)) rfl ?_
          refine zi_iload_n hO dX12_copy_61 3 rfl ?_
          refine zi_iald hO dX12_copy_62 rfl (zI (by decide)) s5 ?_
          refine zi_icmp_eq (tgt := 72) hO dX12_copy_63 (by decide) (fun c5 => ?_) (fun c5 => ?_)
          · have h := h.1 c5
            refine zi_iload_n hO dX12_copy_72 2 rfl ?_
            refine zi_if_lt (tgt := 121) hO dX12_copy_73 (by decide) (fun c6 => ?_) (fun c6 => ?_)
            · have h := h.1 c6
              refine zi_aload_n hO dX12_copy_121 0 rfl ?_
              refine zi_iconst (v := 2) hO dX12_copy_122 (by decide) ?_
              refine zc_VI (as := [vI 2]) hO hN dX12_copy_123 kX12_24 (by decide) rfl (zI (by decide)) rfl rfl (Nat.le_of_ble_eq_true rfl) rfl rfl (C_X12_found _ _ _ _) (fun v6 im6 lv6 hp6 => ?_)
              rw [hp6.1, hp6.2.1, hp6.2.2]
              exact zr_I hO hR rfl dX12_copy_126 h
            · have h := h.2 c6
              refine zi_iload hO dX12_copy_76 4 rfl ?_
              refine zi_if_lt (tgt := 121) hO dX12_copy_78 (by decide) (fun c7 => ?_) (fun c7 => ?_)
              · have h := h.1 c7
                refine zi_aload_n hO dX12_copy_121 0 rfl ?_
                refine zi_iconst (v := 2) hO dX12_copy_122 (by decide) ?_
                refine zc_VI (as := [vI 2]) hO hN dX12_copy_123 kX12_24 (by decide) rfl (zI (by decide)) rfl rfl (Nat.le_of_ble_eq_true rfl) rfl rfl (C_X12_found _ _ _ _) (fun v7 im7 lv7 hp7 => ?_)
                rw [hp7.1, hp7.2.1, hp7.2.2]
                exact zr_I hO hR rfl dX12_copy_126 h
              · have h := h.2 c7
                refine zi_iload hO dX12_copy_81 5 rfl ?_
                refine zi_if_lt (tgt := 121) hO dX12_copy_83 (by decide) (fun c8 => ?_) (fun c8 => ?_)
                · have h := h.1 c8
                  refine zi_aload_n hO dX12_copy_121 0 rfl ?_
                  refine zi_iconst (v := 2) hO dX12_copy_122 (by decide) ?_
                  refine zc_VI (as := [vI 2]) hO hN dX12_copy_123 kX12_24 (by decide) rfl (zI (by decide)) rfl rfl (Nat.le_of_ble_eq_true rfl) rfl rfl (C_X12_found _ _ _ _) (fun v8 im8 lv8 hp8 => ?_)
                  rw [hp8.1, hp8.2.1, hp8.2.2]
                  exact zr_I hO hR rfl dX12_copy_126 h
                · have h := h.2 c8
                  refine zi_iload_n hO dX12_copy_86 2 rfl ?_
                  refine zi_i2l hO dX12_copy_87 ?_
                  refine zi_iload hO dX12_copy_88 5 rfl ?_
                  refine zi_i2l hO dX12_copy_90 ?_
                  refine zi_ladd hO dX12_copy_91 ?_
                  refine zi_aload_n hO dX12_copy_92 0 rfl ?_
                  refine zi_getR (r' := 45) (i' := 0) hO dX12_copy_93 fX12_32 rfl rfl (zI (by decide)) rfl ?_
                  refine zi_iload_n hO dX12_copy_96 1 rfl ?_
                  refine zi_iald hO dX12_copy_97 rfl (zI (by decide)) s3 ?_
                  refine zi_i2l hO dX12_copy_98 ?_
                  refine zi_lcmp hO dX12_copy_99 ?_
                  refine zi_if_gt (tgt := 121) hO dX12_copy_100 (by decide) (fun c9 => ?_) (fun c9 => ?_)
                  · have h := h.1 c9
                    refine zi_aload_n hO dX12_copy_121 0 rfl ?_
                    refine zi_iconst (v := 2) hO dX12_copy_122 (by decide) ?_
                    refine zc_VI (as := [vI 2]) hO hN dX12_copy_123 kX12_24 (by decide) rfl (zI (by decide)) rfl rfl (Nat.le_of_ble_eq_true rfl) rfl rfl (C_X12_found _ _ _ _) (fun v9 im9 lv9 hp9 => ?_)
                    rw [hp9.1, hp9.2.1, hp9.2.2]
                    exact zr_I hO hR rfl dX12_copy_126 h
                  · have h := h.2 c9
                    refine zi_iload hO dX12_copy_103 4 rfl ?_
                    refine zi_i2l hO dX12_copy_105 ?_
                    refine zi_iload hO dX12_copy_106 5 rfl ?_
                    refine zi_i2l hO dX12_copy_108 ?_
                    refine zi_ladd hO dX12_copy_109 ?_
                    refine zi_aload_n hO dX12_copy_110 0 rfl ?_
                    refine zi_getR (r' := 45) (i' := 0) hO dX12_copy_111 fX12_32 rfl rfl (zI (by decide)) rfl ?_
                    refine zi_iload_n hO dX12_copy_114 3 rfl ?_
                    refine zi_iald hO dX12_copy_115 rfl (zI (by decide)) s5 ?_
                    refine zi_i2l hO dX12_copy_116 ?_
                    refine zi_lcmp hO dX12_copy_117 ?_
                    refine zi_if_le (tgt := 127) hO dX12_copy_118 (by decide) (fun c10 => ?_) (fun c10 => ?_)
                    · have h := h.1 c10
                      refine zi_iload_n hO dX12_copy_127 2 rfl ?_
                      refine zi_iload hO dX12_copy_128 4 rfl ?_
                      refine zi_icmp_lt (tgt := 137) hO dX12_copy_130 (by decide) (fun c11 => ?_) (fun c11 => ?_)
                      · have h := h.1 c11
                        refine zi_iconst (v := 0) hO dX12_copy_137 (by decide) ?_
                        refine zi_istore (L' := [(0, vR 43 0), (1, vI x1), (2, vI x2), (3, vI x3), (4, vI x4), (5, vI x5), (6, vI 0)]) hO dX12_copy_138 (by decide) rfl rfl ?_
                        refine zi_iconst (v := 0) hO dX12_copy_140 (by decide) ?_
                        refine zi_istore (L' := [(0, vR 43 0), (1, vI x1), (2, vI x2), (3, vI x3), (4, vI x4), (5, vI x5), (6, vI 0), (7, vI 0)]) hO dX12_copy_141 (by decide) rfl rfl ?_
                        exact h
                      · have h := h.2 c11
                        refine zi_iconst (v := 1) hO dX12_copy_133 (by decide) ?_
                        refine zi_goto (tgt := 138) hO dX12_copy_134 (by decide) ?_
                        refine zi_istore (L' := [(0, vR 43 0), (1, vI x1), (2, vI x2), (3, vI x3), (4, vI x4), (5, vI x5), (6, vI 1)]) hO dX12_copy_138 (by decide) rfl rfl ?_
                        refine zi_iconst (v := 0) hO dX12_copy_140 (by decide) ?_
                        refine zi_istore (L' := [(0, vR 43 0), (1, vI x1), (2, vI x2), (3, vI x3), (4, vI x4), (5, vI x5), (6, vI 1), (7, vI 0)]) hO dX12_copy_141 (by decide) rfl rfl ?_
                        exact h
                    · have h := h.2 c10
                      refine zi_aload_n hO dX12_copy_121 0 rfl ?_
                      refine zi_iconst (v := 2) hO dX12_copy_122 (by decide) ?_
                      refine zc_VI (as := [vI 2]) hO hN dX12_copy_123 kX12_24 (by decide) rfl (zI (by decide)) rfl rfl (Nat.le_of_ble_eq_true rfl) rfl rfl (C_X12_found _ _ _ _) (fun v10 im10 lv10 hp10 => ?_)
                      rw [hp10.1, hp10.2.1, hp10.2.2]
                      exact zr_I hO hR rfl dX12_copy_126 h
          · have h := h.2 c5
            refine zi_aload_n hO dX12_copy_66 0 rfl ?_
            refine zi_iconst (v := 5) hO dX12_copy_67 (by decide) ?_
            refine zc_VI (as := [vI 5]) hO hN dX12_copy_68 kX12_24 (by decide) rfl (zI (by decide)) rfl rfl (Nat.le_of_ble_eq_true rfl) rfl rfl (C_X12_found _ _ _ _) (fun v11 im11 lv11 hp11 => ?_)
            rw [hp11.1, hp11.2.1, hp11.2.2]
            exact zr_I hO hR rfl dX12_copy_71 h
        · have h := h.2 c4
          refine zi_aload_n hO dX12_copy_45 0 rfl ?_
          refine zi_iconst (v := 1) hO dX12_copy_46 (by decide) ?_
          refine zc_VI (as := [vI 1]) hO hN dX12_copy_47 kX12_24 (by decide) rfl (zI (by decide)) rfl rfl (Nat.le_of_ble_eq_true rfl) rfl rfl (C_X12_found _ _ _ _) (fun v12 im12 lv12 hp12 => ?_)
          rw [hp12.1, hp12.2.1, hp12.2.2]
          exact zr_I hO hR rfl dX12_copy_50 h
    · have h := h.2 (vB_0.mp c2)
      refine zi_ldc (v := (-1000001)) hO dX12_copy_19 nX12_23 ?_
      exact zr_I hO hR rfl dX12_copy_21 h
theorem rX12_copy_143 {x : zX} {w : zWd} {im : zMem} {lv : Int64} {P : Int32 → zMem → Int64 → Prop} {x1 : Int32} {x2 : Int32} {x3 : Int32} {x4 : Int32} {x5 : Int32} {x6 : Int32} {x7 : Int32} (hO : zOK x w zyX12_copy 4) (hR : zRetI x w zyX12_copy P) (hN : zN x 126 126)
 (h : ((x5 ≤ x7 → P x5 im lv) ∧
 (¬ (x5 ≤ x7) → ((x6 = 0 → (vp_in (((48 * x1) + x2) + ((x5 - 1) - x7)) 384 ∧ (vp_in (((48 * x3) + x4) + ((x5 - 1) - x7)) 384 ∧ zW x w 143 [(0, vR 43 0), (1, vI x1), (2, vI x2), (3, vI x3), (4, vI x4), (5, vI x5), (6, vI x6), (7, vI (x7 + 1))] [] (zwr im 46 0 (Int32.toNatClampNeg (((48 * x3) + x4) + ((x5 - 1) - x7))) (im 46 0 (Int32.toNatClampNeg (((48 * x1) + x2) + ((x5 - 1) - x7))))) lv))) ∧
 (¬ (x6 = 0) → (vp_in (((48 * x1) + x2) + x7) 384 ∧ (vp_in (((48 * x3) + x4) + x7) 384 ∧ zW x w 143 [(0, vR 43 0), (1, vI x1), (2, vI x2), (3, vI x3), (4, vI x4), (5, vI x5), (6, vI x6), (7, vI (x7 + 1))] [] (zwr im 46 0 (Int32.toNatClampNeg (((48 * x3) + x4) + x7)) (im 46 0 (Int32.toNatClampNeg (((48 * x1) + x2) + x7)))) lv))))))) :
 zW x w 143 [(0, vR 43 0), (1, vI x1), (2, vI x2), (3, vI x3), (4, vI x4), (5, vI x5), (6, vI x6), (7, vI x7)] [] im lv := by
  refine zi_iload hO dX12_copy_143 7 rfl ?_
  refine zi_iload hO dX12_copy_145 5 rfl ?_
  refine zi_icmp_ge (tgt := 204) hO dX12_copy_147 (by decide) (fun c1 => ?_) (fun c1 => ?_)
  · have h := h.1 c1
    refine zi_iload hO dX12_copy_204 5 rfl ?_
    exact zr_I hO hR rfl dX12_copy_206 h
  · have h := h.2 c1
    refine zi_iload hO dX12_copy_150 6 rfl ?_
    refine zi_if_eq (tgt := 160) hO dX12_copy_152 (by decide) (fun c2 => ?_) (fun c2 => ?_)
    · have h := h.1 c2
      refine zi_iload hO dX12_copy_160 5 rfl ?_
      refine zi_iconst (v := 1) hO dX12_copy_162 (by decide) ?_
      refine zi_isub hO dX12_copy_163 ?_
      refine zi_iload hO dX12_copy_164 7 rfl ?_
      refine zi_isub hO dX12_copy_166 ?_
      refine zi_istore (L' := [(0, vR 43 0), (1, vI x1), (2, vI x2), (3, vI x3), (4, vI x4), (5, vI x5), (6, vI x6), (7, vI x7), (8, vI ((x5 - 1) - x7))]) hO dX12_copy_167 (by decide) rfl rfl ?_
      refine zi_aload_n hO dX12_copy_169 0 rfl ?_
      refine zi_getR (r' := 46) (i' := 0) hO dX12_copy_170 fX12_35 rfl rfl (zI (by decide)) rfl ?_
      refine zi_bipush (v := 48) hO dX12_copy_173 (by decide) ?_
      refine zi_iload_n hO dX12_copy_175 3 rfl ?_
      refine zi_imul hO dX12_copy_176 ?_
      refine zi_iload hO dX12_copy_177 4 rfl ?_
      refine zi_iadd hO dX12_copy_179 ?_
      refine zi_iload hO dX12_copy_180 8 rfl ?_
      refine zi_iadd hO dX12_copy_182 ?_
      refine zi_aload_n hO dX12_copy_183 0 rfl ?_
      refine zi_getR (r' := 46) (i' := 0) hO dX12_copy_184 fX12_35 rfl rfl (zI (by decide)) rfl ?_
      refine zi_bipush (v := 48) hO dX12_copy_187 (by decide) ?_
      refine zi_iload_n hO dX12_copy_189 1 rfl ?_
      refine zi_imul hO dX12_copy_190 ?_
      refine zi_iload_n hO dX12_copy_191 2 rfl ?_
      refine zi_iadd hO dX12_copy_192 ?_
      refine zi_iload hO dX12_copy_193 8 rfl ?_
      refine zi_iadd hO dX12_copy_195 ?_
      obtain ⟨s1, h⟩ := h
      refine zi_iald hO dX12_copy_196 rfl (zI (by decide)) s1 ?_
      obtain ⟨s2, h⟩ := h
      refine zi_iast hO dX12_copy_197 rfl (zI (by decide)) s2 ?_
      refine zi_iinc (v' := (x7 + 1)) (L' := [(0, vR 43 0), (1, vI x1), (2, vI x2), (3, vI x3), (4, vI x4), (5, vI x5), (6, vI x6), (7, vI (x7 + 1)), (8, vI ((x5 - 1) - x7))]) hO dX12_copy_198 7 rfl rfl (by decide) rfl rfl ?_
      refine zi_goto (tgt := 143) hO dX12_copy_201 (by decide) ?_
      refine zi_pick (L' := [(0, vR 43 0), (1, vI x1), (2, vI x2), (3, vI x3), (4, vI x4), (5, vI x5), (6, vI x6), (7, vI (x7 + 1))]) [0, 1, 2, 3, 4, 5, 6, 7] rfl ?_
      exact h
    · have h := h.2 c2
      refine zi_iload hO dX12_copy_155 7 rfl ?_
      refine zi_goto (tgt := 167) hO dX12_copy_157 (by decide) ?_
      refine zi_istore (L' := [(0, vR 43 0), (1, vI x1), (2, vI x2), (3, vI x3), (4, vI x4), (5, vI x5), (6, vI x6), (7, vI x7), (8, vI x7)]) hO dX12_copy_167 (by decide) rfl rfl ?_
      refine zi_aload_n hO dX12_copy_169 0 rfl ?_
      refine zi_getR (r' := 46) (i' := 0) hO dX12_copy_170 fX12_35 rfl rfl (zI (by decide)) rfl ?_
      refine zi_bipush (v := 48) hO dX12_copy_173 (by decide) ?_
      refine zi_iload_n hO dX12_copy_175 3 rfl ?_
      refine zi_imul hO dX12_copy_176 ?_
      refine zi_iload hO dX12_copy_177 4 rfl ?_
      refine zi_iadd hO dX12_copy_179 ?_
      refine zi_iload hO dX12_copy_180 8 rfl ?_
      refine zi_iadd hO dX12_copy_182 ?_
      refine zi_aload_n hO dX12_copy_183 0 rfl ?_
      refine zi_getR (r' := 46) (i' := 0) hO dX12_copy_184 fX12_35 rfl rfl (zI (by decide)) rfl ?_
      refine zi_bipush (v := 48) hO dX12_copy_187 (by decide) ?_
      refine zi_iload_n hO dX12_copy_189 1 rfl ?_
      refine zi_imul hO dX12_copy_190 ?_
      refine zi_iload_n hO dX12_copy_191 2 rfl ?_
      refine zi_iadd hO dX12_copy_192 ?_
      refine zi_iload hO dX12_copy_193 8 rfl ?_
      refine zi_iadd hO dX12_copy_195 ?_
      obtain ⟨s3, h⟩ := h
      refine zi_iald hO dX12_copy_196 rfl (zI (by decide)) s3 ?_
      obtain ⟨s4, h⟩ := h
      refine zi_iast hO dX12_copy_197 rfl (zI (by decide)) s4 ?_
      refine zi_iinc (v' := (x7 + 1)) (L' := [(0, vR 43 0), (1, vI x1), (2, vI x2), (3, vI x3), (4, vI x4), (5, vI x5), (6, vI x6), (7, vI (x7 + 1)), (8, vI x7)]) hO dX12_copy_198 7 rfl rfl (by decide) rfl rfl ?_
      refine zi_goto (tgt := 143) hO dX12_copy_201 (by decide) ?_
      refine zi_pick (L' := [(0, vR 43 0), (1, vI x1), (2, vI x2), (3, vI x3), (4, vI x4), (5, vI x5), (6, vI x6), (7, vI (x7 + 1))]) [0, 1, 2, 3, 4, 5, 6, 7] rfl ?_
      exact h
theorem rX12_drop_0 {x : zX} {w : zWd} {im : zMem} {lv : Int64} {P : Int32 → zMem → Int64 → Prop} {x1 : Int32} (hO : zOK x w zyX12_drop 4) (hR : zRetI x w zyX12_drop P) (hN : zN x 126 126)
 (h : ((0 ≤ x1 ∧ x1 ≤ 7 → (vp_in x1 8 ∧ ((0 ≤ (im 44 0 (Int32.toNatClampNeg x1)) → P (im 45 0 (Int32.toNatClampNeg x1)) (zwr (zwr (zwr im 43 0 0 0) 43 0 1 0) 44 0 (Int32.toNatClampNeg x1) (-1)) lv) ∧
 (¬ (0 ≤ (im 44 0 (Int32.toNatClampNeg x1))) → P ((-1000010) - 1) (zwr (zwr (zwr im 43 0 0 0) 43 0 1 0) 43 0 1 1) lv)))) ∧
 (¬ (0 ≤ x1 ∧ x1 ≤ 7) → P (-1000001) (zwr im 43 0 0 0) lv))) :
 zW x w 0 [(0, vR 43 0), (1, vI x1)] [] im lv := by
  refine zi_aload_n hO dX12_drop_0 0 rfl ?_
  refine zi_iconst (v := 0) hO dX12_drop_1 (by decide) ?_
  refine zi_putI hO dX12_drop_2 gX12_1 rfl rfl (zI (by decide)) ?_
  refine zi_iload_n hO dX12_drop_5 1 rfl ?_
  refine zc_SI (as := [vI x1]) hO hN dX12_drop_6 kX12_17 (by decide) rfl (Nat.le_of_ble_eq_true rfl) rfl rfl (C_X12_isSheet _ _ _ _) (fun v1 im1 lv1 hp1 => ?_)
  rw [hp1.1, hp1.2.1, hp1.2.2]
  refine zi_if_ne (tgt := 15) hO dX12_drop_9 (by decide) (fun c1 => ?_) (fun c1 => ?_)
  · have h := h.1 (vB_1.mp (vB_01.resolve_left c1))
    refine zi_aload_n hO dX12_drop_15 0 rfl ?_
    refine zi_iconst (v := 0) hO dX12_drop_16 (by decide) ?_
    refine zi_putI hO dX12_drop_17 gX12_7 rfl rfl (zI (by decide)) ?_
    refine zi_aload_n hO dX12_drop_20 0 rfl ?_
    refine zi_getR (r' := 44) (i' := 0) hO dX12_drop_21 fX12_28 rfl rfl (zI (by decide)) rfl ?_
    refine zi_iload_n hO dX12_drop_24 1 rfl ?_
    obtain ⟨s2, h⟩ := h
    refine zi_iald hO dX12_drop_25 rfl (zI (by decide)) s2 ?_
    refine zi_if_ge (tgt := 35) hO dX12_drop_26 (by decide) (fun c2 => ?_) (fun c2 => ?_)
    · have h := h.1 c2
      refine zi_aload_n hO dX12_drop_35 0 rfl ?_
      refine zi_getR (r' := 44) (i' := 0) hO dX12_drop_36 fX12_28 rfl rfl (zI (by decide)) rfl ?_
      refine zi_iload_n hO dX12_drop_39 1 rfl ?_
      refine zi_iconst (v := (-1)) hO dX12_drop_40 (by decide) ?_
      refine zi_iast hO dX12_drop_41 rfl (zI (by decide)) s2 ?_
      refine zi_aload_n hO dX12_drop_42 0 rfl ?_
      refine zi_getR (r' := 45) (i' := 0) hO dX12_drop_43 fX12_32 rfl rfl (zI (by decide)) rfl ?_
      refine zi_iload_n hO dX12_drop_46 1 rfl ?_
      refine zi_iald hO dX12_drop_47 rfl (zI (by decide)) s2 ?_
      exact zr_I hO hR rfl dX12_drop_48 h
    · have h := h.2 c2
      refine zi_aload_n hO dX12_drop_29 0 rfl ?_
      refine zi_iconst (v := 1) hO dX12_drop_30 (by decide) ?_
      refine zc_VI (as := [vI 1]) hO hN dX12_drop_31 kX12_24 (by decide) rfl (zI (by decide)) rfl rfl (Nat.le_of_ble_eq_true rfl) rfl rfl (C_X12_found _ _ _ _) (fun v3 im3 lv3 hp3 => ?_)
      rw [hp3.1, hp3.2.1, hp3.2.2]
      exact zr_I hO hR rfl dX12_drop_34 h
  · have h := h.2 (vB_0.mp c1)
    refine zi_ldc (v := (-1000001)) hO dX12_drop_12 nX12_23 ?_
    exact zr_I hO hR rfl dX12_drop_14 h
theorem rX12_lookItems_0 {x : zX} {w : zWd} {im : zMem} {lv : Int64} {P : Int32 → zMem → Int64 → Prop} {x1 : Int32} {x2 : Int32} {x3 : Int32} {x4 : Int32} (hO : zOK x w zyX12_lookItems 3) (hR : zRetI x w zyX12_lookItems P) (hN : zN x 126 126)
 (h : (vp_in x1 8 ∧ ((0 ≤ (im 44 0 (Int32.toNatClampNeg x1)) → ((x2 < 0 → P ((-1000010) - 2) (zwr im 43 0 1 2) lv) ∧
 (¬ (x2 < 0) → (((lg_cmp ((Int32.toInt64 x2) + (Int32.toInt64 x3)) (Int32.toInt64 (im 45 0 (Int32.toNatClampNeg x1)))) ≤ 0 → zW x w 44 [(0, vR 43 0), (1, vI x1), (2, vI x2), (3, vI x3), (4, vI x4), (5, vI 0)] [] im lv) ∧
 (¬ ((lg_cmp ((Int32.toInt64 x2) + (Int32.toInt64 x3)) (Int32.toInt64 (im 45 0 (Int32.toNatClampNeg x1)))) ≤ 0) → P ((-1000010) - 2) (zwr im 43 0 1 2) lv))))) ∧
 (¬ (0 ≤ (im 44 0 (Int32.toNatClampNeg x1))) → P ((-1000010) - 1) (zwr im 43 0 1 1) lv)))) :
 zW x w 0 [(0, vR 43 0), (1, vI x1), (2, vI x2), (3, vI x3), (4, vI x4)] [] im lv := by
  refine zi_aload_n hO dX12_lookItems_0 0 rfl ?_
  refine zi_getR (r' := 44) (i' := 0) hO dX12_lookItems_1 fX12_28 rfl rfl (zI (by decide)) rfl ?_
  refine zi_iload_n hO dX12_lookItems_4 1 rfl ?_
  obtain ⟨s1, h⟩ := h
  refine zi_iald hO dX12_lookItems_5 rfl (zI (by decide)) s1 ?_
  refine zi_if_ge (tgt := 15) hO dX12_lookItems_6 (by decide) (fun c1 => ?_) (fun c1 => ?_)
  · have h := h.1 c1
    refine zi_iload_n hO dX12_lookItems_15 2 rfl ?_
    refine zi_if_lt (tgt := 35) hO dX12_lookItems_16 (by decide) (fun c2 => ?_) (fun c2 => ?_)
    · have h := h.1 c2
      refine zi_aload_n hO dX12_lookItems_35 0 rfl ?_
      refine zi_iconst (v := 2) hO dX12_lookItems_36 (by decide) ?_
      refine zc_VI (as := [vI 2]) hO hN dX12_lookItems_37 kX12_24 (by decide) rfl (zI (by decide)) rfl rfl (Nat.le_of_ble_eq_true rfl) rfl rfl (C_X12_found _ _ _ _) (fun v2 im2 lv2 hp2 => ?_)
      rw [hp2.1, hp2.2.1, hp2.2.2]
      exact zr_I hO hR rfl dX12_lookItems_40 h
    · have h := h.2 c2
      refine zi_iload_n hO dX12_lookItems_19 2 rfl ?_
      refine zi_i2l hO dX12_lookItems_20 ?_
      refine zi_iload_n hO dX12_lookItems_21 3 rfl ?_
      refine zi_i2l hO dX12_lookItems_22 ?_
      refine zi_ladd hO dX12_lookItems_23 ?_
      refine zi_aload_n hO dX12_lookItems_24 0 rfl ?_
      refine zi_getR (r' := 45) (i' := 0) hO dX12_lookItems_25 fX12_32 rfl rfl (zI (by decide)) rfl ?_
      refine zi_iload_n hO dX12_lookItems_28 1 rfl ?_
      refine zi_iald hO dX12_lookItems_29 rfl (zI (by decide)) s1 ?_
      refine zi_i2l hO dX12_lookItems_30 ?_
      refine zi_lcmp hO dX12_lookItems_31 ?_
      refine zi_if_le (tgt := 41) hO dX12_lookItems_32 (by decide) (fun c3 => ?_) (fun c3 => ?_)
      · have h := h.1 c3
        refine zi_iconst (v := 0) hO dX12_lookItems_41 (by decide) ?_
        refine zi_istore (L' := [(0, vR 43 0), (1, vI x1), (2, vI x2), (3, vI x3), (4, vI x4), (5, vI 0)]) hO dX12_lookItems_42 (by decide) rfl rfl ?_
        exact h
      · have h := h.2 c3
        refine zi_aload_n hO dX12_lookItems_35 0 rfl ?_
        refine zi_iconst (v := 2) hO dX12_lookItems_36 (by decide) ?_
        refine zc_VI (as := [vI 2]) hO hN dX12_lookItems_37 kX12_24 (by decide) rfl (zI (by decide)) rfl rfl (Nat.le_of_ble_eq_true rfl) rfl rfl (C_X12_found _ _ _ _) (fun v3 im3 lv3 hp3 => ?_)
        rw [hp3.1, hp3.2.1, hp3.2.2]
        exact zr_I hO hR rfl dX12_lookItems_40 h
  · have h := h.2 c1
    refine zi_aload_n hO dX12_lookItems_9 0 rfl ?_
    refine zi_iconst (v := 1) hO dX12_lookItems_10 (by decide) ?_
    refine zc_VI (as := [vI 1]) hO hN dX12_lookItems_11 kX12_24 (by decide) rfl (zI (by decide)) rfl rfl (Nat.le_of_ble_eq_true rfl) rfl rfl (C_X12_found _ _ _ _) (fun v4 im4 lv4 hp4 => ?_)
    rw [hp4.1, hp4.2.1, hp4.2.2]
    exact zr_I hO hR rfl dX12_lookItems_14 h
theorem rX12_lookItems_44 {x : zX} {w : zWd} {im : zMem} {lv : Int64} {P : Int32 → zMem → Int64 → Prop} {x1 : Int32} {x2 : Int32} {x3 : Int32} {x4 : Int32} {x5 : Int32} (hO : zOK x w zyX12_lookItems 3) (hR : zRetI x w zyX12_lookItems P) (hN : zN x 126 126)
 (h : ((x3 ≤ x5 → P 0 (zwr im 43 0 1 0) lv) ∧
 (¬ (x3 ≤ x5) → (vp_in (((48 * x1) + x2) + x5) 384 ∧ ((0 ≤ (im 46 0 (Int32.toNatClampNeg (((48 * x1) + x2) + x5))) ∧ (im 46 0 (Int32.toNatClampNeg (((48 * x1) + x2) + x5))) ≤ x4 → zW x w 44 [(0, vR 43 0), (1, vI x1), (2, vI x2), (3, vI x3), (4, vI x4), (5, vI (x5 + 1))] [] im lv) ∧
 (¬ (0 ≤ (im 46 0 (Int32.toNatClampNeg (((48 * x1) + x2) + x5))) ∧ (im 46 0 (Int32.toNatClampNeg (((48 * x1) + x2) + x5))) ≤ x4) → P (-1000001) im lv)))))) :
 zW x w 44 [(0, vR 43 0), (1, vI x1), (2, vI x2), (3, vI x3), (4, vI x4), (5, vI x5)] [] im lv := by
  refine zi_iload hO dX12_lookItems_44 5 rfl ?_
  refine zi_iload_n hO dX12_lookItems_46 3 rfl ?_
  refine zi_icmp_ge (tgt := 84) hO dX12_lookItems_47 (by decide) (fun c1 => ?_) (fun c1 => ?_)
  · have h := h.1 c1
    refine zi_aload_n hO dX12_lookItems_84 0 rfl ?_
    refine zi_iconst (v := 0) hO dX12_lookItems_85 (by decide) ?_
    refine zi_putI hO dX12_lookItems_86 gX12_7 rfl rfl (zI (by decide)) ?_
    refine zi_iconst (v := 0) hO dX12_lookItems_89 (by decide) ?_
    exact zr_I hO hR rfl dX12_lookItems_90 h
  · have h := h.2 c1
    refine zi_aload_n hO dX12_lookItems_50 0 rfl ?_
    refine zi_getR (r' := 46) (i' := 0) hO dX12_lookItems_51 fX12_35 rfl rfl (zI (by decide)) rfl ?_
    refine zi_bipush (v := 48) hO dX12_lookItems_54 (by decide) ?_
    refine zi_iload_n hO dX12_lookItems_56 1 rfl ?_
    refine zi_imul hO dX12_lookItems_57 ?_
    refine zi_iload_n hO dX12_lookItems_58 2 rfl ?_
    refine zi_iadd hO dX12_lookItems_59 ?_
    refine zi_iload hO dX12_lookItems_60 5 rfl ?_
    refine zi_iadd hO dX12_lookItems_62 ?_
    obtain ⟨s1, h⟩ := h
    refine zi_iald hO dX12_lookItems_63 rfl (zI (by decide)) s1 ?_
    refine zi_i2l hO dX12_lookItems_64 ?_
    refine zi_lconst (v := 0) hO dX12_lookItems_65 (by decide) ?_
    refine zi_iload hO dX12_lookItems_66 4 rfl ?_
    refine zi_i2l hO dX12_lookItems_68 ?_
    refine zc_SI (as := [vL (Int32.toInt64 (im 46 0 (Int32.toNatClampNeg (((48 * x1) + x2) + x5)))), vL (0 : Int64), vL (Int32.toInt64 x4)]) hO hN dX12_lookItems_69 kX12_13 (by decide) rfl (Nat.le_of_ble_eq_true rfl) rfl rfl (C_X12_in _ _ _ _ (a := (im 46 0 (Int32.toNatClampNeg (((48 * x1) + x2) + x5)))) (b := 0) (c := x4) rfl (by decide) rfl) (fun v2 im2 lv2 hp2 => ?_)
    rw [hp2.1, hp2.2.1, hp2.2.2]
    refine zi_if_ne (tgt := 78) hO dX12_lookItems_72 (by decide) (fun c2 => ?_) (fun c2 => ?_)
    · have h := h.1 (vB_1.mp (vB_01.resolve_left c2))
      refine zi_iinc (v' := (x5 + 1)) (L' := [(0, vR 43 0), (1, vI x1), (2, vI x2), (3, vI x3), (4, vI x4), (5, vI (x5 + 1))]) hO dX12_lookItems_78 5 rfl rfl (by decide) rfl rfl ?_
      refine zi_goto (tgt := 44) hO dX12_lookItems_81 (by decide) ?_
      exact h
    · have h := h.2 (vB_0.mp c2)
      refine zi_ldc (v := (-1000001)) hO dX12_lookItems_75 nX12_23 ?_
      exact zr_I hO hR rfl dX12_lookItems_77 h
theorem rX12_bears_0 {x : zX} {w : zWd} {im : zMem} {lv : Int64} {P : Int32 → zMem → Int64 → Prop} {x1 : Int32} {x2 : Int32} {x3 : Int32} {x4 : Int32} {x5 : Int32} (hO : zOK x w zyX12_bears 4) (hR : zRetI x w zyX12_bears P) (hN : zN x 126 126)
 (h : ((¬ (0 ≤ x1 ∧ x1 ≤ 7) → P (-1000001) (zwr im 43 0 0 0) lv) ∧
 (0 ≤ x1 ∧ x1 ≤ 7 → ((¬ (0 ≤ x2 ∧ x2 ≤ 47) → P (-1000001) (zwr im 43 0 0 0) lv) ∧
 (0 ≤ x2 ∧ x2 ≤ 47 → ((¬ (1 ≤ x5 ∧ x5 ≤ (48 - x2)) → P (-1000001) (zwr im 43 0 0 0) lv) ∧
 (1 ≤ x5 ∧ x5 ≤ (48 - x2) → ((0 ≤ x3 ∧ x3 ≤ 7 → (∃ P5 : Int32 → zMem → Int64 → Prop, zSpecI x.2.1 w 3 zyX12_lookItems [vR 43 0, vI x3, vI x4, vI x5, vI 99] (zwr im 43 0 0 0) lv P5 ∧ ∀ (v5 : Int32) (im5 : zMem) (lv5 : Int64), P5 v5 im5 lv5 → ((0 ≤ v5 → zW x w 68 [(0, vR 43 0), (1, vI x1), (2, vI x2), (3, vI x3), (4, vI x4), (5, vI x5), (6, vI v5), (7, vI 0)] [] im5 lv5) ∧
 (¬ (0 ≤ v5) → P v5 im5 lv5)))) ∧
 (¬ (0 ≤ x3 ∧ x3 ≤ 7) → P (-1000001) (zwr im 43 0 0 0) lv))))))))) :
 zW x w 0 [(0, vR 43 0), (1, vI x1), (2, vI x2), (3, vI x3), (4, vI x4), (5, vI x5)] [] im lv := by
  refine zi_aload_n hO dX12_bears_0 0 rfl ?_
  refine zi_iconst (v := 0) hO dX12_bears_1 (by decide) ?_
  refine zi_putI hO dX12_bears_2 gX12_1 rfl rfl (zI (by decide)) ?_
  refine zi_iload_n hO dX12_bears_5 1 rfl ?_
  refine zc_SI (as := [vI x1]) hO hN dX12_bears_6 kX12_112 (by decide) rfl (Nat.le_of_ble_eq_true rfl) rfl rfl (C_X12_isRoom _ _ _ _) (fun v1 im1 lv1 hp1 => ?_)
  rw [hp1.1, hp1.2.1, hp1.2.2]
  refine zi_if_eq (tgt := 41) hO dX12_bears_9 (by decide) (fun c1 => ?_) (fun c1 => ?_)
  · have h := h.1 (vB_0.mp c1)
    refine zi_ldc (v := (-1000001)) hO dX12_bears_41 nX12_23 ?_
    exact zr_I hO hR rfl dX12_bears_43 h
  · have h := h.2 (vB_1.mp (vB_01.resolve_left c1))
    refine zi_iload_n hO dX12_bears_12 2 rfl ?_
    refine zc_SI (as := [vI x2]) hO hN dX12_bears_13 kX12_115 (by decide) rfl (Nat.le_of_ble_eq_true rfl) rfl rfl (C_X12_isSlot _ _ _ _) (fun v2 im2 lv2 hp2 => ?_)
    rw [hp2.1, hp2.2.1, hp2.2.2]
    refine zi_if_eq (tgt := 41) hO dX12_bears_16 (by decide) (fun c2 => ?_) (fun c2 => ?_)
    · have h := h.1 (vB_0.mp c2)
      refine zi_ldc (v := (-1000001)) hO dX12_bears_41 nX12_23 ?_
      exact zr_I hO hR rfl dX12_bears_43 h
    · have h := h.2 (vB_1.mp (vB_01.resolve_left c2))
      refine zi_iload hO dX12_bears_19 5 rfl ?_
      refine zi_i2l hO dX12_bears_21 ?_
      refine zi_lconst (v := 1) hO dX12_bears_22 (by decide) ?_
      refine zi_bipush (v := 48) hO dX12_bears_23 (by decide) ?_
      refine zi_iload_n hO dX12_bears_25 2 rfl ?_
      refine zi_isub hO dX12_bears_26 ?_
      refine zi_i2l hO dX12_bears_27 ?_
      refine zc_SI (as := [vL (Int32.toInt64 x5), vL (1 : Int64), vL (Int32.toInt64 (48 - x2))]) hO hN dX12_bears_28 kX12_13 (by decide) rfl (Nat.le_of_ble_eq_true rfl) rfl rfl (C_X12_in _ _ _ _ (a := x5) (b := 1) (c := (48 - x2)) rfl (by decide) rfl) (fun v3 im3 lv3 hp3 => ?_)
      rw [hp3.1, hp3.2.1, hp3.2.2]
      refine zi_if_eq (tgt := 41) hO dX12_bears_31 (by decide) (fun c3 => ?_) (fun c3 => ?_)
      · have h := h.1 (vB_0.mp c3)
        refine zi_ldc (v := (-1000001)) hO dX12_bears_41 nX12_23 ?_
        exact zr_I hO hR rfl dX12_bears_43 h
      · have h := h.2 (vB_1.mp (vB_01.resolve_left c3))
        refine zi_iload_n hO dX12_bears_34 3 rfl ?_
        refine zc_SI (as := [vI x3]) hO hN dX12_bears_35 kX12_17 (by decide) rfl (Nat.le_of_ble_eq_true rfl) rfl rfl (C_X12_isSheet _ _ _ _) (fun v4 im4 lv4 hp4 => ?_)
        rw [hp4.1, hp4.2.1, hp4.2.2]
        refine zi_if_ne (tgt := 44) hO dX12_bears_38 (by decide) (fun c4 => ?_) (fun c4 => ?_)
        · have h := h.1 (vB_1.mp (vB_01.resolve_left c4))
          refine zi_aload_n hO dX12_bears_44 0 rfl ?_
          refine zi_iload_n hO dX12_bears_45 3 rfl ?_
          refine zi_iload hO dX12_bears_46 4 rfl ?_
          refine zi_iload hO dX12_bears_48 5 rfl ?_
          refine zi_bipush (v := 99) hO dX12_bears_50 (by decide) ?_
          obtain ⟨P5, hM5, h⟩ := h
          refine zc_VI (as := [vI x3, vI x4, vI x5, vI 99]) hO hN dX12_bears_52 kX12_118 (by decide) rfl (zI (by decide)) rfl rfl (Nat.le_of_ble_eq_true rfl) rfl rfl hM5 (fun v5 im5 lv5 hp5 => ?_)
          replace h := h v5 im5 lv5 hp5
          refine zi_istore (L' := [(0, vR 43 0), (1, vI x1), (2, vI x2), (3, vI x3), (4, vI x4), (5, vI x5), (6, vI v5)]) hO dX12_bears_55 (by decide) rfl rfl ?_
          refine zi_iload hO dX12_bears_57 6 rfl ?_
          refine zi_if_ge (tgt := 65) hO dX12_bears_59 (by decide) (fun c5 => ?_) (fun c5 => ?_)
          · have h := h.1 c5
            refine zi_iconst (v := 0) hO dX12_bears_65 (by decide) ?_
            refine zi_istore (L' := [(0, vR 43 0), (1, vI x1), (2, vI x2), (3, vI x3), (4, vI x4), (5, vI x5), (6, vI v5), (7, vI 0)]) hO dX12_bears_66 (by decide) rfl rfl ?_
            exact h
          · have h := h.2 c5
            refine zi_iload hO dX12_bears_62 6 rfl ?_
            exact zr_I hO hR rfl dX12_bears_64 h
        · have h := h.2 (vB_0.mp c4)
          refine zi_ldc (v := (-1000001)) hO dX12_bears_41 nX12_23 ?_
          exact zr_I hO hR rfl dX12_bears_43 h
theorem rX12_bears_68 {x : zX} {w : zWd} {im : zMem} {lv : Int64} {P : Int32 → zMem → Int64 → Prop} {x1 : Int32} {x2 : Int32} {x3 : Int32} {x4 : Int32} {x5 : Int32} {x6 : Int32} {x7 : Int32} (hO : zOK x w zyX12_bears 4) (hR : zRetI x w zyX12_bears P) (hN : zN x 126 126)
 (h : ((x5 ≤ x7 → P x5 im lv) ∧
 (¬ (x5 ≤ x7) → (vp_in (((48 * x3) + x4) + x7) 384 ∧ (vp_in (((48 * x1) + x2) + x7) 384 ∧ zW x w 68 [(0, vR 43 0), (1, vI x1), (2, vI x2), (3, vI x3), (4, vI x4), (5, vI x5), (6, vI x6), (7, vI (x7 + 1))] [] (zwr im 47 0 (Int32.toNatClampNeg (((48 * x1) + x2) + x7)) (im 46 0 (Int32.toNatClampNeg (((48 * x3) + x4) + x7)))) lv))))) :
 zW x w 68 [(0, vR 43 0), (1, vI x1), (2, vI x2), (3, vI x3), (4, vI x4), (5, vI x5), (6, vI x6), (7, vI x7)] [] im lv := by
  refine zi_iload hO dX12_bears_68 7 rfl ?_
  refine zi_iload hO dX12_bears_70 5 rfl ?_
  refine zi_icmp_ge (tgt := 110) hO dX12_bears_72 (by decide) (fun c1 => ?_) (fun c1 => ?_)
  · have h := h.1 c1
    refine zi_iload hO dX12_bears_110 5 rfl ?_
    exact zr_I hO hR rfl dX12_bears_112 h
  · have h := h.2 c1
    refine zi_aload_n hO dX12_bears_75 0 rfl ?_
    refine zi_getR (r' := 47) (i' := 0) hO dX12_bears_76 fX12_44 rfl rfl (zI (by decide)) rfl ?_
    refine zi_bipush (v := 48) hO dX12_bears_79 (by decide) ?_
    refine zi_iload_n hO dX12_bears_81 1 rfl ?_
    refine zi_imul hO dX12_bears_82 ?_
    refine zi_iload_n hO dX12_bears_83 2 rfl ?_
    refine zi_iadd hO dX12_bears_84 ?_
    refine zi_iload hO dX12_bears_85 7 rfl ?_
    refine zi_iadd hO dX12_bears_87 ?_
    refine zi_aload_n hO dX12_bears_88 0 rfl ?_
    refine zi_getR (r' := 46) (i' := 0) hO dX12_bears_89 fX12_35 rfl rfl (zI (by decide)) rfl ?_
    refine zi_bipush (v := 48) hO dX12_bears_92 (by decide) ?_
    refine zi_iload_n hO dX12_bears_94 3 rfl ?_
    refine zi_imul hO dX12_bears_95 ?_
    refine zi_iload hO dX12_bears_96 4 rfl ?_
    refine zi_iadd hO dX12_bears_98 ?_
    refine zi_iload hO dX12_bears_99 7 rfl ?_
    refine zi_iadd hO dX12_bears_101 ?_
    obtain ⟨s1, h⟩ := h
    refine zi_iald hO dX12_bears_102 rfl (zI (by decide)) s1 ?_
    obtain ⟨s2, h⟩ := h
    refine zi_iast hO dX12_bears_103 rfl (zI (by decide)) s2 ?_
    refine zi_iinc (v' := (x7 + 1)) (L' := [(0, vR 43 0), (1, vI x1), (2, vI x2), (3, vI x3), (4, vI x4), (5, vI x5), (6, vI x6), (7, vI (x7 + 1))]) hO dX12_bears_104 7 rfl rfl (by decide) rfl rfl ?_
    refine zi_goto (tgt := 68) hO dX12_bears_107 (by decide) ?_
    exact h
theorem rX12_staff_0 {x : zX} {w : zWd} {im : zMem} {lv : Int64} {P : Int32 → zMem → Int64 → Prop} {x1 : Int32} {x2 : Int32} {x3 : Int32} {x4 : Int32} (hO : zOK x w zyX12_staff 4) (hR : zRetI x w zyX12_staff P) (hN : zN x 126 126)
 (h : ((¬ (0 ≤ x1 ∧ x1 ≤ 47) → P (-1000001) (zwr im 43 0 0 0) lv) ∧
 (0 ≤ x1 ∧ x1 ≤ 47 → ((¬ (1 ≤ x4 ∧ x4 ≤ (48 - x1)) → P (-1000001) (zwr im 43 0 0 0) lv) ∧
 (1 ≤ x4 ∧ x4 ≤ (48 - x1) → ((0 ≤ x2 ∧ x2 ≤ 7 → (∃ P4 : Int32 → zMem → Int64 → Prop, zSpecI x.2.1 w 3 zyX12_lookItems [vR 43 0, vI x2, vI x3, vI x4, vI 9] (zwr im 43 0 0 0) lv P4 ∧ ∀ (v4 : Int32) (im4 : zMem) (lv4 : Int64), P4 v4 im4 lv4 → ((0 ≤ v4 → zW x w 60 [(0, vR 43 0), (1, vI x1), (2, vI x2), (3, vI x3), (4, vI x4), (5, vI v4), (6, vI 0)] [] im4 lv4) ∧
 (¬ (0 ≤ v4) → P v4 im4 lv4)))) ∧
 (¬ (0 ≤ x2 ∧ x2 ≤ 7) → P (-1000001) (zwr im 43 0 0 0) lv))))))) :
 zW x w 0 [(0, vR 43 0), (1, vI x1), (2, vI x2), (3, vI x3), (4, vI x4)] [] im lv := by
  refine zi_aload_n hO dX12_staff_0 0 rfl ?_
  refine zi_iconst (v := 0) hO dX12_staff_1 (by decide) ?_
  refine zi_putI hO dX12_staff_2 gX12_1 rfl rfl (zI (by decide)) ?_
  refine zi_iload_n hO dX12_staff_5 1 rfl ?_
  refine zc_SI (as := [vI x1]) hO hN dX12_staff_6 kX12_115 (by decide) rfl (Nat.le_of_ble_eq_true rfl) rfl rfl (C_X12_isSlot _ _ _ _) (fun v1 im1 lv1 hp1 => ?_)
  rw [hp1.1, hp1.2.1, hp1.2.2]
  refine zi_if_eq (tgt := 34) hO dX12_staff_9 (by decide) (fun c1 => ?_) (fun c1 => ?_)
  · have h := h.1 (vB_0.mp c1)
    refine zi_ldc (v := (-1000001)) hO dX12_staff_34 nX12_23 ?_
    exact zr_I hO hR rfl dX12_staff_36 h
  · have h := h.2 (vB_1.mp (vB_01.resolve_left c1))
    refine zi_iload hO dX12_staff_12 4 rfl ?_
    refine zi_i2l hO dX12_staff_14 ?_
    refine zi_lconst (v := 1) hO dX12_staff_15 (by decide) ?_
    refine zi_bipush (v := 48) hO dX12_staff_16 (by decide) ?_
    refine zi_iload_n hO dX12_staff_18 1 rfl ?_
    refine zi_isub hO dX12_staff_19 ?_
    refine zi_i2l hO dX12_staff_20 ?_
    refine zc_SI (as := [vL (Int32.toInt64 x4), vL (1 : Int64), vL (Int32.toInt64 (48 - x1))]) hO hN dX12_staff_21 kX12_13 (by decide) rfl (Nat.le_of_ble_eq_true rfl) rfl rfl (C_X12_in _ _ _ _ (a := x4) (b := 1) (c := (48 - x1)) rfl (by decide) rfl) (fun v2 im2 lv2 hp2 => ?_)
    rw [hp2.1, hp2.2.1, hp2.2.2]
    refine zi_if_eq (tgt := 34) hO dX12_staff_24 (by decide) (fun c2 => ?_) (fun c2 => ?_)
    · have h := h.1 (vB_0.mp c2)
      refine zi_ldc (v := (-1000001)) hO dX12_staff_34 nX12_23 ?_
      exact zr_I hO hR rfl dX12_staff_36 h
    · have h := h.2 (vB_1.mp (vB_01.resolve_left c2))
      refine zi_iload_n hO dX12_staff_27 2 rfl ?_
      refine zc_SI (as := [vI x2]) hO hN dX12_staff_28 kX12_17 (by decide) rfl (Nat.le_of_ble_eq_true rfl) rfl rfl (C_X12_isSheet _ _ _ _) (fun v3 im3 lv3 hp3 => ?_)
      rw [hp3.1, hp3.2.1, hp3.2.2]
      refine zi_if_ne (tgt := 37) hO dX12_staff_31 (by decide) (fun c3 => ?_) (fun c3 => ?_)
      · have h := h.1 (vB_1.mp (vB_01.resolve_left c3))
        refine zi_aload_n hO dX12_staff_37 0 rfl ?_
        refine zi_iload_n hO dX12_staff_38 2 rfl ?_
        refine zi_iload_n hO dX12_staff_39 3 rfl ?_
        refine zi_iload hO dX12_staff_40 4 rfl ?_
        refine zi_bipush (v := 9) hO dX12_staff_42 (by decide) ?_
        obtain ⟨P4, hM4, h⟩ := h
        refine zc_VI (as := [vI x2, vI x3, vI x4, vI 9]) hO hN dX12_staff_44 kX12_118 (by decide) rfl (zI (by decide)) rfl rfl (Nat.le_of_ble_eq_true rfl) rfl rfl hM4 (fun v4 im4 lv4 hp4 => ?_)
        replace h := h v4 im4 lv4 hp4
        refine zi_istore (L' := [(0, vR 43 0), (1, vI x1), (2, vI x2), (3, vI x3), (4, vI x4), (5, vI v4)]) hO dX12_staff_47 (by decide) rfl rfl ?_
        refine zi_iload hO dX12_staff_49 5 rfl ?_
        refine zi_if_ge (tgt := 57) hO dX12_staff_51 (by decide) (fun c4 => ?_) (fun c4 => ?_)
        · have h := h.1 c4
          refine zi_iconst (v := 0) hO dX12_staff_57 (by decide) ?_
          refine zi_istore (L' := [(0, vR 43 0), (1, vI x1), (2, vI x2), (3, vI x3), (4, vI x4), (5, vI v4), (6, vI 0)]) hO dX12_staff_58 (by decide) rfl rfl ?_
          exact h
        · have h := h.2 c4
          refine zi_iload hO dX12_staff_54 5 rfl ?_
          exact zr_I hO hR rfl dX12_staff_56 h
      · have h := h.2 (vB_0.mp c3)
        refine zi_ldc (v := (-1000001)) hO dX12_staff_34 nX12_23 ?_
        exact zr_I hO hR rfl dX12_staff_36 h
theorem rX12_staff_60 {x : zX} {w : zWd} {im : zMem} {lv : Int64} {P : Int32 → zMem → Int64 → Prop} {x1 : Int32} {x2 : Int32} {x3 : Int32} {x4 : Int32} {x5 : Int32} {x6 : Int32} (hO : zOK x w zyX12_staff 4) (hR : zRetI x w zyX12_staff P) (hN : zN x 126 126)
 (h : ((x4 ≤ x6 → P x4 im lv) ∧
 (¬ (x4 ≤ x6) → (vp_in (((48 * x2) + x3) + x6) 384 ∧ (vp_in (x1 + x6) 48 ∧ zW x w 60 [(0, vR 43 0), (1, vI x1), (2, vI x2), (3, vI x3), (4, vI x4), (5, vI x5), (6, vI (x6 + 1))] [] (zwr im 48 0 (Int32.toNatClampNeg (x1 + x6)) (im 46 0 (Int32.toNatClampNeg (((48 * x2) + x3) + x6)))) lv))))) :
 zW x w 60 [(0, vR 43 0), (1, vI x1), (2, vI x2), (3, vI x3), (4, vI x4), (5, vI x5), (6, vI x6)] [] im lv := by
  refine zi_iload hO dX12_staff_60 6 rfl ?_
  refine zi_iload hO dX12_staff_62 4 rfl ?_
  refine zi_icmp_ge (tgt := 96) hO dX12_staff_64 (by decide) (fun c1 => ?_) (fun c1 => ?_)
  · have h := h.1 c1
    refine zi_iload hO dX12_staff_96 4 rfl ?_
    exact zr_I hO hR rfl dX12_staff_98 h
  · have h := h.2 c1
    refine zi_aload_n hO dX12_staff_67 0 rfl ?_
    refine zi_getR (r' := 48) (i' := 0) hO dX12_staff_68 fX12_47 rfl rfl (zI (by decide)) rfl ?_
    refine zi_iload_n hO dX12_staff_71 1 rfl ?_
    refine zi_iload hO dX12_staff_72 6 rfl ?_
    refine zi_iadd hO dX12_staff_74 ?_
    refine zi_aload_n hO dX12_staff_75 0 rfl ?_
    refine zi_getR (r' := 46) (i' := 0) hO dX12_staff_76 fX12_35 rfl rfl (zI (by decide)) rfl ?_
    refine zi_bipush (v := 48) hO dX12_staff_79 (by decide) ?_
    refine zi_iload_n hO dX12_staff_81 2 rfl ?_
    refine zi_imul hO dX12_staff_82 ?_
    refine zi_iload_n hO dX12_staff_83 3 rfl ?_
    refine zi_iadd hO dX12_staff_84 ?_
    refine zi_iload hO dX12_staff_85 6 rfl ?_
    refine zi_iadd hO dX12_staff_87 ?_
    obtain ⟨s1, h⟩ := h
    refine zi_iald hO dX12_staff_88 rfl (zI (by decide)) s1 ?_
    obtain ⟨s2, h⟩ := h
    refine zi_iast hO dX12_staff_89 rfl (zI (by decide)) s2 ?_
    refine zi_iinc (v' := (x6 + 1)) (L' := [(0, vR 43 0), (1, vI x1), (2, vI x2), (3, vI x3), (4, vI x4), (5, vI x5), (6, vI (x6 + 1))]) hO dX12_staff_90 6 rfl rfl (by decide) rfl rfl ?_
    refine zi_goto (tgt := 60) hO dX12_staff_93 (by decide) ?_
    exact h
theorem rX12_feed_0 {x : zX} {w : zWd} {im : zMem} {lv : Int64} {P : Int32 → zMem → Int64 → Prop} {y1 : Int64} {x3 : Int32} (hO : zOK x w zyX12_feed 3) (hR : zRetI x w zyX12_feed P) (hN : zN x 126 126)
 (h : ((1 ≤ x3 ∧ x3 ≤ 8 → ((((im 43 0 17) + x3) ≤ 500 → zW x w 40 [(0, vR 43 0), (1, vL y1), (3, vI x3), (4, vI (x3 - 1))] [] (zwr im 43 0 0 0) lv) ∧
 (¬ (((im 43 0 17) + x3) ≤ 500) → P (-1000003) (zwr im 43 0 0 0) lv))) ∧
 (¬ (1 ≤ x3 ∧ x3 ≤ 8) → P (-1000001) (zwr im 43 0 0 0) lv))) :
 zW x w 0 [(0, vR 43 0), (1, vL y1), (3, vI x3)] [] im lv := by
  refine zi_aload_n hO dX12_feed_0 0 rfl ?_
  refine zi_iconst (v := 0) hO dX12_feed_1 (by decide) ?_
  refine zi_putI hO dX12_feed_2 gX12_1 rfl rfl (zI (by decide)) ?_
  refine zi_iload_n hO dX12_feed_5 2 rfl ?_
  refine zi_i2l hO dX12_feed_6 ?_
  refine zi_lconst (v := 1) hO dX12_feed_7 (by decide) ?_
  refine zi_ldc2 (v := 8) hO dX12_feed_8 nX12_144 ?_
  refine zc_SI (as := [vL (Int32.toInt64 x3), vL (1 : Int64), vL (8 : Int64)]) hO hN dX12_feed_11 kX12_13 (by decide) rfl (Nat.le_of_ble_eq_true rfl) rfl rfl (C_X12_in _ _ _ _ (a := x3) (b := 1) (c := 8) rfl (by decide) (by decide)) (fun v1 im1 lv1 hp1 => ?_)
  rw [hp1.1, hp1.2.1, hp1.2.2]
  refine zi_if_ne (tgt := 20) hO dX12_feed_14 (by decide) (fun c1 => ?_) (fun c1 => ?_)
  · have h := h.1 (vB_1.mp (vB_01.resolve_left c1))
    refine zi_aload_n hO dX12_feed_20 0 rfl ?_
    refine zi_getI hO dX12_feed_21 fX12_146 rfl rfl (zI (by decide)) ?_
    refine zi_iload_n hO dX12_feed_24 2 rfl ?_
    refine zi_iadd hO dX12_feed_25 ?_
    refine zi_sipush (v := 500) hO dX12_feed_26 (by decide) ?_
    refine zi_icmp_le (tgt := 35) hO dX12_feed_29 (by decide) (fun c2 => ?_) (fun c2 => ?_)
    · have h := h.1 c2
      refine zi_iload_n hO dX12_feed_35 2 rfl ?_
      refine zi_iconst (v := 1) hO dX12_feed_36 (by decide) ?_
      refine zi_isub hO dX12_feed_37 ?_
      refine zi_istore (L' := [(0, vR 43 0), (1, vL y1), (3, vI x3), (4, vI (x3 - 1))]) hO dX12_feed_38 (by decide) rfl rfl ?_
      exact h
    · have h := h.2 c2
      refine zi_ldc (v := (-1000003)) hO dX12_feed_32 nX12_149 ?_
      exact zr_I hO hR rfl dX12_feed_34 h
  · have h := h.2 (vB_0.mp c1)
    refine zi_ldc (v := (-1000001)) hO dX12_feed_17 nX12_23 ?_
    exact zr_I hO hR rfl dX12_feed_19 h
theorem rX12_feed_40 {x : zX} {w : zWd} {im : zMem} {lv : Int64} {P : Int32 → zMem → Int64 → Prop} {y1 : Int64} {x3 : Int32} {x4 : Int32} (hO : zOK x w zyX12_feed 3) (hR : zRetI x w zyX12_feed P) (hN : zN x 126 126)
 (h : ((x4 < 0 → P (im 43 0 17) im lv) ∧
 (¬ (x4 < 0) → (vp_in (im 43 0 17) 500 ∧ zW x w 40 [(0, vR 43 0), (1, vL y1), (3, vI x3), (4, vI (x4 + (-1)))] [] (zwr (zwr im 55 0 (Int32.toNatClampNeg (im 43 0 17)) (Int64.toInt32 ((y1 >>> (Int32.toInt64 (8 * x4) &&& 63)) &&& (255 : Int64)))) 43 0 17 ((im 43 0 17) + 1)) lv)))) :
 zW x w 40 [(0, vR 43 0), (1, vL y1), (3, vI x3), (4, vI x4)] [] im lv := by
  refine zi_iload hO dX12_feed_40 3 rfl ?_
  refine zi_if_lt (tgt := 82) hO dX12_feed_42 (by decide) (fun c1 => ?_) (fun c1 => ?_)
  · have h := h.1 c1
    refine zi_aload_n hO dX12_feed_82 0 rfl ?_
    refine zi_getI hO dX12_feed_83 fX12_146 rfl rfl (zI (by decide)) ?_
    exact zr_I hO hR rfl dX12_feed_86 h
  · have h := h.2 c1
    refine zi_aload_n hO dX12_feed_45 0 rfl ?_
    refine zi_getR (r' := 55) (i' := 0) hO dX12_feed_46 fX12_71 rfl rfl (zI (by decide)) rfl ?_
    refine zi_aload_n hO dX12_feed_49 0 rfl ?_
    refine zi_getI hO dX12_feed_50 fX12_146 rfl rfl (zI (by decide)) ?_
    refine zi_lload_n hO dX12_feed_53 1 rfl ?_
    refine zi_bipush (v := 8) hO dX12_feed_54 (by decide) ?_
    refine zi_iload hO dX12_feed_56 3 rfl ?_
    refine zi_imul hO dX12_feed_58 ?_
    refine zi_lshr hO dX12_feed_59 ?_
    refine zi_ldc2 (v := 255) hO dX12_feed_60 nX12_150 ?_
    refine zi_land hO dX12_feed_63 ?_
    refine zi_l2i hO dX12_feed_64 ?_
    obtain ⟨s1, h⟩ := h
    refine zi_iast hO dX12_feed_65 rfl (zI (by decide)) s1 ?_
    refine zi_aload_n hO dX12_feed_66 0 rfl ?_
    refine zi_dup hO dX12_feed_67 rfl ?_
    refine zi_getI hO dX12_feed_68 fX12_146 rfl rfl (zI (by decide)) ?_
    refine zi_iconst (v := 1) hO dX12_feed_71 (by decide) ?_
    refine zi_iadd hO dX12_feed_72 ?_
    refine zi_putI hO dX12_feed_73 gX12_146 rfl rfl (zI (by decide)) ?_
    refine zi_iinc (v' := (x4 + (-1))) (L' := [(0, vR 43 0), (1, vL y1), (3, vI x3), (4, vI (x4 + (-1)))]) hO dX12_feed_76 3 rfl rfl (by decide) rfl rfl ?_
    refine zi_goto (tgt := 40) hO dX12_feed_79 (by decide) ?_
    exact h
/-! rows copied -/
theorem cpy_up {im : zMem} {r : Nat} {f : Nat → Int32} {sp dp k : Nat} : zwr (zset im r 0 (va_cpy f (im r 0) sp dp k)) r 0 (dp + k) (f (sp + k)) = zset im r 0 (va_cpy f (im r 0) sp dp (k + 1)) := by
  unfold zwr
  rw [zset_set, zset_eq]
  congr 1
  funext j
  unfold upd va_cpy
  by_cases h : j = dp + k
  · rw [if_pos h, if_pos (by omega)]
    congr 1
    omega
  · rw [if_neg h]
    by_cases h2 : dp ≤ j ∧ j < dp + k
    · rw [if_pos h2, if_pos (by omega)]
    · rw [if_neg h2, if_neg (by omega)]
theorem cpy_dn {im : zMem} {r : Nat} {f : Nat → Int32} {sp dp k : Nat} : zwr (zset im r 0 (va_cpy f (im r 0) (sp + 1) (dp + 1) k)) r 0 dp (f sp) = zset im r 0 (va_cpy f (im r 0) sp dp (k + 1)) := by
  unfold zwr
  rw [zset_set, zset_eq]
  congr 1
  funext j
  unfold upd va_cpy
  by_cases h : j = dp
  · rw [if_pos h, if_pos (by omega)]
    congr 1
    omega
  · rw [if_neg h]
    by_cases h2 : dp + 1 ≤ j ∧ j < dp + 1 + k
    · rw [if_pos h2, if_pos (by omega)]
      congr 1
      omega
    · rw [if_neg h2, if_neg (by omega)]
theorem cpy_0 {im : zMem} {r : Nat} {f : Nat → Int32} {sp dp : Nat} : zset im r 0 (va_cpy f (im r 0) sp dp 0) = im := by
  have : va_cpy f (im r 0) sp dp 0 = im r 0 := by
    funext j
    unfold va_cpy
    rw [if_neg (by omega)]
  rw [this, zset_id]
theorem cpy_r {im : zMem} {r r' : Nat} {g : Nat → Int32} (h : ¬ r' = r) : zset im r 0 g r' = im r' := by
  funext i
  exact zset_ne (fun q => h q.1)
def mny (m : zMem) (s : Nat) : Nat := cN (m 45 0 s)
def WS (m : zMem) : Prop := ∀ s, s < 8 → (m 44 0 s = -1 ∨ ∃ l, l < 3 ∧ m 44 0 s = nI l) ∧ m 45 0 s = nI (mny m s) ∧ mny m s ≤ 48
theorem lane_neg {m : zMem} (h : WS m) {s : Nat} (hs : s < 8) : ¬ 0 ≤ m 44 0 s ↔ m 44 0 s = -1 := by
  rcases (h s hs).1 with q | ⟨l, hl, q⟩
  · rw [q]; decide
  · rw [q]
    refine ⟨fun z => absurd (nI_pos' (by omega)) z, fun z => ?_⟩
    have := nI_pos' (n := l) (by omega)
    rw [z] at this
    exact absurd this (by decide)
theorem lane_lt {m : zMem} (h : WS m) {s : Nat} (hs : s < 8) : m 44 0 s < 0 ↔ m 44 0 s = -1 := by
  rw [← lane_neg h hs, Int32.not_le]
theorem zle_n {x : Int32} {k : Nat} (hk : k < 2 ^ 30) (h0 : 0 ≤ x) : x ≤ nI k ↔ ∃ n, n ≤ k ∧ x = nI n := by
  refine ⟨fun h => ?_, fun ⟨n, h1, h2⟩ => by rw [h2]; exact nI_le h1 (by omega)⟩
  obtain ⟨n, hn, rfl⟩ := zrx (N := k + 1) (by omega) ((zrl hk).mp ⟨h0, h⟩)
  exact ⟨n, by omega, rfl⟩
/-- a new sheet -/
def shM (im : zMem) (s : Nat) (l n : Int32) : zMem := zset (zwr (zwr (zwr im 43 0 1 0) 44 0 s l) 45 0 s n) 46 0 (va_cpy (fun _ => 0) (im 46 0) 0 (48 * s) 48)
theorem C_X12_sheet (l : Launch) (w : zWd) {im : zMem} (lv : Int64) (h0 : im 43 0 0 = 0) (x1 x2 x3 : Int32) : zSpecI l w 4 zyX12_sheet [vR 43 0, vI x1, vI x2, vI x3] im lv (fun v im' lv' => (if (0 ≤ x1 ∧ x1 < nI 8) ∧ (0 ≤ x2 ∧ x2 < nI 3) ∧ x3 ≤ nI 48 then (if 0 ≤ x3 then v = x3 ∧ im' = shM im (cN x1) x2 x3 else v = -1000014 ∧ im' = zwr im 43 0 1 4) else v = -1000001 ∧ im' = im) ∧ lv' = lv) := by
  refine ze_I (by decide) (Nat.le_of_ble_eq_true rfl) (fun x hO hR hN => rX12_sheet_0 hO hR hN ?_)
  rw [zwr_id h0, zwr_zwr]
  have q7 : (0 ≤ x1 ∧ x1 ≤ 7) ↔ (0 ≤ x1 ∧ x1 < nI 8) := zrl (by decide)
  have q2' : (0 ≤ x2 ∧ x2 ≤ 2) ↔ (0 ≤ x2 ∧ x2 < nI 3) := zrl (by decide)
  rw [q7, q2']
  refine ⟨fun q => ⟨by rw [if_neg (fun z => q z.1)]; exact ⟨rfl, rfl⟩, rfl⟩, fun q => ⟨fun q2 => ⟨by rw [if_neg (fun z => q2 z.2.1)]; exact ⟨rfl, rfl⟩, rfl⟩, fun q2 => ⟨fun q3 => ⟨fun q4 => ?_, fun q4 => ⟨by rw [if_pos ⟨q, q2, q3⟩, if_neg q4]; exact ⟨by decide, rfl⟩, rfl⟩⟩, fun q3 => ⟨by rw [if_neg (fun z => q3 z.2.2)]; exact ⟨rfl, rfl⟩, rfl⟩⟩⟩⟩
  simp only [if_pos (And.intro q (And.intro q2 (show x3 ≤ nI 48 from q3))), if_pos q4] at hR
  obtain ⟨s, hs, rfl⟩ := zrx (by decide) q
  have cs : Int32.toNatClampNeg (nI s) = s := nI_clamp (by omega)
  rw [cs]
  refine ⟨vp_in_nI hs (by decide), ?_⟩
  have key : ∀ n k, n + k = 48 → zW x w 65 [(0, vR 43 0), (1, vI (nI s)), (2, vI x2), (3, vI x3), (4, vI (nI k))] [] (zset (zwr (zwr (zwr im 43 0 1 0) 44 0 s x2) 45 0 s x3) 46 0 (va_cpy (fun _ => 0) ((zwr (zwr (zwr im 43 0 1 0) 44 0 s x2) 45 0 s x3) 46 0) 0 (48 * s) k)) lv := by
    intro n
    induction n with
    | zero =>
      intro k hk
      have : k = 48 := by omega
      subst this
      refine rX12_sheet_65 hO hR hN ⟨fun _ => ⟨⟨rfl, ?_⟩, rfl⟩, fun q => absurd (by decide) q⟩
      rw [cNn (n := s) (by omega)]
      unfold shM
      rw [zwr_r (by decide), zwr_r (by decide), zwr_r (by decide)]
    | succ n ih =>
      intro k hk
      have ih := ih (k + 1) (by omega)
      rw [← cpy_up] at ih
      refine rX12_sheet_65 hO hR hN ?_
      simp (disch := omega) only [zlit, nI_add, pk_mul, nI_clamp, nI_leI]
      exact ⟨fun q => by omega, fun _ => ⟨vp_in_nI (by omega) (by decide), ih⟩⟩
  have := key 48 0 rfl
  rw [cpy_0] at this
  exact this
def nar (l x : Int32) : Int32 := if l = 0 then x.toInt8.toInt32 else if l = 1 then x.toInt16.toInt32 else x
theorem C_X12_set (l : Launch) (w : zWd) {im : zMem} (lv : Int64) (hS : WS im) (h0 : im 43 0 0 = 0) (x1 x2 x3 : Int32) : zSpecI l w 4 zyX12_set [vR 43 0, vI x1, vI x2, vI x3] im lv (fun v im' lv' => (if 0 ≤ x1 ∧ x1 < nI 8 then (if im 44 0 (cN x1) = -1 then v = -1000011 ∧ im' = zwr im 43 0 1 1 else if 0 ≤ x2 ∧ x2 < nI (mny im (cN x1)) then v = nar (im 44 0 (cN x1)) x3 ∧ im' = zwr (zwr im 43 0 1 0) 46 0 (48 * cN x1 + cN x2) (nar (im 44 0 (cN x1)) x3) else v = -1000012 ∧ im' = zwr im 43 0 1 2) else v = -1000001 ∧ im' = im) ∧ lv' = lv) := by
  refine ze_I (by decide) (Nat.le_of_ble_eq_true rfl) (fun x hO hR hN => rX12_set_0 hO hR hN ?_)
  rw [zwr_id h0, zwr_zwr, zwr_zwr]
  have q7 : (0 ≤ x1 ∧ x1 ≤ 7) ↔ (0 ≤ x1 ∧ x1 < nI 8) := zrl (by decide)
  rw [q7]
  refine ⟨fun q => ?_, fun q => ⟨by rw [if_neg q]; exact ⟨rfl, by trivial⟩, by trivial⟩⟩
  simp only [if_pos q]
  obtain ⟨s, hs, rfl⟩ := zrx (by decide) q
  obtain ⟨w1, w2, w3⟩ := hS s hs
  have cs : Int32.toNatClampNeg (nI s) = s := nI_clamp (by omega)
  rw [cs, w2, zrg (by omega), cNn (n := s) (by omega)]
  refine ⟨vp_in_nI hs (by decide), fun q1 => ⟨fun q2 => ?_, fun q2 => ⟨?_, by trivial⟩⟩, fun q1 => ⟨?_, by trivial⟩⟩
  · have hl : ¬ im 44 0 s = -1 := fun z => by rw [z] at q1; exact absurd q1 (by decide)
    simp only [if_neg hl, if_pos q2]
    obtain ⟨i, hi, rfl⟩ := zrx (by omega) q2
    have ci : Int32.toNatClampNeg (48 * nI s + nI i) = 48 * s + i := by simp (disch := omega) only [zlit, nI_add, pk_mul, nI_clamp]
    have vi : vp_in (48 * nI s + nI i) 384 := by simp (disch := omega) only [zlit, nI_add, pk_mul]; exact vp_in_nI (by omega) (by decide)
    rw [ci, cNn (n := i) (by omega), zwr_eq, zwr_eq, zwr_eq]
    unfold nar
    refine ⟨fun n0 => ⟨fun n1 => ⟨vi, ?_, by trivial⟩, fun n1 => ⟨vi, ?_, by trivial⟩⟩, fun n0 => ⟨vi, ?_, by trivial⟩⟩
    · rw [if_neg n0, if_neg n1]; exact ⟨rfl, by trivial⟩
    · rw [if_neg n0, if_pos n1]; exact ⟨rfl, by trivial⟩
    · rw [if_pos n0]; exact ⟨rfl, by trivial⟩
  · have hl : ¬ im 44 0 s = -1 := fun z => by rw [z] at q1; exact absurd q1 (by decide)
    rw [if_neg hl, if_neg q2]
    exact ⟨by decide, by trivial⟩
  · rw [if_pos ((lane_neg hS hs).mp q1)]
    exact ⟨by decide, by trivial⟩
theorem C_X12_drop (l : Launch) (w : zWd) {im : zMem} (lv : Int64) (hS : WS im) (h0 : im 43 0 0 = 0) (x1 : Int32) : zSpecI l w 4 zyX12_drop [vR 43 0, vI x1] im lv (fun v im' lv' => (if 0 ≤ x1 ∧ x1 < nI 8 then (if im 44 0 (cN x1) = -1 then v = -1000011 ∧ im' = zwr im 43 0 1 1 else v = im 45 0 (cN x1) ∧ im' = zwr (zwr im 43 0 1 0) 44 0 (cN x1) (-1)) else v = -1000001 ∧ im' = im) ∧ lv' = lv) := by
  refine ze_I (by decide) (Nat.le_of_ble_eq_true rfl) (fun x hO hR hN => rX12_drop_0 hO hR hN ?_)
  rw [zwr_id h0, zwr_zwr]
  have q7 : (0 ≤ x1 ∧ x1 ≤ 7) ↔ (0 ≤ x1 ∧ x1 < nI 8) := zrl (by decide)
  rw [q7]
  refine ⟨fun q => ?_, fun q => ⟨by rw [if_neg q]; exact ⟨rfl, by trivial⟩, by trivial⟩⟩
  simp only [if_pos q]
  obtain ⟨s, hs, rfl⟩ := zrx (by decide) q
  have cs : Int32.toNatClampNeg (nI s) = s := nI_clamp (by omega)
  rw [cs, cNn (n := s) (by omega)]
  refine ⟨vp_in_nI hs (by decide), fun q1 => ⟨?_, by trivial⟩, fun q1 => ⟨?_, by trivial⟩⟩
  · rw [if_neg (fun z => by rw [z] at q1; exact absurd q1 (by decide))]; exact ⟨by trivial, by trivial⟩
  · rw [if_pos ((lane_neg hS hs).mp q1)]; exact ⟨by decide, by trivial⟩
/-- (long) i + n against a size -/
theorem zlong_le {i : Int32} {n k : Nat} (hn : n < 2 ^ 31) (hk : k ≤ 48) (hi : ¬ i < 0) : ((Int32.toInt64 i) + (Int32.toInt64 (nI n))) ≤ Int32.toInt64 (nI k) ↔ ∃ j, i = nI j ∧ j + n ≤ k := by
  obtain ⟨j, hj, rfl⟩ := nI_of hi
  rw [nI_l hj, nI_l hn, nI_l (by omega), lN_add, pk_lLE (by omega) (by omega)]
  refine ⟨fun h => ⟨j, rfl, h⟩, fun h => ?_⟩
  obtain ⟨j', e, h⟩ := h
  have hj' : j' < 2 ^ 31 := by omega
  rw [nI_eq hj hj'] at e
  omega
/-- the items of a row from o on lie in 0 .. h -/
def okN (f : Nat → Int32) (o : Nat) (h : Int32) : Nat → Bool
  | 0 => true
  | k + 1 => okN f o h k && decide (0 ≤ f (o + k) ∧ f (o + k) ≤ h)
theorem okN_at {f : Nat → Int32} {o : Nat} {h : Int32} : ∀ {n : Nat}, okN f o h n = true → ∀ k, k < n → 0 ≤ f (o + k) ∧ f (o + k) ≤ h
  | 0, _, k, hk => by omega
  | n + 1, hn, k, hk => by
    rw [okN, Bool.and_eq_true, decide_eq_true_eq] at hn
    by_cases hkn : k = n
    · subst hkn; exact hn.2
    · exact okN_at hn.1 k (by omega)
theorem okN_no {f : Nat → Int32} {o : Nat} {h : Int32} {k : Nat} (hk : ¬ (0 ≤ f (o + k) ∧ f (o + k) ≤ h)) : ∀ {n : Nat}, k < n → okN f o h n = false
  | 0, hn => by omega
  | n + 1, hn => by
    rw [okN]
    by_cases hkn : k = n
    · subst hkn; rw [decide_eq_false hk, Bool.and_false]
    · rw [okN_no hk (by omega), Bool.false_and]
theorem C_X12_lookItems (l : Launch) (w : zWd) {im : zMem} (lv : Int64) (hS : WS im) {s n : Nat} (hs : s < 8) (hn1 : 1 ≤ n) (hn48 : n ≤ 48) (x2 hi : Int32) : zSpecI l w 3 zyX12_lookItems [vR 43 0, vI (nI s), vI x2, vI (nI n), vI hi] im lv (fun v im' lv' => (if im 44 0 s = -1 then v = -1000011 ∧ im' = zwr im 43 0 1 1 else if 0 ≤ x2 ∧ x2 ≤ nI (mny im s) - nI n then (if okN (im 46 0) (48 * s + cN x2) hi n = true then v = 0 ∧ im' = zwr im 43 0 1 0 else v = -1000001 ∧ im' = im) else v = -1000012 ∧ im' = zwr im 43 0 1 2) ∧ lv' = lv) := by
  refine ze_I (by decide) (Nat.le_of_ble_eq_true rfl) (fun x hO hR hN => rX12_lookItems_0 hO hR hN ?_)
  obtain ⟨w1, w2, w3⟩ := hS s hs
  have cs : Int32.toNatClampNeg (nI s) = s := nI_clamp (by omega)
  rw [cs, w2, lg_le]
  have hsub : ∀ {j : Nat}, j < 2 ^ 31 → (nI j ≤ nI (mny im s) - nI n ↔ j + n ≤ mny im s) := by
    intro j hj
    have := pk_sub_toInt (a := mny im s) (b := n) (by omega) (by omega)
    rw [Int32.le_iff_toInt_le, this, nI_toInt hj]
    omega
  refine ⟨vp_in_nI hs (by decide), fun q1 => ?_, fun q1 => ⟨by rw [if_pos ((lane_neg hS hs).mp q1)]; exact ⟨by decide, by trivial⟩, by trivial⟩⟩
  have hl : ¬ im 44 0 s = -1 := fun z => by rw [z] at q1; exact absurd q1 (by decide)
  simp only [if_neg hl] at hR ⊢
  refine ⟨fun q2 => ⟨?_, by trivial⟩, fun q2 => ?_⟩
  · rw [if_neg (fun z => by have := z.1; rw [Int32.le_iff_toInt_le] at this; rw [Int32.lt_iff_toInt_lt] at q2; omega)]
    exact ⟨by decide, by trivial⟩
  rw [zlong_le (by omega) w3 q2]
  refine ⟨fun q3 => ?_, fun q3 => ⟨?_, by trivial⟩⟩
  · obtain ⟨j, rfl, hj⟩ := q3
    have hj31 : j < 2 ^ 31 := by omega
    have cond : 0 ≤ nI j ∧ nI j ≤ nI (mny im s) - nI n := ⟨nI_pos' hj31, (hsub hj31).mpr hj⟩
    rw [cNn hj31] at hR
    simp only [if_pos cond] at hR
    have key : ∀ n2 k, n2 + k = n → okN (im 46 0) (48 * s + j) hi k = true → zW x w 44 [(0, vR 43 0), (1, vI (nI s)), (2, vI (nI j)), (3, vI (nI n)), (4, vI hi), (5, vI (nI k))] [] im lv := by
      intro n2
      induction n2 with
      | zero =>
        intro k hk hok
        have : k = n := by omega
        subst this
        refine rX12_lookItems_44 hO hR hN ⟨fun _ => ⟨?_, by trivial⟩, fun q => absurd (by simp) q⟩
        rw [if_pos hok]
        exact ⟨rfl, by trivial⟩
      | succ n2 ih =>
        intro k hk hok
        refine rX12_lookItems_44 hO hR hN ?_
        have ci : Int32.toNatClampNeg (48 * nI s + nI j + nI k) = 48 * s + j + k := by simp (disch := omega) only [zlit, nI_add, pk_mul, nI_clamp]
        have vi : vp_in (48 * nI s + nI j + nI k) 384 := by simp (disch := omega) only [zlit, nI_add, pk_mul]; exact vp_in_nI (by omega) (by decide)
        have hk1 : nI k + 1 = nI (k + 1) := nI_1 k
        rw [ci, hk1, nI_leI (by omega) (by omega)]
        refine ⟨fun q => by omega, fun _ => ⟨vi, fun z => ih (k + 1) (by omega) (by rw [okN, hok, Bool.true_and]; exact decide_eq_true z), fun z => ⟨?_, by trivial⟩⟩⟩
        rw [okN_no z (by omega)]
        exact ⟨rfl, by trivial⟩
    exact key n 0 (by omega) rfl
  · rw [if_neg]
    · exact ⟨by decide, by trivial⟩
    intro z
    obtain ⟨j, hj, rfl⟩ := nI_of q2
    exact q3 ⟨j, rfl, (hsub hj).mp z.2⟩
