/-! the class's sheets and feeding -/
theorem rX7_begin_0 {x : zX} {w : zWd} {im : zMem} {lv : Int64} {P : zMem → Int64 → Prop} {f0 : Nat} {x1 : Int32} {x2 : Int32} (hO : zOK x w zyX7_begin 3) (hR : zRetV x w zyX7_begin P) (hN : zN x 126 126) (hf0 : f0 < 8)
 (h : (∃ P1 : zMem → Int64 → Prop, zSpecV x.2.1 w 2 zyJ7_fill_53178 [vR 42 f0, vI 0] (zwr (zwr im 41 f0 0 x1) 41 f0 1 x2) lv P1 ∧ ∀ (im1 : zMem) (lv1 : Int64), P1 im1 lv1 → P im1 lv1)) :
 zW x w 0 [(0, vR 41 f0), (1, vI x1), (2, vI x2)] [] im lv := by
  refine zi_aload_n hO dX7_begin_0 0 rfl ?_
  refine zi_iload_n hO dX7_begin_1 1 rfl ?_
  refine zi_putI hO dX7_begin_2 gX7_11 rfl rfl (zI hf0) ?_
  refine zi_aload_n hO dX7_begin_5 0 rfl ?_
  refine zi_iload_n hO dX7_begin_6 2 rfl ?_
  refine zi_putI hO dX7_begin_7 gX7_15 rfl rfl (zI hf0) ?_
  refine zi_aload_n hO dX7_begin_10 0 rfl ?_
  refine zi_getR (r' := 42) (i' := f0) hO dX7_begin_11 fX7_18 rfl rfl (zI hf0) rfl ?_
  refine zi_iconst (v := 0) hO dX7_begin_14 (by decide) ?_
  obtain ⟨P1, hM1, h⟩ := h
  refine zc_SV (as := [vR 42 f0, vI 0]) hO hN dX7_begin_15 kX7_22 (by decide) rfl (Nat.le_of_ble_eq_true rfl) rfl rfl hM1 (fun im1 lv1 hp1 => ?_)
  replace h := h im1 lv1 hp1
  exact zr_V hO hR rfl dX7_begin_18 h
theorem rX7_end_0 {x : zX} {w : zWd} {im : zMem} {lv : Int64} {P : Int32 → zMem → Int64 → Prop} {f0 : Nat} (hO : zOK x w zyX7_end 2) (hR : zRetI x w zyX7_end P) (hN : zN x 126 126) (hf0 : f0 < 8)
 (h : P ((zwr im 41 f0 0 (-1)) 41 f0 1) (zwr im 41 f0 0 (-1)) lv) :
 zW x w 0 [(0, vR 41 f0)] [] im lv := by
  refine zi_aload_n hO dX7_end_0 0 rfl ?_
  refine zi_iconst (v := (-1)) hO dX7_end_1 (by decide) ?_
  refine zi_putI hO dX7_end_2 gX7_11 rfl rfl (zI hf0) ?_
  refine zi_aload_n hO dX7_end_5 0 rfl ?_
  refine zi_getI hO dX7_end_6 fX7_15 rfl rfl (zI hf0) ?_
  exact zr_I hO hR rfl dX7_end_9 h
theorem rX7_findingFor_0 {x : zX} {w : zWd} {im : zMem} {lv : Int64} {P : Int32 → zMem → Int64 → Prop} {f0 : Nat} {x1 : Int32} {x2 : Int32} (hO : zOK x w zyX7_findingFor 3) (hR : zRetI x w zyX7_findingFor P) (hN : zN x 126 126) (hf0 : f0 < 8)
 (h : ((¬ ((im 41 f0 0) = (-1)) → ((¬ (0 ≤ x1 ∧ 0 ≤ x2 ∧ x2 ≤ (im 41 f0 1) ∧ x1 ≤ ((im 41 f0 1) - x2)) → P 2 im lv) ∧
 (0 ≤ x1 ∧ 0 ≤ x2 ∧ x2 ≤ (im 41 f0 1) ∧ x1 ≤ ((im 41 f0 1) - x2) → P 0 im lv))) ∧
 ((im 41 f0 0) = (-1) → P 1 im lv))) :
 zW x w 0 [(0, vR 41 f0), (1, vI x1), (2, vI x2)] [] im lv := by
  refine zi_aload_n hO dX7_findingFor_0 0 rfl ?_
  refine zc_VI (as := []) hO hN dX7_findingFor_1 kX7_28 (by decide) rfl (zI hf0) rfl rfl (Nat.le_of_ble_eq_true rfl) rfl rfl (C_X7_isMissing _ _ _ _ hf0) (fun v1 im1 lv1 hp1 => ?_)
  rw [hp1.1, hp1.2.1, hp1.2.2]
  refine zi_if_eq (tgt := 9) hO dX7_findingFor_4 (by decide) (fun c1 => ?_) (fun c1 => ?_)
  · have h := h.1 (vB_0.mp c1)
    refine zi_aload_n hO dX7_findingFor_9 0 rfl ?_
    refine zi_iload_n hO dX7_findingFor_10 1 rfl ?_
    refine zi_iload_n hO dX7_findingFor_11 2 rfl ?_
    refine zc_VI (as := [vI x1, vI x2]) hO hN dX7_findingFor_12 kX7_32 (by decide) rfl (zI hf0) rfl rfl (Nat.le_of_ble_eq_true rfl) rfl rfl (C_X7_hasPlaces _ _ _ _ hf0) (fun v2 im2 lv2 hp2 => ?_)
    rw [hp2.1, hp2.2.1, hp2.2.2]
    refine zi_if_eq (tgt := 22) hO dX7_findingFor_15 (by decide) (fun c2 => ?_) (fun c2 => ?_)
    · have h := h.1 (vB_0.mp c2)
      refine zi_iconst (v := 2) hO dX7_findingFor_22 (by decide) ?_
      exact zr_I hO hR rfl dX7_findingFor_23 h
    · have h := h.2 (vB_1.mp (vB_01.resolve_left c2))
      refine zi_iconst (v := 0) hO dX7_findingFor_18 (by decide) ?_
      refine zi_goto (tgt := 23) hO dX7_findingFor_19 (by decide) ?_
      exact zr_I hO hR rfl dX7_findingFor_23 h
  · have h := h.2 (vB_1.mp (vB_01.resolve_left c1))
    refine zi_iconst (v := 1) hO dX7_findingFor_7 (by decide) ?_
    exact zr_I hO hR rfl dX7_findingFor_8 h
theorem rX7_hasOnlyUpTo_0 {x : zX} {w : zWd} {im : zMem} {lv : Int64} {P : Int32 → zMem → Int64 → Prop} {f0 : Nat} {x1 : Int32} {x2 : Int32} {x3 : Int32} (hO : zOK x w zyX7_hasOnlyUpTo 2) (hR : zRetI x w zyX7_hasOnlyUpTo P) (hN : zN x 126 126) (hf0 : f0 < 8)
 (h : zW x w 3 [(0, vR 41 f0), (1, vI x1), (2, vI x2), (3, vI x3), (4, vI x2)] [] im lv) :
 zW x w 0 [(0, vR 41 f0), (1, vI x1), (2, vI x2), (3, vI x3)] [] im lv := by
  refine zi_iload_n hO dX7_hasOnlyUpTo_0 2 rfl ?_
  refine zi_istore (L' := [(0, vR 41 f0), (1, vI x1), (2, vI x2), (3, vI x3), (4, vI x2)]) hO dX7_hasOnlyUpTo_1 (by decide) rfl rfl ?_
  exact h
theorem rX7_hasOnlyUpTo_3 {x : zX} {w : zWd} {im : zMem} {lv : Int64} {P : Int32 → zMem → Int64 → Prop} {f0 : Nat} {x1 : Int32} {x2 : Int32} {x3 : Int32} {x4 : Int32} (hO : zOK x w zyX7_hasOnlyUpTo 2) (hR : zRetI x w zyX7_hasOnlyUpTo P) (hN : zN x 126 126) (hf0 : f0 < 8)
 (h : (((x2 + x3) ≤ x4 → P 1 im lv) ∧
 (¬ ((x2 + x3) ≤ x4) → (vp_in x4 48 ∧ (((im 42 f0 (Int32.toNatClampNeg x4)) < 0 → P 0 im lv) ∧
 (¬ ((im 42 f0 (Int32.toNatClampNeg x4)) < 0) → (((im 42 f0 (Int32.toNatClampNeg x4)) ≤ x1 → zW x w 3 [(0, vR 41 f0), (1, vI x1), (2, vI x2), (3, vI x3), (4, vI (x4 + 1))] [] im lv) ∧
 (¬ ((im 42 f0 (Int32.toNatClampNeg x4)) ≤ x1) → P 0 im lv)))))))) :
 zW x w 3 [(0, vR 41 f0), (1, vI x1), (2, vI x2), (3, vI x3), (4, vI x4)] [] im lv := by
  refine zi_iload hO dX7_hasOnlyUpTo_3 4 rfl ?_
  refine zi_iload_n hO dX7_hasOnlyUpTo_5 2 rfl ?_
  refine zi_iload_n hO dX7_hasOnlyUpTo_6 3 rfl ?_
  refine zi_iadd hO dX7_hasOnlyUpTo_7 ?_
  refine zi_icmp_ge (tgt := 40) hO dX7_hasOnlyUpTo_8 (by decide) (fun c1 => ?_) (fun c1 => ?_)
  · have h := h.1 c1
    refine zi_iconst (v := 1) hO dX7_hasOnlyUpTo_40 (by decide) ?_
    exact zr_Z hO hR rfl (Or.inr rfl) dX7_hasOnlyUpTo_41 h
  · have h := h.2 c1
    refine zi_aload_n hO dX7_hasOnlyUpTo_11 0 rfl ?_
    refine zi_getR (r' := 42) (i' := f0) hO dX7_hasOnlyUpTo_12 fX7_18 rfl rfl (zI hf0) rfl ?_
    refine zi_iload hO dX7_hasOnlyUpTo_15 4 rfl ?_
    obtain ⟨s1, h⟩ := h
    refine zi_iald hO dX7_hasOnlyUpTo_17 rfl (zI hf0) s1 ?_
    refine zi_if_lt (tgt := 32) hO dX7_hasOnlyUpTo_18 (by decide) (fun c2 => ?_) (fun c2 => ?_)
    · have h := h.1 c2
      refine zi_iconst (v := 0) hO dX7_hasOnlyUpTo_32 (by decide) ?_
      exact zr_Z hO hR rfl (Or.inl rfl) dX7_hasOnlyUpTo_33 h
    · have h := h.2 c2
      refine zi_aload_n hO dX7_hasOnlyUpTo_21 0 rfl ?_
      refine zi_getR (r' := 42) (i' := f0) hO dX7_hasOnlyUpTo_22 fX7_18 rfl rfl (zI hf0) rfl ?_
      refine zi_iload hO dX7_hasOnlyUpTo_25 4 rfl ?_
      refine zi_iald hO dX7_hasOnlyUpTo_27 rfl (zI hf0) s1 ?_
      refine zi_iload_n hO dX7_hasOnlyUpTo_28 1 rfl ?_
      refine zi_icmp_le (tgt := 34) hO dX7_hasOnlyUpTo_29 (by decide) (fun c3 => ?_) (fun c3 => ?_)
      · have h := h.1 c3
        refine zi_iinc (v' := (x4 + 1)) (L' := [(0, vR 41 f0), (1, vI x1), (2, vI x2), (3, vI x3), (4, vI (x4 + 1))]) hO dX7_hasOnlyUpTo_34 4 rfl rfl (by decide) rfl rfl ?_
        refine zi_goto (tgt := 3) hO dX7_hasOnlyUpTo_37 (by decide) ?_
        exact h
      · have h := h.2 c3
        refine zi_iconst (v := 0) hO dX7_hasOnlyUpTo_32 (by decide) ?_
        exact zr_Z hO hR rfl (Or.inl rfl) dX7_hasOnlyUpTo_33 h
theorem rX7_put_0 {x : zX} {w : zWd} {im : zMem} {lv : Int64} {P : Int32 → zMem → Int64 → Prop} {f0 : Nat} {x1 : Int32} {x2 : Int32} (hO : zOK x w zyX7_put 2) (hR : zRetI x w zyX7_put P) (hN : zN x 126 126) (hf0 : f0 < 8)
 (h : ((¬ ((im 41 f0 0) = 0) → ((¬ ((im 41 f0 0) = 1) → (vp_in x1 48 ∧ P ((zwr im 42 f0 (Int32.toNatClampNeg x1) x2) 42 f0 (Int32.toNatClampNeg x1)) (zwr im 42 f0 (Int32.toNatClampNeg x1) x2) lv)) ∧
 ((im 41 f0 0) = 1 → (vp_in x1 48 ∧ P ((zwr im 42 f0 (Int32.toNatClampNeg x1) ((Int32.toInt16 x2).toInt32)) 42 f0 (Int32.toNatClampNeg x1)) (zwr im 42 f0 (Int32.toNatClampNeg x1) ((Int32.toInt16 x2).toInt32)) lv)))) ∧
 ((im 41 f0 0) = 0 → (vp_in x1 48 ∧ P ((zwr im 42 f0 (Int32.toNatClampNeg x1) ((Int32.toInt8 x2).toInt32)) 42 f0 (Int32.toNatClampNeg x1)) (zwr im 42 f0 (Int32.toNatClampNeg x1) ((Int32.toInt8 x2).toInt32)) lv)))) :
 zW x w 0 [(0, vR 41 f0), (1, vI x1), (2, vI x2)] [] im lv := by
  refine zi_aload_n hO dX7_put_0 0 rfl ?_
  refine zi_getR (r' := 42) (i' := f0) hO dX7_put_1 fX7_18 rfl rfl (zI hf0) rfl ?_
  refine zi_iload_n hO dX7_put_4 1 rfl ?_
  refine zi_aload_n hO dX7_put_5 0 rfl ?_
  refine zi_getI hO dX7_put_6 fX7_11 rfl rfl (zI hf0) ?_
  refine zi_if_ne (tgt := 17) hO dX7_put_9 (by decide) (fun c1 => ?_) (fun c1 => ?_)
  · have h := h.1 c1
    refine zi_aload_n hO dX7_put_17 0 rfl ?_
    refine zi_getI hO dX7_put_18 fX7_11 rfl rfl (zI hf0) ?_
    refine zi_iconst (v := 1) hO dX7_put_21 (by decide) ?_
    refine zi_icmp_ne (tgt := 30) hO dX7_put_22 (by decide) (fun c2 => ?_) (fun c2 => ?_)
    · have h := h.1 c2
      refine zi_iload_n hO dX7_put_30 2 rfl ?_
      obtain ⟨s1, h⟩ := h
      refine zi_iast hO dX7_put_31 rfl (zI hf0) s1 ?_
      refine zi_aload_n hO dX7_put_32 0 rfl ?_
      refine zi_getR (r' := 42) (i' := f0) hO dX7_put_33 fX7_18 rfl rfl (zI hf0) rfl ?_
      refine zi_iload_n hO dX7_put_36 1 rfl ?_
      refine zi_iald hO dX7_put_37 rfl (zI hf0) s1 ?_
      exact zr_I hO hR rfl dX7_put_38 h
    · have h := h.2 c2
      refine zi_iload_n hO dX7_put_25 2 rfl ?_
      refine zi_i2s hO dX7_put_26 ?_
      refine zi_goto (tgt := 31) hO dX7_put_27 (by decide) ?_
      obtain ⟨s2, h⟩ := h
      refine zi_iast hO dX7_put_31 rfl (zI hf0) s2 ?_
      refine zi_aload_n hO dX7_put_32 0 rfl ?_
      refine zi_getR (r' := 42) (i' := f0) hO dX7_put_33 fX7_18 rfl rfl (zI hf0) rfl ?_
      refine zi_iload_n hO dX7_put_36 1 rfl ?_
      refine zi_iald hO dX7_put_37 rfl (zI hf0) s2 ?_
      exact zr_I hO hR rfl dX7_put_38 h
  · have h := h.2 c1
    refine zi_iload_n hO dX7_put_12 2 rfl ?_
    refine zi_i2b hO dX7_put_13 ?_
    refine zi_goto (tgt := 31) hO dX7_put_14 (by decide) ?_
    obtain ⟨s3, h⟩ := h
    refine zi_iast hO dX7_put_31 rfl (zI hf0) s3 ?_
    refine zi_aload_n hO dX7_put_32 0 rfl ?_
    refine zi_getR (r' := 42) (i' := f0) hO dX7_put_33 fX7_18 rfl rfl (zI hf0) rfl ?_
    refine zi_iload_n hO dX7_put_36 1 rfl ?_
    refine zi_iald hO dX7_put_37 rfl (zI hf0) s3 ?_
    exact zr_I hO hR rfl dX7_put_38 h
theorem rX11_sheet_0 {x : zX} {w : zWd} {im : zMem} {lv : Int64} {P : Int32 → zMem → Int64 → Prop} {x1 : Int32} {x2 : Int32} {x3 : Int32} (hO : zOK x w zyX11_sheet 4) (hR : zRetI x w zyX11_sheet P) (hN : zN x 126 126)
 (h : ((0 ≤ x1 ∧ x1 < 8 → (Int32.toNatClampNeg x1) < 8 ∧ ((x2 < 0 → P (-1000001) im lv) ∧
 (¬ (x2 < 0) → ((3 ≤ x2 → P (-1000001) im lv) ∧
 (¬ (3 ≤ x2) → ((x3 ≤ 48 → ((0 ≤ x3 → (∃ P2 : zMem → Int64 → Prop, zSpecV x.2.1 w 3 zyX7_begin [vR 41 (Int32.toNatClampNeg x1), vI x2, vI x3] im lv P2 ∧ ∀ (im2 : zMem) (lv2 : Int64), P2 im2 lv2 → P x3 (zwr im2 0 0 10 0) lv2)) ∧
 (¬ (0 ≤ x3) → P ((-1000010) - 4) (zwr im 0 0 10 4) lv))) ∧
 (¬ (x3 ≤ 48) → P (-1000001) im lv))))))) ∧
 (¬ (0 ≤ x1 ∧ x1 < 8) → P (-1000001) im lv))) :
 zW x w 0 [(0, vR 0 0), (1, vI x1), (2, vI x2), (3, vI x3)] [] im lv := by
  refine zi_aload_n hO dX11_sheet_0 0 rfl ?_
  refine zi_iload_n hO dX11_sheet_1 1 rfl ?_
  refine zc_VQ (as := [vI x1]) hO hN dX11_sheet_2 kX11_96 (by decide) rfl (zI (by decide)) rfl rfl (Nat.le_of_ble_eq_true rfl) rfl rfl (C_X11_sheetOrNull _ _ _ _) (fun im1 lv1 hp1 => ?_) (fun j1 im1 lv1 hp1 => ?_)
  · rw [hp1.2.1, hp1.2.2]
    have h := h.2 (zq_none hp1.1)
    refine zi_astoreN (L' := [(0, vR 0 0), (1, vI x1), (2, vI x2), (3, vI x3), (4, vN)]) hO dX11_sheet_5 (by decide) rfl rfl ?_
    refine zi_aloadN hO dX11_sheet_7 4 rfl ?_
    refine zi_ifnullN (tgt := 27) hO dX11_sheet_9 (by decide) ?_
    refine zi_ldc (v := (-1000001)) hO dX11_sheet_27 nX11_100 ?_
    exact zr_I hO hR rfl dX11_sheet_29 h
  · rw [hp1.2.1, hp1.2.2, (zq_some hp1.1).2]
    obtain ⟨hj1, h⟩ := h.1 (zq_some hp1.1).1
    refine zi_astore (L' := [(0, vR 0 0), (1, vI x1), (2, vI x2), (3, vI x3), (4, vR 41 (Int32.toNatClampNeg x1))]) hO dX11_sheet_5 (by decide) rfl rfl ?_
    refine zi_aload hO dX11_sheet_7 4 rfl ?_
    refine zi_ifnull hO dX11_sheet_9 ?_
    refine zi_iload_n hO dX11_sheet_12 2 rfl ?_
    refine zi_if_lt (tgt := 27) hO dX11_sheet_13 (by decide) (fun c1 => ?_) (fun c1 => ?_)
    · have h := h.1 c1
      refine zi_ldc (v := (-1000001)) hO dX11_sheet_27 nX11_100 ?_
      exact zr_I hO hR rfl dX11_sheet_29 h
    · have h := h.2 c1
      refine zi_iload_n hO dX11_sheet_16 2 rfl ?_
      refine zi_iconst (v := 3) hO dX11_sheet_17 (by decide) ?_
      refine zi_icmp_ge (tgt := 27) hO dX11_sheet_18 (by decide) (fun c2 => ?_) (fun c2 => ?_)
      · have h := h.1 c2
        refine zi_ldc (v := (-1000001)) hO dX11_sheet_27 nX11_100 ?_
        exact zr_I hO hR rfl dX11_sheet_29 h
      · have h := h.2 c2
        refine zi_iload_n hO dX11_sheet_21 3 rfl ?_
        refine zi_bipush (v := 48) hO dX11_sheet_22 (by decide) ?_
        refine zi_icmp_le (tgt := 30) hO dX11_sheet_24 (by decide) (fun c3 => ?_) (fun c3 => ?_)
        · have h := h.1 c3
          refine zi_iload_n hO dX11_sheet_30 3 rfl ?_
          refine zi_if_ge (tgt := 40) hO dX11_sheet_31 (by decide) (fun c4 => ?_) (fun c4 => ?_)
          · have h := h.1 c4
            refine zi_aload hO dX11_sheet_40 4 rfl ?_
            refine zi_iload_n hO dX11_sheet_42 2 rfl ?_
            refine zi_iload_n hO dX11_sheet_43 3 rfl ?_
            obtain ⟨P2, hM2, h⟩ := h
            refine zc_VV (as := [vI x2, vI x3]) hO hN dX11_sheet_44 kX11_105 (by decide) rfl (zI hj1) rfl rfl (Nat.le_of_ble_eq_true rfl) rfl rfl hM2 (fun im2 lv2 hp2 => ?_)
            replace h := h im2 lv2 hp2
            refine zi_aload_n hO dX11_sheet_47 0 rfl ?_
            refine zi_iload_n hO dX11_sheet_48 3 rfl ?_
            refine zc_VI (as := [vI x3]) hO hN dX11_sheet_49 kX11_109 (by decide) rfl (zI (by decide)) rfl rfl (Nat.le_of_ble_eq_true rfl) rfl rfl (C_X11_withoutFinding _ _ _ _) (fun v3 im3 lv3 hp3 => ?_)
            rw [hp3.1, hp3.2.1, hp3.2.2]
            exact zr_I hO hR rfl dX11_sheet_52 h
          · have h := h.2 c4
            refine zi_aload_n hO dX11_sheet_34 0 rfl ?_
            refine zi_iconst (v := 4) hO dX11_sheet_35 (by decide) ?_
            refine zc_VI (as := [vI 4]) hO hN dX11_sheet_36 kX11_101 (by decide) rfl (zI (by decide)) rfl rfl (Nat.le_of_ble_eq_true rfl) rfl rfl (C_X11_found _ _ _ _) (fun v4 im4 lv4 hp4 => ?_)
            rw [hp4.1, hp4.2.1, hp4.2.2]
            exact zr_I hO hR rfl dX11_sheet_39 h
        · have h := h.2 c3
          refine zi_ldc (v := (-1000001)) hO dX11_sheet_27 nX11_100 ?_
          exact zr_I hO hR rfl dX11_sheet_29 h
theorem rX11_set_0 {x : zX} {w : zWd} {im : zMem} {lv : Int64} {P : Int32 → zMem → Int64 → Prop} {x1 : Int32} {x2 : Int32} {x3 : Int32} (hO : zOK x w zyX11_set 4) (hR : zRetI x w zyX11_set P) (hN : zN x 126 126)
 (h : ((0 ≤ x1 ∧ x1 < 8 → (Int32.toNatClampNeg x1) < 8 ∧ (∃ P2 : Int32 → zMem → Int64 → Prop, zSpecI x.2.1 w 3 zyX7_findingFor [vR 41 (Int32.toNatClampNeg x1), vI x2, vI 1] im lv P2 ∧ ∀ (v2 : Int32) (im2 : zMem) (lv2 : Int64), P2 v2 im2 lv2 → ((v2 = 0 → (∃ P3 : Int32 → zMem → Int64 → Prop, zSpecI x.2.1 w 2 zyX7_put [vR 41 (Int32.toNatClampNeg x1), vI x2, vI x3] im2 lv2 P3 ∧ ∀ (v3 : Int32) (im3 : zMem) (lv3 : Int64), P3 v3 im3 lv3 → P v3 (zwr im3 0 0 10 0) lv3)) ∧
 (¬ (v2 = 0) → P ((-1000010) - v2) (zwr im2 0 0 10 v2) lv2)))) ∧
 (¬ (0 ≤ x1 ∧ x1 < 8) → P (-1000001) im lv))) :
 zW x w 0 [(0, vR 0 0), (1, vI x1), (2, vI x2), (3, vI x3)] [] im lv := by
  refine zi_aload_n hO dX11_set_0 0 rfl ?_
  refine zi_iload_n hO dX11_set_1 1 rfl ?_
  refine zc_VQ (as := [vI x1]) hO hN dX11_set_2 kX11_96 (by decide) rfl (zI (by decide)) rfl rfl (Nat.le_of_ble_eq_true rfl) rfl rfl (C_X11_sheetOrNull _ _ _ _) (fun im1 lv1 hp1 => ?_) (fun j1 im1 lv1 hp1 => ?_)
  · rw [hp1.2.1, hp1.2.2]
    have h := h.2 (zq_none hp1.1)
    refine zi_astoreN (L' := [(0, vR 0 0), (1, vI x1), (2, vI x2), (3, vI x3), (4, vN)]) hO dX11_set_5 (by decide) rfl rfl ?_
    refine zi_aloadN hO dX11_set_7 4 rfl ?_
    refine zi_ifnonnullN hO dX11_set_9 ?_
    refine zi_ldc (v := (-1000001)) hO dX11_set_12 nX11_100 ?_
    exact zr_I hO hR rfl dX11_set_14 h
  · rw [hp1.2.1, hp1.2.2, (zq_some hp1.1).2]
    obtain ⟨hj1, h⟩ := h.1 (zq_some hp1.1).1
    refine zi_astore (L' := [(0, vR 0 0), (1, vI x1), (2, vI x2), (3, vI x3), (4, vR 41 (Int32.toNatClampNeg x1))]) hO dX11_set_5 (by decide) rfl rfl ?_
    refine zi_aload hO dX11_set_7 4 rfl ?_
    refine zi_ifnonnull (tgt := 15) hO dX11_set_9 (by decide) ?_
    refine zi_aload hO dX11_set_15 4 rfl ?_
    refine zi_iload_n hO dX11_set_17 2 rfl ?_
    refine zi_iconst (v := 1) hO dX11_set_18 (by decide) ?_
    obtain ⟨P2, hM2, h⟩ := h
    refine zc_VI (as := [vI x2, vI 1]) hO hN dX11_set_19 kX11_112 (by decide) rfl (zI hj1) rfl rfl (Nat.le_of_ble_eq_true rfl) rfl rfl hM2 (fun v2 im2 lv2 hp2 => ?_)
    replace h := h v2 im2 lv2 hp2
    refine zi_istore (L' := [(0, vR 0 0), (1, vI x1), (2, vI x2), (3, vI x3), (4, vR 41 (Int32.toNatClampNeg x1)), (5, vI v2)]) hO dX11_set_22 (by decide) rfl rfl ?_
    refine zi_iload hO dX11_set_24 5 rfl ?_
    refine zi_if_eq (tgt := 38) hO dX11_set_26 (by decide) (fun c1 => ?_) (fun c1 => ?_)
    · have h := h.1 c1
      refine zi_aload_n hO dX11_set_38 0 rfl ?_
      refine zi_aload hO dX11_set_39 4 rfl ?_
      refine zi_iload_n hO dX11_set_41 2 rfl ?_
      refine zi_iload_n hO dX11_set_42 3 rfl ?_
      obtain ⟨P3, hM3, h⟩ := h
      refine zc_VI (as := [vI x2, vI x3]) hO hN dX11_set_43 kX11_116 (by decide) rfl (zI hj1) rfl rfl (Nat.le_of_ble_eq_true rfl) rfl rfl hM3 (fun v3 im3 lv3 hp3 => ?_)
      replace h := h v3 im3 lv3 hp3
      refine zc_VI (as := [vI v3]) hO hN dX11_set_46 kX11_109 (by decide) rfl (zI (by decide)) rfl rfl (Nat.le_of_ble_eq_true rfl) rfl rfl (C_X11_withoutFinding _ _ _ _) (fun v4 im4 lv4 hp4 => ?_)
      rw [hp4.1, hp4.2.1, hp4.2.2]
      exact zr_I hO hR rfl dX11_set_49 h
    · have h := h.2 c1
      refine zi_aload_n hO dX11_set_29 0 rfl ?_
      refine zi_iload hO dX11_set_30 5 rfl ?_
      refine zc_VI (as := [vI v2]) hO hN dX11_set_32 kX11_101 (by decide) rfl (zI (by decide)) rfl rfl (Nat.le_of_ble_eq_true rfl) rfl rfl (C_X11_found _ _ _ _) (fun v5 im5 lv5 hp5 => ?_)
      rw [hp5.1, hp5.2.1, hp5.2.2]
      refine zi_goto (tgt := 49) hO dX11_set_35 (by decide) ?_
      exact zr_I hO hR rfl dX11_set_49 h
theorem rX11_copy_0 {x : zX} {w : zWd} {im : zMem} {lv : Int64} {P : Int32 → zMem → Int64 → Prop} {x1 : Int32} {x2 : Int32} {x3 : Int32} {x4 : Int32} {x5 : Int32} (hO : zOK x w zyX11_copy 3) (hR : zRetI x w zyX11_copy P) (hN : zN x 126 126)
 (h : ((0 ≤ x1 ∧ x1 < 8 → (Int32.toNatClampNeg x1) < 8 ∧ ((0 ≤ x3 ∧ x3 < 8 → (Int32.toNatClampNeg x3) < 8 ∧ (((im 41 (Int32.toNatClampNeg x1) 0) = (-1) → P ((-1000010) - 1) (zwr im 0 0 10 1) lv) ∧
 (¬ ((im 41 (Int32.toNatClampNeg x1) 0) = (-1)) → ((¬ ((im 41 (Int32.toNatClampNeg x3) 0) = (-1)) → (((im 41 (Int32.toNatClampNeg x1) 0) = (im 41 (Int32.toNatClampNeg x3) 0) → ((¬ (0 ≤ x2 ∧ 0 ≤ x5 ∧ x5 ≤ (im 41 (Int32.toNatClampNeg x1) 1) ∧ x2 ≤ ((im 41 (Int32.toNatClampNeg x1) 1) - x5)) → P ((-1000010) - 2) (zwr im 0 0 10 2) lv) ∧
 (0 ≤ x2 ∧ 0 ≤ x5 ∧ x5 ≤ (im 41 (Int32.toNatClampNeg x1) 1) ∧ x2 ≤ ((im 41 (Int32.toNatClampNeg x1) 1) - x5) → ((0 ≤ x4 ∧ 0 ≤ x5 ∧ x5 ≤ (im 41 (Int32.toNatClampNeg x3) 1) ∧ x4 ≤ ((im 41 (Int32.toNatClampNeg x3) 1) - x5) → (¬ (x2 : Int32) < 0 ∧ (¬ (x4 : Int32) < 0 ∧ (¬ (x5 : Int32) < 0 ∧ (Int32.toNatClampNeg x2 + Int32.toNatClampNeg x5 ≤ 48 ∧ (Int32.toNatClampNeg x4 + Int32.toNatClampNeg x5 ≤ 48 ∧ P x5 (zwr (zset im 42 (Int32.toNatClampNeg x3) (va_cpy (im 42 (Int32.toNatClampNeg x1)) (im 42 (Int32.toNatClampNeg x3)) (Int32.toNatClampNeg x2) (Int32.toNatClampNeg x4) (Int32.toNatClampNeg x5))) 0 0 10 0) lv)))))) ∧
 (¬ (0 ≤ x4 ∧ 0 ≤ x5 ∧ x5 ≤ (im 41 (Int32.toNatClampNeg x3) 1) ∧ x4 ≤ ((im 41 (Int32.toNatClampNeg x3) 1) - x5)) → P ((-1000010) - 2) (zwr im 0 0 10 2) lv))))) ∧
 (¬ ((im 41 (Int32.toNatClampNeg x1) 0) = (im 41 (Int32.toNatClampNeg x3) 0)) → P ((-1000010) - 5) (zwr im 0 0 10 5) lv))) ∧
 ((im 41 (Int32.toNatClampNeg x3) 0) = (-1) → P ((-1000010) - 1) (zwr im 0 0 10 1) lv))))) ∧
 (¬ (0 ≤ x3 ∧ x3 < 8) → P (-1000001) im lv))) ∧
 (¬ (0 ≤ x1 ∧ x1 < 8) → ((0 ≤ x3 ∧ x3 < 8 → (Int32.toNatClampNeg x3) < 8 ∧ P (-1000001) im lv) ∧
 (¬ (0 ≤ x3 ∧ x3 < 8) → P (-1000001) im lv))))) :
 zW x w 0 [(0, vR 0 0), (1, vI x1), (2, vI x2), (3, vI x3), (4, vI x4), (5, vI x5)] [] im lv := by
  refine zi_aload_n hO dX11_copy_0 0 rfl ?_
  refine zi_iload_n hO dX11_copy_1 1 rfl ?_
  refine zc_VQ (as := [vI x1]) hO hN dX11_copy_2 kX11_96 (by decide) rfl (zI (by decide)) rfl rfl (Nat.le_of_ble_eq_true rfl) rfl rfl (C_X11_sheetOrNull _ _ _ _) (fun im1 lv1 hp1 => ?_) (fun j1 im1 lv1 hp1 => ?_)
  · rw [hp1.2.1, hp1.2.2]
    have h := h.2 (zq_none hp1.1)
    refine zi_astoreN (L' := [(0, vR 0 0), (1, vI x1), (2, vI x2), (3, vI x3), (4, vI x4), (5, vI x5), (6, vN)]) hO dX11_copy_5 (by decide) rfl rfl ?_
    refine zi_aload_n hO dX11_copy_7 0 rfl ?_
    refine zi_iload_n hO dX11_copy_8 3 rfl ?_
    refine zc_VQ (as := [vI x3]) hO hN dX11_copy_9 kX11_96 (by decide) rfl (zI (by decide)) rfl rfl (Nat.le_of_ble_eq_true rfl) rfl rfl (C_X11_sheetOrNull _ _ _ _) (fun im2 lv2 hp2 => ?_) (fun j2 im2 lv2 hp2 => ?_)
    · rw [hp2.2.1, hp2.2.2]
      have h := h.2 (zq_none hp2.1)
      refine zi_astoreN (L' := [(0, vR 0 0), (1, vI x1), (2, vI x2), (3, vI x3), (4, vI x4), (5, vI x5), (6, vN), (7, vN)]) hO dX11_copy_12 (by decide) rfl rfl ?_
      refine zi_aloadN hO dX11_copy_14 6 rfl ?_
      refine zi_ifnullN (tgt := 24) hO dX11_copy_16 (by decide) ?_
      refine zi_ldc (v := (-1000001)) hO dX11_copy_24 nX11_100 ?_
      exact zr_I hO hR rfl dX11_copy_26 h
    · rw [hp2.2.1, hp2.2.2, (zq_some hp2.1).2]
      obtain ⟨hj2, h⟩ := h.1 (zq_some hp2.1).1
      refine zi_astore (L' := [(0, vR 0 0), (1, vI x1), (2, vI x2), (3, vI x3), (4, vI x4), (5, vI x5), (6, vN), (7, vR 41 (Int32.toNatClampNeg x3))]) hO dX11_copy_12 (by decide) rfl rfl ?_
      refine zi_aloadN hO dX11_copy_14 6 rfl ?_
      refine zi_ifnullN (tgt := 24) hO dX11_copy_16 (by decide) ?_
      refine zi_ldc (v := (-1000001)) hO dX11_copy_24 nX11_100 ?_
      exact zr_I hO hR rfl dX11_copy_26 h
  · rw [hp1.2.1, hp1.2.2, (zq_some hp1.1).2]
    obtain ⟨hj1, h⟩ := h.1 (zq_some hp1.1).1
    refine zi_astore (L' := [(0, vR 0 0), (1, vI x1), (2, vI x2), (3, vI x3), (4, vI x4), (5, vI x5), (6, vR 41 (Int32.toNatClampNeg x1))]) hO dX11_copy_5 (by decide) rfl rfl ?_
    refine zi_aload_n hO dX11_copy_7 0 rfl ?_
    refine zi_iload_n hO dX11_copy_8 3 rfl ?_
    refine zc_VQ (as := [vI x3]) hO hN dX11_copy_9 kX11_96 (by decide) rfl (zI (by decide)) rfl rfl (Nat.le_of_ble_eq_true rfl) rfl rfl (C_X11_sheetOrNull _ _ _ _) (fun im3 lv3 hp3 => ?_) (fun j3 im3 lv3 hp3 => ?_)
    · rw [hp3.2.1, hp3.2.2]
      have h := h.2 (zq_none hp3.1)
      refine zi_astoreN (L' := [(0, vR 0 0), (1, vI x1), (2, vI x2), (3, vI x3), (4, vI x4), (5, vI x5), (6, vR 41 (Int32.toNatClampNeg x1)), (7, vN)]) hO dX11_copy_12 (by decide) rfl rfl ?_
      refine zi_aload hO dX11_copy_14 6 rfl ?_
      refine zi_ifnull hO dX11_copy_16 ?_
      refine zi_aloadN hO dX11_copy_19 7 rfl ?_
      refine zi_ifnonnullN hO dX11_copy_21 ?_
      refine zi_ldc (v := (-1000001)) hO dX11_copy_24 nX11_100 ?_
      exact zr_I hO hR rfl dX11_copy_26 h
    · rw [hp3.2.1, hp3.2.2, (zq_some hp3.1).2]
      obtain ⟨hj3, h⟩ := h.1 (zq_some hp3.1).1
      refine zi_astore (L' := [(0, vR 0 0), (1, vI x1), (2, vI x2), (3, vI x3), (4, vI x4), (5, vI x5), (6, vR 41 (Int32.toNatClampNeg x1)), (7, vR 41 (Int32.toNatClampNeg x3))]) hO dX11_copy_12 (by decide) rfl rfl ?_
      refine zi_aload hO dX11_copy_14 6 rfl ?_
      refine zi_ifnull hO dX11_copy_16 ?_
      refine zi_aload hO dX11_copy_19 7 rfl ?_
      refine zi_ifnonnull (tgt := 27) hO dX11_copy_21 (by decide) ?_
      refine zi_aload hO dX11_copy_27 6 rfl ?_
      refine zc_VI (as := []) hO hN dX11_copy_29 kX11_119 (by decide) rfl (zI hj1) rfl rfl (Nat.le_of_ble_eq_true rfl) rfl rfl (C_X7_isMissing _ _ _ _ hj1) (fun v4 im4 lv4 hp4 => ?_)
      rw [hp4.1, hp4.2.1, hp4.2.2]
      refine zi_if_ne (tgt := 43) hO dX11_copy_32 (by decide) (fun c1 => ?_) (fun c1 => ?_)
      · have h := h.1 (vB_1.mp (vB_01.resolve_left c1))
        refine zi_aload_n hO dX11_copy_43 0 rfl ?_
        refine zi_iconst (v := 1) hO dX11_copy_44 (by decide) ?_
        refine zc_VI (as := [vI 1]) hO hN dX11_copy_45 kX11_101 (by decide) rfl (zI (by decide)) rfl rfl (Nat.le_of_ble_eq_true rfl) rfl rfl (C_X11_found _ _ _ _) (fun v5 im5 lv5 hp5 => ?_)
        rw [hp5.1, hp5.2.1, hp5.2.2]
        exact zr_I hO hR rfl dX11_copy_48 h
      · have h := h.2 (vB_0.mp c1)
        refine zi_aload hO dX11_copy_35 7 rfl ?_
        refine zc_VI (as := []) hO hN dX11_copy_37 kX11_119 (by decide) rfl (zI hj3) rfl rfl (Nat.le_of_ble_eq_true rfl) rfl rfl (C_X7_isMissing _ _ _ _ hj3) (fun v6 im6 lv6 hp6 => ?_)
        rw [hp6.1, hp6.2.1, hp6.2.2]
        refine zi_if_eq (tgt := 49) hO dX11_copy_40 (by decide) (fun c2 => ?_) (fun c2 => ?_)
        · have h := h.1 (vB_0.mp c2)
          refine zi_aload hO dX11_copy_49 6 rfl ?_
          refine zi_getI hO dX11_copy_51 fX11_123 rfl rfl (zI hj1) ?_
          refine zi_aload hO dX11_copy_54 7 rfl ?_
          refine zi_getI hO dX11_copy_56 fX11_123 rfl rfl (zI hj3) ?_
          refine zi_icmp_eq (tgt := 68) hO dX11_copy_59 (by decide) (fun c3 => ?_) (fun c3 => ?_)
          · have h := h.1 c3
            refine zi_aload hO dX11_copy_68 6 rfl ?_
            refine zi_iload_n hO dX11_copy_70 2 rfl ?_
            refine zi_iload hO dX11_copy_71 5 rfl ?_
            refine zc_VI (as := [vI x2, vI x5]) hO hN dX11_copy_73 kX11_126 (by decide) rfl (zI hj1) rfl rfl (Nat.le_of_ble_eq_true rfl) rfl rfl (C_X7_hasPlaces _ _ _ _ hj1) (fun v7 im7 lv7 hp7 => ?_)
            rw [hp7.1, hp7.2.1, hp7.2.2]
            refine zi_if_eq (tgt := 91) hO dX11_copy_76 (by decide) (fun c4 => ?_) (fun c4 => ?_)
            · have h := h.1 (vB_0.mp c4)
              refine zi_aload_n hO dX11_copy_91 0 rfl ?_
              refine zi_iconst (v := 2) hO dX11_copy_92 (by decide) ?_
              refine zc_VI (as := [vI 2]) hO hN dX11_copy_93 kX11_101 (by decide) rfl (zI (by decide)) rfl rfl (Nat.le_of_ble_eq_true rfl) rfl rfl (C_X11_found _ _ _ _) (fun v8 im8 lv8 hp8 => ?_)
              rw [hp8.1, hp8.2.1, hp8.2.2]
              exact zr_I hO hR rfl dX11_copy_96 h
            · have h := h.2 (vB_1.mp (vB_01.resolve_left c4))
              refine zi_aload hO dX11_copy_79 7 rfl ?_
              refine zi_iload hO dX11_copy_81 4 rfl ?_
              refine zi_iload hO dX11_copy_83 5 rfl ?_
              refine zc_VI (as := [vI x4, vI x5]) hO hN dX11_copy_85 kX11_126 (by decide) rfl (zI hj3) rfl rfl (Nat.le_of_ble_eq_true rfl) rfl rfl (C_X7_hasPlaces _ _ _ _ hj3) (fun v9 im9 lv9 hp9 => ?_)
              rw [hp9.1, hp9.2.1, hp9.2.2]
              refine zi_if_ne (tgt := 97) hO dX11_copy_88 (by decide) (fun c5 => ?_) (fun c5 => ?_)
              · have h := h.1 (vB_1.mp (vB_01.resolve_left c5))
                refine zi_aload hO dX11_copy_97 6 rfl ?_
                refine zi_getR (r' := 42) (i' := (Int32.toNatClampNeg x1)) hO dX11_copy_99 fX11_130 rfl rfl (zI hj1) rfl ?_
                refine zi_iload_n hO dX11_copy_102 2 rfl ?_
                refine zi_aload hO dX11_copy_103 7 rfl ?_
                refine zi_getR (r' := 42) (i' := (Int32.toNatClampNeg x3)) hO dX11_copy_105 fX11_130 rfl rfl (zI hj3) rfl ?_
                refine zi_iload hO dX11_copy_108 4 rfl ?_
                refine zi_iload hO dX11_copy_110 5 rfl ?_
                obtain ⟨s10, h⟩ := h
                obtain ⟨s11, h⟩ := h
                obtain ⟨s12, h⟩ := h
                obtain ⟨s13, h⟩ := h
                obtain ⟨s14, h⟩ := h
                refine zi_copy hO (by decide) dX11_copy_112 qX11_134 q_copy_n q_copy_s q_sys_i rfl (zI hj1) rfl (zI hj3) s10 s11 s12 s13 s14 (Nat.le_of_ble_eq_true rfl) ?_
                refine zi_aload_n hO dX11_copy_115 0 rfl ?_
                refine zi_iload hO dX11_copy_116 5 rfl ?_
                refine zc_VI (as := [vI x5]) hO hN dX11_copy_118 kX11_109 (by decide) rfl (zI (by decide)) rfl rfl (Nat.le_of_ble_eq_true rfl) rfl rfl (C_X11_withoutFinding _ _ _ _) (fun v15 im15 lv15 hp15 => ?_)
                rw [hp15.1, hp15.2.1, hp15.2.2]
                exact zr_I hO hR rfl dX11_copy_121 h
              · have h := h.2 (vB_0.mp c5)
                refine zi_aload_n hO dX11_copy_91 0 rfl ?_
                refine zi_iconst (v := 2) hO dX11_copy_92 (by decide) ?_
                refine zc_VI (as := [vI 2]) hO hN dX11_copy_93 kX11_101 (by decide) rfl (zI (by decide)) rfl rfl (Nat.le_of_ble_eq_true rfl) rfl rfl (C_X11_found _ _ _ _) (fun v16 im16 lv16 hp16 => ?_)
                rw [hp16.1, hp16.2.1, hp16.2.2]
                exact zr_I hO hR rfl dX11_copy_96 h
          · have h := h.2 c3
            refine zi_aload_n hO dX11_copy_62 0 rfl ?_
            refine zi_iconst (v := 5) hO dX11_copy_63 (by decide) ?_
            refine zc_VI (as := [vI 5]) hO hN dX11_copy_64 kX11_101 (by decide) rfl (zI (by decide)) rfl rfl (Nat.le_of_ble_eq_true rfl) rfl rfl (C_X11_found _ _ _ _) (fun v17 im17 lv17 hp17 => ?_)
            rw [hp17.1, hp17.2.1, hp17.2.2]
            exact zr_I hO hR rfl dX11_copy_67 h
        · have h := h.2 (vB_1.mp (vB_01.resolve_left c2))
          refine zi_aload_n hO dX11_copy_43 0 rfl ?_
          refine zi_iconst (v := 1) hO dX11_copy_44 (by decide) ?_
          refine zc_VI (as := [vI 1]) hO hN dX11_copy_45 kX11_101 (by decide) rfl (zI (by decide)) rfl rfl (Nat.le_of_ble_eq_true rfl) rfl rfl (C_X11_found _ _ _ _) (fun v18 im18 lv18 hp18 => ?_)
          rw [hp18.1, hp18.2.1, hp18.2.2]
          exact zr_I hO hR rfl dX11_copy_48 h
theorem rX11_drop_0 {x : zX} {w : zWd} {im : zMem} {lv : Int64} {P : Int32 → zMem → Int64 → Prop} {x1 : Int32} (hO : zOK x w zyX11_drop 3) (hR : zRetI x w zyX11_drop P) (hN : zN x 126 126)
 (h : ((0 ≤ x1 ∧ x1 < 8 → (Int32.toNatClampNeg x1) < 8 ∧ ((¬ ((im 41 (Int32.toNatClampNeg x1) 0) = (-1)) → (∃ P3 : Int32 → zMem → Int64 → Prop, zSpecI x.2.1 w 2 zyX7_end [vR 41 (Int32.toNatClampNeg x1)] im lv P3 ∧ ∀ (v3 : Int32) (im3 : zMem) (lv3 : Int64), P3 v3 im3 lv3 → P v3 (zwr im3 0 0 10 0) lv3)) ∧
 ((im 41 (Int32.toNatClampNeg x1) 0) = (-1) → P ((-1000010) - 1) (zwr im 0 0 10 1) lv))) ∧
 (¬ (0 ≤ x1 ∧ x1 < 8) → P (-1000001) im lv))) :
 zW x w 0 [(0, vR 0 0), (1, vI x1)] [] im lv := by
  refine zi_aload_n hO dX11_drop_0 0 rfl ?_
  refine zi_iload_n hO dX11_drop_1 1 rfl ?_
  refine zc_VQ (as := [vI x1]) hO hN dX11_drop_2 kX11_96 (by decide) rfl (zI (by decide)) rfl rfl (Nat.le_of_ble_eq_true rfl) rfl rfl (C_X11_sheetOrNull _ _ _ _) (fun im1 lv1 hp1 => ?_) (fun j1 im1 lv1 hp1 => ?_)
  · rw [hp1.2.1, hp1.2.2]
    have h := h.2 (zq_none hp1.1)
    refine zi_astore_nN (L' := [(0, vR 0 0), (1, vI x1), (2, vN)]) hO dX11_drop_5 (by decide) rfl rfl ?_
    refine zi_aload_nN hO dX11_drop_6 2 rfl ?_
    refine zi_ifnonnullN hO dX11_drop_7 ?_
    refine zi_ldc (v := (-1000001)) hO dX11_drop_10 nX11_100 ?_
    exact zr_I hO hR rfl dX11_drop_12 h
  · rw [hp1.2.1, hp1.2.2, (zq_some hp1.1).2]
    obtain ⟨hj1, h⟩ := h.1 (zq_some hp1.1).1
    refine zi_astore_n (L' := [(0, vR 0 0), (1, vI x1), (2, vR 41 (Int32.toNatClampNeg x1))]) hO dX11_drop_5 (by decide) rfl rfl ?_
    refine zi_aload_n hO dX11_drop_6 2 rfl ?_
    refine zi_ifnonnull (tgt := 13) hO dX11_drop_7 (by decide) ?_
    refine zi_aload_n hO dX11_drop_13 2 rfl ?_
    refine zc_VI (as := []) hO hN dX11_drop_14 kX11_119 (by decide) rfl (zI hj1) rfl rfl (Nat.le_of_ble_eq_true rfl) rfl rfl (C_X7_isMissing _ _ _ _ hj1) (fun v2 im2 lv2 hp2 => ?_)
    rw [hp2.1, hp2.2.1, hp2.2.2]
    refine zi_if_eq (tgt := 28) hO dX11_drop_17 (by decide) (fun c1 => ?_) (fun c1 => ?_)
    · have h := h.1 (vB_0.mp c1)
      refine zi_aload_n hO dX11_drop_28 0 rfl ?_
      refine zi_aload_n hO dX11_drop_29 2 rfl ?_
      obtain ⟨P3, hM3, h⟩ := h
      refine zc_VI (as := []) hO hN dX11_drop_30 kX11_140 (by decide) rfl (zI hj1) rfl rfl (Nat.le_of_ble_eq_true rfl) rfl rfl hM3 (fun v3 im3 lv3 hp3 => ?_)
      replace h := h v3 im3 lv3 hp3
      refine zc_VI (as := [vI v3]) hO hN dX11_drop_33 kX11_109 (by decide) rfl (zI (by decide)) rfl rfl (Nat.le_of_ble_eq_true rfl) rfl rfl (C_X11_withoutFinding _ _ _ _) (fun v4 im4 lv4 hp4 => ?_)
      rw [hp4.1, hp4.2.1, hp4.2.2]
      exact zr_I hO hR rfl dX11_drop_36 h
    · have h := h.2 (vB_1.mp (vB_01.resolve_left c1))
      refine zi_aload_n hO dX11_drop_20 0 rfl ?_
      refine zi_iconst (v := 1) hO dX11_drop_21 (by decide) ?_
      refine zc_VI (as := [vI 1]) hO hN dX11_drop_22 kX11_101 (by decide) rfl (zI (by decide)) rfl rfl (Nat.le_of_ble_eq_true rfl) rfl rfl (C_X11_found _ _ _ _) (fun v5 im5 lv5 hp5 => ?_)
      rw [hp5.1, hp5.2.1, hp5.2.2]
      refine zi_goto (tgt := 36) hO dX11_drop_25 (by decide) ?_
      exact zr_I hO hR rfl dX11_drop_36 h
theorem rX11_fillFromSheet_0 {x : zX} {w : zWd} {im : zMem} {lv : Int64} {P : Int32 → zMem → Int64 → Prop} {ra : Nat} {ia : Nat} {Na : Nat} {x2 : Int32} {x3 : Int32} {x4 : Int32} {x5 : Int32} {x6 : Int32} (hO : zOK x w zyX11_fillFromSheet 4) (hR : zRetI x w zyX11_fillFromSheet P) (hN : zN x 126 126) (hka : zkd ra = (1, Na, 0)) (hia : ia < zcnt ra)
 (h : ((0 ≤ x3 ∧ x3 < 8 → (Int32.toNatClampNeg x3) < 8 ∧ (∃ P2 : Int32 → zMem → Int64 → Prop, zSpecI x.2.1 w 3 zyX7_findingFor [vR 41 (Int32.toNatClampNeg x3), vI x4, vI x5] im lv P2 ∧ ∀ (v2 : Int32) (im2 : zMem) (lv2 : Int64), P2 v2 im2 lv2 → ((v2 = 0 → (∃ P3 : Int32 → zMem → Int64 → Prop, zSpecI x.2.1 w 2 zyX7_hasOnlyUpTo [vR 41 (Int32.toNatClampNeg x3), vI x6, vI x4, vI x5] im2 lv2 P3 ∧ ∀ (v3 : Int32) (im3 : zMem) (lv3 : Int64), P3 v3 im3 lv3 → ((¬ (v3 = 0) → (¬ (x4 : Int32) < 0 ∧ (¬ (x2 : Int32) < 0 ∧ (¬ (x5 : Int32) < 0 ∧ (Int32.toNatClampNeg x4 + Int32.toNatClampNeg x5 ≤ 48 ∧ (Int32.toNatClampNeg x2 + Int32.toNatClampNeg x5 ≤ Na ∧ P x5 (zwr (zset im3 ra ia (va_cpy (im3 42 (Int32.toNatClampNeg x3)) (im3 ra ia) (Int32.toNatClampNeg x4) (Int32.toNatClampNeg x2) (Int32.toNatClampNeg x5))) 0 0 10 0) lv3)))))) ∧
 (v3 = 0 → P (-1000001) im3 lv3)))) ∧
 (¬ (v2 = 0) → P ((-1000010) - v2) (zwr im2 0 0 10 v2) lv2)))) ∧
 (¬ (0 ≤ x3 ∧ x3 < 8) → P (-1000001) im lv))) :
 zW x w 0 [(0, vR 0 0), (1, vR ra ia), (2, vI x2), (3, vI x3), (4, vI x4), (5, vI x5), (6, vI x6)] [] im lv := by
  refine zi_aload_n hO dX11_fillFromSheet_0 0 rfl ?_
  refine zi_iload_n hO dX11_fillFromSheet_1 3 rfl ?_
  refine zc_VQ (as := [vI x3]) hO hN dX11_fillFromSheet_2 kX11_96 (by decide) rfl (zI (by decide)) rfl rfl (Nat.le_of_ble_eq_true rfl) rfl rfl (C_X11_sheetOrNull _ _ _ _) (fun im1 lv1 hp1 => ?_) (fun j1 im1 lv1 hp1 => ?_)
  · rw [hp1.2.1, hp1.2.2]
    have h := h.2 (zq_none hp1.1)
    refine zi_astoreN (L' := [(0, vR 0 0), (1, vR ra ia), (2, vI x2), (3, vI x3), (4, vI x4), (5, vI x5), (6, vI x6), (7, vN)]) hO dX11_fillFromSheet_5 (by decide) rfl rfl ?_
    refine zi_aloadN hO dX11_fillFromSheet_7 7 rfl ?_
    refine zi_ifnonnullN hO dX11_fillFromSheet_9 ?_
    refine zi_ldc (v := (-1000001)) hO dX11_fillFromSheet_12 nX11_100 ?_
    exact zr_I hO hR rfl dX11_fillFromSheet_14 h
  · rw [hp1.2.1, hp1.2.2, (zq_some hp1.1).2]
    obtain ⟨hj1, h⟩ := h.1 (zq_some hp1.1).1
    refine zi_astore (L' := [(0, vR 0 0), (1, vR ra ia), (2, vI x2), (3, vI x3), (4, vI x4), (5, vI x5), (6, vI x6), (7, vR 41 (Int32.toNatClampNeg x3))]) hO dX11_fillFromSheet_5 (by decide) rfl rfl ?_
    refine zi_aload hO dX11_fillFromSheet_7 7 rfl ?_
    refine zi_ifnonnull (tgt := 15) hO dX11_fillFromSheet_9 (by decide) ?_
    refine zi_aload hO dX11_fillFromSheet_15 7 rfl ?_
    refine zi_iload hO dX11_fillFromSheet_17 4 rfl ?_
    refine zi_iload hO dX11_fillFromSheet_19 5 rfl ?_
    obtain ⟨P2, hM2, h⟩ := h
    refine zc_VI (as := [vI x4, vI x5]) hO hN dX11_fillFromSheet_21 kX11_112 (by decide) rfl (zI hj1) rfl rfl (Nat.le_of_ble_eq_true rfl) rfl rfl hM2 (fun v2 im2 lv2 hp2 => ?_)
    replace h := h v2 im2 lv2 hp2
    refine zi_istore (L' := [(0, vR 0 0), (1, vR ra ia), (2, vI x2), (3, vI x3), (4, vI x4), (5, vI x5), (6, vI x6), (7, vR 41 (Int32.toNatClampNeg x3)), (8, vI v2)]) hO dX11_fillFromSheet_24 (by decide) rfl rfl ?_
    refine zi_iload hO dX11_fillFromSheet_26 8 rfl ?_
    refine zi_if_eq (tgt := 38) hO dX11_fillFromSheet_28 (by decide) (fun c1 => ?_) (fun c1 => ?_)
    · have h := h.1 c1
      refine zi_aload hO dX11_fillFromSheet_38 7 rfl ?_
      refine zi_iload hO dX11_fillFromSheet_40 6 rfl ?_
      refine zi_iload hO dX11_fillFromSheet_42 4 rfl ?_
      refine zi_iload hO dX11_fillFromSheet_44 5 rfl ?_
      obtain ⟨P3, hM3, h⟩ := h
      refine zc_VI (as := [vI x6, vI x4, vI x5]) hO hN dX11_fillFromSheet_46 kX11_354 (by decide) rfl (zI hj1) rfl rfl (Nat.le_of_ble_eq_true rfl) rfl rfl hM3 (fun v3 im3 lv3 hp3 => ?_)
      replace h := h v3 im3 lv3 hp3
      refine zi_if_ne (tgt := 55) hO dX11_fillFromSheet_49 (by decide) (fun c2 => ?_) (fun c2 => ?_)
      · have h := h.1 c2
        refine zi_aload hO dX11_fillFromSheet_55 7 rfl ?_
        refine zi_getR (r' := 42) (i' := (Int32.toNatClampNeg x3)) hO dX11_fillFromSheet_57 fX11_130 rfl rfl (zI hj1) rfl ?_
        refine zi_iload hO dX11_fillFromSheet_60 4 rfl ?_
        refine zi_aload_n hO dX11_fillFromSheet_62 1 rfl ?_
        refine zi_iload_n hO dX11_fillFromSheet_63 2 rfl ?_
        refine zi_iload hO dX11_fillFromSheet_64 5 rfl ?_
        obtain ⟨s4, h⟩ := h
        obtain ⟨s5, h⟩ := h
        obtain ⟨s6, h⟩ := h
        obtain ⟨s7, h⟩ := h
        obtain ⟨s8, h⟩ := h
        refine zi_copy hO (by decide) dX11_fillFromSheet_66 qX11_134 q_copy_n q_copy_s q_sys_i rfl (zI hj1) hka (zI hia) s4 s5 s6 s7 s8 (Nat.le_of_ble_eq_true rfl) ?_
        refine zi_aload_n hO dX11_fillFromSheet_69 0 rfl ?_
        refine zi_iload hO dX11_fillFromSheet_70 5 rfl ?_
        refine zc_VI (as := [vI x5]) hO hN dX11_fillFromSheet_72 kX11_109 (by decide) rfl (zI (by decide)) rfl rfl (Nat.le_of_ble_eq_true rfl) rfl rfl (C_X11_withoutFinding _ _ _ _) (fun v9 im9 lv9 hp9 => ?_)
        rw [hp9.1, hp9.2.1, hp9.2.2]
        exact zr_I hO hR rfl dX11_fillFromSheet_75 h
      · have h := h.2 c2
        refine zi_ldc (v := (-1000001)) hO dX11_fillFromSheet_52 nX11_100 ?_
        exact zr_I hO hR rfl dX11_fillFromSheet_54 h
    · have h := h.2 c1
      refine zi_aload_n hO dX11_fillFromSheet_31 0 rfl ?_
      refine zi_iload hO dX11_fillFromSheet_32 8 rfl ?_
      refine zc_VI (as := [vI v2]) hO hN dX11_fillFromSheet_34 kX11_101 (by decide) rfl (zI (by decide)) rfl rfl (Nat.le_of_ble_eq_true rfl) rfl rfl (C_X11_found _ _ _ _) (fun v10 im10 lv10 hp10 => ?_)
      rw [hp10.1, hp10.2.1, hp10.2.2]
      exact zr_I hO hR rfl dX11_fillFromSheet_37 h
theorem rX11_bears_0 {x : zX} {w : zWd} {im : zMem} {lv : Int64} {P : Int32 → zMem → Int64 → Prop} {x1 : Int32} {x2 : Int32} {x3 : Int32} {x4 : Int32} {x5 : Int32} (hO : zOK x w zyX11_bears 5) (hR : zRetI x w zyX11_bears P) (hN : zN x 126 126)
 (h : ((¬ (0 ≤ x1 ∧ x1 < 8) → P (-1000001) im lv) ∧
 (0 ≤ x1 ∧ x1 < 8 → (((0 ≤ x2 ∧ x2 < 48) ∧ 1 ≤ x5 ∧ x5 ≤ (48 - x2) → (∃ P4 : Int32 → zMem → Int64 → Prop, zSpecI x.2.1 w 4 zyX11_fillFromSheet [vR 0 0, vR 3 0, vI ((x1 * 48) + x2), vI x3, vI x4, vI x5, vI 99] im lv P4 ∧ ∀ (v4 : Int32) (im4 : zMem) (lv4 : Int64), P4 v4 im4 lv4 → P v4 im4 lv4)) ∧
 (¬ ((0 ≤ x2 ∧ x2 < 48) ∧ 1 ≤ x5 ∧ x5 ≤ (48 - x2)) → P (-1000001) im lv))))) :
 zW x w 0 [(0, vR 0 0), (1, vI x1), (2, vI x2), (3, vI x3), (4, vI x4), (5, vI x5)] [] im lv := by
  refine zi_iload_n hO dX11_bears_0 1 rfl ?_
  refine zc_SI (as := [vI x1]) hO hN dX11_bears_1 kX11_144 (by decide) rfl (Nat.le_of_ble_eq_true rfl) rfl rfl (C_X11_isRoom _ _ _ _) (fun v1 im1 lv1 hp1 => ?_)
  rw [hp1.1, hp1.2.1, hp1.2.2]
  refine zi_if_eq (tgt := 16) hO dX11_bears_4 (by decide) (fun c1 => ?_) (fun c1 => ?_)
  · have h := h.1 (vB_0.mp c1)
    refine zi_ldc (v := (-1000001)) hO dX11_bears_16 nX11_100 ?_
    exact zr_I hO hR rfl dX11_bears_18 h
  · have h := h.2 (vB_1.mp (vB_01.resolve_left c1))
    refine zi_iload_n hO dX11_bears_7 2 rfl ?_
    refine zi_iload hO dX11_bears_8 5 rfl ?_
    refine zc_SI (as := [vI x2, vI x5]) hO hN dX11_bears_10 kX11_148 (by decide) rfl (Nat.le_of_ble_eq_true rfl) rfl rfl (C_X11_areSlots _ _ _ _) (fun v2 im2 lv2 hp2 => ?_)
    rw [hp2.1, hp2.2.1, hp2.2.2]
    refine zi_if_ne (tgt := 19) hO dX11_bears_13 (by decide) (fun c2 => ?_) (fun c2 => ?_)
    · have h := h.1 (vB_1.mp (vB_01.resolve_left c2))
      refine zi_aload_n hO dX11_bears_19 0 rfl ?_
      refine zi_aload_n hO dX11_bears_20 0 rfl ?_
      refine zi_getR (r' := 2) (i' := 0) hO dX11_bears_21 fX11_18 rfl rfl (zI (by decide)) rfl ?_
      refine zi_getR (r' := 3) (i' := 0) hO dX11_bears_24 fX11_151 rfl rfl (zI (by decide)) rfl ?_
      refine zi_iload_n hO dX11_bears_27 1 rfl ?_
      refine zi_iload_n hO dX11_bears_28 2 rfl ?_
      refine zc_SI (as := [vI x1, vI x2]) hO hN dX11_bears_29 kX11_154 (by decide) rfl (Nat.le_of_ble_eq_true rfl) rfl rfl (C_X11_cellOf _ _ _ _) (fun v3 im3 lv3 hp3 => ?_)
      rw [hp3.1, hp3.2.1, hp3.2.2]
      refine zi_iload_n hO dX11_bears_32 3 rfl ?_
      refine zi_iload hO dX11_bears_33 4 rfl ?_
      refine zi_iload hO dX11_bears_35 5 rfl ?_
      refine zi_bipush (v := 99) hO dX11_bears_37 (by decide) ?_
      obtain ⟨P4, hM4, h⟩ := h
      refine zc_VI (as := [vR 3 0, vI ((x1 * 48) + x2), vI x3, vI x4, vI x5, vI 99]) hO hN dX11_bears_39 kX11_157 (by decide) rfl (zI (by decide)) rfl rfl (Nat.le_of_ble_eq_true rfl) rfl rfl hM4 (fun v4 im4 lv4 hp4 => ?_)
      replace h := h v4 im4 lv4 hp4
      exact zr_I hO hR rfl dX11_bears_42 h
    · have h := h.2 (vB_0.mp c2)
      refine zi_ldc (v := (-1000001)) hO dX11_bears_16 nX11_100 ?_
      exact zr_I hO hR rfl dX11_bears_18 h
theorem rX11_staff_0 {x : zX} {w : zWd} {im : zMem} {lv : Int64} {P : Int32 → zMem → Int64 → Prop} {x1 : Int32} {x2 : Int32} {x3 : Int32} {x4 : Int32} (hO : zOK x w zyX11_staff 5) (hR : zRetI x w zyX11_staff P) (hN : zN x 126 126)
 (h : (((0 ≤ x1 ∧ x1 < 48) ∧ 1 ≤ x4 ∧ x4 ≤ (48 - x1) → (∃ P2 : Int32 → zMem → Int64 → Prop, zSpecI x.2.1 w 4 zyX11_fillFromSheet [vR 0 0, vR 4 0, vI x1, vI x2, vI x3, vI x4, vI 9] im lv P2 ∧ ∀ (v2 : Int32) (im2 : zMem) (lv2 : Int64), P2 v2 im2 lv2 → P v2 im2 lv2)) ∧
 (¬ ((0 ≤ x1 ∧ x1 < 48) ∧ 1 ≤ x4 ∧ x4 ≤ (48 - x1)) → P (-1000001) im lv))) :
 zW x w 0 [(0, vR 0 0), (1, vI x1), (2, vI x2), (3, vI x3), (4, vI x4)] [] im lv := by
  refine zi_iload_n hO dX11_staff_0 1 rfl ?_
  refine zi_iload hO dX11_staff_1 4 rfl ?_
  refine zc_SI (as := [vI x1, vI x4]) hO hN dX11_staff_3 kX11_148 (by decide) rfl (Nat.le_of_ble_eq_true rfl) rfl rfl (C_X11_areSlots _ _ _ _) (fun v1 im1 lv1 hp1 => ?_)
  rw [hp1.1, hp1.2.1, hp1.2.2]
  refine zi_if_ne (tgt := 12) hO dX11_staff_6 (by decide) (fun c1 => ?_) (fun c1 => ?_)
  · have h := h.1 (vB_1.mp (vB_01.resolve_left c1))
    refine zi_aload_n hO dX11_staff_12 0 rfl ?_
    refine zi_aload_n hO dX11_staff_13 0 rfl ?_
    refine zi_getR (r' := 2) (i' := 0) hO dX11_staff_14 fX11_18 rfl rfl (zI (by decide)) rfl ?_
    refine zi_getR (r' := 4) (i' := 0) hO dX11_staff_17 fX11_161 rfl rfl (zI (by decide)) rfl ?_
    refine zi_iload_n hO dX11_staff_20 1 rfl ?_
    refine zi_iload_n hO dX11_staff_21 2 rfl ?_
    refine zi_iload_n hO dX11_staff_22 3 rfl ?_
    refine zi_iload hO dX11_staff_23 4 rfl ?_
    refine zi_bipush (v := 9) hO dX11_staff_25 (by decide) ?_
    obtain ⟨P2, hM2, h⟩ := h
    refine zc_VI (as := [vR 4 0, vI x1, vI x2, vI x3, vI x4, vI 9]) hO hN dX11_staff_27 kX11_157 (by decide) rfl (zI (by decide)) rfl rfl (Nat.le_of_ble_eq_true rfl) rfl rfl hM2 (fun v2 im2 lv2 hp2 => ?_)
    replace h := h v2 im2 lv2 hp2
    exact zr_I hO hR rfl dX11_staff_30 h
  · have h := h.2 (vB_0.mp c1)
    refine zi_ldc (v := (-1000001)) hO dX11_staff_9 nX11_100 ?_
    exact zr_I hO hR rfl dX11_staff_11 h
theorem rX10_takeBytes_0 {x : zX} {w : zWd} {im : zMem} {lv : Int64} {P : Int32 → zMem → Int64 → Prop} {y1 : Int64} {x3 : Int32} (hO : zOK x w zyX10_takeBytes 2) (hR : zRetI x w zyX10_takeBytes P) (hN : zN x 126 126)
 (h : ((x3 ≤ (500 - (im 16 0 1)) → zW x w 19 [(0, vR 16 0), (1, vL y1), (3, vI x3), (4, vI (x3 - 1))] [] im lv) ∧
 (¬ (x3 ≤ (500 - (im 16 0 1))) → P 0 im lv))) :
 zW x w 0 [(0, vR 16 0), (1, vL y1), (3, vI x3)] [] im lv := by
  refine zi_iload_n hO dX10_takeBytes_0 2 rfl ?_
  refine zi_sipush (v := 500) hO dX10_takeBytes_1 (by decide) ?_
  refine zi_aload_n hO dX10_takeBytes_4 0 rfl ?_
  refine zi_getI hO dX10_takeBytes_5 fX10_15 rfl rfl (zI (by decide)) ?_
  refine zi_isub hO dX10_takeBytes_8 ?_
  refine zi_icmp_le (tgt := 14) hO dX10_takeBytes_9 (by decide) (fun c1 => ?_) (fun c1 => ?_)
  · have h := h.1 c1
    refine zi_iload_n hO dX10_takeBytes_14 2 rfl ?_
    refine zi_iconst (v := 1) hO dX10_takeBytes_15 (by decide) ?_
    refine zi_isub hO dX10_takeBytes_16 ?_
    refine zi_istore (L' := [(0, vR 16 0), (1, vL y1), (3, vI x3), (4, vI (x3 - 1))]) hO dX10_takeBytes_17 (by decide) rfl rfl ?_
    exact h
  · have h := h.2 c1
    refine zi_iconst (v := 0) hO dX10_takeBytes_12 (by decide) ?_
    exact zr_Z hO hR rfl (Or.inl rfl) dX10_takeBytes_13 h
theorem rX10_takeBytes_19 {x : zX} {w : zWd} {im : zMem} {lv : Int64} {P : Int32 → zMem → Int64 → Prop} {y1 : Int64} {x3 : Int32} {x4 : Int32} (hO : zOK x w zyX10_takeBytes 2) (hR : zRetI x w zyX10_takeBytes P) (hN : zN x 126 126)
 (h : ((x4 < 0 → P 1 im lv) ∧
 (¬ (x4 < 0) → (vp_in (im 16 0 1) 500 ∧ zW x w 19 [(0, vR 16 0), (1, vL y1), (3, vI x3), (4, vI (x4 + (-1)))] [] (zwr (zwr im 17 0 (Int32.toNatClampNeg (im 16 0 1)) (Int64.toInt32 ((y1 >>> (Int32.toInt64 (8 * x4) &&& 63)) &&& (255 : Int64)))) 16 0 1 ((im 16 0 1) + 1)) lv)))) :
 zW x w 19 [(0, vR 16 0), (1, vL y1), (3, vI x3), (4, vI x4)] [] im lv := by
  refine zi_iload hO dX10_takeBytes_19 3 rfl ?_
  refine zi_if_lt (tgt := 61) hO dX10_takeBytes_21 (by decide) (fun c1 => ?_) (fun c1 => ?_)
  · have h := h.1 c1
    refine zi_iconst (v := 1) hO dX10_takeBytes_61 (by decide) ?_
    exact zr_Z hO hR rfl (Or.inr rfl) dX10_takeBytes_62 h
  · have h := h.2 c1
    refine zi_aload_n hO dX10_takeBytes_24 0 rfl ?_
    refine zi_getR (r' := 17) (i' := 0) hO dX10_takeBytes_25 fX10_9 rfl rfl (zI (by decide)) rfl ?_
    refine zi_aload_n hO dX10_takeBytes_28 0 rfl ?_
    refine zi_getI hO dX10_takeBytes_29 fX10_15 rfl rfl (zI (by decide)) ?_
    refine zi_lload_n hO dX10_takeBytes_32 1 rfl ?_
    refine zi_bipush (v := 8) hO dX10_takeBytes_33 (by decide) ?_
    refine zi_iload hO dX10_takeBytes_35 3 rfl ?_
    refine zi_imul hO dX10_takeBytes_37 ?_
    refine zi_lshr hO dX10_takeBytes_38 ?_
    refine zi_ldc2 (v := 255) hO dX10_takeBytes_39 nX10_32 ?_
    refine zi_land hO dX10_takeBytes_42 ?_
    refine zi_l2i hO dX10_takeBytes_43 ?_
    obtain ⟨s1, h⟩ := h
    refine zi_iast hO dX10_takeBytes_44 rfl (zI (by decide)) s1 ?_
    refine zi_aload_n hO dX10_takeBytes_45 0 rfl ?_
    refine zi_dup hO dX10_takeBytes_46 rfl ?_
    refine zi_getI hO dX10_takeBytes_47 fX10_15 rfl rfl (zI (by decide)) ?_
    refine zi_iconst (v := 1) hO dX10_takeBytes_50 (by decide) ?_
    refine zi_iadd hO dX10_takeBytes_51 ?_
    refine zi_putI hO dX10_takeBytes_52 gX10_15 rfl rfl (zI (by decide)) ?_
    refine zi_iinc (v' := (x4 + (-1))) (L' := [(0, vR 16 0), (1, vL y1), (3, vI x3), (4, vI (x4 + (-1)))]) hO dX10_takeBytes_55 3 rfl rfl (by decide) rfl rfl ?_
    refine zi_goto (tgt := 19) hO dX10_takeBytes_58 (by decide) ?_
    exact h
theorem rX11_feed_0 {x : zX} {w : zWd} {im : zMem} {lv : Int64} {P : Int32 → zMem → Int64 → Prop} {y1 : Int64} {x3 : Int32} (hO : zOK x w zyX11_feed 3) (hR : zRetI x w zyX11_feed P) (hN : zN x 126 126)
 (h : ((x3 < 1 → P (-1000001) im lv) ∧
 (¬ (x3 < 1) → ((x3 ≤ 8 → (∃ P1 : Int32 → zMem → Int64 → Prop, zSpecI x.2.1 w 2 zyX10_takeBytes [vR 16 0, vL y1, vI x3] im lv P1 ∧ ∀ (v1 : Int32) (im1 : zMem) (lv1 : Int64), P1 v1 im1 lv1 → ((v1 = 0 → P (-1000003) im1 lv1) ∧
 (¬ (v1 = 0) → P (im1 16 0 1) im1 lv1)))) ∧
 (¬ (x3 ≤ 8) → P (-1000001) im lv))))) :
 zW x w 0 [(0, vR 0 0), (1, vL y1), (3, vI x3)] [] im lv := by
  refine zi_iload_n hO dX11_feed_0 2 rfl ?_
  refine zi_iconst (v := 1) hO dX11_feed_1 (by decide) ?_
  refine zi_icmp_lt (tgt := 11) hO dX11_feed_2 (by decide) (fun c1 => ?_) (fun c1 => ?_)
  · have h := h.1 c1
    refine zi_ldc (v := (-1000001)) hO dX11_feed_11 nX11_100 ?_
    exact zr_I hO hR rfl dX11_feed_13 h
  · have h := h.2 c1
    refine zi_iload_n hO dX11_feed_5 2 rfl ?_
    refine zi_bipush (v := 8) hO dX11_feed_6 (by decide) ?_
    refine zi_icmp_le (tgt := 14) hO dX11_feed_8 (by decide) (fun c2 => ?_) (fun c2 => ?_)
    · have h := h.1 c2
      refine zi_aload_n hO dX11_feed_14 0 rfl ?_
      refine zi_getR (r' := 16) (i' := 0) hO dX11_feed_15 fX11_32 rfl rfl (zI (by decide)) rfl ?_
      refine zi_lload_n hO dX11_feed_18 1 rfl ?_
      refine zi_iload_n hO dX11_feed_19 2 rfl ?_
      obtain ⟨P1, hM1, h⟩ := h
      refine zc_VI (as := [vL y1, vI x3]) hO hN dX11_feed_20 kX11_175 (by decide) rfl (zI (by decide)) rfl rfl (Nat.le_of_ble_eq_true rfl) rfl rfl hM1 (fun v1 im1 lv1 hp1 => ?_)
      replace h := h v1 im1 lv1 hp1
      refine zi_if_eq (tgt := 36) hO dX11_feed_23 (by decide) (fun c3 => ?_) (fun c3 => ?_)
      · have h := h.1 c3
        refine zi_ldc (v := (-1000003)) hO dX11_feed_36 nX11_182 ?_
        exact zr_I hO hR rfl dX11_feed_38 h
      · have h := h.2 c3
        refine zi_aload_n hO dX11_feed_26 0 rfl ?_
        refine zi_getR (r' := 16) (i' := 0) hO dX11_feed_27 fX11_32 rfl rfl (zI (by decide)) rfl ?_
        refine zi_getI hO dX11_feed_30 fX11_179 rfl rfl (zI (by decide)) ?_
        refine zi_goto (tgt := 38) hO dX11_feed_33 (by decide) ?_
        exact zr_I hO hR rfl dX11_feed_38 h
    · have h := h.2 c2
      refine zi_ldc (v := (-1000001)) hO dX11_feed_11 nX11_100 ?_
      exact zr_I hO hR rfl dX11_feed_13 h
/-- the class's sheets are the reference's -/
def SHR (m im : zMem) : Prop := ∀ s, s < 8 → im 41 s 0 = m 44 0 s ∧ im 41 s 1 = m 45 0 s ∧ ∀ k, k < 48 → im 42 s k = m 46 0 (48 * s + k)
theorem hpI {i n : Int32} {k : Nat} (hk : k ≤ 48) : (0 ≤ i ∧ 0 ≤ n ∧ n ≤ nI k ∧ i ≤ nI k - n) ↔ hasP i n k := by
  constructor
  · rintro ⟨h1, h2, h3, h4⟩
    obtain ⟨a, ha, rfl⟩ := nI_of (nn0.mpr h1)
    obtain ⟨b, hb, rfl⟩ := nI_of (nn0.mpr h2)
    rw [nI_leI hb (by omega)] at h3
    rw [pk_sub h3, nI_leI ha (by omega)] at h4
    exact ⟨h1, h2, by rw [cNn ha, cNn hb]; omega⟩
  · intro h
    obtain ⟨a, b, rfl, rfl, h3, ha, hb⟩ := hasP_x h
    refine ⟨h.1, h.2.1, nI_le (by omega) (by omega), ?_⟩
    rw [pk_sub (by omega)]
    exact nI_le (by omega) (by omega)
theorem hp1 {x : Int32} {k : Nat} (hk : k ≤ 48) : hasP x 1 k ↔ (0 ≤ x ∧ x < nI k) := by
  constructor
  · intro h
    obtain ⟨a, b, rfl, e, h3, ha, hb⟩ := hasP_x h
    have e : nI 1 = nI b := e
    rw [nI_eq (by decide) hb] at e
    exact ⟨h.1, nI_lt (by omega) (by omega)⟩
  · rintro ⟨h1, h2⟩
    obtain ⟨a, ha, rfl⟩ := zrx (by omega) ⟨h1, h2⟩
    exact ⟨h1, by decide, by rw [cNn (by omega)]; show a + 1 ≤ k; omega⟩
theorem hpn {x : Int32} {k n : Nat} (hk : k ≤ 48) (hn1 : 1 ≤ n) (hn : n ≤ 48) : hasP x (nI n) k ↔ (0 ≤ x ∧ x ≤ nI k - nI n) := by
  constructor
  · intro h
    obtain ⟨a, b, rfl, e, h3, ha, hb⟩ := hasP_x h
    rw [nI_eq (by omega) hb] at e
    subst e
    rw [pk_sub (by omega)]
    exact ⟨h.1, nI_le (by omega) (by omega)⟩
  · rintro ⟨h1, h2⟩
    obtain ⟨a, ha, rfl⟩ := nI_of (nn0.mpr h1)
    have h3 := pk_sub_toInt (a := k) (b := n) (by omega) (by omega)
    rw [Int32.le_iff_toInt_le, h3, nI_toInt ha] at h2
    exact ⟨h1, nI_pos' (by omega), by rw [cNn ha, cNn (by omega)]; omega⟩
def shC (im : zMem) (s : Nat) (l n : Int32) (im' : zMem) : Prop := (∀ r, ¬ r = 0 → ¬ r = 41 → ¬ r = 42 → im' r = im r) ∧ im' 0 = (zwr im 0 0 10 0) 0 ∧ (∀ i, ¬ i = s → im' 41 i = im 41 i ∧ im' 42 i = im 42 i) ∧ im' 41 s 0 = l ∧ im' 41 s 1 = n ∧ ∀ k, k < 48 → im' 42 s k = 0
theorem C_X11_sheet (l : Launch) (w : zWd) {im : zMem} (lv : Int64) (x1 x2 x3 : Int32) : zSpecI l w 4 zyX11_sheet [vR 0 0, vI x1, vI x2, vI x3] im lv (fun v im' lv' => (if (0 ≤ x1 ∧ x1 < nI 8) ∧ (0 ≤ x2 ∧ x2 < nI 3) ∧ x3 ≤ nI 48 then (if 0 ≤ x3 then v = x3 ∧ shC im (cN x1) x2 x3 im' else v = -1000014 ∧ im' = zwr im 0 0 10 4) else v = -1000001 ∧ im' = im) ∧ lv' = lv) := by
  refine ze_I (by decide) (Nat.le_of_ble_eq_true rfl) (fun x hO hR hN => rX11_sheet_0 hO hR hN ?_)
  refine ⟨fun q => ?_, fun q => ⟨by rw [if_neg (fun z => q z.1)]; exact ⟨rfl, rfl⟩, rfl⟩⟩
  have q' := q
  obtain ⟨s, hs, rfl⟩ := zrx (N := 8) (by decide) q
  have cs : cN (nI s) = s := nI_clamp (by omega)
  rw [show Int32.toNatClampNeg (nI s) = s from cs, cs]
  refine ⟨hs, fun q2 => ⟨by rw [if_neg (fun z => b0' q2 z.2.1.1)]; exact ⟨rfl, rfl⟩, rfl⟩, fun q2 => ⟨fun q3 => ⟨by rw [if_neg (fun z => lt_nge (k := 3) q3 z.2.1.2)]; exact ⟨rfl, rfl⟩, rfl⟩, fun q3 => ⟨fun q4 => ?_, fun q4 => ⟨by rw [if_neg (fun z => q4 z.2.2)]; exact ⟨rfl, rfl⟩, rfl⟩⟩⟩⟩
  have qc : (0 ≤ nI s ∧ nI s < nI 8) ∧ (0 ≤ x2 ∧ x2 < nI 3) ∧ x3 ≤ nI 48 := ⟨q', ⟨b0 q2, nlt_ge (k := 3) q3⟩, q4⟩
  refine ⟨fun q5 => ?_, fun q5 => ⟨by rw [if_pos qc, if_neg q5]; exact ⟨rfl, rfl⟩, rfl⟩⟩
  have hb : zSpecV x.2.1 w 3 zyX7_begin [vR 41 s, vI x2, vI x3] im lv (fun im' lv' => ((∀ r, ¬ r = 41 → ¬ r = 42 → im' r = im r) ∧ (∀ i, ¬ i = s → im' 41 i = im 41 i ∧ im' 42 i = im 42 i) ∧ im' 41 s 0 = x2 ∧ im' 41 s 1 = x3 ∧ ∀ k, k < 48 → im' 42 s k = 0) ∧ lv' = lv) := by
    refine ze_V (by decide) (Nat.le_of_ble_eq_true rfl) (fun x hO hR hN => rX7_begin_0 hO hR hN hs ⟨_, C_J7_fill _ _ _ _ (ra := 42) (ia := s) rfl hs (by decide), ?_⟩)
    rintro im1 lv1 ⟨⟨g1, g2, g3⟩, rfl⟩
    refine ⟨⟨fun r r1 r2 => by rw [g1 r r2, zwr_r r1, zwr_r r1], fun i hi => ⟨?_, ?_⟩, ?_, ?_, g3⟩, rfl⟩
    · rw [g1 41 (by decide)]
      funext k
      rw [zwr_app, if_neg (fun z => hi z.2.1), zwr_app, if_neg (fun z => hi z.2.1)]
    · rw [g2 i hi, zwr_r (by decide), zwr_r (by decide)]
    · rw [g1 41 (by decide), zwr_k (by decide), zwr_eq]
    · rw [g1 41 (by decide), zwr_eq]
  refine ⟨_, hb, ?_⟩
  rintro im1 lv1 ⟨⟨g1, g2, g3, g4, g5⟩, rfl⟩
  rw [if_pos qc, if_pos q5]
  refine ⟨⟨rfl, fun r r0 r1 r2 => by rw [zwr_r r0]; exact g1 r r1 r2, ?_, fun i hi => by rw [zwr_r (by decide), zwr_r (by decide)]; exact g2 i hi, by rw [zwr_r (by decide)]; exact g3, by rw [zwr_r (by decide)]; exact g4, fun k hk => by rw [zwr_r (by decide)]; exact g5 k hk⟩, rfl⟩
  funext i k
  rw [zwr_app, zwr_app, g1 0 (by decide) (by decide)]
theorem C_X7_findingFor (l : Launch) (w : zWd) (im : zMem) (lv : Int64) {s k : Nat} (hs : s < 8) (h1 : im 41 s 1 = nI k) (hk : k ≤ 48) {i n : Int32} [Decidable (hasP i n k)] : zSpecI l w 3 zyX7_findingFor [vR 41 s, vI i, vI n] im lv (fun v im' lv' => v = (if im 41 s 0 = -1 then 1 else if hasP i n k then 0 else 2) ∧ im' = im ∧ lv' = lv) := by
  refine ze_I (by decide) (Nat.le_of_ble_eq_true rfl) (fun x hO hR hN => rX7_findingFor_0 hO hR hN hs ?_)
  rw [h1, hpI hk]
  exact ⟨fun q => ⟨fun q2 => ⟨by rw [if_neg q, if_neg q2], rfl, rfl⟩, fun q2 => ⟨by rw [if_neg q, if_pos q2], rfl, rfl⟩⟩, fun q => ⟨by rw [if_pos q], rfl, rfl⟩⟩
theorem C_X11_set (l : Launch) (w : zWd) {m im : zMem} (lv : Int64) (hS : WS m) (hR : SHR m im) (x1 x2 x3 : Int32) : zSpecI l w 4 zyX11_set [vR 0 0, vI x1, vI x2, vI x3] im lv (fun v im' lv' => (if 0 ≤ x1 ∧ x1 < nI 8 then (if m 44 0 (cN x1) = -1 then v = -1000011 ∧ im' = zwr im 0 0 10 1 else if 0 ≤ x2 ∧ x2 < nI (mny m (cN x1)) then v = nar (m 44 0 (cN x1)) x3 ∧ im' = zwr (zwr im 42 (cN x1) (cN x2) (nar (m 44 0 (cN x1)) x3)) 0 0 10 0 else v = -1000012 ∧ im' = zwr im 0 0 10 2) else v = -1000001 ∧ im' = im) ∧ lv' = lv) := by
  classical
  refine ze_I (by decide) (Nat.le_of_ble_eq_true rfl) (fun x hO hRt hN => rX11_set_0 hO hRt hN ?_)
  refine ⟨fun q => ?_, fun q => ⟨by rw [if_neg (show ¬ (0 ≤ x1 ∧ x1 < nI 8) from q)]; exact ⟨rfl, rfl⟩, rfl⟩⟩
  have q' := q
  obtain ⟨s, hs, rfl⟩ := zrx (N := 8) (by decide) q
  have cs : cN (nI s) = s := nI_clamp (by omega)
  obtain ⟨w1, w2, w3⟩ := hS s hs
  obtain ⟨s1, s2, s3⟩ := hR s hs
  rw [show Int32.toNatClampNeg (nI s) = s from cs, cs]
  refine ⟨hs, _, C_X7_findingFor _ _ _ _ hs (s2.trans w2) w3, ?_⟩
  rintro v2 im2 lv2 ⟨rfl, rfl, rfl⟩
  have qc : 0 ≤ nI s ∧ nI s < nI 8 := q'
  rw [s1]
  by_cases hm : m 44 0 s = -1
  · rw [if_pos hm]
    exact ⟨fun z => absurd z (by decide), fun _ => ⟨by rw [if_pos qc, if_pos hm]; exact ⟨rfl, rfl⟩, rfl⟩⟩
  · rw [if_neg hm]
    by_cases hp : hasP x2 1 (mny m s)
    · have hp' := (hp1 w3).mp hp
      rw [if_pos hp]
      have hput : zSpecI x.2.1 w 2 zyX7_put [vR 41 s, vI x2, vI x3] im2 lv2 (fun v im' lv' => v = nar (m 44 0 s) x3 ∧ im' = zwr im2 42 s (cN x2) (nar (m 44 0 s) x3) ∧ lv' = lv2) := by
        have vp : vp_in x2 48 := by
          obtain ⟨a, ha, rfl⟩ := zrx (by omega) hp'
          exact vp_in_nI (by omega) (by decide)
        refine ze_I (by decide) (Nat.le_of_ble_eq_true rfl) (fun x hO hR hN => rX7_put_0 hO hR hN hs ?_)
        rw [s1]
        unfold nar
        refine ⟨fun z => ⟨fun z2 => ⟨vp, ?_, ?_, rfl⟩, fun z2 => ⟨vp, ?_, ?_, rfl⟩⟩, fun z => ⟨vp, ?_, ?_, rfl⟩⟩
        · rw [zwr_eq, if_neg z, if_neg z2]
        · rw [if_neg z, if_neg z2]
        · rw [zwr_eq, if_neg z, if_pos z2]
        · rw [if_neg z, if_pos z2]
        · rw [zwr_eq, if_pos z]
        · rw [if_pos z]
      refine ⟨fun _ => ⟨_, hput, ?_⟩, fun z => absurd rfl z⟩
      rintro v3 im3 lv3 ⟨rfl, rfl, rfl⟩
      exact ⟨by rw [if_pos qc, if_neg hm, if_pos hp']; exact ⟨rfl, rfl⟩, rfl⟩
    · rw [if_neg hp]
      exact ⟨fun z => absurd z (by decide), fun _ => ⟨by rw [if_pos qc, if_neg hm, if_neg (fun z => hp ((hp1 w3).mpr z))]; exact ⟨rfl, rfl⟩, rfl⟩⟩
theorem C_X11_drop (l : Launch) (w : zWd) {m im : zMem} (lv : Int64) (hR : SHR m im) (x1 : Int32) : zSpecI l w 3 zyX11_drop [vR 0 0, vI x1] im lv (fun v im' lv' => (if 0 ≤ x1 ∧ x1 < nI 8 then (if m 44 0 (cN x1) = -1 then v = -1000011 ∧ im' = zwr im 0 0 10 1 else v = m 45 0 (cN x1) ∧ im' = zwr (zwr im 41 (cN x1) 0 (-1)) 0 0 10 0) else v = -1000001 ∧ im' = im) ∧ lv' = lv) := by
  refine ze_I (by decide) (Nat.le_of_ble_eq_true rfl) (fun x hO hRt hN => rX11_drop_0 hO hRt hN ?_)
  refine ⟨fun q => ?_, fun q => ⟨by rw [if_neg (show ¬ (0 ≤ x1 ∧ x1 < nI 8) from q)]; exact ⟨rfl, rfl⟩, rfl⟩⟩
  have q' := q
  obtain ⟨s, hs, rfl⟩ := zrx (N := 8) (by decide) q
  have cs : cN (nI s) = s := nI_clamp (by omega)
  obtain ⟨s1, s2, s3⟩ := hR s hs
  have qc : 0 ≤ nI s ∧ nI s < nI 8 := q'
  rw [show Int32.toNatClampNeg (nI s) = s from cs, cs, s1]
  have hend : zSpecI x.2.1 w 2 zyX7_end [vR 41 s] im lv (fun v im' lv' => v = m 45 0 s ∧ im' = zwr im 41 s 0 (-1) ∧ lv' = lv) :=
    ze_I (by decide) (Nat.le_of_ble_eq_true rfl) (fun x hO hR hN => rX7_end_0 hO hR hN hs ⟨by rw [zwr_k (by decide)]; exact s2, rfl, rfl⟩)
  refine ⟨hs, fun hm => ⟨_, hend, ?_⟩, fun hm => ⟨by rw [if_pos qc, if_pos hm]; exact ⟨rfl, rfl⟩, rfl⟩⟩
  rintro v3 im3 lv3 ⟨rfl, rfl, rfl⟩
  exact ⟨by rw [if_pos qc, if_neg hm]; exact ⟨rfl, rfl⟩, rfl⟩
def cpC (im : zMem) (a i b j n : Nat) : zMem := zwr (zset im 42 b (va_cpy (im 42 a) (im 42 b) i j n)) 0 0 10 0
theorem C_X11_copy (l : Launch) (w : zWd) {m im : zMem} (lv : Int64) (hS : WS m) (hR : SHR m im) (x1 x2 x3 x4 x5 : Int32) : zSpecI l w 3 zyX11_copy [vR 0 0, vI x1, vI x2, vI x3, vI x4, vI x5] im lv (fun v im' lv' => (((¬ (0 ≤ x1 ∧ x1 < nI 8) ∨ ¬ (0 ≤ x3 ∧ x3 < nI 8)) ∧ v = -1000001 ∧ im' = im) ∨ (∃ a b, a < 8 ∧ b < 8 ∧ x1 = nI a ∧ x3 = nI b ∧ (((m 44 0 a = -1 ∨ m 44 0 b = -1) ∧ v = -1000011 ∧ im' = zwr im 0 0 10 1) ∨ (¬ m 44 0 a = -1 ∧ ¬ m 44 0 b = -1 ∧ ((¬ m 44 0 a = m 44 0 b ∧ v = -1000015 ∧ im' = zwr im 0 0 10 5) ∨ (m 44 0 a = m 44 0 b ∧ ((¬ (hasP x2 x5 (mny m a) ∧ hasP x4 x5 (mny m b)) ∧ v = -1000012 ∧ im' = zwr im 0 0 10 2) ∨ ((hasP x2 x5 (mny m a) ∧ hasP x4 x5 (mny m b)) ∧ v = x5 ∧ im' = cpC im a (cN x2) b (cN x4) (cN x5)))))))) ) ∧ lv' = lv) := by
  refine ze_I (by decide) (Nat.le_of_ble_eq_true rfl) (fun x hO hRt hN => rX11_copy_0 hO hRt hN ?_)
  refine ⟨fun q => ?_, fun q => ⟨fun q2 => ⟨?_, Or.inl ⟨Or.inl q, rfl, rfl⟩, rfl⟩, fun q2 => ⟨Or.inl ⟨Or.inl q, rfl, rfl⟩, rfl⟩⟩⟩
  rotate_left
  · obtain ⟨s, hs, rfl⟩ := zrx (N := 8) (by decide) q2
    rw [nI_clamp (by omega)]
    exact hs
  obtain ⟨a, ha, rfl⟩ := zrx (N := 8) (by decide) q
  rw [nI_clamp (show a < 2 ^ 31 by omega)]
  refine ⟨ha, fun q2 => ?_, fun q2 => ⟨Or.inl ⟨Or.inr q2, rfl, rfl⟩, rfl⟩⟩
  obtain ⟨b, hb, rfl⟩ := zrx (N := 8) (by decide) q2
  obtain ⟨a1, a2, a3⟩ := hS a ha
  obtain ⟨b1, b2, b3⟩ := hS b hb
  obtain ⟨s1, s2, s3⟩ := hR a ha
  obtain ⟨t1, t2, t3⟩ := hR b hb
  rw [nI_clamp (show b < 2 ^ 31 by omega), s1, t1, s2, t2, a2, b2, hpI a3, hpI b3]
  refine ⟨hb, fun z => ⟨Or.inr ⟨a, b, ha, hb, rfl, rfl, Or.inl ⟨Or.inl z, rfl, rfl⟩⟩, rfl⟩, fun z => ⟨fun z2 => ⟨fun z3 => ⟨fun z4 => ⟨Or.inr ⟨a, b, ha, hb, rfl, rfl, Or.inr ⟨z, z2, Or.inr ⟨z3, Or.inl ⟨fun y => z4 y.1, rfl, rfl⟩⟩⟩⟩, rfl⟩, fun z4 => ⟨fun z5 => ?_, fun z5 => ⟨Or.inr ⟨a, b, ha, hb, rfl, rfl, Or.inr ⟨z, z2, Or.inr ⟨z3, Or.inl ⟨fun y => z5 y.2, rfl, rfl⟩⟩⟩⟩, rfl⟩⟩⟩, fun z3 => ⟨Or.inr ⟨a, b, ha, hb, rfl, rfl, Or.inr ⟨z, z2, Or.inl ⟨z3, rfl, rfl⟩⟩⟩, rfl⟩⟩, fun z2 => ⟨Or.inr ⟨a, b, ha, hb, rfl, rfl, Or.inl ⟨Or.inr z2, rfl, rfl⟩⟩, rfl⟩⟩⟩
  exact ⟨nn0.mpr z4.1, nn0.mpr z5.1, nn0.mpr z4.2.1, Nat.le_trans z4.2.2 a3, Nat.le_trans z5.2.2 b3, Or.inr ⟨a, b, ha, hb, rfl, rfl, Or.inr ⟨z, z2, Or.inr ⟨z3, Or.inr ⟨⟨z4, z5⟩, rfl, rfl⟩⟩⟩⟩, rfl⟩
def itC (m im : zMem) (ra s : Nat) (x4 : Int32) (dp n : Nat) (hi : Int32) (v : Int32) (im' : zMem) : Prop := if m 44 0 s = -1 then v = -1000011 ∧ im' = zwr im 0 0 10 1 else if 0 ≤ x4 ∧ x4 ≤ nI (mny m s) - nI n then (if okN (im 42 s) (cN x4) hi n = true then v = nI n ∧ im' = zwr (zset im ra 0 (va_cpy (im 42 s) (im ra 0) (cN x4) dp n)) 0 0 10 0 else v = -1000001 ∧ im' = im) else v = -1000012 ∧ im' = zwr im 0 0 10 2
theorem C_X7_hasOnlyUpTo (l : Launch) (w : zWd) {im : zMem} (lv : Int64) {s i n : Nat} (hs : s < 8) (hin : i + n ≤ 48) (hi : Int32) : zSpecI l w 2 zyX7_hasOnlyUpTo [vR 41 s, vI hi, vI (nI i), vI (nI n)] im lv (fun v im' lv' => v = (if okN (im 42 s) i hi n = true then 1 else 0) ∧ im' = im ∧ lv' = lv) := by
  refine ze_I (by decide) (Nat.le_of_ble_eq_true rfl) (fun x hO hR hN => rX7_hasOnlyUpTo_0 hO hR hN hs ?_)
  have key : ∀ p k, p + k = n → okN (im 42 s) i hi k = true → zW x w 3 [(0, vR 41 s), (1, vI hi), (2, vI (nI i)), (3, vI (nI n)), (4, vI (nI (i + k)))] [] im lv := by
    intro p
    induction p with
    | zero =>
      intro k hk ho
      have : k = n := by omega
      subst this
      refine rX7_hasOnlyUpTo_3 hO hR hN hs ?_
      rw [nI_add]
      exact ⟨fun _ => ⟨by rw [if_pos ho], rfl, rfl⟩, fun q => absurd (Int32.le_refl _) q⟩
    | succ p ih =>
      intro k hk ho
      refine rX7_hasOnlyUpTo_3 hO hR hN hs ?_
      rw [nI_add, nI_leI (by omega) (by omega), nI_clamp (show i + k < 2 ^ 31 by omega), nI_1 (i + k)]
      have no : ¬ (0 ≤ im 42 s (i + k) ∧ im 42 s (i + k) ≤ hi) → (0 : Int32) = (if okN (im 42 s) i hi n = true then 1 else 0) ∧ im = im ∧ lv = lv := fun h => ⟨by rw [if_neg (by rw [okN_no h (show k < n by omega)]; decide)], rfl, rfl⟩
      refine ⟨fun q => by omega, fun _ => ⟨vp_in_nI (by omega) (by decide), fun q => no (fun z => b0' q z.1), fun q => ⟨fun q2 => ih (k + 1) (by omega) ?_, fun q2 => no (fun z => q2 z.2)⟩⟩⟩
      rw [okN, ho, Bool.true_and]
      exact decide_eq_true ⟨b0 q, q2⟩
  exact key n 0 (by omega) rfl
theorem C_X11_fillFromSheet (l : Launch) (w : zWd) {m im : zMem} (lv : Int64) (hS : WS m) (hR : SHR m im) {ra Na dp n : Nat} (hk : zkd ra = (1, Na, 0)) (hi0 : 0 < zcnt ra) (hra : ra < 20) (hn1 : 1 ≤ n) (hn48 : n ≤ 48) (hdp : dp + n ≤ Na) (hNa : Na < 1000) (x3 x4 hi : Int32) : zSpecI l w 4 zyX11_fillFromSheet [vR 0 0, vR ra 0, vI (nI dp), vI x3, vI x4, vI (nI n), vI hi] im lv (fun v im' lv' => ((∃ s, s < 8 ∧ x3 = nI s ∧ itC m im ra s x4 dp n hi v im') ∨ ((¬ ∃ s, s < 8 ∧ x3 = nI s) ∧ v = -1000001 ∧ im' = im)) ∧ lv' = lv) := by
  classical
  refine ze_I (by decide) (Nat.le_of_ble_eq_true rfl) (fun x hO hRt hN => rX11_fillFromSheet_0 hO hRt hN hk hi0 ?_)
  refine ⟨fun q => ?_, fun q => ⟨Or.inr ⟨?_, rfl, rfl⟩, rfl⟩⟩
  rotate_left
  · rintro ⟨s, hs, rfl⟩
    exact q ⟨nI_pos' (by omega), nI_lt (b := 8) hs (by decide)⟩
  obtain ⟨s, hs, rfl⟩ := zrx (N := 8) (by decide) q
  obtain ⟨a1, a2, a3⟩ := hS s hs
  obtain ⟨s1, s2, s3⟩ := hR s hs
  rw [nI_clamp (show s < 2 ^ 31 by omega)]
  refine ⟨hs, _, C_X7_findingFor _ _ _ _ hs (s2.trans a2) a3, ?_⟩
  rintro v2 im2 lv2 ⟨rfl, rfl, rfl⟩
  rw [s1]
  by_cases hm : m 44 0 s = -1
  · rw [if_pos hm]
    exact ⟨fun z => absurd z (by decide), fun _ => ⟨Or.inl ⟨s, hs, rfl, by unfold itC; rw [if_pos hm]; exact ⟨rfl, rfl⟩⟩, rfl⟩⟩
  · rw [if_neg hm]
    by_cases hp : hasP x4 (nI n) (mny m s)
    · have hp' := (hpn a3 hn1 hn48).mp hp
      rw [if_pos hp]
      obtain ⟨i, b, rfl, e, h3, hi31, hb31⟩ := hasP_x hp
      rw [nI_eq (by omega) hb31] at e
      subst e
      have ci : cN (nI i) = i := nI_clamp hi31
      refine ⟨fun _ => ⟨_, C_X7_hasOnlyUpTo _ _ _ hs (i := i) (n := n) (by omega) hi, ?_⟩, fun z => absurd rfl z⟩
      rintro v3 im3 lv3 ⟨rfl, rfl, rfl⟩
      by_cases hok : okN (im3 42 s) i hi n = true
      · rw [if_pos hok, nI_clamp hi31, nI_clamp (show dp < 2 ^ 31 by omega), nI_clamp (show n < 2 ^ 31 by omega)]
        refine ⟨fun _ => ⟨nI_pos hi31, nI_pos (by omega), nI_pos (by omega), by omega, hdp, Or.inl ⟨s, hs, rfl, ?_⟩, rfl⟩, fun z => absurd z (by decide)⟩
        unfold itC
        rw [if_neg hm, if_pos hp', ci, if_pos hok]
        exact ⟨rfl, rfl⟩
      · rw [if_neg hok]
        refine ⟨fun z => absurd rfl z, fun _ => ⟨Or.inl ⟨s, hs, rfl, ?_⟩, rfl⟩⟩
        unfold itC
        rw [if_neg hm, if_pos hp', ci, if_neg hok]
        exact ⟨rfl, rfl⟩
    · rw [if_neg hp]
      exact ⟨fun z => absurd z (by decide), fun _ => ⟨Or.inl ⟨s, hs, rfl, by unfold itC; rw [if_neg hm, if_neg (fun z => hp ((hpn a3 hn1 hn48).mpr z))]; exact ⟨rfl, rfl⟩⟩, rfl⟩⟩
theorem arS {x y : Int32} : ((0 ≤ x ∧ x < 48) ∧ 1 ≤ y ∧ y ≤ 48 - x) ↔ ∃ t n, (t < 48 ∧ 1 ≤ n ∧ n ≤ 48 - t) ∧ (x = nI t ∧ y = nI n) := by
  constructor
  · rintro ⟨h1, h2, h3⟩
    obtain ⟨t, ht, rfl⟩ := zrx (N := 48) (by decide) h1
    have e : (48 : Int32) - nI t = nI (48 - t) := pk_sub (a := 48) (by omega)
    rw [e] at h3
    obtain ⟨n, g1, g2, rfl⟩ := (n1x (N := 48 - t) (by omega)).mp ⟨h2, h3⟩
    exact ⟨t, n, ⟨ht, g1, g2⟩, rfl, rfl⟩
  · rintro ⟨t, n, ⟨ht, g1, g2⟩, rfl, rfl⟩
    have e : (48 : Int32) - nI t = nI (48 - t) := pk_sub (a := 48) (by omega)
    rw [e]
    exact ⟨⟨nI_pos' (by omega), nI_lt (b := 48) ht (by decide)⟩, (n1x (N := 48 - t) (by omega)).mpr ⟨n, g1, g2, rfl⟩⟩
theorem C_X11_bears (l : Launch) (w : zWd) {m im : zMem} (lv : Int64) (hS : WS m) (hR : SHR m im) (x1 x2 x3 x4 x5 : Int32) : zSpecI l w 5 zyX11_bears [vR 0 0, vI x1, vI x2, vI x3, vI x4, vI x5] im lv (fun v im' lv' => ((∃ r t s n, (r < 8 ∧ t < 48 ∧ s < 8 ∧ 1 ≤ n ∧ n ≤ 48 - t) ∧ (x1 = nI r ∧ x2 = nI t ∧ x3 = nI s ∧ x5 = nI n) ∧ itC m im 3 s x4 (48 * r + t) n 99 v im') ∨ (¬ (∃ r t s n, (r < 8 ∧ t < 48 ∧ s < 8 ∧ 1 ≤ n ∧ n ≤ 48 - t) ∧ (x1 = nI r ∧ x2 = nI t ∧ x3 = nI s ∧ x5 = nI n)) ∧ v = -1000001 ∧ im' = im)) ∧ lv' = lv) := by
  refine ze_I (by decide) (Nat.le_of_ble_eq_true rfl) (fun x hO hRt hN => rX11_bears_0 hO hRt hN ?_)
  rw [arS]
  refine ⟨fun q => ⟨Or.inr ⟨?_, rfl, rfl⟩, rfl⟩, fun q => ⟨fun q2 => ?_, fun q2 => ⟨Or.inr ⟨?_, rfl, rfl⟩, rfl⟩⟩⟩
  · rintro ⟨r, t, s, n, ⟨hr, -⟩, rfl, -⟩
    exact q ⟨nI_pos' (by omega), nI_lt (b := 8) hr (by decide)⟩
  · obtain ⟨r, hr, rfl⟩ := zrx (N := 8) (by decide) q
    obtain ⟨t, n, ⟨ht, n1, n2⟩, rfl, rfl⟩ := q2
    rw [show nI r * 48 + nI t = nI (48 * r + t) by rw [show nI r * 48 = nI (r * 48) from pk_mul r 48, nI_add, Nat.mul_comm]]
    refine ⟨_, C_X11_fillFromSheet _ _ _ hS hR (ra := 3) (Na := 384) rfl (by decide) (by decide) n1 (by omega) (by omega) (by decide) x3 x4 99, ?_⟩
    rintro v im' lv' ⟨h, rfl⟩
    refine ⟨?_, rfl⟩
    rcases h with ⟨s, hs, e, hit⟩ | ⟨hn, hv⟩
    · exact Or.inl ⟨r, t, s, n, ⟨hr, ht, hs, n1, n2⟩, ⟨rfl, rfl, e, rfl⟩, hit⟩
    · exact Or.inr ⟨fun ⟨r', t', s', n', ⟨_, _, hs', _⟩, _, _, e, _⟩ => hn ⟨s', hs', e⟩, hv⟩
  · rintro ⟨r, t, s, n, ⟨-, ht, -, n1, n2⟩, -, rfl, -, rfl⟩
    exact q2 ⟨t, n, ⟨ht, n1, n2⟩, rfl, rfl⟩
theorem C_X11_staff (l : Launch) (w : zWd) {m im : zMem} (lv : Int64) (hS : WS m) (hR : SHR m im) (x2 x3 x4 x5 : Int32) : zSpecI l w 5 zyX11_staff [vR 0 0, vI x2, vI x3, vI x4, vI x5] im lv (fun v im' lv' => ((∃ t s n, (t < 48 ∧ s < 8 ∧ 1 ≤ n ∧ n ≤ 48 - t) ∧ (x2 = nI t ∧ x3 = nI s ∧ x5 = nI n) ∧ itC m im 4 s x4 t n 9 v im') ∨ (¬ (∃ t s n, (t < 48 ∧ s < 8 ∧ 1 ≤ n ∧ n ≤ 48 - t) ∧ (x2 = nI t ∧ x3 = nI s ∧ x5 = nI n)) ∧ v = -1000001 ∧ im' = im)) ∧ lv' = lv) := by
  refine ze_I (by decide) (Nat.le_of_ble_eq_true rfl) (fun x hO hRt hN => rX11_staff_0 hO hRt hN ?_)
  rw [arS]
  refine ⟨fun q2 => ?_, fun q2 => ⟨Or.inr ⟨?_, rfl, rfl⟩, rfl⟩⟩
  · obtain ⟨t, n, ⟨ht, n1, n2⟩, rfl, rfl⟩ := q2
    refine ⟨_, C_X11_fillFromSheet _ _ _ hS hR (ra := 4) (Na := 48) rfl (by decide) (by decide) n1 (by omega) (by omega) (by decide) x3 x4 9, ?_⟩
    rintro v im' lv' ⟨h, rfl⟩
    refine ⟨?_, rfl⟩
    rcases h with ⟨s, hs, e, hit⟩ | ⟨hn, hv⟩
    · exact Or.inl ⟨t, s, n, ⟨ht, hs, n1, n2⟩, ⟨rfl, e, rfl⟩, hit⟩
    · exact Or.inr ⟨fun ⟨t', s', n', ⟨_, hs', _⟩, _, e, _⟩ => hn ⟨s', hs', e⟩, hv⟩
  · rintro ⟨t, s, n, ⟨ht, -, n1, n2⟩, rfl, -, rfl⟩
    exact q2 ⟨t, n, ⟨ht, n1, n2⟩, rfl, rfl⟩
def fdC (y : Int64) : Nat → Nat → zMem → zMem
  | 0, _, im => im
  | n + 1, L, im => fdC y n (L + 1) (zwr (zwr im 17 0 L (byt y n)) 16 0 1 (nI (L + 1)))
theorem C_X11_feed (l : Launch) (w : zWd) {im : zMem} (lv : Int64) {L : Nat} (hL : im 16 0 1 = nI L) (hL5 : L ≤ 500) (y1 : Int64) (x3 : Int32) : zSpecI l w 3 zyX11_feed [vR 0 0, vL y1, vI x3] im lv (fun v im' lv' => ((∃ n, 1 ≤ n ∧ n ≤ 8 ∧ x3 = nI n ∧ ((500 < L + n ∧ v = -1000003 ∧ im' = im) ∨ (L + n ≤ 500 ∧ v = nI (L + n) ∧ im' = fdC y1 n L im))) ∨ ((¬ ∃ n, 1 ≤ n ∧ n ≤ 8 ∧ x3 = nI n) ∧ v = -1000001 ∧ im' = im)) ∧ lv' = lv) := by
  refine ze_I (by decide) (Nat.le_of_ble_eq_true rfl) (fun x hO hRt hN => rX11_feed_0 hO hRt hN ?_)
  refine ⟨fun q => ⟨Or.inr ⟨?_, rfl, rfl⟩, rfl⟩, fun q => ⟨fun q2 => ?_, fun q2 => ⟨Or.inr ⟨?_, rfl, rfl⟩, rfl⟩⟩⟩
  · rintro ⟨n, h1, h2, rfl⟩
    have q : nI n < nI 1 := q
    rw [nI_ltI (by omega) (by decide)] at q
    omega
  rotate_left
  · rintro ⟨n, h1, h2, rfl⟩
    exact q2 (nI_le (b := 8) h2 (by decide))
  have h1x : 1 ≤ x3 := by
    rw [Int32.lt_iff_toInt_lt] at q
    rw [Int32.le_iff_toInt_le]
    omega
  obtain ⟨n, n1, n8, rfl⟩ := (n1x (N := 8) (by decide)).mp ⟨h1x, q2⟩
  have htb : zSpecI x.2.1 w 2 zyX10_takeBytes [vR 16 0, vL y1, vI (nI n)] im lv (fun v im' lv' => ((500 < L + n ∧ v = 0 ∧ im' = im) ∨ (L + n ≤ 500 ∧ v = 1 ∧ im' = fdC y1 n L im)) ∧ lv' = lv) := by
    refine ze_I (by decide) (Nat.le_of_ble_eq_true rfl) (fun x hO hR hN => rX10_takeBytes_0 hO hR hN ?_)
    rw [hL, show (500 : Int32) - nI L = nI (500 - L) from pk_sub (a := 500) hL5, nI_leI (by omega) (by omega)]
    refine ⟨fun q => ?_, fun q => ⟨Or.inl ⟨by omega, rfl, rfl⟩, rfl⟩⟩
    have key : ∀ k L' (im1 : zMem), k + L' = L + n → im1 16 0 1 = nI L' → fdC y1 k L' im1 = fdC y1 n L im → zW x w 19 [(0, vR 16 0), (1, vL y1), (3, vI (nI n)), (4, vI (nI k - 1))] [] im1 lv := by
      intro k
      induction k with
      | zero =>
        intro L' im1 hk h1 e
        refine rX10_takeBytes_19 hO hR hN ⟨fun _ => ⟨Or.inr ⟨by omega, rfl, e⟩, rfl⟩, fun z => absurd (by decide) z⟩
      | succ k ih =>
        intro L' im1 hk h1 e
        rw [nI_pred]
        refine rX10_takeBytes_19 hO hR hN ?_
        rw [h1, nI_clamp (show L' < 2 ^ 31 by omega), nI_1 L', nm1 k]
        exact ⟨fun z => absurd z (nI_pos (by omega)), fun _ => ⟨vp_in_nI (by omega) (by decide), ih (L' + 1) _ (by omega) zwr_eq e⟩⟩
    exact key n L im (by omega) hL rfl
  refine ⟨_, htb, ?_⟩
  rintro v1 im1 lv1 ⟨⟨h, rfl, rfl⟩ | ⟨h, rfl, rfl⟩, rfl⟩
  · exact ⟨fun _ => ⟨Or.inl ⟨n, n1, n8, rfl, Or.inl ⟨h, rfl, rfl⟩⟩, rfl⟩, fun z => absurd rfl z⟩
  · refine ⟨fun z => absurd z (by decide), fun _ => ⟨Or.inl ⟨n, n1, n8, rfl, Or.inr ⟨h, ?_, rfl⟩⟩, rfl⟩⟩
    have hfd : ∀ k L' (im1 : zMem), im1 16 0 1 = nI L' → fdC y1 k L' im1 16 0 1 = nI (L' + k) := by
      intro k
      induction k with
      | zero => intro L' im1 h; exact h
      | succ k ih =>
        intro L' im1 h
        rw [fdC, ih (L' + 1) _ zwr_eq, Nat.add_assoc, Nat.add_comm 1 k]
    exact hfd n L im hL
