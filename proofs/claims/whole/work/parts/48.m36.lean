/-! the class's calls that only answer -/
theorem rX11_told_0 {x : zX} {w : zWd} {im : zMem} {lv : Int64} {P : Int32 → zMem → Int64 → Prop} {x1 : Int32} {x2 : Int32} (hO : zOK x w zyX11_told 4) (hR : zRetI x w zyX11_told P) (hN : zN x 126 126)
 (h : ((im 10 0 1) ≤ 12 ∧ ((0 ≤ x1 ∧ x1 < (im 10 0 1) → (Int32.toNatClampNeg x1) < 12 ∧ (x2 < 0 ∨ 7 < x2 → P (-1000001) im lv) ∧ ((x2 = 0 → P (im 12 (Int32.toNatClampNeg x1) 0) im lv) ∧
 (x2 = 1 → P (im 12 (Int32.toNatClampNeg x1) 1) im lv) ∧
 (x2 = 2 → P (im 12 (Int32.toNatClampNeg x1) 2) im lv) ∧
 (x2 = 3 → P (im 12 (Int32.toNatClampNeg x1) 3) im lv) ∧
 (x2 = 4 → P (im 12 (Int32.toNatClampNeg x1) 4) im lv) ∧
 (x2 = 5 → P (im 12 (Int32.toNatClampNeg x1) 8) im lv) ∧
 (x2 = 6 → P (im 12 (Int32.toNatClampNeg x1) 9) im lv) ∧
 (x2 = 7 → P (((im 12 (Int32.toNatClampNeg x1) 3) * (im 12 (Int32.toNatClampNeg x1) 9)) + (10 * (im 12 (Int32.toNatClampNeg x1) 8))) im lv))) ∧
 (¬ (0 ≤ x1 ∧ x1 < (im 10 0 1)) → P (-1000001) im lv)))) :
 zW x w 0 [(0, vR 0 0), (1, vI x1), (2, vI x2)] [] im lv := by
  refine zi_aload_n hO dX11_told_0 0 rfl ?_
  refine zi_getR (r' := 10) (i' := 0) hO dX11_told_1 fX11_25 rfl rfl (zI (by decide)) rfl ?_
  refine zi_iload_n hO dX11_told_4 1 rfl ?_
  obtain ⟨s2, h⟩ := h
  refine zc_VQ (as := [vI x1]) hO hN dX11_told_5 kX11_199 (by decide) rfl (zI (by decide)) rfl rfl (Nat.le_of_ble_eq_true rfl) rfl rfl (C_X1_flightOrNull _ _ _ _ s2) (fun im1 lv1 hp1 => ?_) (fun j1 im1 lv1 hp1 => ?_)
  · rw [hp1.2.1, hp1.2.2]
    have h := h.2 (zq_none hp1.1)
    refine zi_astore_nN (L' := [(0, vR 0 0), (1, vI x1), (2, vI x2), (3, vN)]) hO dX11_told_8 (by decide) rfl rfl ?_
    refine zi_aload_nN hO dX11_told_9 3 rfl ?_
    refine zi_ifnonnullN hO dX11_told_10 ?_
    refine zi_ldc (v := (-1000001)) hO dX11_told_13 nX11_100 ?_
    exact zr_I hO hR rfl dX11_told_15 h
  · rw [hp1.2.1, hp1.2.2, (zq_some hp1.1).2]
    obtain ⟨hj1, h⟩ := h.1 (zq_some hp1.1).1
    refine zi_astore_n (L' := [(0, vR 0 0), (1, vI x1), (2, vI x2), (3, vR 12 (Int32.toNatClampNeg x1))]) hO dX11_told_8 (by decide) rfl rfl ?_
    refine zi_aload_n hO dX11_told_9 3 rfl ?_
    refine zi_ifnonnull (tgt := 16) hO dX11_told_10 (by decide) ?_
    refine zi_iload_n hO dX11_told_16 2 rfl ?_
    by_cases hs0 : Int32.toInt x2 < 0 ∨ 7 < Int32.toInt x2
    · have h := h.1 (zsw_out (by decide) (by decide) hs0)
      refine zi_tableOut (tgt := 104) hO dX11_told_17 hs0 (by decide) ?_
      refine zi_ldc (v := (-1000001)) hO dX11_told_104 nX11_100 ?_
      exact zr_I hO hR rfl dX11_told_106 h
    · have h := h.2
      by_cases hs1 : x2 = 0
      · have h := h.1 hs1
        refine zi_tableIn (off := 47) (tgt := 64) hO dX11_told_17 (zsw_lo hs1 (by decide)) (zsw_hi hs1 (by decide)) (zsw_at hs1 rfl) (by decide) ?_
        refine zi_aload_n hO dX11_told_64 3 rfl ?_
        refine zi_getI hO dX11_told_65 fX11_203 rfl rfl (zI hj1) ?_
        exact zr_I hO hR rfl dX11_told_68 h
      by_cases hs2 : x2 = 1
      · have h := h.2.1 hs2
        refine zi_tableIn (off := 52) (tgt := 69) hO dX11_told_17 (zsw_lo hs2 (by decide)) (zsw_hi hs2 (by decide)) (zsw_at hs2 rfl) (by decide) ?_
        refine zi_aload_n hO dX11_told_69 3 rfl ?_
        refine zi_getI hO dX11_told_70 fX11_208 rfl rfl (zI hj1) ?_
        exact zr_I hO hR rfl dX11_told_73 h
      by_cases hs3 : x2 = 2
      · have h := h.2.2.1 hs3
        refine zi_tableIn (off := 57) (tgt := 74) hO dX11_told_17 (zsw_lo hs3 (by decide)) (zsw_hi hs3 (by decide)) (zsw_at hs3 rfl) (by decide) ?_
        refine zi_aload_n hO dX11_told_74 3 rfl ?_
        refine zi_getI hO dX11_told_75 fX11_211 rfl rfl (zI hj1) ?_
        exact zr_I hO hR rfl dX11_told_78 h
      by_cases hs4 : x2 = 3
      · have h := h.2.2.2.1 hs4
        refine zi_tableIn (off := 62) (tgt := 79) hO dX11_told_17 (zsw_lo hs4 (by decide)) (zsw_hi hs4 (by decide)) (zsw_at hs4 rfl) (by decide) ?_
        refine zi_aload_n hO dX11_told_79 3 rfl ?_
        refine zi_getI hO dX11_told_80 fX11_214 rfl rfl (zI hj1) ?_
        exact zr_I hO hR rfl dX11_told_83 h
      by_cases hs5 : x2 = 4
      · have h := h.2.2.2.2.1 hs5
        refine zi_tableIn (off := 67) (tgt := 84) hO dX11_told_17 (zsw_lo hs5 (by decide)) (zsw_hi hs5 (by decide)) (zsw_at hs5 rfl) (by decide) ?_
        refine zi_aload_n hO dX11_told_84 3 rfl ?_
        refine zi_getI hO dX11_told_85 fX11_217 rfl rfl (zI hj1) ?_
        exact zr_I hO hR rfl dX11_told_88 h
      by_cases hs6 : x2 = 5
      · have h := h.2.2.2.2.2.1 hs6
        refine zi_tableIn (off := 72) (tgt := 89) hO dX11_told_17 (zsw_lo hs6 (by decide)) (zsw_hi hs6 (by decide)) (zsw_at hs6 rfl) (by decide) ?_
        refine zi_aload_n hO dX11_told_89 3 rfl ?_
        refine zi_getI hO dX11_told_90 fX11_220 rfl rfl (zI hj1) ?_
        exact zr_I hO hR rfl dX11_told_93 h
      by_cases hs7 : x2 = 6
      · have h := h.2.2.2.2.2.2.1 hs7
        refine zi_tableIn (off := 77) (tgt := 94) hO dX11_told_17 (zsw_lo hs7 (by decide)) (zsw_hi hs7 (by decide)) (zsw_at hs7 rfl) (by decide) ?_
        refine zi_aload_n hO dX11_told_94 3 rfl ?_
        refine zi_getI hO dX11_told_95 fX11_223 rfl rfl (zI hj1) ?_
        exact zr_I hO hR rfl dX11_told_98 h
      by_cases hs8 : x2 = 7
      · have h := h.2.2.2.2.2.2.2 hs8
        refine zi_tableIn (off := 82) (tgt := 99) hO dX11_told_17 (zsw_lo hs8 (by decide)) (zsw_hi hs8 (by decide)) (zsw_at hs8 rfl) (by decide) ?_
        refine zi_aload_n hO dX11_told_99 3 rfl ?_
        refine zc_VI (as := []) hO hN dX11_told_100 kX11_226 (by decide) rfl (zI hj1) rfl rfl (Nat.le_of_ble_eq_true rfl) rfl rfl (C_X2_cost _ _ _ _ hj1) (fun v3 im3 lv3 hp3 => ?_)
        rw [hp3.1, hp3.2.1, hp3.2.2]
        exact zr_I hO hR rfl dX11_told_103 h
      have e1 := zsw_ne (k := 0) hs1 (by decide)
      have e2 := zsw_ne (k := 1) hs2 (by decide)
      have e3 := zsw_ne (k := 2) hs3 (by decide)
      have e4 := zsw_ne (k := 3) hs4 (by decide)
      have e5 := zsw_ne (k := 4) hs5 (by decide)
      have e6 := zsw_ne (k := 5) hs6 (by decide)
      have e7 := zsw_ne (k := 6) hs7 (by decide)
      have e8 := zsw_ne (k := 7) hs8 (by decide)
      exfalso
      omega
theorem rX11_leg_0 {x : zX} {w : zWd} {im : zMem} {lv : Int64} {P : Int32 → zMem → Int64 → Prop} {x1 : Int32} {x2 : Int32} {x3 : Int32} {x4 : Int32} (hO : zOK x w zyX11_leg 3) (hR : zRetI x w zyX11_leg P) (hN : zN x 126 126)
 (h : ((im 10 0 1) ≤ 12 ∧ ((0 ≤ x1 ∧ x1 < (im 10 0 1) → (Int32.toNatClampNeg x1) < 12 ∧ ((¬ (0 ≤ x2 ∧ x2 < (im 12 (Int32.toNatClampNeg x1) 4)) → P (-1000001) im lv) ∧
 (0 ≤ x2 ∧ x2 < (im 12 (Int32.toNatClampNeg x1) 4) → ((x4 < 0 → P (-1000001) im lv) ∧
 (¬ (x4 < 0) → ((x4 ≤ 1 → ((x3 < 0 → P (-1000000) im lv) ∧
 (¬ (x3 < 0) → (vp_in x2 3 ∧ ((x3 < (im 13 (Int32.toNatClampNeg x1) (Int32.toNatClampNeg x2)) → ((¬ (x4 = 0) → (vp_in ((x2 * 5) + x3) 15 ∧ P (im 15 (Int32.toNatClampNeg x1) (Int32.toNatClampNeg ((x2 * 5) + x3))) im lv)) ∧
 (x4 = 0 → (vp_in ((x2 * 5) + x3) 15 ∧ P (im 14 (Int32.toNatClampNeg x1) (Int32.toNatClampNeg ((x2 * 5) + x3))) im lv)))) ∧
 (¬ (x3 < (im 13 (Int32.toNatClampNeg x1) (Int32.toNatClampNeg x2))) → P (-1000000) im lv)))))) ∧
 (¬ (x4 ≤ 1) → P (-1000001) im lv))))))) ∧
 (¬ (0 ≤ x1 ∧ x1 < (im 10 0 1)) → P (-1000001) im lv)))) :
 zW x w 0 [(0, vR 0 0), (1, vI x1), (2, vI x2), (3, vI x3), (4, vI x4)] [] im lv := by
  refine zi_aload_n hO dX11_leg_0 0 rfl ?_
  refine zi_getR (r' := 10) (i' := 0) hO dX11_leg_1 fX11_25 rfl rfl (zI (by decide)) rfl ?_
  refine zi_iload_n hO dX11_leg_4 1 rfl ?_
  obtain ⟨s2, h⟩ := h
  refine zc_VQ (as := [vI x1]) hO hN dX11_leg_5 kX11_199 (by decide) rfl (zI (by decide)) rfl rfl (Nat.le_of_ble_eq_true rfl) rfl rfl (C_X1_flightOrNull _ _ _ _ s2) (fun im1 lv1 hp1 => ?_) (fun j1 im1 lv1 hp1 => ?_)
  · rw [hp1.2.1, hp1.2.2]
    have h := h.2 (zq_none hp1.1)
    refine zi_astoreN (L' := [(0, vR 0 0), (1, vI x1), (2, vI x2), (3, vI x3), (4, vI x4), (5, vN)]) hO dX11_leg_8 (by decide) rfl rfl ?_
    refine zi_aloadN hO dX11_leg_10 5 rfl ?_
    refine zi_ifnullN (tgt := 35) hO dX11_leg_12 (by decide) ?_
    refine zi_ldc (v := (-1000001)) hO dX11_leg_35 nX11_100 ?_
    exact zr_I hO hR rfl dX11_leg_37 h
  · rw [hp1.2.1, hp1.2.2, (zq_some hp1.1).2]
    obtain ⟨hj1, h⟩ := h.1 (zq_some hp1.1).1
    refine zi_astore (L' := [(0, vR 0 0), (1, vI x1), (2, vI x2), (3, vI x3), (4, vI x4), (5, vR 12 (Int32.toNatClampNeg x1))]) hO dX11_leg_8 (by decide) rfl rfl ?_
    refine zi_aload hO dX11_leg_10 5 rfl ?_
    refine zi_ifnull hO dX11_leg_12 ?_
    refine zi_aload hO dX11_leg_15 5 rfl ?_
    refine zi_iload_n hO dX11_leg_17 2 rfl ?_
    refine zc_VI (as := [vI x2]) hO hN dX11_leg_18 kX11_229 (by decide) rfl (zI hj1) rfl rfl (Nat.le_of_ble_eq_true rfl) rfl rfl (C_X2_hasWay _ _ _ _ hj1) (fun v3 im3 lv3 hp3 => ?_)
    rw [hp3.1, hp3.2.1, hp3.2.2]
    refine zi_if_eq (tgt := 35) hO dX11_leg_21 (by decide) (fun c1 => ?_) (fun c1 => ?_)
    · have h := h.1 (vB_0.mp c1)
      refine zi_ldc (v := (-1000001)) hO dX11_leg_35 nX11_100 ?_
      exact zr_I hO hR rfl dX11_leg_37 h
    · have h := h.2 (vB_1.mp (vB_01.resolve_left c1))
      refine zi_iload hO dX11_leg_24 4 rfl ?_
      refine zi_if_lt (tgt := 35) hO dX11_leg_26 (by decide) (fun c2 => ?_) (fun c2 => ?_)
      · have h := h.1 c2
        refine zi_ldc (v := (-1000001)) hO dX11_leg_35 nX11_100 ?_
        exact zr_I hO hR rfl dX11_leg_37 h
      · have h := h.2 c2
        refine zi_iload hO dX11_leg_29 4 rfl ?_
        refine zi_iconst (v := 1) hO dX11_leg_31 (by decide) ?_
        refine zi_icmp_le (tgt := 38) hO dX11_leg_32 (by decide) (fun c3 => ?_) (fun c3 => ?_)
        · have h := h.1 c3
          refine zi_iload_n hO dX11_leg_38 3 rfl ?_
          refine zi_if_lt (tgt := 53) hO dX11_leg_39 (by decide) (fun c4 => ?_) (fun c4 => ?_)
          · have h := h.1 c4
            refine zi_ldc (v := (-1000000)) hO dX11_leg_53 nX11_170 ?_
            exact zr_I hO hR rfl dX11_leg_55 h
          · have h := h.2 c4
            refine zi_iload_n hO dX11_leg_42 3 rfl ?_
            refine zi_aload hO dX11_leg_43 5 rfl ?_
            refine zi_getR (r' := 13) (i' := (Int32.toNatClampNeg x1)) hO dX11_leg_45 fX11_232 rfl rfl (zI hj1) rfl ?_
            refine zi_iload_n hO dX11_leg_48 2 rfl ?_
            obtain ⟨s4, h⟩ := h
            refine zi_iald hO dX11_leg_49 rfl (zI hj1) s4 ?_
            refine zi_icmp_lt (tgt := 56) hO dX11_leg_50 (by decide) (fun c5 => ?_) (fun c5 => ?_)
            · have h := h.1 c5
              refine zi_iload_n hO dX11_leg_56 2 rfl ?_
              refine zi_iconst (v := 5) hO dX11_leg_57 (by decide) ?_
              refine zi_imul hO dX11_leg_58 ?_
              refine zi_iload_n hO dX11_leg_59 3 rfl ?_
              refine zi_iadd hO dX11_leg_60 ?_
              refine zi_istore (L' := [(0, vR 0 0), (1, vI x1), (2, vI x2), (3, vI x3), (4, vI x4), (5, vR 12 (Int32.toNatClampNeg x1)), (6, vI ((x2 * 5) + x3))]) hO dX11_leg_61 (by decide) rfl rfl ?_
              refine zi_iload hO dX11_leg_63 4 rfl ?_
              refine zi_if_ne (tgt := 79) hO dX11_leg_65 (by decide) (fun c6 => ?_) (fun c6 => ?_)
              · have h := h.1 c6
                refine zi_aload hO dX11_leg_79 5 rfl ?_
                refine zi_getR (r' := 15) (i' := (Int32.toNatClampNeg x1)) hO dX11_leg_81 fX11_238 rfl rfl (zI hj1) rfl ?_
                refine zi_iload hO dX11_leg_84 6 rfl ?_
                obtain ⟨s5, h⟩ := h
                refine zi_iald hO dX11_leg_86 rfl (zI hj1) s5 ?_
                exact zr_I hO hR rfl dX11_leg_87 h
              · have h := h.2 c6
                refine zi_aload hO dX11_leg_68 5 rfl ?_
                refine zi_getR (r' := 14) (i' := (Int32.toNatClampNeg x1)) hO dX11_leg_70 fX11_235 rfl rfl (zI hj1) rfl ?_
                refine zi_iload hO dX11_leg_73 6 rfl ?_
                obtain ⟨s6, h⟩ := h
                refine zi_iald hO dX11_leg_75 rfl (zI hj1) s6 ?_
                refine zi_goto (tgt := 87) hO dX11_leg_76 (by decide) ?_
                exact zr_I hO hR rfl dX11_leg_87 h
            · have h := h.2 c5
              refine zi_ldc (v := (-1000000)) hO dX11_leg_53 nX11_170 ?_
              exact zr_I hO hR rfl dX11_leg_55 h
        · have h := h.2 c3
          refine zi_ldc (v := (-1000001)) hO dX11_leg_35 nX11_100 ?_
          exact zr_I hO hR rfl dX11_leg_37 h
theorem rX11_at_0 {x : zX} {w : zWd} {im : zMem} {lv : Int64} {P : Int32 → zMem → Int64 → Prop} {x1 : Int32} {x2 : Int32} (hO : zOK x w zyX11_at 3) (hR : zRetI x w zyX11_at P) (hN : zN x 126 126)
 (h : ((im 10 0 1) ≤ 12 ∧ ((0 ≤ x1 ∧ x1 < (im 10 0 1) → (Int32.toNatClampNeg x1) < 12 ∧ ((0 ≤ x2 ∧ x2 < 48 → (∃ P4 : Int32 → zMem → Int64 → Prop, zSpecI x.2.1 w 2 zyX2_roomIn [vR 12 (Int32.toNatClampNeg x1), vI x2, vI (im 12 (Int32.toNatClampNeg x1) 8), vI (im 12 (Int32.toNatClampNeg x1) 9)] im lv P4 ∧ ∀ (v4 : Int32) (im4 : zMem) (lv4 : Int64), P4 v4 im4 lv4 → P v4 im4 lv4)) ∧
 (¬ (0 ≤ x2 ∧ x2 < 48) → P (-1000001) im lv))) ∧
 (¬ (0 ≤ x1 ∧ x1 < (im 10 0 1)) → P (-1000001) im lv)))) :
 zW x w 0 [(0, vR 0 0), (1, vI x1), (2, vI x2)] [] im lv := by
  refine zi_aload_n hO dX11_at_0 0 rfl ?_
  refine zi_getR (r' := 10) (i' := 0) hO dX11_at_1 fX11_25 rfl rfl (zI (by decide)) rfl ?_
  refine zi_iload_n hO dX11_at_4 1 rfl ?_
  obtain ⟨s2, h⟩ := h
  refine zc_VQ (as := [vI x1]) hO hN dX11_at_5 kX11_199 (by decide) rfl (zI (by decide)) rfl rfl (Nat.le_of_ble_eq_true rfl) rfl rfl (C_X1_flightOrNull _ _ _ _ s2) (fun im1 lv1 hp1 => ?_) (fun j1 im1 lv1 hp1 => ?_)
  · rw [hp1.2.1, hp1.2.2]
    have h := h.2 (zq_none hp1.1)
    refine zi_astore_nN (L' := [(0, vR 0 0), (1, vI x1), (2, vI x2), (3, vN)]) hO dX11_at_8 (by decide) rfl rfl ?_
    refine zi_aload_nN hO dX11_at_9 3 rfl ?_
    refine zi_ifnullN (tgt := 20) hO dX11_at_10 (by decide) ?_
    refine zi_ldc (v := (-1000001)) hO dX11_at_20 nX11_100 ?_
    exact zr_I hO hR rfl dX11_at_22 h
  · rw [hp1.2.1, hp1.2.2, (zq_some hp1.1).2]
    obtain ⟨hj1, h⟩ := h.1 (zq_some hp1.1).1
    refine zi_astore_n (L' := [(0, vR 0 0), (1, vI x1), (2, vI x2), (3, vR 12 (Int32.toNatClampNeg x1))]) hO dX11_at_8 (by decide) rfl rfl ?_
    refine zi_aload_n hO dX11_at_9 3 rfl ?_
    refine zi_ifnull hO dX11_at_10 ?_
    refine zi_iload_n hO dX11_at_13 2 rfl ?_
    refine zc_SI (as := [vI x2]) hO hN dX11_at_14 kX11_167 (by decide) rfl (Nat.le_of_ble_eq_true rfl) rfl rfl (C_X11_isSlot _ _ _ _) (fun v3 im3 lv3 hp3 => ?_)
    rw [hp3.1, hp3.2.1, hp3.2.2]
    refine zi_if_ne (tgt := 23) hO dX11_at_17 (by decide) (fun c1 => ?_) (fun c1 => ?_)
    · have h := h.1 (vB_1.mp (vB_01.resolve_left c1))
      refine zi_aload_n hO dX11_at_23 3 rfl ?_
      refine zi_iload_n hO dX11_at_24 2 rfl ?_
      refine zi_aload_n hO dX11_at_25 3 rfl ?_
      refine zi_getI hO dX11_at_26 fX11_220 rfl rfl (zI hj1) ?_
      refine zi_aload_n hO dX11_at_29 3 rfl ?_
      refine zi_getI hO dX11_at_30 fX11_223 rfl rfl (zI hj1) ?_
      obtain ⟨P4, hM4, h⟩ := h
      refine zc_VI (as := [vI x2, vI (im 12 (Int32.toNatClampNeg x1) 8), vI (im 12 (Int32.toNatClampNeg x1) 9)]) hO hN dX11_at_33 kX11_241 (by decide) rfl (zI hj1) rfl rfl (Nat.le_of_ble_eq_true rfl) rfl rfl hM4 (fun v4 im4 lv4 hp4 => ?_)
      replace h := h v4 im4 lv4 hp4
      exact zr_I hO hR rfl dX11_at_36 h
    · have h := h.2 (vB_0.mp c1)
      refine zi_ldc (v := (-1000001)) hO dX11_at_20 nX11_100 ?_
      exact zr_I hO hR rfl dX11_at_22 h
theorem rX11_load_0 {x : zX} {w : zWd} {im : zMem} {lv : Int64} {P : Int32 → zMem → Int64 → Prop} {x1 : Int32} {x2 : Int32} {x3 : Int32} (hO : zOK x w zyX11_load 6) (hR : zRetI x w zyX11_load P) (hN : zN x 126 126)
 (h : ((¬ (0 ≤ x1 ∧ x1 < 8) → P (-1000001) im lv) ∧
 (0 ≤ x1 ∧ x1 < 8 → ((¬ (0 ≤ x2 ∧ x2 < 48) → P (-1000001) im lv) ∧
 (0 ≤ x2 ∧ x2 < 48 → ((x3 < 0 → P (-1000001) im lv) ∧
 (¬ (x3 < 0) → ((x3 ≤ 1 → (∃ P3 : zMem → Int64 → Prop, zSpecV x.2.1 w 5 zyX8_refresh [vR 20 0] im lv P3 ∧ ∀ (im3 : zMem) (lv3 : Int64), P3 im3 lv3 → ((¬ (x3 = 0) → (vp_in ((x1 * 48) + x2) 384 ∧ P (if 0 < ((im3 21 0 (Int32.toNatClampNeg ((x1 * 48) + x2))) - (im3 22 0 (Int32.toNatClampNeg ((x1 * 48) + x2)))) then ((im3 21 0 (Int32.toNatClampNeg ((x1 * 48) + x2))) - (im3 22 0 (Int32.toNatClampNeg ((x1 * 48) + x2)))) else 0) im3 lv3)) ∧
 (x3 = 0 → (vp_in ((x1 * 48) + x2) 384 ∧ P (im3 21 0 (Int32.toNatClampNeg ((x1 * 48) + x2))) im3 lv3))))) ∧
 (¬ (x3 ≤ 1) → P (-1000001) im lv))))))))) :
 zW x w 0 [(0, vR 0 0), (1, vI x1), (2, vI x2), (3, vI x3)] [] im lv := by
  refine zi_iload_n hO dX11_load_0 1 rfl ?_
  refine zc_SI (as := [vI x1]) hO hN dX11_load_1 kX11_144 (by decide) rfl (Nat.le_of_ble_eq_true rfl) rfl rfl (C_X11_isRoom _ _ _ _) (fun v1 im1 lv1 hp1 => ?_)
  rw [hp1.1, hp1.2.1, hp1.2.2]
  refine zi_if_eq (tgt := 23) hO dX11_load_4 (by decide) (fun c1 => ?_) (fun c1 => ?_)
  · have h := h.1 (vB_0.mp c1)
    refine zi_ldc (v := (-1000001)) hO dX11_load_23 nX11_100 ?_
    exact zr_I hO hR rfl dX11_load_25 h
  · have h := h.2 (vB_1.mp (vB_01.resolve_left c1))
    refine zi_iload_n hO dX11_load_7 2 rfl ?_
    refine zc_SI (as := [vI x2]) hO hN dX11_load_8 kX11_167 (by decide) rfl (Nat.le_of_ble_eq_true rfl) rfl rfl (C_X11_isSlot _ _ _ _) (fun v2 im2 lv2 hp2 => ?_)
    rw [hp2.1, hp2.2.1, hp2.2.2]
    refine zi_if_eq (tgt := 23) hO dX11_load_11 (by decide) (fun c2 => ?_) (fun c2 => ?_)
    · have h := h.1 (vB_0.mp c2)
      refine zi_ldc (v := (-1000001)) hO dX11_load_23 nX11_100 ?_
      exact zr_I hO hR rfl dX11_load_25 h
    · have h := h.2 (vB_1.mp (vB_01.resolve_left c2))
      refine zi_iload_n hO dX11_load_14 3 rfl ?_
      refine zi_if_lt (tgt := 23) hO dX11_load_15 (by decide) (fun c3 => ?_) (fun c3 => ?_)
      · have h := h.1 c3
        refine zi_ldc (v := (-1000001)) hO dX11_load_23 nX11_100 ?_
        exact zr_I hO hR rfl dX11_load_25 h
      · have h := h.2 c3
        refine zi_iload_n hO dX11_load_18 3 rfl ?_
        refine zi_iconst (v := 1) hO dX11_load_19 (by decide) ?_
        refine zi_icmp_le (tgt := 26) hO dX11_load_20 (by decide) (fun c4 => ?_) (fun c4 => ?_)
        · have h := h.1 c4
          refine zi_aload_n hO dX11_load_26 0 rfl ?_
          refine zi_getR (r' := 20) (i' := 0) hO dX11_load_27 fX11_50 rfl rfl (zI (by decide)) rfl ?_
          obtain ⟨P3, hM3, h⟩ := h
          refine zc_VV (as := []) hO hN dX11_load_30 kX11_244 (by decide) rfl (zI (by decide)) rfl rfl (Nat.le_of_ble_eq_true rfl) rfl rfl hM3 (fun im3 lv3 hp3 => ?_)
          replace h := h im3 lv3 hp3
          refine zi_iload_n hO dX11_load_33 1 rfl ?_
          refine zi_iload_n hO dX11_load_34 2 rfl ?_
          refine zc_SI (as := [vI x1, vI x2]) hO hN dX11_load_35 kX11_154 (by decide) rfl (Nat.le_of_ble_eq_true rfl) rfl rfl (C_X11_cellOf _ _ _ _) (fun v4 im4 lv4 hp4 => ?_)
          rw [hp4.1, hp4.2.1, hp4.2.2]
          refine zi_istore (L' := [(0, vR 0 0), (1, vI x1), (2, vI x2), (3, vI x3), (4, vI ((x1 * 48) + x2))]) hO dX11_load_38 (by decide) rfl rfl ?_
          refine zi_iload_n hO dX11_load_40 3 rfl ?_
          refine zi_if_ne (tgt := 57) hO dX11_load_41 (by decide) (fun c5 => ?_) (fun c5 => ?_)
          · have h := h.1 c5
            refine zi_aload_n hO dX11_load_57 0 rfl ?_
            refine zi_getR (r' := 20) (i' := 0) hO dX11_load_58 fX11_50 rfl rfl (zI (by decide)) rfl ?_
            refine zi_iload hO dX11_load_61 4 rfl ?_
            obtain ⟨s6, h⟩ := h
            refine zc_VI (as := [vI ((x1 * 48) + x2)]) hO hN dX11_load_63 kX11_250 (by decide) rfl (zI (by decide)) rfl rfl (Nat.le_of_ble_eq_true rfl) rfl rfl (C_X8_tooMuchIn _ _ _ _ s6) (fun v5 im5 lv5 hp5 => ?_)
            rw [hp5.1, hp5.2.1, hp5.2.2]
            exact zr_I hO hR rfl dX11_load_66 h
          · have h := h.2 c5
            refine zi_aload_n hO dX11_load_44 0 rfl ?_
            refine zi_getR (r' := 20) (i' := 0) hO dX11_load_45 fX11_50 rfl rfl (zI (by decide)) rfl ?_
            refine zi_getR (r' := 21) (i' := 0) hO dX11_load_48 fX11_247 rfl rfl (zI (by decide)) rfl ?_
            refine zi_iload hO dX11_load_51 4 rfl ?_
            obtain ⟨s7, h⟩ := h
            refine zi_iald hO dX11_load_53 rfl (zI (by decide)) s7 ?_
            refine zi_goto (tgt := 66) hO dX11_load_54 (by decide) ?_
            exact zr_I hO hR rfl dX11_load_66 h
        · have h := h.2 c4
          refine zi_ldc (v := (-1000001)) hO dX11_load_23 nX11_100 ?_
          exact zr_I hO hR rfl dX11_load_25 h
theorem rX11_all_0 {x : zX} {w : zWd} {im : zMem} {lv : Int64} {P : Int32 → zMem → Int64 → Prop} {x1 : Int32} (hO : zOK x w zyX11_all 6) (hR : zRetI x w zyX11_all P) (hN : zN x 126 126)
 (h : (∃ P1 : zMem → Int64 → Prop, zSpecV x.2.1 w 5 zyX8_refresh [vR 20 0] im lv P1 ∧ ∀ (im1 : zMem) (lv1 : Int64), P1 im1 lv1 → (x1 < 0 ∨ 5 < x1 → P (-1000001) im1 lv1) ∧ ((x1 = 0 → (∃ P2 : Int32 → zMem → Int64 → Prop, zSpecI x.2.1 w 4 zyX8_tooMuchTogether [vR 20 0] im1 lv1 P2 ∧ ∀ (v2 : Int32) (im2 : zMem) (lv2 : Int64), P2 v2 im2 lv2 → P v2 im2 lv2)) ∧
 (x1 = 1 → (∃ P3 : Int32 → zMem → Int64 → Prop, zSpecI x.2.1 w 4 zyX1_costTogether [vR 10 0] im1 lv1 P3 ∧ ∀ (v3 : Int32) (im3 : zMem) (lv3 : Int64), P3 v3 im3 lv3 → P v3 im3 lv3)) ∧
 (x1 = 2 → (∃ P4 : Int32 → zMem → Int64 → Prop, zSpecI x.2.1 w 2 zyX1_delaysTogether [vR 10 0] im1 lv1 P4 ∧ ∀ (v4 : Int32) (im4 : zMem) (lv4 : Int64), P4 v4 im4 lv4 → P v4 im4 lv4)) ∧
 (x1 = 3 → (∃ P5 : Int32 → zMem → Int64 → Prop, zSpecI x.2.1 w 5 zyX4_unfairness [vR 35 0] im1 lv1 P5 ∧ ∀ (v5 : Int32) (im5 : zMem) (lv5 : Int64), P5 v5 im5 lv5 → P v5 im5 lv5)) ∧
 (x1 = 4 → (∃ P6 : Int32 → zMem → Int64 → Prop, zSpecI x.2.1 w 4 zyX8_crowdedCells [vR 20 0] im1 lv1 P6 ∧ ∀ (v6 : Int32) (im6 : zMem) (lv6 : Int64), P6 v6 im6 lv6 → P v6 im6 lv6)) ∧
 (x1 = 5 → (∃ P7 : Int32 → zMem → Int64 → Prop, zSpecI x.2.1 w 3 zyX8_greatestLoad [vR 20 0] im1 lv1 P7 ∧ ∀ (v7 : Int32) (im7 : zMem) (lv7 : Int64), P7 v7 im7 lv7 → P v7 im7 lv7))))) :
 zW x w 0 [(0, vR 0 0), (1, vI x1)] [] im lv := by
  refine zi_aload_n hO dX11_all_0 0 rfl ?_
  refine zi_getR (r' := 20) (i' := 0) hO dX11_all_1 fX11_50 rfl rfl (zI (by decide)) rfl ?_
  obtain ⟨P1, hM1, h⟩ := h
  refine zc_VV (as := []) hO hN dX11_all_4 kX11_244 (by decide) rfl (zI (by decide)) rfl rfl (Nat.le_of_ble_eq_true rfl) rfl rfl hM1 (fun im1 lv1 hp1 => ?_)
  replace h := h im1 lv1 hp1
  refine zi_iload_n hO dX11_all_7 1 rfl ?_
  by_cases hs0 : Int32.toInt x1 < 0 ∨ 5 < Int32.toInt x1
  · have h := h.1 (zsw_out (by decide) (by decide) hs0)
    refine zi_tableOut (tgt := 96) hO dX11_all_8 hs0 (by decide) ?_
    refine zi_ldc (v := (-1000001)) hO dX11_all_96 nX11_100 ?_
    exact zr_I hO hR rfl dX11_all_98 h
  · have h := h.2
    by_cases hs1 : x1 = 0
    · have h := h.1 hs1
      refine zi_tableIn (off := 40) (tgt := 48) hO dX11_all_8 (zsw_lo hs1 (by decide)) (zsw_hi hs1 (by decide)) (zsw_at hs1 rfl) (by decide) ?_
      refine zi_aload_n hO dX11_all_48 0 rfl ?_
      refine zi_getR (r' := 20) (i' := 0) hO dX11_all_49 fX11_50 rfl rfl (zI (by decide)) rfl ?_
      obtain ⟨P2, hM2, h⟩ := h
      refine zc_VI (as := []) hO hN dX11_all_52 kX11_253 (by decide) rfl (zI (by decide)) rfl rfl (Nat.le_of_ble_eq_true rfl) rfl rfl hM2 (fun v2 im2 lv2 hp2 => ?_)
      replace h := h v2 im2 lv2 hp2
      exact zr_I hO hR rfl dX11_all_55 h
    by_cases hs2 : x1 = 1
    · have h := h.2.1 hs2
      refine zi_tableIn (off := 48) (tgt := 56) hO dX11_all_8 (zsw_lo hs2 (by decide)) (zsw_hi hs2 (by decide)) (zsw_at hs2 rfl) (by decide) ?_
      refine zi_aload_n hO dX11_all_56 0 rfl ?_
      refine zi_getR (r' := 10) (i' := 0) hO dX11_all_57 fX11_25 rfl rfl (zI (by decide)) rfl ?_
      obtain ⟨P3, hM3, h⟩ := h
      refine zc_VI (as := []) hO hN dX11_all_60 kX11_256 (by decide) rfl (zI (by decide)) rfl rfl (Nat.le_of_ble_eq_true rfl) rfl rfl hM3 (fun v3 im3 lv3 hp3 => ?_)
      replace h := h v3 im3 lv3 hp3
      exact zr_I hO hR rfl dX11_all_63 h
    by_cases hs3 : x1 = 2
    · have h := h.2.2.1 hs3
      refine zi_tableIn (off := 56) (tgt := 64) hO dX11_all_8 (zsw_lo hs3 (by decide)) (zsw_hi hs3 (by decide)) (zsw_at hs3 rfl) (by decide) ?_
      refine zi_aload_n hO dX11_all_64 0 rfl ?_
      refine zi_getR (r' := 10) (i' := 0) hO dX11_all_65 fX11_25 rfl rfl (zI (by decide)) rfl ?_
      obtain ⟨P4, hM4, h⟩ := h
      refine zc_VI (as := []) hO hN dX11_all_68 kX11_259 (by decide) rfl (zI (by decide)) rfl rfl (Nat.le_of_ble_eq_true rfl) rfl rfl hM4 (fun v4 im4 lv4 hp4 => ?_)
      replace h := h v4 im4 lv4 hp4
      exact zr_I hO hR rfl dX11_all_71 h
    by_cases hs4 : x1 = 3
    · have h := h.2.2.2.1 hs4
      refine zi_tableIn (off := 64) (tgt := 72) hO dX11_all_8 (zsw_lo hs4 (by decide)) (zsw_hi hs4 (by decide)) (zsw_at hs4 rfl) (by decide) ?_
      refine zi_aload_n hO dX11_all_72 0 rfl ?_
      refine zi_getR (r' := 35) (i' := 0) hO dX11_all_73 fX11_75 rfl rfl (zI (by decide)) rfl ?_
      obtain ⟨P5, hM5, h⟩ := h
      refine zc_VI (as := []) hO hN dX11_all_76 kX11_262 (by decide) rfl (zI (by decide)) rfl rfl (Nat.le_of_ble_eq_true rfl) rfl rfl hM5 (fun v5 im5 lv5 hp5 => ?_)
      replace h := h v5 im5 lv5 hp5
      exact zr_I hO hR rfl dX11_all_79 h
    by_cases hs5 : x1 = 4
    · have h := h.2.2.2.2.1 hs5
      refine zi_tableIn (off := 72) (tgt := 80) hO dX11_all_8 (zsw_lo hs5 (by decide)) (zsw_hi hs5 (by decide)) (zsw_at hs5 rfl) (by decide) ?_
      refine zi_aload_n hO dX11_all_80 0 rfl ?_
      refine zi_getR (r' := 20) (i' := 0) hO dX11_all_81 fX11_50 rfl rfl (zI (by decide)) rfl ?_
      obtain ⟨P6, hM6, h⟩ := h
      refine zc_VI (as := []) hO hN dX11_all_84 kX11_265 (by decide) rfl (zI (by decide)) rfl rfl (Nat.le_of_ble_eq_true rfl) rfl rfl hM6 (fun v6 im6 lv6 hp6 => ?_)
      replace h := h v6 im6 lv6 hp6
      exact zr_I hO hR rfl dX11_all_87 h
    by_cases hs6 : x1 = 5
    · have h := h.2.2.2.2.2 hs6
      refine zi_tableIn (off := 80) (tgt := 88) hO dX11_all_8 (zsw_lo hs6 (by decide)) (zsw_hi hs6 (by decide)) (zsw_at hs6 rfl) (by decide) ?_
      refine zi_aload_n hO dX11_all_88 0 rfl ?_
      refine zi_getR (r' := 20) (i' := 0) hO dX11_all_89 fX11_50 rfl rfl (zI (by decide)) rfl ?_
      obtain ⟨P7, hM7, h⟩ := h
      refine zc_VI (as := []) hO hN dX11_all_92 kX11_268 (by decide) rfl (zI (by decide)) rfl rfl (Nat.le_of_ble_eq_true rfl) rfl rfl hM7 (fun v7 im7 lv7 hp7 => ?_)
      replace h := h v7 im7 lv7 hp7
      exact zr_I hO hR rfl dX11_all_95 h
    have e1 := zsw_ne (k := 0) hs1 (by decide)
    have e2 := zsw_ne (k := 1) hs2 (by decide)
    have e3 := zsw_ne (k := 2) hs3 (by decide)
    have e4 := zsw_ne (k := 3) hs4 (by decide)
    have e5 := zsw_ne (k := 4) hs5 (by decide)
    have e6 := zsw_ne (k := 5) hs6 (by decide)
    exfalso
    omega
theorem rX11_known_0 {x : zX} {w : zWd} {im : zMem} {lv : Int64} {P : Int32 → zMem → Int64 → Prop} {x1 : Int32} {x2 : Int32} {x3 : Int32} (hO : zOK x w zyX11_known 4) (hR : zRetI x w zyX11_known P) (hN : zN x 126 126)
 (h : ((¬ (0 ≤ x1 ∧ x1 < 8) → P (-1000001) im lv) ∧
 (0 ≤ x1 ∧ x1 < 8 → ((¬ (0 ≤ x2 ∧ x2 < 48) → P (-1000001) im lv) ∧
 (0 ≤ x2 ∧ x2 < 48 → ((0 ≤ x3 → (∃ P3 : Int32 → zMem → Int64 → Prop, zSpecI x.2.1 w 3 zyX1_loadKnownAt [vR 10 0, vI x1, vI x2, vI x3] im lv P3 ∧ ∀ (v3 : Int32) (im3 : zMem) (lv3 : Int64), P3 v3 im3 lv3 → P v3 im3 lv3)) ∧
 (¬ (0 ≤ x3) → P (-1000001) im lv))))))) :
 zW x w 0 [(0, vR 0 0), (1, vI x1), (2, vI x2), (3, vI x3)] [] im lv := by
  refine zi_iload_n hO dX11_known_0 1 rfl ?_
  refine zc_SI (as := [vI x1]) hO hN dX11_known_1 kX11_144 (by decide) rfl (Nat.le_of_ble_eq_true rfl) rfl rfl (C_X11_isRoom _ _ _ _) (fun v1 im1 lv1 hp1 => ?_)
  rw [hp1.1, hp1.2.1, hp1.2.2]
  refine zi_if_eq (tgt := 18) hO dX11_known_4 (by decide) (fun c1 => ?_) (fun c1 => ?_)
  · have h := h.1 (vB_0.mp c1)
    refine zi_ldc (v := (-1000001)) hO dX11_known_18 nX11_100 ?_
    exact zr_I hO hR rfl dX11_known_20 h
  · have h := h.2 (vB_1.mp (vB_01.resolve_left c1))
    refine zi_iload_n hO dX11_known_7 2 rfl ?_
    refine zc_SI (as := [vI x2]) hO hN dX11_known_8 kX11_167 (by decide) rfl (Nat.le_of_ble_eq_true rfl) rfl rfl (C_X11_isSlot _ _ _ _) (fun v2 im2 lv2 hp2 => ?_)
    rw [hp2.1, hp2.2.1, hp2.2.2]
    refine zi_if_eq (tgt := 18) hO dX11_known_11 (by decide) (fun c2 => ?_) (fun c2 => ?_)
    · have h := h.1 (vB_0.mp c2)
      refine zi_ldc (v := (-1000001)) hO dX11_known_18 nX11_100 ?_
      exact zr_I hO hR rfl dX11_known_20 h
    · have h := h.2 (vB_1.mp (vB_01.resolve_left c2))
      refine zi_iload_n hO dX11_known_14 3 rfl ?_
      refine zi_if_ge (tgt := 21) hO dX11_known_15 (by decide) (fun c3 => ?_) (fun c3 => ?_)
      · have h := h.1 c3
        refine zi_aload_n hO dX11_known_21 0 rfl ?_
        refine zi_getR (r' := 10) (i' := 0) hO dX11_known_22 fX11_25 rfl rfl (zI (by decide)) rfl ?_
        refine zi_iload_n hO dX11_known_25 1 rfl ?_
        refine zi_iload_n hO dX11_known_26 2 rfl ?_
        refine zi_iload_n hO dX11_known_27 3 rfl ?_
        obtain ⟨P3, hM3, h⟩ := h
        refine zc_VI (as := [vI x1, vI x2, vI x3]) hO hN dX11_known_28 kX11_271 (by decide) rfl (zI (by decide)) rfl rfl (Nat.le_of_ble_eq_true rfl) rfl rfl hM3 (fun v3 im3 lv3 hp3 => ?_)
        replace h := h v3 im3 lv3 hp3
        exact zr_I hO hR rfl dX11_known_31 h
      · have h := h.2 c3
        refine zi_ldc (v := (-1000001)) hO dX11_known_18 nX11_100 ?_
        exact zr_I hO hR rfl dX11_known_20 h
theorem rX11_split_0 {x : zX} {w : zWd} {im : zMem} {lv : Int64} {P : Int32 → zMem → Int64 → Prop} {x1 : Int32} (hO : zOK x w zyX11_split 8) (hR : zRetI x w zyX11_split P) (hN : zN x 126 126)
 (h : ((x1 = (-1000000) → (∃ P1 : zMem → Int64 → Prop, zSpecV x.2.1 w 5 zyX8_refresh [vR 20 0] im lv P1 ∧ ∀ (im1 : zMem) (lv1 : Int64), P1 im1 lv1 → (∃ P2 : zMem → Int64 → Prop, zSpecV x.2.1 w 7 zyX9_makePlan [vR 24 0] im1 lv1 P2 ∧ ∀ (im2 : zMem) (lv2 : Int64), P2 im2 lv2 → P (im2 24 0 6) im2 lv2))) ∧
 (¬ (x1 = (-1000000)) → ((0 ≤ x1 ∧ x1 < 48 → (∃ P4 : zMem → Int64 → Prop, zSpecV x.2.1 w 5 zyX8_refresh [vR 20 0] im lv P4 ∧ ∀ (im4 : zMem) (lv4 : Int64), P4 im4 lv4 → (∃ P5 : zMem → Int64 → Prop, zSpecV x.2.1 w 7 zyX9_makePlan [vR 24 0] im4 lv4 P5 ∧ ∀ (im5 : zMem) (lv5 : Int64), P5 im5 lv5 → (vp_in x1 48 ∧ P (im5 28 0 (Int32.toNatClampNeg x1)) im5 lv5)))) ∧
 (¬ (0 ≤ x1 ∧ x1 < 48) → P (-1000001) im lv))))) :
 zW x w 0 [(0, vR 0 0), (1, vI x1)] [] im lv := by
  refine zi_iload_n hO dX11_split_0 1 rfl ?_
  refine zi_ldc (v := (-1000000)) hO dX11_split_1 nX11_170 ?_
  refine zi_icmp_eq (tgt := 16) hO dX11_split_3 (by decide) (fun c1 => ?_) (fun c1 => ?_)
  · have h := h.1 c1
    refine zi_aload_n hO dX11_split_16 0 rfl ?_
    refine zi_getR (r' := 20) (i' := 0) hO dX11_split_17 fX11_50 rfl rfl (zI (by decide)) rfl ?_
    obtain ⟨P1, hM1, h⟩ := h
    refine zc_VV (as := []) hO hN dX11_split_20 kX11_244 (by decide) rfl (zI (by decide)) rfl rfl (Nat.le_of_ble_eq_true rfl) rfl rfl hM1 (fun im1 lv1 hp1 => ?_)
    replace h := h im1 lv1 hp1
    refine zi_aload_n hO dX11_split_23 0 rfl ?_
    refine zi_getR (r' := 24) (i' := 0) hO dX11_split_24 fX11_59 rfl rfl (zI (by decide)) rfl ?_
    obtain ⟨P2, hM2, h⟩ := h
    refine zc_VV (as := []) hO hN dX11_split_27 kX11_274 (by decide) rfl (zI (by decide)) rfl rfl (Nat.le_of_ble_eq_true rfl) rfl rfl hM2 (fun im2 lv2 hp2 => ?_)
    replace h := h im2 lv2 hp2
    refine zi_iload_n hO dX11_split_30 1 rfl ?_
    refine zi_ldc (v := (-1000000)) hO dX11_split_31 nX11_170 ?_
    refine zi_icmp_ne (tgt := 46) hO dX11_split_33 (by decide) (fun c2 => absurd c1 c2) (fun _ => ?_)
    refine zi_aload_n hO dX11_split_36 0 rfl ?_
    refine zi_getR (r' := 24) (i' := 0) hO dX11_split_37 fX11_59 rfl rfl (zI (by decide)) rfl ?_
    refine zi_getI hO dX11_split_40 fX11_277 rfl rfl (zI (by decide)) ?_
    refine zi_goto (tgt := 55) hO dX11_split_43 (by decide) ?_
    exact zr_I hO hR rfl dX11_split_55 h
  · have h := h.2 c1
    refine zi_iload_n hO dX11_split_6 1 rfl ?_
    refine zc_SI (as := [vI x1]) hO hN dX11_split_7 kX11_167 (by decide) rfl (Nat.le_of_ble_eq_true rfl) rfl rfl (C_X11_isSlot _ _ _ _) (fun v3 im3 lv3 hp3 => ?_)
    rw [hp3.1, hp3.2.1, hp3.2.2]
    refine zi_if_ne (tgt := 16) hO dX11_split_10 (by decide) (fun c3 => ?_) (fun c3 => ?_)
    · have h := h.1 (vB_1.mp (vB_01.resolve_left c3))
      refine zi_aload_n hO dX11_split_16 0 rfl ?_
      refine zi_getR (r' := 20) (i' := 0) hO dX11_split_17 fX11_50 rfl rfl (zI (by decide)) rfl ?_
      obtain ⟨P4, hM4, h⟩ := h
      refine zc_VV (as := []) hO hN dX11_split_20 kX11_244 (by decide) rfl (zI (by decide)) rfl rfl (Nat.le_of_ble_eq_true rfl) rfl rfl hM4 (fun im4 lv4 hp4 => ?_)
      replace h := h im4 lv4 hp4
      refine zi_aload_n hO dX11_split_23 0 rfl ?_
      refine zi_getR (r' := 24) (i' := 0) hO dX11_split_24 fX11_59 rfl rfl (zI (by decide)) rfl ?_
      obtain ⟨P5, hM5, h⟩ := h
      refine zc_VV (as := []) hO hN dX11_split_27 kX11_274 (by decide) rfl (zI (by decide)) rfl rfl (Nat.le_of_ble_eq_true rfl) rfl rfl hM5 (fun im5 lv5 hp5 => ?_)
      replace h := h im5 lv5 hp5
      refine zi_iload_n hO dX11_split_30 1 rfl ?_
      refine zi_ldc (v := (-1000000)) hO dX11_split_31 nX11_170 ?_
      refine zi_icmp_ne (tgt := 46) hO dX11_split_33 (by decide) (fun _ => ?_) (fun c4 => absurd c4 c1)
      refine zi_aload_n hO dX11_split_46 0 rfl ?_
      refine zi_getR (r' := 24) (i' := 0) hO dX11_split_47 fX11_59 rfl rfl (zI (by decide)) rfl ?_
      refine zi_getR (r' := 28) (i' := 0) hO dX11_split_50 fX11_280 rfl rfl (zI (by decide)) rfl ?_
      refine zi_iload_n hO dX11_split_53 1 rfl ?_
      obtain ⟨s6, h⟩ := h
      refine zi_iald hO dX11_split_54 rfl (zI (by decide)) s6 ?_
      exact zr_I hO hR rfl dX11_split_55 h
    · have h := h.2 (vB_0.mp c3)
      refine zi_ldc (v := (-1000001)) hO dX11_split_13 nX11_100 ?_
      exact zr_I hO hR rfl dX11_split_15 h
theorem rX11_safe_0 {x : zX} {w : zWd} {im : zMem} {lv : Int64} {P : Int32 → zMem → Int64 → Prop} {x1 : Int32} {x2 : Int32} {x3 : Int32} (hO : zOK x w zyX11_safe 4) (hR : zRetI x w zyX11_safe P) (hN : zN x 126 126)
 (h : ((x3 < 0 → ((¬ (0 ≤ x1 ∧ x1 < 8) → P (-1000001) im lv) ∧
 (0 ≤ x1 ∧ x1 < 8 → ((¬ (0 ≤ x2 ∧ x2 < 48) → P (-1000001) im lv) ∧
 (0 ≤ x2 ∧ x2 < 48 → ((x3 = (-1000000) → (∃ P3 : Int32 → zMem → Int64 → Prop, zSpecI x.2.1 w 3 zyX3_borneInWorlds [vR 2 0, vI x1, vI x2, vI (im 2 0 8)] im lv P3 ∧ ∀ (v3 : Int32) (im3 : zMem) (lv3 : Int64), P3 v3 im3 lv3 → P v3 im3 lv3)) ∧
 (¬ (x3 = (-1000000)) → P (-1000001) im lv))))))) ∧
 (¬ (x3 < 0) → ((4 ≤ x3 → ((¬ (0 ≤ x1 ∧ x1 < 8) → P (-1000001) im lv) ∧
 (0 ≤ x1 ∧ x1 < 8 → ((¬ (0 ≤ x2 ∧ x2 < 48) → P (-1000001) im lv) ∧
 (0 ≤ x2 ∧ x2 < 48 → ((x3 = (-1000000) → (∃ P6 : Int32 → zMem → Int64 → Prop, zSpecI x.2.1 w 3 zyX3_borneInWorlds [vR 2 0, vI x1, vI x2, vI (im 2 0 8)] im lv P6 ∧ ∀ (v6 : Int32) (im6 : zMem) (lv6 : Int64), P6 v6 im6 lv6 → P v6 im6 lv6)) ∧
 (¬ (x3 = (-1000000)) → P (-1000001) im lv))))))) ∧
 (¬ (4 ≤ x3) → ((¬ (0 ≤ x1 ∧ x1 < 8) → P (-1000001) im lv) ∧
 (0 ≤ x1 ∧ x1 < 8 → ((¬ (0 ≤ x2 ∧ x2 < 48) → P (-1000001) im lv) ∧
 (0 ≤ x2 ∧ x2 < 48 → (∃ P9 : Int32 → zMem → Int64 → Prop, zSpecI x.2.1 w 3 zyX3_borneInWorlds [vR 2 0, vI x1, vI x2, vI (1 <<< (x3 &&& 31))] im lv P9 ∧ ∀ (v9 : Int32) (im9 : zMem) (lv9 : Int64), P9 v9 im9 lv9 → P v9 im9 lv9)))))))))) :
 zW x w 0 [(0, vR 0 0), (1, vI x1), (2, vI x2), (3, vI x3)] [] im lv := by
  refine zi_iload_n hO dX11_safe_0 3 rfl ?_
  refine zi_if_lt (tgt := 13) hO dX11_safe_1 (by decide) (fun c1 => ?_) (fun c1 => ?_)
  · have h := h.1 c1
    refine zi_iconst (v := 0) hO dX11_safe_13 (by decide) ?_
    refine zi_istore (L' := [(0, vR 0 0), (1, vI x1), (2, vI x2), (3, vI x3), (4, vI 0)]) hO dX11_safe_14 (by decide) rfl rfl ?_
    refine zi_iload_n hO dX11_safe_16 1 rfl ?_
    refine zc_SI (as := [vI x1]) hO hN dX11_safe_17 kX11_144 (by decide) rfl (Nat.le_of_ble_eq_true rfl) rfl rfl (C_X11_isRoom _ _ _ _) (fun v1 im1 lv1 hp1 => ?_)
    rw [hp1.1, hp1.2.1, hp1.2.2]
    refine zi_if_eq (tgt := 41) hO dX11_safe_20 (by decide) (fun c2 => ?_) (fun c2 => ?_)
    · have h := h.1 (vB_0.mp c2)
      refine zi_ldc (v := (-1000001)) hO dX11_safe_41 nX11_100 ?_
      exact zr_I hO hR rfl dX11_safe_43 h
    · have h := h.2 (vB_1.mp (vB_01.resolve_left c2))
      refine zi_iload_n hO dX11_safe_23 2 rfl ?_
      refine zc_SI (as := [vI x2]) hO hN dX11_safe_24 kX11_167 (by decide) rfl (Nat.le_of_ble_eq_true rfl) rfl rfl (C_X11_isSlot _ _ _ _) (fun v2 im2 lv2 hp2 => ?_)
      rw [hp2.1, hp2.2.1, hp2.2.2]
      refine zi_if_eq (tgt := 41) hO dX11_safe_27 (by decide) (fun c3 => ?_) (fun c3 => ?_)
      · have h := h.1 (vB_0.mp c3)
        refine zi_ldc (v := (-1000001)) hO dX11_safe_41 nX11_100 ?_
        exact zr_I hO hR rfl dX11_safe_43 h
      · have h := h.2 (vB_1.mp (vB_01.resolve_left c3))
        refine zi_iload hO dX11_safe_30 4 rfl ?_
        refine zi_if_ne (tgt := 44) hO dX11_safe_32 (by decide) (fun c4 => absurd (show ¬ ((0 : Int32) = 0) from c4) (by decide)) (fun _ => ?_)
        refine zi_iload_n hO dX11_safe_35 3 rfl ?_
        refine zi_ldc (v := (-1000000)) hO dX11_safe_36 nX11_170 ?_
        refine zi_icmp_eq (tgt := 44) hO dX11_safe_38 (by decide) (fun c5 => ?_) (fun c5 => ?_)
        · have h := h.1 c5
          refine zi_aload_n hO dX11_safe_44 0 rfl ?_
          refine zi_getR (r' := 2) (i' := 0) hO dX11_safe_45 fX11_18 rfl rfl (zI (by decide)) rfl ?_
          refine zi_iload_n hO dX11_safe_48 1 rfl ?_
          refine zi_iload_n hO dX11_safe_49 2 rfl ?_
          refine zi_iload hO dX11_safe_50 4 rfl ?_
          refine zi_if_eq (tgt := 61) hO dX11_safe_52 (by decide) (fun _ => ?_) (fun c6 => absurd (show ¬ ((0 : Int32) = 0) from c6) (by decide))
          refine zi_aload_n hO dX11_safe_61 0 rfl ?_
          refine zi_getR (r' := 2) (i' := 0) hO dX11_safe_62 fX11_18 rfl rfl (zI (by decide)) rfl ?_
          refine zi_getI hO dX11_safe_65 fX11_164 rfl rfl (zI (by decide)) ?_
          obtain ⟨P3, hM3, h⟩ := h
          refine zc_VI (as := [vI x1, vI x2, vI (im 2 0 8)]) hO hN dX11_safe_68 kX11_171 (by decide) rfl (zI (by decide)) rfl rfl (Nat.le_of_ble_eq_true rfl) rfl rfl hM3 (fun v3 im3 lv3 hp3 => ?_)
          replace h := h v3 im3 lv3 hp3
          exact zr_I hO hR rfl dX11_safe_71 h
        · have h := h.2 c5
          refine zi_ldc (v := (-1000001)) hO dX11_safe_41 nX11_100 ?_
          exact zr_I hO hR rfl dX11_safe_43 h
  · have h := h.2 c1
    refine zi_iload_n hO dX11_safe_4 3 rfl ?_
    refine zi_iconst (v := 4) hO dX11_safe_5 (by decide) ?_
    refine zi_icmp_ge (tgt := 13) hO dX11_safe_6 (by decide) (fun c7 => ?_) (fun c7 => ?_)
    · have h := h.1 c7
      refine zi_iconst (v := 0) hO dX11_safe_13 (by decide) ?_
      refine zi_istore (L' := [(0, vR 0 0), (1, vI x1), (2, vI x2), (3, vI x3), (4, vI 0)]) hO dX11_safe_14 (by decide) rfl rfl ?_
      refine zi_iload_n hO dX11_safe_16 1 rfl ?_
      refine zc_SI (as := [vI x1]) hO hN dX11_safe_17 kX11_144 (by decide) rfl (Nat.le_of_ble_eq_true rfl) rfl rfl (C_X11_isRoom _ _ _ _) (fun v4 im4 lv4 hp4 => ?_)
      rw [hp4.1, hp4.2.1, hp4.2.2]
      refine zi_if_eq (tgt := 41) hO dX11_safe_20 (by decide) (fun c8 => ?_) (fun c8 => ?_)
      · have h := h.1 (vB_0.mp c8)
        refine zi_ldc (v := (-1000001)) hO dX11_safe_41 nX11_100 ?_
        exact zr_I hO hR rfl dX11_safe_43 h
      · have h := h.2 (vB_1.mp (vB_01.resolve_left c8))
        refine zi_iload_n hO dX11_safe_23 2 rfl ?_
        refine zc_SI (as := [vI x2]) hO hN dX11_safe_24 kX11_167 (by decide) rfl (Nat.le_of_ble_eq_true rfl) rfl rfl (C_X11_isSlot _ _ _ _) (fun v5 im5 lv5 hp5 => ?_)
        rw [hp5.1, hp5.2.1, hp5.2.2]
        refine zi_if_eq (tgt := 41) hO dX11_safe_27 (by decide) (fun c9 => ?_) (fun c9 => ?_)
        · have h := h.1 (vB_0.mp c9)
          refine zi_ldc (v := (-1000001)) hO dX11_safe_41 nX11_100 ?_
          exact zr_I hO hR rfl dX11_safe_43 h
        · have h := h.2 (vB_1.mp (vB_01.resolve_left c9))
          refine zi_iload hO dX11_safe_30 4 rfl ?_
          refine zi_if_ne (tgt := 44) hO dX11_safe_32 (by decide) (fun c10 => absurd (show ¬ ((0 : Int32) = 0) from c10) (by decide)) (fun _ => ?_)
          refine zi_iload_n hO dX11_safe_35 3 rfl ?_
          refine zi_ldc (v := (-1000000)) hO dX11_safe_36 nX11_170 ?_
          refine zi_icmp_eq (tgt := 44) hO dX11_safe_38 (by decide) (fun c11 => ?_) (fun c11 => ?_)
          · have h := h.1 c11
            refine zi_aload_n hO dX11_safe_44 0 rfl ?_
            refine zi_getR (r' := 2) (i' := 0) hO dX11_safe_45 fX11_18 rfl rfl (zI (by decide)) rfl ?_
            refine zi_iload_n hO dX11_safe_48 1 rfl ?_
            refine zi_iload_n hO dX11_safe_49 2 rfl ?_
            refine zi_iload hO dX11_safe_50 4 rfl ?_
            refine zi_if_eq (tgt := 61) hO dX11_safe_52 (by decide) (fun _ => ?_) (fun c12 => absurd (show ¬ ((0 : Int32) = 0) from c12) (by decide))
            refine zi_aload_n hO dX11_safe_61 0 rfl ?_
            refine zi_getR (r' := 2) (i' := 0) hO dX11_safe_62 fX11_18 rfl rfl (zI (by decide)) rfl ?_
            refine zi_getI hO dX11_safe_65 fX11_164 rfl rfl (zI (by decide)) ?_
            obtain ⟨P6, hM6, h⟩ := h
            refine zc_VI (as := [vI x1, vI x2, vI (im 2 0 8)]) hO hN dX11_safe_68 kX11_171 (by decide) rfl (zI (by decide)) rfl rfl (Nat.le_of_ble_eq_true rfl) rfl rfl hM6 (fun v6 im6 lv6 hp6 => ?_)
            replace h := h v6 im6 lv6 hp6
            exact zr_I hO hR rfl dX11_safe_71 h
          · have h := h.2 c11
            refine zi_ldc (v := (-1000001)) hO dX11_safe_41 nX11_100 ?_
            exact zr_I hO hR rfl dX11_safe_43 h
    · have h := h.2 c7
      refine zi_iconst (v := 1) hO dX11_safe_9 (by decide) ?_
      refine zi_goto (tgt := 14) hO dX11_safe_10 (by decide) ?_
      refine zi_istore (L' := [(0, vR 0 0), (1, vI x1), (2, vI x2), (3, vI x3), (4, vI 1)]) hO dX11_safe_14 (by decide) rfl rfl ?_
      refine zi_iload_n hO dX11_safe_16 1 rfl ?_
      refine zc_SI (as := [vI x1]) hO hN dX11_safe_17 kX11_144 (by decide) rfl (Nat.le_of_ble_eq_true rfl) rfl rfl (C_X11_isRoom _ _ _ _) (fun v7 im7 lv7 hp7 => ?_)
      rw [hp7.1, hp7.2.1, hp7.2.2]
      refine zi_if_eq (tgt := 41) hO dX11_safe_20 (by decide) (fun c13 => ?_) (fun c13 => ?_)
      · have h := h.1 (vB_0.mp c13)
        refine zi_ldc (v := (-1000001)) hO dX11_safe_41 nX11_100 ?_
        exact zr_I hO hR rfl dX11_safe_43 h
      · have h := h.2 (vB_1.mp (vB_01.resolve_left c13))
        refine zi_iload_n hO dX11_safe_23 2 rfl ?_
        refine zc_SI (as := [vI x2]) hO hN dX11_safe_24 kX11_167 (by decide) rfl (Nat.le_of_ble_eq_true rfl) rfl rfl (C_X11_isSlot _ _ _ _) (fun v8 im8 lv8 hp8 => ?_)
        rw [hp8.1, hp8.2.1, hp8.2.2]
        refine zi_if_eq (tgt := 41) hO dX11_safe_27 (by decide) (fun c14 => ?_) (fun c14 => ?_)
        · have h := h.1 (vB_0.mp c14)
          refine zi_ldc (v := (-1000001)) hO dX11_safe_41 nX11_100 ?_
          exact zr_I hO hR rfl dX11_safe_43 h
        · have h := h.2 (vB_1.mp (vB_01.resolve_left c14))
          refine zi_iload hO dX11_safe_30 4 rfl ?_
          refine zi_if_ne (tgt := 44) hO dX11_safe_32 (by decide) (fun _ => ?_) (fun c15 => absurd (show (1 : Int32) = 0 from c15) (by decide))
          refine zi_aload_n hO dX11_safe_44 0 rfl ?_
          refine zi_getR (r' := 2) (i' := 0) hO dX11_safe_45 fX11_18 rfl rfl (zI (by decide)) rfl ?_
          refine zi_iload_n hO dX11_safe_48 1 rfl ?_
          refine zi_iload_n hO dX11_safe_49 2 rfl ?_
          refine zi_iload hO dX11_safe_50 4 rfl ?_
          refine zi_if_eq (tgt := 61) hO dX11_safe_52 (by decide) (fun c16 => absurd (show (1 : Int32) = 0 from c16) (by decide)) (fun _ => ?_)
          refine zi_iconst (v := 1) hO dX11_safe_55 (by decide) ?_
          refine zi_iload_n hO dX11_safe_56 3 rfl ?_
          refine zi_ishl hO dX11_safe_57 ?_
          refine zi_goto (tgt := 68) hO dX11_safe_58 (by decide) ?_
          obtain ⟨P9, hM9, h⟩ := h
          refine zc_VI (as := [vI x1, vI x2, vI (1 <<< (x3 &&& 31))]) hO hN dX11_safe_68 kX11_171 (by decide) rfl (zI (by decide)) rfl rfl (Nat.le_of_ble_eq_true rfl) rfl rfl hM9 (fun v9 im9 lv9 hp9 => ?_)
          replace h := h v9 im9 lv9 hp9
          exact zr_I hO hR rfl dX11_safe_71 h
theorem rX11_airline_0 {x : zX} {w : zWd} {im : zMem} {lv : Int64} {P : Int32 → zMem → Int64 → Prop} {x1 : Int32} {x2 : Int32} (hO : zOK x w zyX11_airline 6) (hR : zRetI x w zyX11_airline P) (hN : zN x 126 126)
 (h : ((x1 < 0 → P (-1000001) im lv) ∧
 (¬ (x1 < 0) → ((x1 < 4 → (x2 < 0 ∨ 4 < x2 → P (-1000001) im lv) ∧ ((x2 = 0 → (∃ P1 : Int32 → zMem → Int64 → Prop, zSpecI x.2.1 w 2 zyX1_flightsOf [vR 10 0, vI x1] im lv P1 ∧ ∀ (v1 : Int32) (im1 : zMem) (lv1 : Int64), P1 v1 im1 lv1 → P v1 im1 lv1)) ∧
 (x2 = 1 → (∃ P2 : Int32 → zMem → Int64 → Prop, zSpecI x.2.1 w 2 zyX1_delaysOf [vR 10 0, vI x1] im lv P2 ∧ ∀ (v2 : Int32) (im2 : zMem) (lv2 : Int64), P2 v2 im2 lv2 → P v2 im2 lv2)) ∧
 (x2 = 2 → (∃ P3 : Int32 → zMem → Int64 → Prop, zSpecI x.2.1 w 5 zyX4_shareOf [vR 35 0, vI x1] im lv P3 ∧ ∀ (v3 : Int32) (im3 : zMem) (lv3 : Int64), P3 v3 im3 lv3 → P v3 im3 lv3)) ∧
 (x2 = 3 → (∃ P4 : zMem → Int64 → Prop, zSpecV x.2.1 w 5 zyX8_refresh [vR 20 0] im lv P4 ∧ ∀ (im4 : zMem) (lv4 : Int64), P4 im4 lv4 → (∃ P5 : Int32 → zMem → Int64 → Prop, zSpecI x.2.1 w 5 zyX4_blameOf [vR 35 0, vI x1] im4 lv4 P5 ∧ ∀ (v5 : Int32) (im5 : zMem) (lv5 : Int64), P5 v5 im5 lv5 → P v5 im5 lv5))) ∧
 (x2 = 4 → (∃ P6 : Int32 → zMem → Int64 → Prop, zSpecI x.2.1 w 4 zyX1_costOf [vR 10 0, vI x1] im lv P6 ∧ ∀ (v6 : Int32) (im6 : zMem) (lv6 : Int64), P6 v6 im6 lv6 → P v6 im6 lv6)))) ∧
 (¬ (x1 < 4) → P (-1000001) im lv))))) :
 zW x w 0 [(0, vR 0 0), (1, vI x1), (2, vI x2)] [] im lv := by
  refine zi_iload_n hO dX11_airline_0 1 rfl ?_
  refine zi_if_lt (tgt := 9) hO dX11_airline_1 (by decide) (fun c1 => ?_) (fun c1 => ?_)
  · have h := h.1 c1
    refine zi_ldc (v := (-1000001)) hO dX11_airline_9 nX11_100 ?_
    exact zr_I hO hR rfl dX11_airline_11 h
  · have h := h.2 c1
    refine zi_iload_n hO dX11_airline_4 1 rfl ?_
    refine zi_iconst (v := 4) hO dX11_airline_5 (by decide) ?_
    refine zi_icmp_lt (tgt := 12) hO dX11_airline_6 (by decide) (fun c2 => ?_) (fun c2 => ?_)
    · have h := h.1 c2
      refine zi_iload_n hO dX11_airline_12 2 rfl ?_
      by_cases hs0 : Int32.toInt x2 < 0 ∨ 4 < Int32.toInt x2
      · have h := h.1 (zsw_out (by decide) (by decide) hs0)
        refine zi_tableOut (tgt := 100) hO dX11_airline_13 hs0 (by decide) ?_
        refine zi_ldc (v := (-1000001)) hO dX11_airline_100 nX11_100 ?_
        exact zr_I hO hR rfl dX11_airline_102 h
      · have h := h.2
        by_cases hs1 : x2 = 0
        · have h := h.1 hs1
          refine zi_tableIn (off := 35) (tgt := 48) hO dX11_airline_13 (zsw_lo hs1 (by decide)) (zsw_hi hs1 (by decide)) (zsw_at hs1 rfl) (by decide) ?_
          refine zi_aload_n hO dX11_airline_48 0 rfl ?_
          refine zi_getR (r' := 10) (i' := 0) hO dX11_airline_49 fX11_25 rfl rfl (zI (by decide)) rfl ?_
          refine zi_iload_n hO dX11_airline_52 1 rfl ?_
          obtain ⟨P1, hM1, h⟩ := h
          refine zc_VI (as := [vI x1]) hO hN dX11_airline_53 kX11_309 (by decide) rfl (zI (by decide)) rfl rfl (Nat.le_of_ble_eq_true rfl) rfl rfl hM1 (fun v1 im1 lv1 hp1 => ?_)
          replace h := h v1 im1 lv1 hp1
          exact zr_I hO hR rfl dX11_airline_56 h
        by_cases hs2 : x2 = 1
        · have h := h.2.1 hs2
          refine zi_tableIn (off := 44) (tgt := 57) hO dX11_airline_13 (zsw_lo hs2 (by decide)) (zsw_hi hs2 (by decide)) (zsw_at hs2 rfl) (by decide) ?_
          refine zi_aload_n hO dX11_airline_57 0 rfl ?_
          refine zi_getR (r' := 10) (i' := 0) hO dX11_airline_58 fX11_25 rfl rfl (zI (by decide)) rfl ?_
          refine zi_iload_n hO dX11_airline_61 1 rfl ?_
          obtain ⟨P2, hM2, h⟩ := h
          refine zc_VI (as := [vI x1]) hO hN dX11_airline_62 kX11_312 (by decide) rfl (zI (by decide)) rfl rfl (Nat.le_of_ble_eq_true rfl) rfl rfl hM2 (fun v2 im2 lv2 hp2 => ?_)
          replace h := h v2 im2 lv2 hp2
          exact zr_I hO hR rfl dX11_airline_65 h
        by_cases hs3 : x2 = 2
        · have h := h.2.2.1 hs3
          refine zi_tableIn (off := 53) (tgt := 66) hO dX11_airline_13 (zsw_lo hs3 (by decide)) (zsw_hi hs3 (by decide)) (zsw_at hs3 rfl) (by decide) ?_
          refine zi_aload_n hO dX11_airline_66 0 rfl ?_
          refine zi_getR (r' := 35) (i' := 0) hO dX11_airline_67 fX11_75 rfl rfl (zI (by decide)) rfl ?_
          refine zi_iload_n hO dX11_airline_70 1 rfl ?_
          obtain ⟨P3, hM3, h⟩ := h
          refine zc_VI (as := [vI x1]) hO hN dX11_airline_71 kX11_315 (by decide) rfl (zI (by decide)) rfl rfl (Nat.le_of_ble_eq_true rfl) rfl rfl hM3 (fun v3 im3 lv3 hp3 => ?_)
          replace h := h v3 im3 lv3 hp3
          exact zr_I hO hR rfl dX11_airline_74 h
        by_cases hs4 : x2 = 3
        · have h := h.2.2.2.1 hs4
          refine zi_tableIn (off := 62) (tgt := 75) hO dX11_airline_13 (zsw_lo hs4 (by decide)) (zsw_hi hs4 (by decide)) (zsw_at hs4 rfl) (by decide) ?_
          refine zi_aload_n hO dX11_airline_75 0 rfl ?_
          refine zi_getR (r' := 20) (i' := 0) hO dX11_airline_76 fX11_50 rfl rfl (zI (by decide)) rfl ?_
          obtain ⟨P4, hM4, h⟩ := h
          refine zc_VV (as := []) hO hN dX11_airline_79 kX11_244 (by decide) rfl (zI (by decide)) rfl rfl (Nat.le_of_ble_eq_true rfl) rfl rfl hM4 (fun im4 lv4 hp4 => ?_)
          replace h := h im4 lv4 hp4
          refine zi_aload_n hO dX11_airline_82 0 rfl ?_
          refine zi_getR (r' := 35) (i' := 0) hO dX11_airline_83 fX11_75 rfl rfl (zI (by decide)) rfl ?_
          refine zi_iload_n hO dX11_airline_86 1 rfl ?_
          obtain ⟨P5, hM5, h⟩ := h
          refine zc_VI (as := [vI x1]) hO hN dX11_airline_87 kX11_318 (by decide) rfl (zI (by decide)) rfl rfl (Nat.le_of_ble_eq_true rfl) rfl rfl hM5 (fun v5 im5 lv5 hp5 => ?_)
          replace h := h v5 im5 lv5 hp5
          exact zr_I hO hR rfl dX11_airline_90 h
        by_cases hs5 : x2 = 4
        · have h := h.2.2.2.2 hs5
          refine zi_tableIn (off := 78) (tgt := 91) hO dX11_airline_13 (zsw_lo hs5 (by decide)) (zsw_hi hs5 (by decide)) (zsw_at hs5 rfl) (by decide) ?_
          refine zi_aload_n hO dX11_airline_91 0 rfl ?_
          refine zi_getR (r' := 10) (i' := 0) hO dX11_airline_92 fX11_25 rfl rfl (zI (by decide)) rfl ?_
          refine zi_iload_n hO dX11_airline_95 1 rfl ?_
          obtain ⟨P6, hM6, h⟩ := h
          refine zc_VI (as := [vI x1]) hO hN dX11_airline_96 kX11_321 (by decide) rfl (zI (by decide)) rfl rfl (Nat.le_of_ble_eq_true rfl) rfl rfl hM6 (fun v6 im6 lv6 hp6 => ?_)
          replace h := h v6 im6 lv6 hp6
          exact zr_I hO hR rfl dX11_airline_99 h
        have e1 := zsw_ne (k := 0) hs1 (by decide)
        have e2 := zsw_ne (k := 1) hs2 (by decide)
        have e3 := zsw_ne (k := 2) hs3 (by decide)
        have e4 := zsw_ne (k := 3) hs4 (by decide)
        have e5 := zsw_ne (k := 4) hs5 (by decide)
        exfalso
        omega
    · have h := h.2 c2
      refine zi_ldc (v := (-1000001)) hO dX11_airline_9 nX11_100 ?_
      exact zr_I hO hR rfl dX11_airline_11 h
theorem rX11_kind_0 {x : zX} {w : zWd} {im : zMem} {lv : Int64} {P : Int32 → zMem → Int64 → Prop} {x1 : Int32} (hO : zOK x w zyX11_kind 6) (hR : zRetI x w zyX11_kind P) (hN : zN x 126 126)
 (h : ((im 10 0 1) ≤ 12 ∧ ((0 ≤ x1 ∧ x1 < (im 10 0 1) → (Int32.toNatClampNeg x1) < 12 ∧ (∃ P3 : zMem → Int64 → Prop, zSpecV x.2.1 w 5 zyX8_refresh [vR 20 0] im lv P3 ∧ ∀ (im3 : zMem) (lv3 : Int64), P3 im3 lv3 → (∃ P4 : Int32 → zMem → Int64 → Prop, zSpecI x.2.1 w 4 zyX0_kindOf [vR 39 0, vR 12 (Int32.toNatClampNeg x1)] im3 lv3 P4 ∧ ∀ (v4 : Int32) (im4 : zMem) (lv4 : Int64), P4 v4 im4 lv4 → P v4 im4 lv4))) ∧
 (¬ (0 ≤ x1 ∧ x1 < (im 10 0 1)) → P (-1000001) im lv)))) :
 zW x w 0 [(0, vR 0 0), (1, vI x1)] [] im lv := by
  refine zi_aload_n hO dX11_kind_0 0 rfl ?_
  refine zi_getR (r' := 10) (i' := 0) hO dX11_kind_1 fX11_25 rfl rfl (zI (by decide)) rfl ?_
  refine zi_iload_n hO dX11_kind_4 1 rfl ?_
  obtain ⟨s2, h⟩ := h
  refine zc_VQ (as := [vI x1]) hO hN dX11_kind_5 kX11_199 (by decide) rfl (zI (by decide)) rfl rfl (Nat.le_of_ble_eq_true rfl) rfl rfl (C_X1_flightOrNull _ _ _ _ s2) (fun im1 lv1 hp1 => ?_) (fun j1 im1 lv1 hp1 => ?_)
  · rw [hp1.2.1, hp1.2.2]
    have h := h.2 (zq_none hp1.1)
    refine zi_astore_nN (L' := [(0, vR 0 0), (1, vI x1), (2, vN)]) hO dX11_kind_8 (by decide) rfl rfl ?_
    refine zi_aload_nN hO dX11_kind_9 2 rfl ?_
    refine zi_ifnonnullN hO dX11_kind_10 ?_
    refine zi_ldc (v := (-1000001)) hO dX11_kind_13 nX11_100 ?_
    exact zr_I hO hR rfl dX11_kind_15 h
  · rw [hp1.2.1, hp1.2.2, (zq_some hp1.1).2]
    obtain ⟨hj1, h⟩ := h.1 (zq_some hp1.1).1
    refine zi_astore_n (L' := [(0, vR 0 0), (1, vI x1), (2, vR 12 (Int32.toNatClampNeg x1))]) hO dX11_kind_8 (by decide) rfl rfl ?_
    refine zi_aload_n hO dX11_kind_9 2 rfl ?_
    refine zi_ifnonnull (tgt := 16) hO dX11_kind_10 (by decide) ?_
    refine zi_aload_n hO dX11_kind_16 0 rfl ?_
    refine zi_getR (r' := 20) (i' := 0) hO dX11_kind_17 fX11_50 rfl rfl (zI (by decide)) rfl ?_
    obtain ⟨P3, hM3, h⟩ := h
    refine zc_VV (as := []) hO hN dX11_kind_20 kX11_244 (by decide) rfl (zI (by decide)) rfl rfl (Nat.le_of_ble_eq_true rfl) rfl rfl hM3 (fun im3 lv3 hp3 => ?_)
    replace h := h im3 lv3 hp3
    refine zi_aload_n hO dX11_kind_23 0 rfl ?_
    refine zi_getR (r' := 39) (i' := 0) hO dX11_kind_24 fX11_84 rfl rfl (zI (by decide)) rfl ?_
    refine zi_aload_n hO dX11_kind_27 2 rfl ?_
    obtain ⟨P4, hM4, h⟩ := h
    refine zc_VI (as := [vR 12 (Int32.toNatClampNeg x1)]) hO hN dX11_kind_28 kX11_324 (by decide) rfl (zI (by decide)) rfl rfl (Nat.le_of_ble_eq_true rfl) rfl rfl hM4 (fun v4 im4 lv4 hp4 => ?_)
    replace h := h v4 im4 lv4 hp4
    exact zr_I hO hR rfl dX11_kind_31 h
theorem rX11_trace_0 {x : zX} {w : zWd} {im : zMem} {lv : Int64} {P : Int32 → zMem → Int64 → Prop} {x1 : Int32} (hO : zOK x w zyX11_trace 2) (hR : zRetI x w zyX11_trace P) (hN : zN x 126 126)
 (h : ((x1 < 0 → P (-1000000) im lv) ∧
 (¬ (x1 < 0) → ((x1 < (im 39 0 2) → (vp_in x1 16 ∧ P (im 40 0 (Int32.toNatClampNeg x1)) im lv)) ∧
 (¬ (x1 < (im 39 0 2)) → P (-1000000) im lv))))) :
 zW x w 0 [(0, vR 0 0), (1, vI x1)] [] im lv := by
  refine zi_iload_n hO dX11_trace_0 1 rfl ?_
  refine zi_if_lt (tgt := 15) hO dX11_trace_1 (by decide) (fun c1 => ?_) (fun c1 => ?_)
  · have h := h.1 c1
    refine zi_ldc (v := (-1000000)) hO dX11_trace_15 nX11_170 ?_
    refine zi_goto (tgt := 29) hO dX11_trace_17 (by decide) ?_
    exact zr_I hO hR rfl dX11_trace_29 h
  · have h := h.2 c1
    refine zi_iload_n hO dX11_trace_4 1 rfl ?_
    refine zi_aload_n hO dX11_trace_5 0 rfl ?_
    refine zi_getR (r' := 39) (i' := 0) hO dX11_trace_6 fX11_84 rfl rfl (zI (by decide)) rfl ?_
    refine zi_getI hO dX11_trace_9 fX11_332 rfl rfl (zI (by decide)) ?_
    refine zi_icmp_lt (tgt := 20) hO dX11_trace_12 (by decide) (fun c2 => ?_) (fun c2 => ?_)
    · have h := h.1 c2
      refine zi_aload_n hO dX11_trace_20 0 rfl ?_
      refine zi_getR (r' := 39) (i' := 0) hO dX11_trace_21 fX11_84 rfl rfl (zI (by decide)) rfl ?_
      refine zi_getR (r' := 40) (i' := 0) hO dX11_trace_24 fX11_341 rfl rfl (zI (by decide)) rfl ?_
      refine zi_iload_n hO dX11_trace_27 1 rfl ?_
      obtain ⟨s1, h⟩ := h
      refine zi_iald hO dX11_trace_28 rfl (zI (by decide)) s1 ?_
      exact zr_I hO hR rfl dX11_trace_29 h
    · have h := h.2 c2
      refine zi_ldc (v := (-1000000)) hO dX11_trace_15 nX11_170 ?_
      refine zi_goto (tgt := 29) hO dX11_trace_17 (by decide) ?_
      exact zr_I hO hR rfl dX11_trace_29 h
theorem rX11_flightsTold_0 {x : zX} {w : zWd} {im : zMem} {lv : Int64} {P : Int32 → zMem → Int64 → Prop} {x1 : Int32} (hO : zOK x w zyX11_flightsTold 6) (hR : zRetI x w zyX11_flightsTold P) (hN : zN x 126 126)
 (h : (∃ P1 : zMem → Int64 → Prop, zSpecV x.2.1 w 5 zyX8_refresh [vR 20 0] im lv P1 ∧ ∀ (im1 : zMem) (lv1 : Int64), P1 im1 lv1 → zW x w 11 [(0, vR 0 0), (1, vI x1), (2, vI 0), (3, vI 0)] [] im1 lv1)) :
 zW x w 0 [(0, vR 0 0), (1, vI x1)] [] im lv := by
  refine zi_aload_n hO dX11_flightsTold_0 0 rfl ?_
  refine zi_getR (r' := 20) (i' := 0) hO dX11_flightsTold_1 fX11_50 rfl rfl (zI (by decide)) rfl ?_
  obtain ⟨P1, hM1, h⟩ := h
  refine zc_VV (as := []) hO hN dX11_flightsTold_4 kX11_244 (by decide) rfl (zI (by decide)) rfl rfl (Nat.le_of_ble_eq_true rfl) rfl rfl hM1 (fun im1 lv1 hp1 => ?_)
  replace h := h im1 lv1 hp1
  refine zi_iconst (v := 0) hO dX11_flightsTold_7 (by decide) ?_
  refine zi_istore_n (L' := [(0, vR 0 0), (1, vI x1), (2, vI 0)]) hO dX11_flightsTold_8 (by decide) rfl rfl ?_
  refine zi_iconst (v := 0) hO dX11_flightsTold_9 (by decide) ?_
  refine zi_istore_n (L' := [(0, vR 0 0), (1, vI x1), (2, vI 0), (3, vI 0)]) hO dX11_flightsTold_10 (by decide) rfl rfl ?_
  exact h
theorem rX11_flightsTold_11 {x : zX} {w : zWd} {im : zMem} {lv : Int64} {P : Int32 → zMem → Int64 → Prop} {x1 : Int32} {x2 : Int32} {x3 : Int32} (hO : zOK x w zyX11_flightsTold 6) (hR : zRetI x w zyX11_flightsTold P) (hN : zN x 126 126)
 (h : (((im 10 0 1) ≤ x3 → P x2 im lv) ∧
 (¬ ((im 10 0 1) ≤ x3) → (vp_in x3 12 ∧ (∃ P2 : Int32 → zMem → Int64 → Prop, zSpecI x.2.1 w 4 zyX0_kindOf [vR 39 0, vR 12 (Int32.toNatClampNeg x3)] im lv P2 ∧ ∀ (v2 : Int32) (im2 : zMem) (lv2 : Int64), P2 v2 im2 lv2 → ((¬ (v2 = x1) → zW x w 11 [(0, vR 0 0), (1, vI x1), (2, vI x2), (3, vI (x3 + 1))] [] im2 lv2) ∧
 (v2 = x1 → zW x w 11 [(0, vR 0 0), (1, vI x1), (2, vI (x2 + 1)), (3, vI (x3 + 1))] [] im2 lv2))))))) :
 zW x w 11 [(0, vR 0 0), (1, vI x1), (2, vI x2), (3, vI x3)] [] im lv := by
  refine zi_iload_n hO dX11_flightsTold_11 3 rfl ?_
  refine zi_aload_n hO dX11_flightsTold_12 0 rfl ?_
  refine zi_getR (r' := 10) (i' := 0) hO dX11_flightsTold_13 fX11_25 rfl rfl (zI (by decide)) rfl ?_
  refine zi_getI hO dX11_flightsTold_16 fX11_196 rfl rfl (zI (by decide)) ?_
  refine zi_icmp_ge (tgt := 51) hO dX11_flightsTold_19 (by decide) (fun c1 => ?_) (fun c1 => ?_)
  · have h := h.1 c1
    refine zi_iload_n hO dX11_flightsTold_51 2 rfl ?_
    exact zr_I hO hR rfl dX11_flightsTold_52 h
  · have h := h.2 c1
    refine zi_aload_n hO dX11_flightsTold_22 0 rfl ?_
    refine zi_getR (r' := 39) (i' := 0) hO dX11_flightsTold_23 fX11_84 rfl rfl (zI (by decide)) rfl ?_
    refine zi_aload_n hO dX11_flightsTold_26 0 rfl ?_
    refine zi_getR (r' := 10) (i' := 0) hO dX11_flightsTold_27 fX11_25 rfl rfl (zI (by decide)) rfl ?_
    refine zi_getR (r' := 11) (i' := 0) hO dX11_flightsTold_30 fX11_301 rfl rfl (zI (by decide)) rfl ?_
    refine zi_iload_n hO dX11_flightsTold_33 3 rfl ?_
    obtain ⟨s1, h⟩ := h
    refine zi_aald (t := 1) (r' := 12) (i' := (Int32.toNatClampNeg x3)) hO dX11_flightsTold_34 rfl (zI (by decide)) s1 rfl ?_
    obtain ⟨P2, hM2, h⟩ := h
    refine zc_VI (as := [vR 12 (Int32.toNatClampNeg x3)]) hO hN dX11_flightsTold_35 kX11_324 (by decide) rfl (zI (by decide)) rfl rfl (Nat.le_of_ble_eq_true rfl) rfl rfl hM2 (fun v2 im2 lv2 hp2 => ?_)
    replace h := h v2 im2 lv2 hp2
    refine zi_iload_n hO dX11_flightsTold_38 1 rfl ?_
    refine zi_icmp_ne (tgt := 45) hO dX11_flightsTold_39 (by decide) (fun c2 => ?_) (fun c2 => ?_)
    · have h := h.1 c2
      refine zi_iinc (v' := (x3 + 1)) (L' := [(0, vR 0 0), (1, vI x1), (2, vI x2), (3, vI (x3 + 1))]) hO dX11_flightsTold_45 3 rfl rfl (by decide) rfl rfl ?_
      refine zi_goto (tgt := 11) hO dX11_flightsTold_48 (by decide) ?_
      exact h
    · have h := h.2 c2
      refine zi_iinc (v' := (x2 + 1)) (L' := [(0, vR 0 0), (1, vI x1), (2, vI (x2 + 1)), (3, vI x3)]) hO dX11_flightsTold_42 2 rfl rfl (by decide) rfl rfl ?_
      refine zi_iinc (v' := (x3 + 1)) (L' := [(0, vR 0 0), (1, vI x1), (2, vI (x2 + 1)), (3, vI (x3 + 1))]) hO dX11_flightsTold_45 3 rfl rfl (by decide) rfl rfl ?_
      refine zi_goto (tgt := 11) hO dX11_flightsTold_48 (by decide) ?_
      exact h
theorem rX11_sheetsThere_0 {x : zX} {w : zWd} {im : zMem} {lv : Int64} {P : Int32 → zMem → Int64 → Prop} (hO : zOK x w zyX11_sheetsThere 3) (hR : zRetI x w zyX11_sheetsThere P) (hN : zN x 126 126)
 (h : zW x w 4 [(0, vR 0 0), (1, vI 0), (2, vI 0)] [] im lv) :
 zW x w 0 [(0, vR 0 0)] [] im lv := by
  refine zi_iconst (v := 0) hO dX11_sheetsThere_0 (by decide) ?_
  refine zi_istore_n (L' := [(0, vR 0 0), (1, vI 0)]) hO dX11_sheetsThere_1 (by decide) rfl rfl ?_
  refine zi_iconst (v := 0) hO dX11_sheetsThere_2 (by decide) ?_
  refine zi_istore_n (L' := [(0, vR 0 0), (1, vI 0), (2, vI 0)]) hO dX11_sheetsThere_3 (by decide) rfl rfl ?_
  exact h
theorem rX11_sheetsThere_4 {x : zX} {w : zWd} {im : zMem} {lv : Int64} {P : Int32 → zMem → Int64 → Prop} {x1 : Int32} {x2 : Int32} (hO : zOK x w zyX11_sheetsThere 3) (hR : zRetI x w zyX11_sheetsThere P) (hN : zN x 126 126)
 (h : ((8 ≤ x2 → P x1 im lv) ∧
 (¬ (8 ≤ x2) → (vp_in x2 8 ∧ (((im 41 (Int32.toNatClampNeg x2) 0) = (-1) → zW x w 4 [(0, vR 0 0), (1, vI x1), (2, vI (x2 + 1))] [] im lv) ∧
 (¬ ((im 41 (Int32.toNatClampNeg x2) 0) = (-1)) → zW x w 4 [(0, vR 0 0), (1, vI (x1 + 1)), (2, vI (x2 + 1))] [] im lv)))))) :
 zW x w 4 [(0, vR 0 0), (1, vI x1), (2, vI x2)] [] im lv := by
  refine zi_iload_n hO dX11_sheetsThere_4 2 rfl ?_
  refine zi_bipush (v := 8) hO dX11_sheetsThere_5 (by decide) ?_
  refine zi_icmp_ge (tgt := 31) hO dX11_sheetsThere_7 (by decide) (fun c1 => ?_) (fun c1 => ?_)
  · have h := h.1 c1
    refine zi_iload_n hO dX11_sheetsThere_31 1 rfl ?_
    exact zr_I hO hR rfl dX11_sheetsThere_32 h
  · have h := h.2 c1
    refine zi_aload_n hO dX11_sheetsThere_10 0 rfl ?_
    refine zi_getR (r' := 1) (i' := 0) hO dX11_sheetsThere_11 fX11_11 rfl rfl (zI (by decide)) rfl ?_
    refine zi_iload_n hO dX11_sheetsThere_14 2 rfl ?_
    obtain ⟨s1, h⟩ := h
    refine zi_aald (t := 0) (r' := 41) (i' := (Int32.toNatClampNeg x2)) hO dX11_sheetsThere_15 rfl (zI (by decide)) s1 rfl ?_
    refine zc_VI (as := []) hO hN dX11_sheetsThere_16 kX11_119 (by decide) rfl (zI (zvp s1)) rfl rfl (Nat.le_of_ble_eq_true rfl) rfl rfl (C_X7_isMissing _ _ _ _ (zvp s1)) (fun v2 im2 lv2 hp2 => ?_)
    rw [hp2.1, hp2.2.1, hp2.2.2]
    refine zi_if_ne (tgt := 25) hO dX11_sheetsThere_19 (by decide) (fun c2 => ?_) (fun c2 => ?_)
    · have h := h.1 (vB_1.mp (vB_01.resolve_left c2))
      refine zi_iinc (v' := (x2 + 1)) (L' := [(0, vR 0 0), (1, vI x1), (2, vI (x2 + 1))]) hO dX11_sheetsThere_25 2 rfl rfl (by decide) rfl rfl ?_
      refine zi_goto (tgt := 4) hO dX11_sheetsThere_28 (by decide) ?_
      exact h
    · have h := h.2 (vB_0.mp c2)
      refine zi_iinc (v' := (x1 + 1)) (L' := [(0, vR 0 0), (1, vI (x1 + 1)), (2, vI x2)]) hO dX11_sheetsThere_22 1 rfl rfl (by decide) rfl rfl ?_
      refine zi_iinc (v' := (x2 + 1)) (L' := [(0, vR 0 0), (1, vI (x1 + 1)), (2, vI (x2 + 1))]) hO dX11_sheetsThere_25 2 rfl rfl (by decide) rfl rfl ?_
      refine zi_goto (tgt := 4) hO dX11_sheetsThere_28 (by decide) ?_
      exact h
theorem rX11_count_0 {x : zX} {w : zWd} {im : zMem} {lv : Int64} {P : Int32 → zMem → Int64 → Prop} {x1 : Int32} (hO : zOK x w zyX11_count 7) (hR : zRetI x w zyX11_count P) (hN : zN x 126 126)
 (h : (x1 < 0 ∨ 7 < x1 → P (-1000001) im lv) ∧ ((x1 = 0 → (∃ P1 : Int32 → zMem → Int64 → Prop, zSpecI x.2.1 w 3 zyX11_sheetsThere [vR 0 0] im lv P1 ∧ ∀ (v1 : Int32) (im1 : zMem) (lv1 : Int64), P1 v1 im1 lv1 → P v1 im1 lv1)) ∧
 (x1 = 1 → P (im 10 0 1) im lv) ∧
 (x1 = 2 → P (im 2 0 7) im lv) ∧
 (x1 = 3 → (∃ P2 : Int32 → zMem → Int64 → Prop, zSpecI x.2.1 w 6 zyX11_flightsTold [vR 0 0, vI 1] im lv P2 ∧ ∀ (v2 : Int32) (im2 : zMem) (lv2 : Int64), P2 v2 im2 lv2 → (∃ P3 : Int32 → zMem → Int64 → Prop, zSpecI x.2.1 w 6 zyX11_flightsTold [vR 0 0, vI 2] im2 lv2 P3 ∧ ∀ (v3 : Int32) (im3 : zMem) (lv3 : Int64), P3 v3 im3 lv3 → P (v2 + v3) im3 lv3))) ∧
 (x1 = 4 → (∃ P4 : Int32 → zMem → Int64 → Prop, zSpecI x.2.1 w 6 zyX11_flightsTold [vR 0 0, vI 2] im lv P4 ∧ ∀ (v4 : Int32) (im4 : zMem) (lv4 : Int64), P4 v4 im4 lv4 → P v4 im4 lv4)) ∧
 (x1 = 5 → (∃ P5 : Int32 → zMem → Int64 → Prop, zSpecI x.2.1 w 6 zyX11_flightsTold [vR 0 0, vI 3] im lv P5 ∧ ∀ (v5 : Int32) (im5 : zMem) (lv5 : Int64), P5 v5 im5 lv5 → P v5 im5 lv5)) ∧
 (x1 = 6 → P (im 16 0 1) im lv) ∧
 (x1 = 7 → (∃ P6 : Int32 → zMem → Int64 → Prop, zSpecI x.2.1 w 2 zyJ6_bitCount_0f7a4 [vI (im 2 0 8)] im lv P6 ∧ ∀ (v6 : Int32) (im6 : zMem) (lv6 : Int64), P6 v6 im6 lv6 → P v6 im6 lv6)))) :
 zW x w 0 [(0, vR 0 0), (1, vI x1)] [] im lv := by
  refine zi_iload_n hO dX11_count_0 1 rfl ?_
  by_cases hs0 : Int32.toInt x1 < 0 ∨ 7 < Int32.toInt x1
  · have h := h.1 (zsw_out (by decide) (by decide) hs0)
    refine zi_tableOut (tgt := 112) hO dX11_count_1 hs0 (by decide) ?_
    refine zi_ldc (v := (-1000001)) hO dX11_count_112 nX11_100 ?_
    exact zr_I hO hR rfl dX11_count_114 h
  · have h := h.2
    by_cases hs1 : x1 = 0
    · have h := h.1 hs1
      refine zi_tableIn (off := 47) (tgt := 48) hO dX11_count_1 (zsw_lo hs1 (by decide)) (zsw_hi hs1 (by decide)) (zsw_at hs1 rfl) (by decide) ?_
      refine zi_aload_n hO dX11_count_48 0 rfl ?_
      obtain ⟨P1, hM1, h⟩ := h
      refine zc_VI (as := []) hO hN dX11_count_49 kX11_344 (by decide) rfl (zI (by decide)) rfl rfl (Nat.le_of_ble_eq_true rfl) rfl rfl hM1 (fun v1 im1 lv1 hp1 => ?_)
      replace h := h v1 im1 lv1 hp1
      exact zr_I hO hR rfl dX11_count_52 h
    by_cases hs2 : x1 = 1
    · have h := h.2.1 hs2
      refine zi_tableIn (off := 52) (tgt := 53) hO dX11_count_1 (zsw_lo hs2 (by decide)) (zsw_hi hs2 (by decide)) (zsw_at hs2 rfl) (by decide) ?_
      refine zi_aload_n hO dX11_count_53 0 rfl ?_
      refine zi_getR (r' := 10) (i' := 0) hO dX11_count_54 fX11_25 rfl rfl (zI (by decide)) rfl ?_
      refine zi_getI hO dX11_count_57 fX11_196 rfl rfl (zI (by decide)) ?_
      exact zr_I hO hR rfl dX11_count_60 h
    by_cases hs3 : x1 = 2
    · have h := h.2.2.1 hs3
      refine zi_tableIn (off := 60) (tgt := 61) hO dX11_count_1 (zsw_lo hs3 (by decide)) (zsw_hi hs3 (by decide)) (zsw_at hs3 rfl) (by decide) ?_
      refine zi_aload_n hO dX11_count_61 0 rfl ?_
      refine zi_getR (r' := 2) (i' := 0) hO dX11_count_62 fX11_18 rfl rfl (zI (by decide)) rfl ?_
      refine zi_getI hO dX11_count_65 fX11_347 rfl rfl (zI (by decide)) ?_
      exact zr_I hO hR rfl dX11_count_68 h
    by_cases hs4 : x1 = 3
    · have h := h.2.2.2.1 hs4
      refine zi_tableIn (off := 68) (tgt := 69) hO dX11_count_1 (zsw_lo hs4 (by decide)) (zsw_hi hs4 (by decide)) (zsw_at hs4 rfl) (by decide) ?_
      refine zi_aload_n hO dX11_count_69 0 rfl ?_
      refine zi_iconst (v := 1) hO dX11_count_70 (by decide) ?_
      obtain ⟨P2, hM2, h⟩ := h
      refine zc_VI (as := [vI 1]) hO hN dX11_count_71 kX11_350 (by decide) rfl (zI (by decide)) rfl rfl (Nat.le_of_ble_eq_true rfl) rfl rfl hM2 (fun v2 im2 lv2 hp2 => ?_)
      replace h := h v2 im2 lv2 hp2
      refine zi_aload_n hO dX11_count_74 0 rfl ?_
      refine zi_iconst (v := 2) hO dX11_count_75 (by decide) ?_
      obtain ⟨P3, hM3, h⟩ := h
      refine zc_VI (as := [vI 2]) hO hN dX11_count_76 kX11_350 (by decide) rfl (zI (by decide)) rfl rfl (Nat.le_of_ble_eq_true rfl) rfl rfl hM3 (fun v3 im3 lv3 hp3 => ?_)
      replace h := h v3 im3 lv3 hp3
      refine zi_iadd hO dX11_count_79 ?_
      exact zr_I hO hR rfl dX11_count_80 h
    by_cases hs5 : x1 = 4
    · have h := h.2.2.2.2.1 hs5
      refine zi_tableIn (off := 80) (tgt := 81) hO dX11_count_1 (zsw_lo hs5 (by decide)) (zsw_hi hs5 (by decide)) (zsw_at hs5 rfl) (by decide) ?_
      refine zi_aload_n hO dX11_count_81 0 rfl ?_
      refine zi_iconst (v := 2) hO dX11_count_82 (by decide) ?_
      obtain ⟨P4, hM4, h⟩ := h
      refine zc_VI (as := [vI 2]) hO hN dX11_count_83 kX11_350 (by decide) rfl (zI (by decide)) rfl rfl (Nat.le_of_ble_eq_true rfl) rfl rfl hM4 (fun v4 im4 lv4 hp4 => ?_)
      replace h := h v4 im4 lv4 hp4
      exact zr_I hO hR rfl dX11_count_86 h
    by_cases hs6 : x1 = 5
    · have h := h.2.2.2.2.2.1 hs6
      refine zi_tableIn (off := 86) (tgt := 87) hO dX11_count_1 (zsw_lo hs6 (by decide)) (zsw_hi hs6 (by decide)) (zsw_at hs6 rfl) (by decide) ?_
      refine zi_aload_n hO dX11_count_87 0 rfl ?_
      refine zi_iconst (v := 3) hO dX11_count_88 (by decide) ?_
      obtain ⟨P5, hM5, h⟩ := h
      refine zc_VI (as := [vI 3]) hO hN dX11_count_89 kX11_350 (by decide) rfl (zI (by decide)) rfl rfl (Nat.le_of_ble_eq_true rfl) rfl rfl hM5 (fun v5 im5 lv5 hp5 => ?_)
      replace h := h v5 im5 lv5 hp5
      exact zr_I hO hR rfl dX11_count_92 h
    by_cases hs7 : x1 = 6
    · have h := h.2.2.2.2.2.2.1 hs7
      refine zi_tableIn (off := 92) (tgt := 93) hO dX11_count_1 (zsw_lo hs7 (by decide)) (zsw_hi hs7 (by decide)) (zsw_at hs7 rfl) (by decide) ?_
      refine zi_aload_n hO dX11_count_93 0 rfl ?_
      refine zi_getR (r' := 16) (i' := 0) hO dX11_count_94 fX11_32 rfl rfl (zI (by decide)) rfl ?_
      refine zi_getI hO dX11_count_97 fX11_179 rfl rfl (zI (by decide)) ?_
      exact zr_I hO hR rfl dX11_count_100 h
    by_cases hs8 : x1 = 7
    · have h := h.2.2.2.2.2.2.2 hs8
      refine zi_tableIn (off := 100) (tgt := 101) hO dX11_count_1 (zsw_lo hs8 (by decide)) (zsw_hi hs8 (by decide)) (zsw_at hs8 rfl) (by decide) ?_
      refine zi_aload_n hO dX11_count_101 0 rfl ?_
      refine zi_getR (r' := 2) (i' := 0) hO dX11_count_102 fX11_18 rfl rfl (zI (by decide)) rfl ?_
      refine zi_getI hO dX11_count_105 fX11_164 rfl rfl (zI (by decide)) ?_
      obtain ⟨P6, hM6, h⟩ := h
      refine zc_SI (as := [vI (im 2 0 8)]) hO hN dX11_count_108 kX11_286 (by decide) rfl (Nat.le_of_ble_eq_true rfl) rfl rfl hM6 (fun v6 im6 lv6 hp6 => ?_)
      replace h := h v6 im6 lv6 hp6
      exact zr_I hO hR rfl dX11_count_111 h
    have e1 := zsw_ne (k := 0) hs1 (by decide)
    have e2 := zsw_ne (k := 1) hs2 (by decide)
    have e3 := zsw_ne (k := 2) hs3 (by decide)
    have e4 := zsw_ne (k := 3) hs4 (by decide)
    have e5 := zsw_ne (k := 4) hs5 (by decide)
    have e6 := zsw_ne (k := 5) hs6 (by decide)
    have e7 := zsw_ne (k := 6) hs7 (by decide)
    have e8 := zsw_ne (k := 7) hs8 (by decide)
    exfalso
    omega
theorem rX11_status_0 {x : zX} {w : zWd} {im : zMem} {lv : Int64} {P : Int32 → zMem → Int64 → Prop} (hO : zOK x w zyX11_status 2) (hR : zRetI x w zyX11_status P) (hN : zN x 126 126)
 (h : P (im 0 0 10) im lv) :
 zW x w 0 [(0, vR 0 0)] [] im lv := by
  refine zi_aload_n hO dX11_status_0 0 rfl ?_
  refine zi_getI hO dX11_status_1 fX11_88 rfl rfl (zI (by decide)) ?_
  exact zr_I hO hR rfl dX11_status_4 h
theorem rX11_fault_0 {x : zX} {w : zWd} {im : zMem} {lv : Int64} {P : Int32 → zMem → Int64 → Prop} (hO : zOK x w zyX11_fault 2) (hR : zRetI x w zyX11_fault P) (hN : zN x 126 126)
 (h : P (im 0 0 11) im lv) :
 zW x w 0 [(0, vR 0 0)] [] im lv := by
  refine zi_aload_n hO dX11_fault_0 0 rfl ?_
  refine zi_getI hO dX11_fault_1 fX11_92 rfl rfl (zI (by decide)) ?_
  exact zr_I hO hR rfl dX11_fault_4 h
def Fc (im im' : zMem) : Prop := ∀ r, ¬ (20 ≤ r ∧ r ≤ 38) → im' r = im r
theorem Fc.refl {im : zMem} : Fc im im := fun _ _ => rfl
theorem Fc.trans {a b c : zMem} (h1 : Fc a b) (h2 : Fc b c) : Fc a c := fun r h => (h2 r h).trans (h1 r h)
theorem Fc.rc {m im im' : zMem} (h : Fc im im') (hC : RC m im) : RC m im' := hC.fr (fun r hr => h r (by omega))
theorem b0 {x : Int32} (h : ¬ x < 0) : 0 ≤ x := by
  rw [Int32.lt_iff_toInt_lt] at h
  rw [Int32.le_iff_toInt_le]
  omega
theorem b0' {x : Int32} (h : x < 0) : ¬ 0 ≤ x := by
  rw [Int32.lt_iff_toInt_lt] at h
  rw [Int32.le_iff_toInt_le]
  omega
theorem b1 {x : Int32} {k : Nat} (hk : k < 2 ^ 30) (h : x ≤ nI k) : x < nI (k + 1) := by
  rw [Int32.le_iff_toInt_le, nI_toInt (by omega)] at h
  rw [Int32.lt_iff_toInt_lt, nI_toInt (by omega)]
  omega
theorem b1' {x : Int32} {k : Nat} (hk : k < 2 ^ 30) (h : ¬ x ≤ nI k) : ¬ x < nI (k + 1) := by
  rw [Int32.le_iff_toInt_le, nI_toInt (by omega)] at h
  rw [Int32.lt_iff_toInt_lt, nI_toInt (by omega)]
  omega
theorem lt_nge {x : Int32} {k : Nat} (h : nI k ≤ x) : ¬ x < nI k := by
  rw [Int32.le_iff_toInt_le] at h
  rw [Int32.lt_iff_toInt_lt]
  omega
theorem nlt_ge {x : Int32} {k : Nat} (h : ¬ nI k ≤ x) : x < nI k := by
  rw [Int32.le_iff_toInt_le] at h
  rw [Int32.lt_iff_toInt_lt]
  omega
theorem sw_out {x : Int32} {k : Nat} (hk : k < 2 ^ 30) (h : x < 0 ∨ nI k < x) : ¬ (0 ≤ x ∧ x < nI (k + 1)) := by
  rw [Int32.le_iff_toInt_le, Int32.lt_iff_toInt_lt, nI_toInt (by omega)]
  rw [Int32.lt_iff_toInt_lt, Int32.lt_iff_toInt_lt, nI_toInt (by omega)] at h
  have : (0 : Int32).toInt = 0 := rfl
  omega
theorem C_X11_status (l : Launch) (w : zWd) {im : zMem} (lv : Int64) : zSpecI l w 2 zyX11_status [vR 0 0] im lv (fun v im' lv' => v = im 0 0 10 ∧ im' = im ∧ lv' = lv) :=
  ze_I (by decide) (Nat.le_of_ble_eq_true rfl) (fun x hO hR hN => rX11_status_0 hO hR hN ⟨rfl, rfl, rfl⟩)
theorem C_X11_fault (l : Launch) (w : zWd) {im : zMem} (lv : Int64) : zSpecI l w 2 zyX11_fault [vR 0 0] im lv (fun v im' lv' => v = im 0 0 11 ∧ im' = im ∧ lv' = lv) :=
  ze_I (by decide) (Nat.le_of_ble_eq_true rfl) (fun x hO hR hN => rX11_fault_0 hO hR hN ⟨rfl, rfl, rfl⟩)
theorem C_X11_told (l : Launch) (w : zWd) {m im : zMem} (lv : Int64) (hW : WF m) (hC : RC m im) (x1 x2 : Int32) : zSpecI l w 4 zyX11_told [vR 0 0, vI x1, vI x2] im lv (fun v im' lv' => v = aTold m x1 x2 ∧ im' = im ∧ lv' = lv) := by
  refine ze_I (by decide) (Nat.le_of_ble_eq_true rfl) (fun x hO hR hN => rX11_told_0 hO hR hN ⟨hC.le hW, ?_⟩)
  have h12 := hW.1.2
  rw [hC.1]
  unfold aTold
  refine ⟨fun q => ?_, fun q => ⟨(if_neg (fun z => q z.1)).symm, rfl, rfl⟩⟩
  have q' := q
  obtain ⟨f, hf, rfl⟩ := zrx (by omega) q
  have cf : cN (nI f) = f := nI_clamp (by omega)
  obtain ⟨c0, c1, c2, c3, c4, c5, c6, -⟩ := hC.2.1 f hf
  rw [show Int32.toNatClampNeg (nI f) = f from cf, c0, c1, c2, c3, c4, c5, c6]
  refine ⟨by omega, fun q2 => ⟨(if_neg (fun z => sw_out (k := 7) (by decide) q2 z.2)).symm, rfl, rfl⟩, fun q2 => ?_, fun q2 => ?_, fun q2 => ?_, fun q2 => ?_, fun q2 => ?_, fun q2 => ?_, fun q2 => ?_, fun q2 => ?_⟩ <;> subst q2 <;> refine ⟨?_, rfl, rfl⟩ <;> rw [if_pos ⟨q', by decide⟩, cf]
  all_goals first | rfl | (simp only [zlit, pk_mul, nI_add]; rfl)
theorem C_X11_leg (l : Launch) (w : zWd) {m im : zMem} (lv : Int64) (hW : WF m) (hC : RC m im) (x1 x2 x3 x4 : Int32) : zSpecI l w 3 zyX11_leg [vR 0 0, vI x1, vI x2, vI x3, vI x4] im lv (fun v im' lv' => v = aLeg m x1 x2 x3 x4 ∧ im' = im ∧ lv' = lv) := by
  refine ze_I (by decide) (Nat.le_of_ble_eq_true rfl) (fun x hO hR hN => rX11_leg_0 hO hR hN ⟨hC.le hW, ?_⟩)
  have h12 := hW.1.2
  rw [hC.1]
  unfold aLeg
  refine ⟨fun q => ?_, fun q => ⟨(if_neg (fun z => q z.1)).symm, rfl, rfl⟩⟩
  have q' := q
  obtain ⟨f, hf, rfl⟩ := zrx (by omega) q
  have cf : cN (nI f) = f := nI_clamp (by omega)
  obtain ⟨-, -, -, -, f4, -, -, f7⟩ := hW.2.1 f hf
  obtain ⟨c0, c1, c2, c3, c4, c5, c6, cw⟩ := hC.2.1 f hf
  rw [show Int32.toNatClampNeg (nI f) = f from cf, cf, c4]
  refine ⟨by omega, fun q2 => ⟨(if_neg (fun z => q2 z.2.1)).symm, rfl, rfl⟩, fun q2 => ?_⟩
  have q2' := q2
  obtain ⟨wy, hwy, rfl⟩ := zrx (by omega) q2
  have cwy : cN (nI wy) = wy := nI_clamp (by omega)
  obtain ⟨c, hc5, e13, hk, hz⟩ := cw wy hwy
  rw [show Int32.toNatClampNeg (nI wy) = wy from cwy, cwy, e13]
  refine ⟨fun q4 => ⟨(if_neg (fun z => b0' q4 z.2.2.1)).symm, rfl, rfl⟩, fun q4 => ⟨fun q5 => ?_, fun q5 => ⟨(if_neg (fun z => b1' (k := 1) (by decide) q5 z.2.2.2)).symm, rfl, rfl⟩⟩⟩
  rw [if_pos ⟨q', q2', b0 q4, b1 (k := 1) (by decide) q5⟩]
  refine ⟨fun q3 => ⟨(if_neg (fun z => b0' q3 z.1.1)).symm, rfl, rfl⟩, fun q3 => ⟨vp_in_nI (by omega) (by decide), ?_⟩⟩
  obtain ⟨i, hi, rfl⟩ := nI_of q3
  have ci : cN (nI i) = i := nI_clamp (by omega)
  rw [nI_ltI (by omega) (by omega), ci]
  by_cases hic : i < c
  · obtain ⟨k1, k2, k3⟩ := hk i hic
    have ep : nI wy * 5 + nI i = nI (wy * 5 + i) := by simp only [zlit, pk_mul, nI_add]
    rw [if_pos ⟨⟨b0 q3, nI_lt (a := i) (b := 5) (by omega) (by decide)⟩, k1⟩, ep, nI_clamp (show wy * 5 + i < 2 ^ 31 by omega), k2, k3]
    have vp : vp_in (nI (wy * 5 + i)) 15 := vp_in_nI (by omega) (by decide)
    exact ⟨fun _ => ⟨fun z => ⟨vp, (if_neg z).symm, rfl, rfl⟩, fun z => ⟨vp, (if_pos z).symm, rfl, rfl⟩⟩, fun z => absurd hic z⟩
  · refine ⟨fun z => absurd z hic, fun _ => ⟨(if_neg ?_).symm, rfl, rfl⟩⟩
    rintro ⟨⟨-, z1⟩, z2⟩
    rw [nI_ltI (by omega) (by decide)] at z1
    have := hz i (by omega) z1
    omega
theorem C_X11_at (l : Launch) (w : zWd) {m im : zMem} (lv : Int64) (hW : WF m) (hC : RC m im) (x1 x2 : Int32) : zSpecI l w 3 zyX11_at [vR 0 0, vI x1, vI x2] im lv (fun v im' lv' => v = aAt m x1 x2 ∧ im' = im ∧ lv' = lv) := by
  refine ze_I (by decide) (Nat.le_of_ble_eq_true rfl) (fun x hO hR hN => rX11_at_0 hO hR hN ⟨hC.le hW, ?_⟩)
  have h12 := hW.1.2
  rw [hC.1]
  unfold aAt
  refine ⟨fun q => ?_, fun q => ⟨(if_neg (fun z => q z.1)).symm, rfl, rfl⟩⟩
  have q' := q
  obtain ⟨f, hf, rfl⟩ := zrx (by omega) q
  have cf : cN (nI f) = f := nI_clamp (by omega)
  obtain ⟨-, -, -, -, f4, f5, f6, f7⟩ := hW.2.1 f hf
  obtain ⟨c0, c1, c2, c3, c4, c5, c6, cw⟩ := hC.2.1 f hf
  rw [show Int32.toNatClampNeg (nI f) = f from cf, cf, c5, c6]
  refine ⟨by omega, fun q2 => ?_, fun q2 => ⟨(if_neg (fun z => q2 z.2)).symm, rfl, rfl⟩⟩
  rw [if_pos ⟨q', q2⟩]
  obtain ⟨t, ht, rfl⟩ := zrx (N := 48) (by decide) q2
  rw [show cN (nI t) = t from nI_clamp (by omega)]
  exact ⟨_, C_X2_roomIn _ _ _ hW hC hf f5.2 (by omega) (by omega), fun v im' lv' h => h⟩
theorem C_X11_load (l : Launch) (w : zWd) {m im : zMem} (lv : Int64) (hW : WF m) (hC : RC m im) (x1 x2 x3 : Int32) : zSpecI l w 6 zyX11_load [vR 0 0, vI x1, vI x2, vI x3] im lv (fun v im' lv' => v = aLoad m x1 x2 x3 ∧ Fc im im' ∧ lv' = lv) := by
  refine ze_I (by decide) (Nat.le_of_ble_eq_true rfl) (fun x hO hR hN => rX11_load_0 hO hR hN ?_)
  unfold aLoad
  refine ⟨fun q => ⟨(if_neg (fun z => q z.1)).symm, Fc.refl, rfl⟩, fun q => ⟨fun q2 => ⟨(if_neg (fun z => q2 z.2.1)).symm, Fc.refl, rfl⟩, fun q2 => ⟨fun q4 => ⟨(if_neg (fun z => b0' q4 z.2.2.1)).symm, Fc.refl, rfl⟩, fun q4 => ⟨fun q5 => ?_, fun q5 => ⟨(if_neg (fun z => b1' (k := 1) (by decide) q5 z.2.2.2)).symm, Fc.refl, rfl⟩⟩⟩⟩⟩
  rw [if_pos ⟨q, q2, b0 q4, b1 (k := 1) (by decide) q5⟩]
  obtain ⟨r, hr, rfl⟩ := zrx (N := 8) (by decide) q
  obtain ⟨t, ht, rfl⟩ := zrx (N := 48) (by decide) q2
  rw [show cN (nI r) = r from nI_clamp (by omega), show cN (nI t) = t from nI_clamp (by omega)]
  refine ⟨_, C_X8_refresh _ _ _ hW hC, ?_⟩
  rintro im3 lv3 ⟨⟨g1, hS⟩, rfl⟩
  have fc : Fc im im3 := fun r hr => g1 r (by omega)
  have ep : nI r * 48 + nI t = nI (r * 48 + t) := by simp only [zlit, pk_mul, nI_add]
  have htm := hS.tm hW (c := r * 48 + t) (by omega)
  have hld := (hS (r * 48 + t) (by omega)).1
  rw [show (r * 48 + t) / 48 = r by omega, show (r * 48 + t) % 48 = t by omega] at htm hld
  rw [ep, nI_clamp (show r * 48 + t < 2 ^ 31 by omega), htm, hld]
  have vp : vp_in (nI (r * 48 + t)) 384 := vp_in_nI (by omega) (by decide)
  exact ⟨fun z => ⟨vp, (if_neg z).symm, fc, rfl⟩, fun z => ⟨vp, (if_pos z).symm, fc, rfl⟩⟩
theorem C_X11_all (l : Launch) (w : zWd) {m im : zMem} (lv : Int64) (hW : WF m) (hC : RC m im) (x1 : Int32) : zSpecI l w 6 zyX11_all [vR 0 0, vI x1] im lv (fun v im' lv' => v = aAll m x1 ∧ Fc im im' ∧ lv' = lv) := by
  refine ze_I (by decide) (Nat.le_of_ble_eq_true rfl) (fun x hO hR hN => rX11_all_0 hO hR hN ⟨_, C_X8_refresh _ _ _ hW hC, ?_⟩)
  rintro im1 lv1 ⟨⟨g1, hS⟩, rfl⟩
  have fc : Fc im im1 := fun r hr => g1 r (by omega)
  have hC1 := fc.rc hC
  unfold aAll
  refine ⟨fun q => ⟨(if_neg (sw_out (k := 5) (by decide) q)).symm, fc, rfl⟩, fun q => ?_, fun q => ?_, fun q => ?_, fun q => ?_, fun q => ?_, fun q => ?_⟩ <;> subst q <;> rw [if_pos (by decide)]
  · exact ⟨_, C_X8_tooMuchTogether _ _ _ hW hS, by rintro v im' lv' ⟨rfl, rfl, rfl⟩; exact ⟨rfl, fc, rfl⟩⟩
  · exact ⟨_, C_X1_costTogether _ _ _ hW hC1, by rintro v im' lv' ⟨rfl, rfl, rfl⟩; exact ⟨rfl, fc, rfl⟩⟩
  · exact ⟨_, C_X1_delaysTogether _ _ _ hW hC1, by rintro v im' lv' ⟨rfl, rfl, rfl⟩; exact ⟨rfl, fc, rfl⟩⟩
  · exact ⟨_, C_X4_unfairness _ _ _ hW hC1, by rintro v im' lv' ⟨⟨rfl, g⟩, rfl⟩; exact ⟨rfl, fc.trans (fun r hr => g r (by omega)), rfl⟩⟩
  · exact ⟨_, C_X8_crowdedCells _ _ _ hW hS, by rintro v im' lv' ⟨rfl, rfl, rfl⟩; exact ⟨rfl, fc, rfl⟩⟩
  · exact ⟨_, C_X8_greatestLoad _ _ _ hW hS, by rintro v im' lv' ⟨rfl, rfl, rfl⟩; exact ⟨rfl, fc, rfl⟩⟩
theorem C_X11_known (l : Launch) (w : zWd) {m im : zMem} (lv : Int64) (hW : WF m) (hC : RC m im) (x1 x2 x3 : Int32) : zSpecI l w 4 zyX11_known [vR 0 0, vI x1, vI x2, vI x3] im lv (fun v im' lv' => v = aKnown m x1 x2 x3 ∧ im' = im ∧ lv' = lv) := by
  refine ze_I (by decide) (Nat.le_of_ble_eq_true rfl) (fun x hO hR hN => rX11_known_0 hO hR hN ?_)
  unfold aKnown
  refine ⟨fun q => ⟨(if_neg (fun z => q z.1)).symm, rfl, rfl⟩, fun q => ⟨fun q2 => ⟨(if_neg (fun z => q2 z.2.1)).symm, rfl, rfl⟩, fun q2 => ⟨fun q3 => ?_, fun q3 => ⟨(if_neg (fun z => q3 z.2.2)).symm, rfl, rfl⟩⟩⟩⟩
  rw [if_pos ⟨q, q2, q3⟩]
  obtain ⟨r, hr, rfl⟩ := zrx (N := 8) (by decide) q
  obtain ⟨t, ht, rfl⟩ := zrx (N := 48) (by decide) q2
  obtain ⟨z, hz, rfl⟩ := nI_of (x := x3) (fun h => b0' h q3)
  rw [show cN (nI r) = r from nI_clamp (by omega), show cN (nI t) = t from nI_clamp (by omega), show cN (nI z) = z from nI_clamp (by omega)]
  exact ⟨_, C_X1_loadKnownAt _ _ _ hW hC hr ht hz, fun v im' lv' h => h⟩
theorem C_X11_split (l : Launch) (w : zWd) {m im : zMem} (lv : Int64) (hW : WF m) (hC : RC m im) (x1 : Int32) : zSpecI l w 8 zyX11_split [vR 0 0, vI x1] im lv (fun v im' lv' => v = aSplit m x1 ∧ Fc im im' ∧ lv' = lv) := by
  refine ze_I (by decide) (Nat.le_of_ble_eq_true rfl) (fun x hO hR hN => rX11_split_0 hO hR hN ?_)
  unfold aSplit
  refine ⟨fun q => ⟨_, C_X8_refresh _ _ _ hW hC, ?_⟩, fun q => ⟨fun q2 => ⟨_, C_X8_refresh _ _ _ hW hC, ?_⟩, fun q2 => ⟨by rw [if_neg q, if_neg (show ¬ (0 ≤ x1 ∧ x1 < nI 48) from q2)], Fc.refl, rfl⟩⟩⟩
  · rw [if_pos q]
    rintro im1 lv1 ⟨⟨g1, hS⟩, rfl⟩
    have fc : Fc im im1 := fun r hr => g1 r (by omega)
    refine ⟨_, C_X9_makePlan _ _ _ hW (fc.rc hC) hS, ?_⟩
    rintro im2 lv2 ⟨⟨g2, g3, g4⟩, rfl⟩
    exact ⟨g3, fc.trans (fun r hr => g2 r (by omega)), rfl⟩
  · rw [if_neg q, if_pos (show 0 ≤ x1 ∧ x1 < nI 48 from q2)]
    obtain ⟨t, ht, rfl⟩ := zrx (N := 48) (by decide) q2
    rintro im1 lv1 ⟨⟨g1, hS⟩, rfl⟩
    have fc : Fc im im1 := fun r hr => g1 r (by omega)
    refine ⟨_, C_X9_makePlan _ _ _ hW (fc.rc hC) hS, ?_⟩
    rintro im2 lv2 ⟨⟨g2, g3, g4⟩, rfl⟩
    rw [nI_clamp (show t < 2 ^ 31 by omega), show cN (nI t) = t from nI_clamp (by omega)]
    exact ⟨vp_in_nI ht (by decide), g4 t ht, fc.trans (fun r hr => g2 r (by omega)), rfl⟩
theorem pw_sh : ∀ k, k < 4 → (1 : Int32) <<< (nI k &&& 31) = nI (2 ^ k) ∧ 2 ^ k < 2 ^ 31 := by decide +kernel
theorem C_X11_safe (l : Launch) (w : zWd) {m im : zMem} (lv : Int64) (hW : WF m) (hC : RC m im) (x1 x2 x3 : Int32) : zSpecI l w 4 zyX11_safe [vR 0 0, vI x1, vI x2, vI x3] im lv (fun v im' lv' => v = aSafe m x1 x2 x3 ∧ im' = im ∧ lv' = lv) := by
  refine ze_I (by decide) (Nat.le_of_ble_eq_true rfl) (fun x hO hR hN => rX11_safe_0 hO hR hN ?_)
  have h15 := hW.2.2.2.2.2.2.2.2
  unfold aSafe
  have none_ : ∀ {l' : Launch}, 0 ≤ x1 ∧ x1 < 8 → 0 ≤ x2 ∧ x2 < 48 → x3 = -1000000 → ∃ P3 : Int32 → zMem → Int64 → Prop, zSpecI l' w 3 zyX3_borneInWorlds [vR 2 0, vI x1, vI x2, vI (im 2 0 8)] im lv P3 ∧ ∀ (v3 : Int32) (im3 : zMem) (lv3 : Int64), P3 v3 im3 lv3 → v3 = (if (0 ≤ x1 ∧ x1 < nI 8) ∧ (0 ≤ x2 ∧ x2 < nI 48) ∧ (x3 = -1000000 ∨ (0 ≤ x3 ∧ x3 < nI 4)) then (if x3 = -1000000 then nI (safe m (cN x1) (cN x2)) else nI (bearsW m (cN x1) (cN x2) (cN x3))) else -1000001) ∧ im3 = im ∧ lv3 = lv := by
    intro l' q q2 q3
    rw [if_pos ⟨q, q2, Or.inl q3⟩, if_pos q3, hC.2.2.2.2.2.2]
    obtain ⟨r, hr, rfl⟩ := zrx (N := 8) (by decide) q
    obtain ⟨t, ht, rfl⟩ := zrx (N := 48) (by decide) q2
    rw [show cN (nI r) = r from nI_clamp (by omega), show cN (nI t) = t from nI_clamp (by omega), ← biN_safe hW hr ht]
    exact ⟨_, C_X3_borneInWorlds _ _ _ hW hC hr ht (by omega), fun v im' lv' h => h⟩
  refine ⟨fun q3 => ⟨fun q => ⟨(if_neg (fun z => q z.1)).symm, rfl, rfl⟩, fun q => ⟨fun q2 => ⟨(if_neg (fun z => q2 z.2.1)).symm, rfl, rfl⟩, fun q2 => ⟨fun q4 => none_ q q2 q4, fun q4 => ⟨(if_neg (fun z => z.2.2.elim q4 (fun y => b0' q3 y.1))).symm, rfl, rfl⟩⟩⟩⟩, fun q3 => ⟨fun q5 => ⟨fun q => ⟨(if_neg (fun z => q z.1)).symm, rfl, rfl⟩, fun q => ⟨fun q2 => ⟨(if_neg (fun z => q2 z.2.1)).symm, rfl, rfl⟩, fun q2 => ⟨fun q4 => none_ q q2 q4, fun q4 => ⟨(if_neg (fun z => z.2.2.elim q4 (fun y => lt_nge (k := 4) q5 y.2))).symm, rfl, rfl⟩⟩⟩⟩, fun q5 => ⟨fun q => ⟨(if_neg (fun z => q z.1)).symm, rfl, rfl⟩, fun q => ⟨fun q2 => ⟨(if_neg (fun z => q2 z.2.1)).symm, rfl, rfl⟩, fun q2 => ?_⟩⟩⟩⟩
  · have q6 : x3 < nI 4 := nlt_ge (k := 4) q5
    have hne : ¬ x3 = -1000000 := fun e => by
      have := b0 q3
      rw [e] at this
      exact absurd this (by decide)
    rw [if_pos ⟨q, q2, Or.inr ⟨b0 q3, q6⟩⟩, if_neg hne]
    obtain ⟨r, hr, rfl⟩ := zrx (N := 8) (by decide) q
    obtain ⟨t, ht, rfl⟩ := zrx (N := 48) (by decide) q2
    obtain ⟨k, hk, rfl⟩ := zrx (N := 4) (by decide) ⟨b0 q3, q6⟩
    obtain ⟨e1, e2⟩ := pw_sh k hk
    rw [show cN (nI r) = r from nI_clamp (by omega), show cN (nI t) = t from nI_clamp (by omega), show cN (nI k) = k from nI_clamp (by omega), e1, ← biN_bears hW hk]
    exact ⟨_, C_X3_borneInWorlds _ _ _ hW hC hr ht e2, fun v im' lv' h => h⟩
theorem C_X11_airline (l : Launch) (w : zWd) {m im : zMem} (lv : Int64) (hW : WF m) (hC : RC m im) (x1 x2 : Int32) : zSpecI l w 6 zyX11_airline [vR 0 0, vI x1, vI x2] im lv (fun v im' lv' => v = aAir m x1 x2 ∧ Fc im im' ∧ lv' = lv) := by
  refine ze_I (by decide) (Nat.le_of_ble_eq_true rfl) (fun x hO hR hN => rX11_airline_0 hO hR hN ?_)
  unfold aAir
  refine ⟨fun q => ⟨(if_neg (fun z => b0' q z.1.1)).symm, Fc.refl, rfl⟩, fun q => ⟨fun q1 => ?_, fun q1 => ⟨(if_neg (fun z => q1 z.1.2)).symm, Fc.refl, rfl⟩⟩⟩
  have qq : 0 ≤ x1 ∧ x1 < nI 4 := ⟨b0 q, q1⟩
  have qq' := qq
  obtain ⟨a, ha, rfl⟩ := zrx (N := 4) (by decide) qq
  rw [show cN (nI a) = a from nI_clamp (by omega)]
  refine ⟨fun q2 => ⟨(if_neg (fun z => sw_out (k := 4) (by decide) q2 z.2)).symm, Fc.refl, rfl⟩, fun q2 => ?_, fun q2 => ?_, fun q2 => ?_, fun q2 => ?_, fun q2 => ?_⟩ <;> subst q2 <;> rw [if_pos ⟨qq', by decide⟩]
  · exact ⟨_, C_X1_flightsOf _ _ _ hW hC ha, by rintro v im' lv' ⟨rfl, rfl, rfl⟩; exact ⟨rfl, Fc.refl, rfl⟩⟩
  · exact ⟨_, C_X1_delaysOf _ _ _ hW hC ha, by rintro v im' lv' ⟨rfl, rfl, rfl⟩; exact ⟨rfl, Fc.refl, rfl⟩⟩
  · exact ⟨_, C_X4_shareOf _ _ _ hW hC ha, by rintro v im' lv' ⟨⟨rfl, g⟩, rfl⟩; exact ⟨rfl, fun r hr => g r (by omega), rfl⟩⟩
  · refine ⟨_, C_X8_refresh _ _ _ hW hC, ?_⟩
    rintro im1 lv1 ⟨⟨g1, hS⟩, rfl⟩
    have fc : Fc im im1 := fun r hr => g1 r (by omega)
    exact ⟨_, C_X4_blameOf _ _ _ hW (fc.rc hC) hS ha, by rintro v im' lv' ⟨⟨rfl, g⟩, rfl⟩; exact ⟨rfl, fc.trans (fun r hr => g r (by omega)), rfl⟩⟩
  · exact ⟨_, C_X1_costOf _ _ _ hW hC ha, by rintro v im' lv' ⟨rfl, rfl, rfl⟩; exact ⟨rfl, Fc.refl, rfl⟩⟩
theorem C_X11_kind (l : Launch) (w : zWd) {m im : zMem} (lv : Int64) (hW : WF m) (hC : RC m im) (x1 : Int32) : zSpecI l w 6 zyX11_kind [vR 0 0, vI x1] im lv (fun v im' lv' => v = aKind m x1 ∧ Fc im im' ∧ lv' = lv) := by
  refine ze_I (by decide) (Nat.le_of_ble_eq_true rfl) (fun x hO hR hN => rX11_kind_0 hO hR hN ⟨hC.le hW, ?_⟩)
  have h12 := hW.1.2
  rw [hC.1]
  unfold aKind
  refine ⟨fun q => ?_, fun q => ⟨(if_neg q).symm, Fc.refl, rfl⟩⟩
  rw [if_pos q]
  obtain ⟨f, hf, rfl⟩ := zrx (by omega) q
  have cf : cN (nI f) = f := nI_clamp (by omega)
  rw [show Int32.toNatClampNeg (nI f) = f from cf, cf]
  refine ⟨by omega, _, C_X8_refresh _ _ _ hW hC, ?_⟩
  rintro im1 lv1 ⟨⟨g1, hS⟩, rfl⟩
  have fc : Fc im im1 := fun r hr => g1 r (by omega)
  exact ⟨_, C_X0_kindOf _ _ _ hW (fc.rc hC) hS hf, by rintro v im' lv' ⟨⟨rfl, g⟩, rfl⟩; exact ⟨rfl, fc.trans (fun r hr => g r (by omega)), rfl⟩⟩
theorem C_X11_trace (l : Launch) (w : zWd) {im : zMem} (lv : Int64) {n : Nat} (hn : im 39 0 2 = nI n) (hn16 : n ≤ 16) (x1 : Int32) : zSpecI l w 2 zyX11_trace [vR 0 0, vI x1] im lv (fun v im' lv' => v = aTrace n (im 40 0) x1 ∧ im' = im ∧ lv' = lv) := by
  refine ze_I (by decide) (Nat.le_of_ble_eq_true rfl) (fun x hO hR hN => rX11_trace_0 hO hR hN ?_)
  rw [hn]
  unfold aTrace
  refine ⟨fun q => ⟨(if_neg (fun z => b0' q z.1)).symm, rfl, rfl⟩, fun q => ⟨fun q2 => ⟨?_, (if_pos ⟨b0 q, q2⟩).symm, rfl, rfl⟩, fun q2 => ⟨(if_neg (fun z => q2 z.2)).symm, rfl, rfl⟩⟩⟩
  obtain ⟨i, hi, rfl⟩ := zrx (N := n) (by omega) ⟨b0 q, q2⟩
  exact vp_in_nI (by omega) (by decide)
def toN (m : zMem) (c : Nat) : Nat → Nat
  | 0 => 0
  | f + 1 => toN m c f + if knd m f = c then 1 else 0
theorem C_X11_flightsTold (l : Launch) (w : zWd) {m im : zMem} (lv : Int64) (hW : WF m) (hC : RC m im) {c : Nat} (hc : c < 4) : zSpecI l w 6 zyX11_flightsTold [vR 0 0, vI (nI c)] im lv (fun v im' lv' => v = nI (toN m c (nfl m)) ∧ Fc im im' ∧ lv' = lv) := by
  refine ze_I (by decide) (Nat.le_of_ble_eq_true rfl) (fun x hO hR hN => rX11_flightsTold_0 hO hR hN ⟨_, C_X8_refresh _ _ _ hW hC, ?_⟩)
  have h12 := hW.1.2
  rintro im1 lv1 ⟨⟨g1, hS⟩, rfl⟩
  have fc : Fc im im1 := fun r hr => g1 r (by omega)
  have hC1 := fc.rc hC
  have key : ∀ n k (im2 : zMem), n + k = nfl m → (∀ r, ¬ r = 23 → im2 r = im1 r) → zW x w 11 [(0, vR 0 0), (1, vI (nI c)), (2, vI (nI (toN m c k))), (3, vI (nI k))] [] im2 lv1 := by
    intro n
    induction n with
    | zero =>
      intro k im2 hk h1
      have : k = nfl m := by omega
      subst this
      refine rX11_flightsTold_11 hO hR hN ?_
      rw [h1 10 (by decide), hC1.1]
      exact ⟨fun _ => ⟨rfl, fc.trans (fun r hr => h1 r (by omega)), rfl⟩, fun q => absurd (Int32.le_refl _) q⟩
    | succ n ih =>
      intro k im2 hk h1
      have hC2 : RC m im2 := hC1.fr (fun r hr => h1 r (by omega))
      have hS2 : SKY m im2 := hS.fr (h1 21 (by decide)) (h1 22 (by decide))
      refine rX11_flightsTold_11 hO hR hN ?_
      rw [hC2.1, nI_clamp (show k < 2 ^ 31 by omega), nI_leI (by omega) (by omega), nI_1 k]
      refine ⟨fun q => by omega, fun _ => ⟨vp_in_nI (by omega) (by decide), _, C_X0_kindOf _ _ _ hW hC2 hS2 (by omega), ?_⟩⟩
      rintro v3 im3 lv3 ⟨⟨rfl, g⟩, rfl⟩
      have hkn := knd_4 m k
      have ih := ih (k + 1) im3 (by omega) (fun r hr => (g r hr).trans (h1 r hr))
      rw [toN] at ih
      rw [nI_eq (by omega) (by omega), nI_1]
      refine ⟨fun q => ?_, fun q => ?_⟩
      · rw [if_neg q] at ih; exact ih
      · rw [if_pos q] at ih; exact ih
  exact key (nfl m) 0 im1 (by omega) (fun _ _ => rfl)
theorem C_X11_sheetsThere (l : Launch) (w : zWd) {m im : zMem} (lv : Int64) (hWS : WS m) (h41 : ∀ s, s < 8 → im 41 s 0 = m 44 0 s) : zSpecI l w 3 zyX11_sheetsThere [vR 0 0] im lv (fun v im' lv' => v = nI (shN m 8) ∧ im' = im ∧ lv' = lv) := by
  refine ze_I (by decide) (Nat.le_of_ble_eq_true rfl) (fun x hO hR hN => rX11_sheetsThere_0 hO hR hN ?_)
  have key : ∀ n k, n + k = 8 → zW x w 4 [(0, vR 0 0), (1, vI (nI (shN m k))), (2, vI (nI k))] [] im lv := by
    intro n
    induction n with
    | zero =>
      intro k hk
      have : k = 8 := by omega
      subst this
      exact rX11_sheetsThere_4 hO hR hN ⟨fun _ => ⟨rfl, rfl, rfl⟩, fun q => absurd (by decide) q⟩
    | succ n ih =>
      intro k hk
      refine rX11_sheetsThere_4 hO hR hN ?_
      have ih := ih (k + 1) (by omega)
      rw [shN] at ih
      rw [nI_clamp (show k < 2 ^ 31 by omega), h41 k (by omega), nI_1 k, nI_1]
      refine ⟨fun q => absurd q (nI_ge (b := 8) (by omega) (by decide)), fun _ => ⟨vp_in_nI (by omega) (by decide), fun q => ?_, fun q => ?_⟩⟩
      · rw [if_pos (by rw [q]; decide), Nat.add_zero] at ih; exact ih
      · obtain ⟨h1 | ⟨l', hl, e⟩, -⟩ := hWS k (by omega)
        · exact absurd h1 q
        · rw [if_neg (by rw [e]; exact nI_pos (by omega))] at ih; exact ih
  exact key 8 0 rfl
theorem kc_1 {m : zMem} : ∀ f, kcN m 1 f = toN m 1 f + toN m 2 f
  | 0 => rfl
  | f + 1 => by
    have h := knd_4 m f
    have e : (isK (knd m f) 1 = true) ↔ (knd m f = 1 ∨ knd m f = 2) := by unfold isK; rw [decide_eq_true_iff]; omega
    rw [kcN, toN, toN, kc_1 f]
    by_cases h1 : knd m f = 1
    · rw [if_pos (e.mpr (Or.inl h1)), if_pos h1, if_neg (by omega)]; omega
    · by_cases h2 : knd m f = 2
      · rw [if_pos (e.mpr (Or.inr h2)), if_neg h1, if_pos h2]; omega
      · rw [if_neg (fun z => (e.mp z).elim h1 h2), if_neg h1, if_neg h2]; omega
theorem kc_2 {m : zMem} {c : Nat} (hc : 2 ≤ c) : ∀ f, kcN m c f = toN m c f
  | 0 => rfl
  | f + 1 => by
    have e : (isK (knd m f) c = true) ↔ knd m f = c := by unfold isK; rw [decide_eq_true_iff]; omega
    rw [kcN, toN, kc_2 hc f]
    by_cases h1 : knd m f = c
    · rw [if_pos (e.mpr h1), if_pos h1]
    · rw [if_neg (fun z => h1 (e.mp z)), if_neg h1]
theorem C_X11_count (l : Launch) (w : zWd) {m im : zMem} (lv : Int64) (hW : WF m) (hWS : WS m) (hC : RC m im) (h41 : ∀ s, s < 8 → im 41 s 0 = m 44 0 s) (x1 : Int32) : zSpecI l w 7 zyX11_count [vR 0 0, vI x1] im lv (fun v im' lv' => v = aCount m (im 16 0 1) x1 ∧ Fc im im' ∧ lv' = lv) := by
  refine ze_I (by decide) (Nat.le_of_ble_eq_true rfl) (fun x hO hR hN => rX11_count_0 hO hR hN ?_)
  have h15 := hW.2.2.2.2.2.2.2.2
  unfold aCount
  refine ⟨fun q => ⟨(if_neg (sw_out (k := 7) (by decide) q)).symm, Fc.refl, rfl⟩, fun q => ?_, fun q => ?_, fun q => ?_, fun q => ?_, fun q => ?_, fun q => ?_, fun q => ?_, fun q => ?_⟩ <;> subst q <;> rw [if_pos (by decide)]
  · exact ⟨_, C_X11_sheetsThere _ _ _ hWS h41, by rintro v im' lv' ⟨rfl, rfl, rfl⟩; exact ⟨rfl, Fc.refl, rfl⟩⟩
  · exact ⟨hC.1, Fc.refl, rfl⟩
  · exact ⟨hC.2.2.1, Fc.refl, rfl⟩
  · refine ⟨_, C_X11_flightsTold _ _ _ hW hC (c := 1) (by decide), ?_⟩
    rintro v2 im2 lv2 ⟨rfl, f2, rfl⟩
    refine ⟨_, C_X11_flightsTold _ _ _ hW (f2.rc hC) (c := 2) (by decide), ?_⟩
    rintro v3 im3 lv3 ⟨rfl, f3, rfl⟩
    refine ⟨?_, f2.trans f3, rfl⟩
    rw [nI_add, ← kc_1]
    rfl
  · refine ⟨_, C_X11_flightsTold _ _ _ hW hC (c := 2) (by decide), ?_⟩
    rintro v3 im3 lv3 ⟨rfl, f3, rfl⟩
    refine ⟨?_, f3, rfl⟩
    rw [← kc_2 (Nat.le_refl _)]
    rfl
  · refine ⟨_, C_X11_flightsTold _ _ _ hW hC (c := 3) (by decide), ?_⟩
    rintro v3 im3 lv3 ⟨rfl, f3, rfl⟩
    refine ⟨?_, f3, rfl⟩
    rw [← kc_2 (by decide)]
    rfl
  · exact ⟨rfl, Fc.refl, rfl⟩
  · rw [hC.2.2.2.2.2.2]
    exact ⟨_, C_J6_bitCount _ _ _ _ (by omega), by rintro v im' lv' ⟨rfl, rfl, rfl⟩; exact ⟨rfl, Fc.refl, rfl⟩⟩
