/-! the class's calls that change flights, findings, traces -/
theorem rX11_look_0 {x : zX} {w : zWd} {im : zMem} {lv : Int64} {P : Int32 → zMem → Int64 → Prop} {x1 : Int32} (hO : zOK x w zyX11_look 2) (hR : zRetI x w zyX11_look P) (hN : zN x 126 126)
 (h : ((x1 < 1 → P (-1000001) im lv) ∧
 (¬ (x1 < 1) → ((x1 < 16 → P (im 2 0 8) (zwr im 2 0 8 x1) lv) ∧
 (¬ (x1 < 16) → P (-1000001) im lv))))) :
 zW x w 0 [(0, vR 0 0), (1, vI x1)] [] im lv := by
  refine zi_iload_n hO dX11_look_0 1 rfl ?_
  refine zi_iconst (v := 1) hO dX11_look_1 (by decide) ?_
  refine zi_icmp_lt (tgt := 11) hO dX11_look_2 (by decide) (fun c1 => ?_) (fun c1 => ?_)
  · have h := h.1 c1
    refine zi_ldc (v := (-1000001)) hO dX11_look_11 nX11_100 ?_
    exact zr_I hO hR rfl dX11_look_13 h
  · have h := h.2 c1
    refine zi_iload_n hO dX11_look_5 1 rfl ?_
    refine zi_bipush (v := 16) hO dX11_look_6 (by decide) ?_
    refine zi_icmp_lt (tgt := 14) hO dX11_look_8 (by decide) (fun c2 => ?_) (fun c2 => ?_)
    · have h := h.1 c2
      refine zi_aload_n hO dX11_look_14 0 rfl ?_
      refine zi_getR (r' := 2) (i' := 0) hO dX11_look_15 fX11_18 rfl rfl (zI (by decide)) rfl ?_
      refine zi_getI hO dX11_look_18 fX11_164 rfl rfl (zI (by decide)) ?_
      refine zi_istore_n (L' := [(0, vR 0 0), (1, vI x1), (2, vI (im 2 0 8))]) hO dX11_look_21 (by decide) rfl rfl ?_
      refine zi_aload_n hO dX11_look_22 0 rfl ?_
      refine zi_getR (r' := 2) (i' := 0) hO dX11_look_23 fX11_18 rfl rfl (zI (by decide)) rfl ?_
      refine zi_iload_n hO dX11_look_26 1 rfl ?_
      refine zi_putI hO dX11_look_27 gX11_164 rfl rfl (zI (by decide)) ?_
      refine zi_iload_n hO dX11_look_30 2 rfl ?_
      exact zr_I hO hR rfl dX11_look_31 h
    · have h := h.2 c2
      refine zi_ldc (v := (-1000001)) hO dX11_look_11 nX11_100 ?_
      exact zr_I hO hR rfl dX11_look_13 h
theorem rX11_as_0 {x : zX} {w : zWd} {im : zMem} {lv : Int64} {P : Int32 → zMem → Int64 → Prop} {x1 : Int32} {x2 : Int32} (hO : zOK x w zyX11_as 6) (hR : zRetI x w zyX11_as P) (hN : zN x 126 126)
 (h : ((im 10 0 1) ≤ 12 ∧ ((0 ≤ x1 ∧ x1 < (im 10 0 1) → (Int32.toNatClampNeg x1) < 12 ∧ ((x2 < 0 → P (-1000001) im lv) ∧
 (¬ (x2 < 0) → ((x2 < 4 → (∃ P3 : zMem → Int64 → Prop, zSpecV x.2.1 w 5 zyX8_refresh [vR 20 0] im lv P3 ∧ ∀ (im3 : zMem) (lv3 : Int64), P3 im3 lv3 → (∃ P4 : Int32 → zMem → Int64 → Prop, zSpecI x.2.1 w 5 zyX0_isOfKind [vR 39 0, vR 12 (Int32.toNatClampNeg x1), vI x2] im3 lv3 P4 ∧ ∀ (v4 : Int32) (im4 : zMem) (lv4 : Int64), P4 v4 im4 lv4 → ((v4 = 0 → P ((-1000010) - 3) (zwr im4 0 0 10 3) lv4) ∧
 (¬ (v4 = 0) → P (im4 12 (Int32.toNatClampNeg x1) 1) (zwr im4 0 0 10 0) lv4))))) ∧
 (¬ (x2 < 4) → P (-1000001) im lv))))) ∧
 (¬ (0 ≤ x1 ∧ x1 < (im 10 0 1)) → P (-1000001) im lv)))) :
 zW x w 0 [(0, vR 0 0), (1, vI x1), (2, vI x2)] [] im lv := by
  refine zi_aload_n hO dX11_as_0 0 rfl ?_
  refine zi_getR (r' := 10) (i' := 0) hO dX11_as_1 fX11_25 rfl rfl (zI (by decide)) rfl ?_
  refine zi_iload_n hO dX11_as_4 1 rfl ?_
  obtain ⟨s2, h⟩ := h
  refine zc_VQ (as := [vI x1]) hO hN dX11_as_5 kX11_199 (by decide) rfl (zI (by decide)) rfl rfl (Nat.le_of_ble_eq_true rfl) rfl rfl (C_X1_flightOrNull _ _ _ _ s2) (fun im1 lv1 hp1 => ?_) (fun j1 im1 lv1 hp1 => ?_)
  · rw [hp1.2.1, hp1.2.2]
    have h := h.2 (zq_none hp1.1)
    refine zi_astore_nN (L' := [(0, vR 0 0), (1, vI x1), (2, vI x2), (3, vN)]) hO dX11_as_8 (by decide) rfl rfl ?_
    refine zi_aload_nN hO dX11_as_9 3 rfl ?_
    refine zi_ifnullN (tgt := 22) hO dX11_as_10 (by decide) ?_
    refine zi_ldc (v := (-1000001)) hO dX11_as_22 nX11_100 ?_
    exact zr_I hO hR rfl dX11_as_24 h
  · rw [hp1.2.1, hp1.2.2, (zq_some hp1.1).2]
    obtain ⟨hj1, h⟩ := h.1 (zq_some hp1.1).1
    refine zi_astore_n (L' := [(0, vR 0 0), (1, vI x1), (2, vI x2), (3, vR 12 (Int32.toNatClampNeg x1))]) hO dX11_as_8 (by decide) rfl rfl ?_
    refine zi_aload_n hO dX11_as_9 3 rfl ?_
    refine zi_ifnull hO dX11_as_10 ?_
    refine zi_iload_n hO dX11_as_13 2 rfl ?_
    refine zi_if_lt (tgt := 22) hO dX11_as_14 (by decide) (fun c1 => ?_) (fun c1 => ?_)
    · have h := h.1 c1
      refine zi_ldc (v := (-1000001)) hO dX11_as_22 nX11_100 ?_
      exact zr_I hO hR rfl dX11_as_24 h
    · have h := h.2 c1
      refine zi_iload_n hO dX11_as_17 2 rfl ?_
      refine zi_iconst (v := 4) hO dX11_as_18 (by decide) ?_
      refine zi_icmp_lt (tgt := 25) hO dX11_as_19 (by decide) (fun c2 => ?_) (fun c2 => ?_)
      · have h := h.1 c2
        refine zi_aload_n hO dX11_as_25 0 rfl ?_
        refine zi_getR (r' := 20) (i' := 0) hO dX11_as_26 fX11_50 rfl rfl (zI (by decide)) rfl ?_
        obtain ⟨P3, hM3, h⟩ := h
        refine zc_VV (as := []) hO hN dX11_as_29 kX11_244 (by decide) rfl (zI (by decide)) rfl rfl (Nat.le_of_ble_eq_true rfl) rfl rfl hM3 (fun im3 lv3 hp3 => ?_)
        replace h := h im3 lv3 hp3
        refine zi_aload_n hO dX11_as_32 0 rfl ?_
        refine zi_getR (r' := 39) (i' := 0) hO dX11_as_33 fX11_84 rfl rfl (zI (by decide)) rfl ?_
        refine zi_aload_n hO dX11_as_36 3 rfl ?_
        refine zi_iload_n hO dX11_as_37 2 rfl ?_
        obtain ⟨P4, hM4, h⟩ := h
        refine zc_VI (as := [vR 12 (Int32.toNatClampNeg x1), vI x2]) hO hN dX11_as_38 kX11_328 (by decide) rfl (zI (by decide)) rfl rfl (Nat.le_of_ble_eq_true rfl) rfl rfl hM4 (fun v4 im4 lv4 hp4 => ?_)
        replace h := h v4 im4 lv4 hp4
        refine zi_if_eq (tgt := 55) hO dX11_as_41 (by decide) (fun c3 => ?_) (fun c3 => ?_)
        · have h := h.1 c3
          refine zi_aload_n hO dX11_as_55 0 rfl ?_
          refine zi_iconst (v := 3) hO dX11_as_56 (by decide) ?_
          refine zc_VI (as := [vI 3]) hO hN dX11_as_57 kX11_101 (by decide) rfl (zI (by decide)) rfl rfl (Nat.le_of_ble_eq_true rfl) rfl rfl (C_X11_found _ _ _ _) (fun v5 im5 lv5 hp5 => ?_)
          rw [hp5.1, hp5.2.1, hp5.2.2]
          exact zr_I hO hR rfl dX11_as_60 h
        · have h := h.2 c3
          refine zi_aload_n hO dX11_as_44 0 rfl ?_
          refine zi_aload_n hO dX11_as_45 3 rfl ?_
          refine zi_getI hO dX11_as_46 fX11_208 rfl rfl (zI hj1) ?_
          refine zc_VI (as := [vI (im4 12 (Int32.toNatClampNeg x1) 1)]) hO hN dX11_as_49 kX11_109 (by decide) rfl (zI (by decide)) rfl rfl (Nat.le_of_ble_eq_true rfl) rfl rfl (C_X11_withoutFinding _ _ _ _) (fun v6 im6 lv6 hp6 => ?_)
          rw [hp6.1, hp6.2.1, hp6.2.2]
          refine zi_goto (tgt := 60) hO dX11_as_52 (by decide) ?_
          exact zr_I hO hR rfl dX11_as_60 h
      · have h := h.2 c2
        refine zi_ldc (v := (-1000001)) hO dX11_as_22 nX11_100 ?_
        exact zr_I hO hR rfl dX11_as_24 h
theorem rX11_ask_0 {x : zX} {w : zWd} {im : zMem} {lv : Int64} {P : Int32 → zMem → Int64 → Prop} {x1 : Int32} {x2 : Int32} (hO : zOK x w zyX11_ask 8) (hR : zRetI x w zyX11_ask P) (hN : zN x 126 126)
 (h : ((im 10 0 1) ≤ 12 ∧ ((0 ≤ x1 ∧ x1 < (im 10 0 1) → (Int32.toNatClampNeg x1) < 12 ∧ ((x2 < 0 → P (-1000001) im lv) ∧
 (¬ (x2 < 0) → ((x2 ≤ 1 → (∃ P3 : zMem → Int64 → Prop, zSpecV x.2.1 w 5 zyX8_refresh [vR 20 0] im lv P3 ∧ ∀ (im3 : zMem) (lv3 : Int64), P3 im3 lv3 → ((¬ (x2 = 0) → (∃ P4 : Int32 → zMem → Int64 → Prop, zSpecI x.2.1 w 5 zyX0_markOf [vR 39 0, vR 12 (Int32.toNatClampNeg x1)] (zwr im3 39 0 2 0) lv3 P4 ∧ ∀ (v4 : Int32) (im4 : zMem) (lv4 : Int64), P4 v4 im4 lv4 → P v4 im4 lv4)) ∧
 (x2 = 0 → (∃ P5 : Int32 → zMem → Int64 → Prop, zSpecI x.2.1 w 7 zyX0_sizeOf [vR 39 0, vR 12 (Int32.toNatClampNeg x1)] (zwr im3 39 0 2 0) lv3 P5 ∧ ∀ (v5 : Int32) (im5 : zMem) (lv5 : Int64), P5 v5 im5 lv5 → P v5 im5 lv5))))) ∧
 (¬ (x2 ≤ 1) → P (-1000001) im lv))))) ∧
 (¬ (0 ≤ x1 ∧ x1 < (im 10 0 1)) → P (-1000001) im lv)))) :
 zW x w 0 [(0, vR 0 0), (1, vI x1), (2, vI x2)] [] im lv := by
  refine zi_aload_n hO dX11_ask_0 0 rfl ?_
  refine zi_getR (r' := 10) (i' := 0) hO dX11_ask_1 fX11_25 rfl rfl (zI (by decide)) rfl ?_
  refine zi_iload_n hO dX11_ask_4 1 rfl ?_
  obtain ⟨s2, h⟩ := h
  refine zc_VQ (as := [vI x1]) hO hN dX11_ask_5 kX11_199 (by decide) rfl (zI (by decide)) rfl rfl (Nat.le_of_ble_eq_true rfl) rfl rfl (C_X1_flightOrNull _ _ _ _ s2) (fun im1 lv1 hp1 => ?_) (fun j1 im1 lv1 hp1 => ?_)
  · rw [hp1.2.1, hp1.2.2]
    have h := h.2 (zq_none hp1.1)
    refine zi_astore_nN (L' := [(0, vR 0 0), (1, vI x1), (2, vI x2), (3, vN)]) hO dX11_ask_8 (by decide) rfl rfl ?_
    refine zi_aload_nN hO dX11_ask_9 3 rfl ?_
    refine zi_ifnullN (tgt := 22) hO dX11_ask_10 (by decide) ?_
    refine zi_ldc (v := (-1000001)) hO dX11_ask_22 nX11_100 ?_
    exact zr_I hO hR rfl dX11_ask_24 h
  · rw [hp1.2.1, hp1.2.2, (zq_some hp1.1).2]
    obtain ⟨hj1, h⟩ := h.1 (zq_some hp1.1).1
    refine zi_astore_n (L' := [(0, vR 0 0), (1, vI x1), (2, vI x2), (3, vR 12 (Int32.toNatClampNeg x1))]) hO dX11_ask_8 (by decide) rfl rfl ?_
    refine zi_aload_n hO dX11_ask_9 3 rfl ?_
    refine zi_ifnull hO dX11_ask_10 ?_
    refine zi_iload_n hO dX11_ask_13 2 rfl ?_
    refine zi_if_lt (tgt := 22) hO dX11_ask_14 (by decide) (fun c1 => ?_) (fun c1 => ?_)
    · have h := h.1 c1
      refine zi_ldc (v := (-1000001)) hO dX11_ask_22 nX11_100 ?_
      exact zr_I hO hR rfl dX11_ask_24 h
    · have h := h.2 c1
      refine zi_iload_n hO dX11_ask_17 2 rfl ?_
      refine zi_iconst (v := 1) hO dX11_ask_18 (by decide) ?_
      refine zi_icmp_le (tgt := 25) hO dX11_ask_19 (by decide) (fun c2 => ?_) (fun c2 => ?_)
      · have h := h.1 c2
        refine zi_aload_n hO dX11_ask_25 0 rfl ?_
        refine zi_getR (r' := 20) (i' := 0) hO dX11_ask_26 fX11_50 rfl rfl (zI (by decide)) rfl ?_
        obtain ⟨P3, hM3, h⟩ := h
        refine zc_VV (as := []) hO hN dX11_ask_29 kX11_244 (by decide) rfl (zI (by decide)) rfl rfl (Nat.le_of_ble_eq_true rfl) rfl rfl hM3 (fun im3 lv3 hp3 => ?_)
        replace h := h im3 lv3 hp3
        refine zi_aload_n hO dX11_ask_32 0 rfl ?_
        refine zi_getR (r' := 39) (i' := 0) hO dX11_ask_33 fX11_84 rfl rfl (zI (by decide)) rfl ?_
        refine zi_iconst (v := 0) hO dX11_ask_36 (by decide) ?_
        refine zi_putI hO dX11_ask_37 gX11_332 rfl rfl (zI (by decide)) ?_
        refine zi_iload_n hO dX11_ask_40 2 rfl ?_
        refine zi_if_ne (tgt := 55) hO dX11_ask_41 (by decide) (fun c3 => ?_) (fun c3 => ?_)
        · have h := h.1 c3
          refine zi_aload_n hO dX11_ask_55 0 rfl ?_
          refine zi_getR (r' := 39) (i' := 0) hO dX11_ask_56 fX11_84 rfl rfl (zI (by decide)) rfl ?_
          refine zi_aload_n hO dX11_ask_59 3 rfl ?_
          obtain ⟨P4, hM4, h⟩ := h
          refine zc_VI (as := [vR 12 (Int32.toNatClampNeg x1)]) hO hN dX11_ask_60 kX11_338 (by decide) rfl (zI (by decide)) rfl rfl (Nat.le_of_ble_eq_true rfl) rfl rfl hM4 (fun v4 im4 lv4 hp4 => ?_)
          replace h := h v4 im4 lv4 hp4
          exact zr_I hO hR rfl dX11_ask_63 h
        · have h := h.2 c3
          refine zi_aload_n hO dX11_ask_44 0 rfl ?_
          refine zi_getR (r' := 39) (i' := 0) hO dX11_ask_45 fX11_84 rfl rfl (zI (by decide)) rfl ?_
          refine zi_aload_n hO dX11_ask_48 3 rfl ?_
          obtain ⟨P5, hM5, h⟩ := h
          refine zc_VI (as := [vR 12 (Int32.toNatClampNeg x1)]) hO hN dX11_ask_49 kX11_335 (by decide) rfl (zI (by decide)) rfl rfl (Nat.le_of_ble_eq_true rfl) rfl rfl hM5 (fun v5 im5 lv5 hp5 => ?_)
          replace h := h v5 im5 lv5 hp5
          refine zi_goto (tgt := 63) hO dX11_ask_52 (by decide) ?_
          exact zr_I hO hR rfl dX11_ask_63 h
      · have h := h.2 c2
        refine zi_ldc (v := (-1000001)) hO dX11_ask_22 nX11_100 ?_
        exact zr_I hO hR rfl dX11_ask_24 h
theorem rX11_choose_0 {x : zX} {w : zWd} {im : zMem} {lv : Int64} {P : Int32 → zMem → Int64 → Prop} {x1 : Int32} {x2 : Int32} {x3 : Int32} (hO : zOK x w zyX11_choose 4) (hR : zRetI x w zyX11_choose P) (hN : zN x 126 126)
 (h : ((im 10 0 1) ≤ 12 ∧ ((0 ≤ x1 ∧ x1 < (im 10 0 1) → (Int32.toNatClampNeg x1) < 12 ∧ ((¬ (0 ≤ x2 ∧ x2 < (im 12 (Int32.toNatClampNeg x1) 4)) → P (-1000001) im lv) ∧
 (0 ≤ x2 ∧ x2 < (im 12 (Int32.toNatClampNeg x1) 4) → ((x3 < 0 → P (-1000001) im lv) ∧
 (¬ (x3 < 0) → ((x3 ≤ 4 → P ((((zwr (zwr im 12 (Int32.toNatClampNeg x1) 8 x2) 12 (Int32.toNatClampNeg x1) 9 x3) 12 (Int32.toNatClampNeg x1) 3) * ((zwr (zwr im 12 (Int32.toNatClampNeg x1) 8 x2) 12 (Int32.toNatClampNeg x1) 9 x3) 12 (Int32.toNatClampNeg x1) 9)) + (10 * ((zwr (zwr im 12 (Int32.toNatClampNeg x1) 8 x2) 12 (Int32.toNatClampNeg x1) 9 x3) 12 (Int32.toNatClampNeg x1) 8))) (zwr (zwr im 12 (Int32.toNatClampNeg x1) 8 x2) 12 (Int32.toNatClampNeg x1) 9 x3) lv) ∧
 (¬ (x3 ≤ 4) → P (-1000001) im lv))))))) ∧
 (¬ (0 ≤ x1 ∧ x1 < (im 10 0 1)) → P (-1000001) im lv)))) :
 zW x w 0 [(0, vR 0 0), (1, vI x1), (2, vI x2), (3, vI x3)] [] im lv := by
  refine zi_aload_n hO dX11_choose_0 0 rfl ?_
  refine zi_getR (r' := 10) (i' := 0) hO dX11_choose_1 fX11_25 rfl rfl (zI (by decide)) rfl ?_
  refine zi_iload_n hO dX11_choose_4 1 rfl ?_
  obtain ⟨s2, h⟩ := h
  refine zc_VQ (as := [vI x1]) hO hN dX11_choose_5 kX11_199 (by decide) rfl (zI (by decide)) rfl rfl (Nat.le_of_ble_eq_true rfl) rfl rfl (C_X1_flightOrNull _ _ _ _ s2) (fun im1 lv1 hp1 => ?_) (fun j1 im1 lv1 hp1 => ?_)
  · rw [hp1.2.1, hp1.2.2]
    have h := h.2 (zq_none hp1.1)
    refine zi_astoreN (L' := [(0, vR 0 0), (1, vI x1), (2, vI x2), (3, vI x3), (4, vN)]) hO dX11_choose_8 (by decide) rfl rfl ?_
    refine zi_aloadN hO dX11_choose_10 4 rfl ?_
    refine zi_ifnullN (tgt := 33) hO dX11_choose_12 (by decide) ?_
    refine zi_ldc (v := (-1000001)) hO dX11_choose_33 nX11_100 ?_
    exact zr_I hO hR rfl dX11_choose_35 h
  · rw [hp1.2.1, hp1.2.2, (zq_some hp1.1).2]
    obtain ⟨hj1, h⟩ := h.1 (zq_some hp1.1).1
    refine zi_astore (L' := [(0, vR 0 0), (1, vI x1), (2, vI x2), (3, vI x3), (4, vR 12 (Int32.toNatClampNeg x1))]) hO dX11_choose_8 (by decide) rfl rfl ?_
    refine zi_aload hO dX11_choose_10 4 rfl ?_
    refine zi_ifnull hO dX11_choose_12 ?_
    refine zi_aload hO dX11_choose_15 4 rfl ?_
    refine zi_iload_n hO dX11_choose_17 2 rfl ?_
    refine zc_VI (as := [vI x2]) hO hN dX11_choose_18 kX11_229 (by decide) rfl (zI hj1) rfl rfl (Nat.le_of_ble_eq_true rfl) rfl rfl (C_X2_hasWay _ _ _ _ hj1) (fun v3 im3 lv3 hp3 => ?_)
    rw [hp3.1, hp3.2.1, hp3.2.2]
    refine zi_if_eq (tgt := 33) hO dX11_choose_21 (by decide) (fun c1 => ?_) (fun c1 => ?_)
    · have h := h.1 (vB_0.mp c1)
      refine zi_ldc (v := (-1000001)) hO dX11_choose_33 nX11_100 ?_
      exact zr_I hO hR rfl dX11_choose_35 h
    · have h := h.2 (vB_1.mp (vB_01.resolve_left c1))
      refine zi_iload_n hO dX11_choose_24 3 rfl ?_
      refine zi_if_lt (tgt := 33) hO dX11_choose_25 (by decide) (fun c2 => ?_) (fun c2 => ?_)
      · have h := h.1 c2
        refine zi_ldc (v := (-1000001)) hO dX11_choose_33 nX11_100 ?_
        exact zr_I hO hR rfl dX11_choose_35 h
      · have h := h.2 c2
        refine zi_iload_n hO dX11_choose_28 3 rfl ?_
        refine zi_iconst (v := 4) hO dX11_choose_29 (by decide) ?_
        refine zi_icmp_le (tgt := 36) hO dX11_choose_30 (by decide) (fun c3 => ?_) (fun c3 => ?_)
        · have h := h.1 c3
          refine zi_aload hO dX11_choose_36 4 rfl ?_
          refine zi_iload_n hO dX11_choose_38 2 rfl ?_
          refine zi_putI hO dX11_choose_39 gX11_220 rfl rfl (zI hj1) ?_
          refine zi_aload hO dX11_choose_42 4 rfl ?_
          refine zi_iload_n hO dX11_choose_44 3 rfl ?_
          refine zi_putI hO dX11_choose_45 gX11_223 rfl rfl (zI hj1) ?_
          refine zi_aload hO dX11_choose_48 4 rfl ?_
          refine zc_VI (as := []) hO hN dX11_choose_50 kX11_226 (by decide) rfl (zI hj1) rfl rfl (Nat.le_of_ble_eq_true rfl) rfl rfl (C_X2_cost _ _ _ _ hj1) (fun v4 im4 lv4 hp4 => ?_)
          rw [hp4.1, hp4.2.1, hp4.2.2]
          exact zr_I hO hR rfl dX11_choose_53 h
        · have h := h.2 c3
          refine zi_ldc (v := (-1000001)) hO dX11_choose_33 nX11_100 ?_
          exact zr_I hO hR rfl dX11_choose_35 h
theorem rX11_harmsNone_0 {x : zX} {w : zWd} {im : zMem} {lv : Int64} {P : Int32 → zMem → Int64 → Prop} {f1 : Nat} {f2 : Nat} (hO : zOK x w zyX11_harmsNone 6) (hR : zRetI x w zyX11_harmsNone P) (hN : zN x 126 126) (hf1 : f1 < 12) (hf2 : f2 < 12)
 (h : (((((im 12 f1 3) * (im 12 f1 9)) + (10 * (im 12 f1 8))) < (((im 12 f1 3) * (im 12 f2 9)) + (10 * (im 12 f1 8))) → (((((im 12 f1 3) * (im 12 f2 9)) + (10 * (im 12 f1 8))) < (((im 12 f1 3) * (im 12 f1 9)) + (10 * (im 12 f1 8))) → P 0 im lv) ∧
 (¬ ((((im 12 f1 3) * (im 12 f2 9)) + (10 * (im 12 f1 8))) < (((im 12 f1 3) * (im 12 f1 9)) + (10 * (im 12 f1 8)))) → (((((im 12 f2 3) * (im 12 f2 9)) + (10 * (im 12 f2 8))) ≤ (((im 12 f2 3) * (im 12 f1 9)) + (10 * (im 12 f2 8))) → P 0 im lv) ∧
 (¬ ((((im 12 f2 3) * (im 12 f2 9)) + (10 * (im 12 f2 8))) ≤ (((im 12 f2 3) * (im 12 f1 9)) + (10 * (im 12 f2 8)))) → P 0 im lv))))) ∧
 (¬ ((((im 12 f1 3) * (im 12 f1 9)) + (10 * (im 12 f1 8))) < (((im 12 f1 3) * (im 12 f2 9)) + (10 * (im 12 f1 8)))) → (((((im 12 f2 3) * (im 12 f1 9)) + (10 * (im 12 f2 8))) ≤ (((im 12 f2 3) * (im 12 f2 9)) + (10 * (im 12 f2 8))) → (((((im 12 f1 3) * (im 12 f2 9)) + (10 * (im 12 f1 8))) < (((im 12 f1 3) * (im 12 f1 9)) + (10 * (im 12 f1 8))) → (∃ P8 : zMem → Int64 → Prop, zSpecV x.2.1 w 5 zyX8_refresh [vR 20 0] im lv P8 ∧ ∀ (im8 : zMem) (lv8 : Int64), P8 im8 lv8 → (∃ P9 : Int32 → zMem → Int64 → Prop, zSpecI x.2.1 w 4 zyX8_tooMuchTogether [vR 20 0] im8 lv8 P9 ∧ ∀ (v9 : Int32) (im9 : zMem) (lv9 : Int64), P9 v9 im9 lv9 → (∃ P11 : zMem → Int64 → Prop, zSpecV x.2.1 w 5 zyX8_refresh [vR 20 0] (zwr (zwr im9 12 f1 9 (im9 12 f2 9)) 12 f2 9 (im9 12 f1 9)) lv9 P11 ∧ ∀ (im11 : zMem) (lv11 : Int64), P11 im11 lv11 → (∃ P12 : Int32 → zMem → Int64 → Prop, zSpecI x.2.1 w 4 zyX8_tooMuchTogether [vR 20 0] im11 lv11 P12 ∧ ∀ (v12 : Int32) (im12 : zMem) (lv12 : Int64), P12 v12 im12 lv12 → ((v9 < v12 → P 0 (zwr (zwr im12 12 f1 9 (im12 12 f2 9)) 12 f2 9 (im12 12 f1 9)) lv12) ∧
 (¬ (v9 < v12) → P 1 (zwr (zwr im12 12 f1 9 (im12 12 f2 9)) 12 f2 9 (im12 12 f1 9)) lv12))))))) ∧
 (¬ ((((im 12 f1 3) * (im 12 f2 9)) + (10 * (im 12 f1 8))) < (((im 12 f1 3) * (im 12 f1 9)) + (10 * (im 12 f1 8)))) → (((((im 12 f2 3) * (im 12 f2 9)) + (10 * (im 12 f2 8))) ≤ (((im 12 f2 3) * (im 12 f1 9)) + (10 * (im 12 f2 8))) → P 0 im lv) ∧
 (¬ ((((im 12 f2 3) * (im 12 f2 9)) + (10 * (im 12 f2 8))) ≤ (((im 12 f2 3) * (im 12 f1 9)) + (10 * (im 12 f2 8)))) → (∃ P15 : zMem → Int64 → Prop, zSpecV x.2.1 w 5 zyX8_refresh [vR 20 0] im lv P15 ∧ ∀ (im15 : zMem) (lv15 : Int64), P15 im15 lv15 → (∃ P16 : Int32 → zMem → Int64 → Prop, zSpecI x.2.1 w 4 zyX8_tooMuchTogether [vR 20 0] im15 lv15 P16 ∧ ∀ (v16 : Int32) (im16 : zMem) (lv16 : Int64), P16 v16 im16 lv16 → (∃ P18 : zMem → Int64 → Prop, zSpecV x.2.1 w 5 zyX8_refresh [vR 20 0] (zwr (zwr im16 12 f1 9 (im16 12 f2 9)) 12 f2 9 (im16 12 f1 9)) lv16 P18 ∧ ∀ (im18 : zMem) (lv18 : Int64), P18 im18 lv18 → (∃ P19 : Int32 → zMem → Int64 → Prop, zSpecI x.2.1 w 4 zyX8_tooMuchTogether [vR 20 0] im18 lv18 P19 ∧ ∀ (v19 : Int32) (im19 : zMem) (lv19 : Int64), P19 v19 im19 lv19 → ((v16 < v19 → P 0 (zwr (zwr im19 12 f1 9 (im19 12 f2 9)) 12 f2 9 (im19 12 f1 9)) lv19) ∧
 (¬ (v16 < v19) → P 1 (zwr (zwr im19 12 f1 9 (im19 12 f2 9)) 12 f2 9 (im19 12 f1 9)) lv19))))))))))) ∧
 (¬ ((((im 12 f2 3) * (im 12 f1 9)) + (10 * (im 12 f2 8))) ≤ (((im 12 f2 3) * (im 12 f2 9)) + (10 * (im 12 f2 8)))) → (((((im 12 f1 3) * (im 12 f2 9)) + (10 * (im 12 f1 8))) < (((im 12 f1 3) * (im 12 f1 9)) + (10 * (im 12 f1 8))) → P 0 im lv) ∧
 (¬ ((((im 12 f1 3) * (im 12 f2 9)) + (10 * (im 12 f1 8))) < (((im 12 f1 3) * (im 12 f1 9)) + (10 * (im 12 f1 8)))) → (((((im 12 f2 3) * (im 12 f2 9)) + (10 * (im 12 f2 8))) ≤ (((im 12 f2 3) * (im 12 f1 9)) + (10 * (im 12 f2 8))) → P 0 im lv) ∧
 (¬ ((((im 12 f2 3) * (im 12 f2 9)) + (10 * (im 12 f2 8))) ≤ (((im 12 f2 3) * (im 12 f1 9)) + (10 * (im 12 f2 8)))) → P 0 im lv))))))))) :
 zW x w 0 [(0, vR 0 0), (1, vR 12 f1), (2, vR 12 f2)] [] im lv := by
  refine zi_aload_n hO dX11_harmsNone_0 1 rfl ?_
  refine zi_aload_n hO dX11_harmsNone_1 1 rfl ?_
  refine zi_getI hO dX11_harmsNone_2 fX11_220 rfl rfl (zI hf1) ?_
  refine zi_aload_n hO dX11_harmsNone_5 2 rfl ?_
  refine zi_getI hO dX11_harmsNone_6 fX11_223 rfl rfl (zI hf2) ?_
  refine zc_VI (as := [vI (im 12 f1 8), vI (im 12 f2 9)]) hO hN dX11_harmsNone_9 kX11_358 (by decide) rfl (zI hf1) rfl rfl (Nat.le_of_ble_eq_true rfl) rfl rfl (C_X2_costOf _ _ _ _ hf1) (fun v1 im1 lv1 hp1 => ?_)
  rw [hp1.1, hp1.2.1, hp1.2.2]
  refine zi_istore_n (L' := [(0, vR 0 0), (1, vR 12 f1), (2, vR 12 f2), (3, vI (((im 12 f1 3) * (im 12 f2 9)) + (10 * (im 12 f1 8))))]) hO dX11_harmsNone_12 (by decide) rfl rfl ?_
  refine zi_aload_n hO dX11_harmsNone_13 2 rfl ?_
  refine zi_aload_n hO dX11_harmsNone_14 2 rfl ?_
  refine zi_getI hO dX11_harmsNone_15 fX11_220 rfl rfl (zI hf2) ?_
  refine zi_aload_n hO dX11_harmsNone_18 1 rfl ?_
  refine zi_getI hO dX11_harmsNone_19 fX11_223 rfl rfl (zI hf1) ?_
  refine zc_VI (as := [vI (im 12 f2 8), vI (im 12 f1 9)]) hO hN dX11_harmsNone_22 kX11_358 (by decide) rfl (zI hf2) rfl rfl (Nat.le_of_ble_eq_true rfl) rfl rfl (C_X2_costOf _ _ _ _ hf2) (fun v2 im2 lv2 hp2 => ?_)
  rw [hp2.1, hp2.2.1, hp2.2.2]
  refine zi_istore (L' := [(0, vR 0 0), (1, vR 12 f1), (2, vR 12 f2), (3, vI (((im 12 f1 3) * (im 12 f2 9)) + (10 * (im 12 f1 8)))), (4, vI (((im 12 f2 3) * (im 12 f1 9)) + (10 * (im 12 f2 8))))]) hO dX11_harmsNone_25 (by decide) rfl rfl ?_
  refine zi_iload_n hO dX11_harmsNone_27 3 rfl ?_
  refine zi_aload_n hO dX11_harmsNone_28 1 rfl ?_
  refine zc_VI (as := []) hO hN dX11_harmsNone_29 kX11_226 (by decide) rfl (zI hf1) rfl rfl (Nat.le_of_ble_eq_true rfl) rfl rfl (C_X2_cost _ _ _ _ hf1) (fun v3 im3 lv3 hp3 => ?_)
  rw [hp3.1, hp3.2.1, hp3.2.2]
  refine zi_icmp_gt (tgt := 44) hO dX11_harmsNone_32 (by decide) (fun c1 => ?_) (fun c1 => ?_)
  · have h := h.1 c1
    refine zi_iconst (v := 1) hO dX11_harmsNone_44 (by decide) ?_
    refine zi_goto (tgt := 49) hO dX11_harmsNone_45 (by decide) ?_
    refine zi_istore (L' := [(0, vR 0 0), (1, vR 12 f1), (2, vR 12 f2), (3, vI (((im 12 f1 3) * (im 12 f2 9)) + (10 * (im 12 f1 8)))), (4, vI (((im 12 f2 3) * (im 12 f1 9)) + (10 * (im 12 f2 8)))), (5, vI 1)]) hO dX11_harmsNone_49 (by decide) rfl rfl ?_
    refine zi_iload_n hO dX11_harmsNone_51 3 rfl ?_
    refine zi_aload_n hO dX11_harmsNone_52 1 rfl ?_
    refine zc_VI (as := []) hO hN dX11_harmsNone_53 kX11_226 (by decide) rfl (zI hf1) rfl rfl (Nat.le_of_ble_eq_true rfl) rfl rfl (C_X2_cost _ _ _ _ hf1) (fun v4 im4 lv4 hp4 => ?_)
    rw [hp4.1, hp4.2.1, hp4.2.2]
    refine zi_icmp_lt (tgt := 68) hO dX11_harmsNone_56 (by decide) (fun c2 => ?_) (fun c2 => ?_)
    · have h := h.1 c2
      refine zi_iconst (v := 1) hO dX11_harmsNone_68 (by decide) ?_
      refine zi_goto (tgt := 73) hO dX11_harmsNone_69 (by decide) ?_
      refine zi_istore (L' := [(0, vR 0 0), (1, vR 12 f1), (2, vR 12 f2), (3, vI (((im 12 f1 3) * (im 12 f2 9)) + (10 * (im 12 f1 8)))), (4, vI (((im 12 f2 3) * (im 12 f1 9)) + (10 * (im 12 f2 8)))), (5, vI 1), (6, vI 1)]) hO dX11_harmsNone_73 (by decide) rfl rfl ?_
      refine zi_iload hO dX11_harmsNone_75 5 rfl ?_
      refine zi_if_ne (tgt := 85) hO dX11_harmsNone_77 (by decide) (fun _ => ?_) (fun c3 => absurd (show (1 : Int32) = 0 from c3) (by decide))
      refine zi_iconst (v := 0) hO dX11_harmsNone_85 (by decide) ?_
      exact zr_Z hO hR rfl (Or.inl rfl) dX11_harmsNone_86 h
    · have h := h.2 c2
      refine zi_iload hO dX11_harmsNone_59 4 rfl ?_
      refine zi_aload_n hO dX11_harmsNone_61 2 rfl ?_
      refine zc_VI (as := []) hO hN dX11_harmsNone_62 kX11_226 (by decide) rfl (zI hf2) rfl rfl (Nat.le_of_ble_eq_true rfl) rfl rfl (C_X2_cost _ _ _ _ hf2) (fun v5 im5 lv5 hp5 => ?_)
      rw [hp5.1, hp5.2.1, hp5.2.2]
      refine zi_icmp_ge (tgt := 72) hO dX11_harmsNone_65 (by decide) (fun c4 => ?_) (fun c4 => ?_)
      · have h := h.1 c4
        refine zi_iconst (v := 0) hO dX11_harmsNone_72 (by decide) ?_
        refine zi_istore (L' := [(0, vR 0 0), (1, vR 12 f1), (2, vR 12 f2), (3, vI (((im 12 f1 3) * (im 12 f2 9)) + (10 * (im 12 f1 8)))), (4, vI (((im 12 f2 3) * (im 12 f1 9)) + (10 * (im 12 f2 8)))), (5, vI 1), (6, vI 0)]) hO dX11_harmsNone_73 (by decide) rfl rfl ?_
        refine zi_iload hO dX11_harmsNone_75 5 rfl ?_
        refine zi_if_ne (tgt := 85) hO dX11_harmsNone_77 (by decide) (fun _ => ?_) (fun c5 => absurd (show (1 : Int32) = 0 from c5) (by decide))
        refine zi_iconst (v := 0) hO dX11_harmsNone_85 (by decide) ?_
        exact zr_Z hO hR rfl (Or.inl rfl) dX11_harmsNone_86 h
      · have h := h.2 c4
        refine zi_iconst (v := 1) hO dX11_harmsNone_68 (by decide) ?_
        refine zi_goto (tgt := 73) hO dX11_harmsNone_69 (by decide) ?_
        refine zi_istore (L' := [(0, vR 0 0), (1, vR 12 f1), (2, vR 12 f2), (3, vI (((im 12 f1 3) * (im 12 f2 9)) + (10 * (im 12 f1 8)))), (4, vI (((im 12 f2 3) * (im 12 f1 9)) + (10 * (im 12 f2 8)))), (5, vI 1), (6, vI 1)]) hO dX11_harmsNone_73 (by decide) rfl rfl ?_
        refine zi_iload hO dX11_harmsNone_75 5 rfl ?_
        refine zi_if_ne (tgt := 85) hO dX11_harmsNone_77 (by decide) (fun _ => ?_) (fun c6 => absurd (show (1 : Int32) = 0 from c6) (by decide))
        refine zi_iconst (v := 0) hO dX11_harmsNone_85 (by decide) ?_
        exact zr_Z hO hR rfl (Or.inl rfl) dX11_harmsNone_86 h
  · have h := h.2 c1
    refine zi_iload hO dX11_harmsNone_35 4 rfl ?_
    refine zi_aload_n hO dX11_harmsNone_37 2 rfl ?_
    refine zc_VI (as := []) hO hN dX11_harmsNone_38 kX11_226 (by decide) rfl (zI hf2) rfl rfl (Nat.le_of_ble_eq_true rfl) rfl rfl (C_X2_cost _ _ _ _ hf2) (fun v6 im6 lv6 hp6 => ?_)
    rw [hp6.1, hp6.2.1, hp6.2.2]
    refine zi_icmp_le (tgt := 48) hO dX11_harmsNone_41 (by decide) (fun c7 => ?_) (fun c7 => ?_)
    · have h := h.1 c7
      refine zi_iconst (v := 0) hO dX11_harmsNone_48 (by decide) ?_
      refine zi_istore (L' := [(0, vR 0 0), (1, vR 12 f1), (2, vR 12 f2), (3, vI (((im 12 f1 3) * (im 12 f2 9)) + (10 * (im 12 f1 8)))), (4, vI (((im 12 f2 3) * (im 12 f1 9)) + (10 * (im 12 f2 8)))), (5, vI 0)]) hO dX11_harmsNone_49 (by decide) rfl rfl ?_
      refine zi_iload_n hO dX11_harmsNone_51 3 rfl ?_
      refine zi_aload_n hO dX11_harmsNone_52 1 rfl ?_
      refine zc_VI (as := []) hO hN dX11_harmsNone_53 kX11_226 (by decide) rfl (zI hf1) rfl rfl (Nat.le_of_ble_eq_true rfl) rfl rfl (C_X2_cost _ _ _ _ hf1) (fun v7 im7 lv7 hp7 => ?_)
      rw [hp7.1, hp7.2.1, hp7.2.2]
      refine zi_icmp_lt (tgt := 68) hO dX11_harmsNone_56 (by decide) (fun c8 => ?_) (fun c8 => ?_)
      · have h := h.1 c8
        refine zi_iconst (v := 1) hO dX11_harmsNone_68 (by decide) ?_
        refine zi_goto (tgt := 73) hO dX11_harmsNone_69 (by decide) ?_
        refine zi_istore (L' := [(0, vR 0 0), (1, vR 12 f1), (2, vR 12 f2), (3, vI (((im 12 f1 3) * (im 12 f2 9)) + (10 * (im 12 f1 8)))), (4, vI (((im 12 f2 3) * (im 12 f1 9)) + (10 * (im 12 f2 8)))), (5, vI 0), (6, vI 1)]) hO dX11_harmsNone_73 (by decide) rfl rfl ?_
        refine zi_iload hO dX11_harmsNone_75 5 rfl ?_
        refine zi_if_ne (tgt := 85) hO dX11_harmsNone_77 (by decide) (fun c9 => absurd (show ¬ ((0 : Int32) = 0) from c9) (by decide)) (fun _ => ?_)
        refine zi_iload hO dX11_harmsNone_80 6 rfl ?_
        refine zi_if_ne (tgt := 87) hO dX11_harmsNone_82 (by decide) (fun _ => ?_) (fun c10 => absurd (show (1 : Int32) = 0 from c10) (by decide))
        refine zi_aload_n hO dX11_harmsNone_87 0 rfl ?_
        refine zi_getR (r' := 20) (i' := 0) hO dX11_harmsNone_88 fX11_50 rfl rfl (zI (by decide)) rfl ?_
        obtain ⟨P8, hM8, h⟩ := h
        refine zc_VV (as := []) hO hN dX11_harmsNone_91 kX11_244 (by decide) rfl (zI (by decide)) rfl rfl (Nat.le_of_ble_eq_true rfl) rfl rfl hM8 (fun im8 lv8 hp8 => ?_)
        replace h := h im8 lv8 hp8
        refine zi_aload_n hO dX11_harmsNone_94 0 rfl ?_
        refine zi_getR (r' := 20) (i' := 0) hO dX11_harmsNone_95 fX11_50 rfl rfl (zI (by decide)) rfl ?_
        obtain ⟨P9, hM9, h⟩ := h
        refine zc_VI (as := []) hO hN dX11_harmsNone_98 kX11_253 (by decide) rfl (zI (by decide)) rfl rfl (Nat.le_of_ble_eq_true rfl) rfl rfl hM9 (fun v9 im9 lv9 hp9 => ?_)
        replace h := h v9 im9 lv9 hp9
        refine zi_istore (L' := [(0, vR 0 0), (1, vR 12 f1), (2, vR 12 f2), (3, vI (((im 12 f1 3) * (im 12 f2 9)) + (10 * (im 12 f1 8)))), (4, vI (((im 12 f2 3) * (im 12 f1 9)) + (10 * (im 12 f2 8)))), (5, vI 0), (6, vI 1), (7, vI v9)]) hO dX11_harmsNone_101 (by decide) rfl rfl ?_
        refine zi_aload_n hO dX11_harmsNone_103 1 rfl ?_
        refine zi_aload_n hO dX11_harmsNone_104 2 rfl ?_
        refine zc_SV (as := [vR 12 f1, vR 12 f2]) hO hN dX11_harmsNone_105 kX11_305 (by decide) rfl (Nat.le_of_ble_eq_true rfl) rfl rfl (C_X11_exchangeDelays _ _ _ _ hf1 hf2) (fun im10 lv10 hp10 => ?_)
        rw [hp10.1, hp10.2]
        refine zi_aload_n hO dX11_harmsNone_108 0 rfl ?_
        refine zi_getR (r' := 20) (i' := 0) hO dX11_harmsNone_109 fX11_50 rfl rfl (zI (by decide)) rfl ?_
        obtain ⟨P11, hM11, h⟩ := h
        refine zc_VV (as := []) hO hN dX11_harmsNone_112 kX11_244 (by decide) rfl (zI (by decide)) rfl rfl (Nat.le_of_ble_eq_true rfl) rfl rfl hM11 (fun im11 lv11 hp11 => ?_)
        replace h := h im11 lv11 hp11
        refine zi_aload_n hO dX11_harmsNone_115 0 rfl ?_
        refine zi_getR (r' := 20) (i' := 0) hO dX11_harmsNone_116 fX11_50 rfl rfl (zI (by decide)) rfl ?_
        obtain ⟨P12, hM12, h⟩ := h
        refine zc_VI (as := []) hO hN dX11_harmsNone_119 kX11_253 (by decide) rfl (zI (by decide)) rfl rfl (Nat.le_of_ble_eq_true rfl) rfl rfl hM12 (fun v12 im12 lv12 hp12 => ?_)
        replace h := h v12 im12 lv12 hp12
        refine zi_istore (L' := [(0, vR 0 0), (1, vR 12 f1), (2, vR 12 f2), (3, vI (((im 12 f1 3) * (im 12 f2 9)) + (10 * (im 12 f1 8)))), (4, vI (((im 12 f2 3) * (im 12 f1 9)) + (10 * (im 12 f2 8)))), (5, vI 0), (6, vI 1), (7, vI v9), (8, vI v12)]) hO dX11_harmsNone_122 (by decide) rfl rfl ?_
        refine zi_aload_n hO dX11_harmsNone_124 1 rfl ?_
        refine zi_aload_n hO dX11_harmsNone_125 2 rfl ?_
        refine zc_SV (as := [vR 12 f1, vR 12 f2]) hO hN dX11_harmsNone_126 kX11_305 (by decide) rfl (Nat.le_of_ble_eq_true rfl) rfl rfl (C_X11_exchangeDelays _ _ _ _ hf1 hf2) (fun im13 lv13 hp13 => ?_)
        rw [hp13.1, hp13.2]
        refine zi_iload hO dX11_harmsNone_129 8 rfl ?_
        refine zi_iload hO dX11_harmsNone_131 7 rfl ?_
        refine zi_icmp_gt (tgt := 140) hO dX11_harmsNone_133 (by decide) (fun c11 => ?_) (fun c11 => ?_)
        · have h := h.1 c11
          refine zi_iconst (v := 0) hO dX11_harmsNone_140 (by decide) ?_
          exact zr_Z hO hR rfl (Or.inl rfl) dX11_harmsNone_141 h
        · have h := h.2 c11
          refine zi_iconst (v := 1) hO dX11_harmsNone_136 (by decide) ?_
          refine zi_goto (tgt := 141) hO dX11_harmsNone_137 (by decide) ?_
          exact zr_Z hO hR rfl (Or.inr rfl) dX11_harmsNone_141 h
      · have h := h.2 c8
        refine zi_iload hO dX11_harmsNone_59 4 rfl ?_
        refine zi_aload_n hO dX11_harmsNone_61 2 rfl ?_
        refine zc_VI (as := []) hO hN dX11_harmsNone_62 kX11_226 (by decide) rfl (zI hf2) rfl rfl (Nat.le_of_ble_eq_true rfl) rfl rfl (C_X2_cost _ _ _ _ hf2) (fun v14 im14 lv14 hp14 => ?_)
        rw [hp14.1, hp14.2.1, hp14.2.2]
        refine zi_icmp_ge (tgt := 72) hO dX11_harmsNone_65 (by decide) (fun c12 => ?_) (fun c12 => ?_)
        · have h := h.1 c12
          refine zi_iconst (v := 0) hO dX11_harmsNone_72 (by decide) ?_
          refine zi_istore (L' := [(0, vR 0 0), (1, vR 12 f1), (2, vR 12 f2), (3, vI (((im 12 f1 3) * (im 12 f2 9)) + (10 * (im 12 f1 8)))), (4, vI (((im 12 f2 3) * (im 12 f1 9)) + (10 * (im 12 f2 8)))), (5, vI 0), (6, vI 0)]) hO dX11_harmsNone_73 (by decide) rfl rfl ?_
          refine zi_iload hO dX11_harmsNone_75 5 rfl ?_
          refine zi_if_ne (tgt := 85) hO dX11_harmsNone_77 (by decide) (fun c13 => absurd (show ¬ ((0 : Int32) = 0) from c13) (by decide)) (fun _ => ?_)
          refine zi_iload hO dX11_harmsNone_80 6 rfl ?_
          refine zi_if_ne (tgt := 87) hO dX11_harmsNone_82 (by decide) (fun c14 => absurd (show ¬ ((0 : Int32) = 0) from c14) (by decide)) (fun _ => ?_)
          refine zi_iconst (v := 0) hO dX11_harmsNone_85 (by decide) ?_
          exact zr_Z hO hR rfl (Or.inl rfl) dX11_harmsNone_86 h
        · have h := h.2 c12
          refine zi_iconst (v := 1) hO dX11_harmsNone_68 (by decide) ?_
          refine zi_goto (tgt := 73) hO dX11_harmsNone_69 (by decide) ?_
          refine zi_istore (L' := [(0, vR 0 0), (1, vR 12 f1), (2, vR 12 f2), (3, vI (((im 12 f1 3) * (im 12 f2 9)) + (10 * (im 12 f1 8)))), (4, vI (((im 12 f2 3) * (im 12 f1 9)) + (10 * (im 12 f2 8)))), (5, vI 0), (6, vI 1)]) hO dX11_harmsNone_73 (by decide) rfl rfl ?_
          refine zi_iload hO dX11_harmsNone_75 5 rfl ?_
          refine zi_if_ne (tgt := 85) hO dX11_harmsNone_77 (by decide) (fun c15 => absurd (show ¬ ((0 : Int32) = 0) from c15) (by decide)) (fun _ => ?_)
          refine zi_iload hO dX11_harmsNone_80 6 rfl ?_
          refine zi_if_ne (tgt := 87) hO dX11_harmsNone_82 (by decide) (fun _ => ?_) (fun c16 => absurd (show (1 : Int32) = 0 from c16) (by decide))
          refine zi_aload_n hO dX11_harmsNone_87 0 rfl ?_
          refine zi_getR (r' := 20) (i' := 0) hO dX11_harmsNone_88 fX11_50 rfl rfl (zI (by decide)) rfl ?_
          obtain ⟨P15, hM15, h⟩ := h
          refine zc_VV (as := []) hO hN dX11_harmsNone_91 kX11_244 (by decide) rfl (zI (by decide)) rfl rfl (Nat.le_of_ble_eq_true rfl) rfl rfl hM15 (fun im15 lv15 hp15 => ?_)
          replace h := h im15 lv15 hp15
          refine zi_aload_n hO dX11_harmsNone_94 0 rfl ?_
          refine zi_getR (r' := 20) (i' := 0) hO dX11_harmsNone_95 fX11_50 rfl rfl (zI (by decide)) rfl ?_
          obtain ⟨P16, hM16, h⟩ := h
          refine zc_VI (as := []) hO hN dX11_harmsNone_98 kX11_253 (by decide) rfl (zI (by decide)) rfl rfl (Nat.le_of_ble_eq_true rfl) rfl rfl hM16 (fun v16 im16 lv16 hp16 => ?_)
          replace h := h v16 im16 lv16 hp16
          refine zi_istore (L' := [(0, vR 0 0), (1, vR 12 f1), (2, vR 12 f2), (3, vI (((im 12 f1 3) * (im 12 f2 9)) + (10 * (im 12 f1 8)))), (4, vI (((im 12 f2 3) * (im 12 f1 9)) + (10 * (im 12 f2 8)))), (5, vI 0), (6, vI 1), (7, vI v16)]) hO dX11_harmsNone_101 (by decide) rfl rfl ?_
          refine zi_aload_n hO dX11_harmsNone_103 1 rfl ?_
          refine zi_aload_n hO dX11_harmsNone_104 2 rfl ?_
          refine zc_SV (as := [vR 12 f1, vR 12 f2]) hO hN dX11_harmsNone_105 kX11_305 (by decide) rfl (Nat.le_of_ble_eq_true rfl) rfl rfl (C_X11_exchangeDelays _ _ _ _ hf1 hf2) (fun im17 lv17 hp17 => ?_)
          rw [hp17.1, hp17.2]
          refine zi_aload_n hO dX11_harmsNone_108 0 rfl ?_
          refine zi_getR (r' := 20) (i' := 0) hO dX11_harmsNone_109 fX11_50 rfl rfl (zI (by decide)) rfl ?_
          obtain ⟨P18, hM18, h⟩ := h
          refine zc_VV (as := []) hO hN dX11_harmsNone_112 kX11_244 (by decide) rfl (zI (by decide)) rfl rfl (Nat.le_of_ble_eq_true rfl) rfl rfl hM18 (fun im18 lv18 hp18 => ?_)
          replace h := h im18 lv18 hp18
          refine zi_aload_n hO dX11_harmsNone_115 0 rfl ?_
          refine zi_getR (r' := 20) (i' := 0) hO dX11_harmsNone_116 fX11_50 rfl rfl (zI (by decide)) rfl ?_
          obtain ⟨P19, hM19, h⟩ := h
          refine zc_VI (as := []) hO hN dX11_harmsNone_119 kX11_253 (by decide) rfl (zI (by decide)) rfl rfl (Nat.le_of_ble_eq_true rfl) rfl rfl hM19 (fun v19 im19 lv19 hp19 => ?_)
          replace h := h v19 im19 lv19 hp19
          refine zi_istore (L' := [(0, vR 0 0), (1, vR 12 f1), (2, vR 12 f2), (3, vI (((im 12 f1 3) * (im 12 f2 9)) + (10 * (im 12 f1 8)))), (4, vI (((im 12 f2 3) * (im 12 f1 9)) + (10 * (im 12 f2 8)))), (5, vI 0), (6, vI 1), (7, vI v16), (8, vI v19)]) hO dX11_harmsNone_122 (by decide) rfl rfl ?_
          refine zi_aload_n hO dX11_harmsNone_124 1 rfl ?_
          refine zi_aload_n hO dX11_harmsNone_125 2 rfl ?_
          refine zc_SV (as := [vR 12 f1, vR 12 f2]) hO hN dX11_harmsNone_126 kX11_305 (by decide) rfl (Nat.le_of_ble_eq_true rfl) rfl rfl (C_X11_exchangeDelays _ _ _ _ hf1 hf2) (fun im20 lv20 hp20 => ?_)
          rw [hp20.1, hp20.2]
          refine zi_iload hO dX11_harmsNone_129 8 rfl ?_
          refine zi_iload hO dX11_harmsNone_131 7 rfl ?_
          refine zi_icmp_gt (tgt := 140) hO dX11_harmsNone_133 (by decide) (fun c17 => ?_) (fun c17 => ?_)
          · have h := h.1 c17
            refine zi_iconst (v := 0) hO dX11_harmsNone_140 (by decide) ?_
            exact zr_Z hO hR rfl (Or.inl rfl) dX11_harmsNone_141 h
          · have h := h.2 c17
            refine zi_iconst (v := 1) hO dX11_harmsNone_136 (by decide) ?_
            refine zi_goto (tgt := 141) hO dX11_harmsNone_137 (by decide) ?_
            exact zr_Z hO hR rfl (Or.inr rfl) dX11_harmsNone_141 h
    · have h := h.2 c7
      refine zi_iconst (v := 1) hO dX11_harmsNone_44 (by decide) ?_
      refine zi_goto (tgt := 49) hO dX11_harmsNone_45 (by decide) ?_
      refine zi_istore (L' := [(0, vR 0 0), (1, vR 12 f1), (2, vR 12 f2), (3, vI (((im 12 f1 3) * (im 12 f2 9)) + (10 * (im 12 f1 8)))), (4, vI (((im 12 f2 3) * (im 12 f1 9)) + (10 * (im 12 f2 8)))), (5, vI 1)]) hO dX11_harmsNone_49 (by decide) rfl rfl ?_
      refine zi_iload_n hO dX11_harmsNone_51 3 rfl ?_
      refine zi_aload_n hO dX11_harmsNone_52 1 rfl ?_
      refine zc_VI (as := []) hO hN dX11_harmsNone_53 kX11_226 (by decide) rfl (zI hf1) rfl rfl (Nat.le_of_ble_eq_true rfl) rfl rfl (C_X2_cost _ _ _ _ hf1) (fun v21 im21 lv21 hp21 => ?_)
      rw [hp21.1, hp21.2.1, hp21.2.2]
      refine zi_icmp_lt (tgt := 68) hO dX11_harmsNone_56 (by decide) (fun c18 => ?_) (fun c18 => ?_)
      · have h := h.1 c18
        refine zi_iconst (v := 1) hO dX11_harmsNone_68 (by decide) ?_
        refine zi_goto (tgt := 73) hO dX11_harmsNone_69 (by decide) ?_
        refine zi_istore (L' := [(0, vR 0 0), (1, vR 12 f1), (2, vR 12 f2), (3, vI (((im 12 f1 3) * (im 12 f2 9)) + (10 * (im 12 f1 8)))), (4, vI (((im 12 f2 3) * (im 12 f1 9)) + (10 * (im 12 f2 8)))), (5, vI 1), (6, vI 1)]) hO dX11_harmsNone_73 (by decide) rfl rfl ?_
        refine zi_iload hO dX11_harmsNone_75 5 rfl ?_
        refine zi_if_ne (tgt := 85) hO dX11_harmsNone_77 (by decide) (fun _ => ?_) (fun c19 => absurd (show (1 : Int32) = 0 from c19) (by decide))
        refine zi_iconst (v := 0) hO dX11_harmsNone_85 (by decide) ?_
        exact zr_Z hO hR rfl (Or.inl rfl) dX11_harmsNone_86 h
      · have h := h.2 c18
        refine zi_iload hO dX11_harmsNone_59 4 rfl ?_
        refine zi_aload_n hO dX11_harmsNone_61 2 rfl ?_
        refine zc_VI (as := []) hO hN dX11_harmsNone_62 kX11_226 (by decide) rfl (zI hf2) rfl rfl (Nat.le_of_ble_eq_true rfl) rfl rfl (C_X2_cost _ _ _ _ hf2) (fun v22 im22 lv22 hp22 => ?_)
        rw [hp22.1, hp22.2.1, hp22.2.2]
        refine zi_icmp_ge (tgt := 72) hO dX11_harmsNone_65 (by decide) (fun c20 => ?_) (fun c20 => ?_)
        · have h := h.1 c20
          refine zi_iconst (v := 0) hO dX11_harmsNone_72 (by decide) ?_
          refine zi_istore (L' := [(0, vR 0 0), (1, vR 12 f1), (2, vR 12 f2), (3, vI (((im 12 f1 3) * (im 12 f2 9)) + (10 * (im 12 f1 8)))), (4, vI (((im 12 f2 3) * (im 12 f1 9)) + (10 * (im 12 f2 8)))), (5, vI 1), (6, vI 0)]) hO dX11_harmsNone_73 (by decide) rfl rfl ?_
          refine zi_iload hO dX11_harmsNone_75 5 rfl ?_
          refine zi_if_ne (tgt := 85) hO dX11_harmsNone_77 (by decide) (fun _ => ?_) (fun c21 => absurd (show (1 : Int32) = 0 from c21) (by decide))
          refine zi_iconst (v := 0) hO dX11_harmsNone_85 (by decide) ?_
          exact zr_Z hO hR rfl (Or.inl rfl) dX11_harmsNone_86 h
        · have h := h.2 c20
          refine zi_iconst (v := 1) hO dX11_harmsNone_68 (by decide) ?_
          refine zi_goto (tgt := 73) hO dX11_harmsNone_69 (by decide) ?_
          refine zi_istore (L' := [(0, vR 0 0), (1, vR 12 f1), (2, vR 12 f2), (3, vI (((im 12 f1 3) * (im 12 f2 9)) + (10 * (im 12 f1 8)))), (4, vI (((im 12 f2 3) * (im 12 f1 9)) + (10 * (im 12 f2 8)))), (5, vI 1), (6, vI 1)]) hO dX11_harmsNone_73 (by decide) rfl rfl ?_
          refine zi_iload hO dX11_harmsNone_75 5 rfl ?_
          refine zi_if_ne (tgt := 85) hO dX11_harmsNone_77 (by decide) (fun _ => ?_) (fun c22 => absurd (show (1 : Int32) = 0 from c22) (by decide))
          refine zi_iconst (v := 0) hO dX11_harmsNone_85 (by decide) ?_
          exact zr_Z hO hR rfl (Or.inl rfl) dX11_harmsNone_86 h
theorem rX11_harmless_0 {x : zX} {w : zWd} {im : zMem} {lv : Int64} {P : Int32 → zMem → Int64 → Prop} {x1 : Int32} {x2 : Int32} (hO : zOK x w zyX11_harmless 7) (hR : zRetI x w zyX11_harmless P) (hN : zN x 126 126)
 (h : ((im 10 0 1) ≤ 12 ∧ ((0 ≤ x1 ∧ x1 < (im 10 0 1) → (Int32.toNatClampNeg x1) < 12 ∧ ((0 ≤ x2 ∧ x2 < (im 10 0 1) → (Int32.toNatClampNeg x2) < 12 ∧ ((¬ ((im 12 (Int32.toNatClampNeg x1) 0) = (im 12 (Int32.toNatClampNeg x2) 0)) → (∃ P5 : Int32 → zMem → Int64 → Prop, zSpecI x.2.1 w 6 zyX11_harmsNone [vR 0 0, vR 12 (Int32.toNatClampNeg x1), vR 12 (Int32.toNatClampNeg x2)] im lv P5 ∧ ∀ (v5 : Int32) (im5 : zMem) (lv5 : Int64), P5 v5 im5 lv5 → ((v5 = 0 → P 0 im5 lv5) ∧
 (¬ (v5 = 0) → P 1 im5 lv5)))) ∧
 ((im 12 (Int32.toNatClampNeg x1) 0) = (im 12 (Int32.toNatClampNeg x2) 0) → P (-1000001) im lv))) ∧
 (¬ (0 ≤ x2 ∧ x2 < (im 10 0 1)) → P (-1000001) im lv))) ∧
 (¬ (0 ≤ x1 ∧ x1 < (im 10 0 1)) → ((0 ≤ x2 ∧ x2 < (im 10 0 1) → (Int32.toNatClampNeg x2) < 12 ∧ P (-1000001) im lv) ∧
 (¬ (0 ≤ x2 ∧ x2 < (im 10 0 1)) → P (-1000001) im lv)))))) :
 zW x w 0 [(0, vR 0 0), (1, vI x1), (2, vI x2)] [] im lv := by
  refine zi_aload_n hO dX11_harmless_0 0 rfl ?_
  refine zi_getR (r' := 10) (i' := 0) hO dX11_harmless_1 fX11_25 rfl rfl (zI (by decide)) rfl ?_
  refine zi_iload_n hO dX11_harmless_4 1 rfl ?_
  obtain ⟨s2, h⟩ := h
  refine zc_VQ (as := [vI x1]) hO hN dX11_harmless_5 kX11_199 (by decide) rfl (zI (by decide)) rfl rfl (Nat.le_of_ble_eq_true rfl) rfl rfl (C_X1_flightOrNull _ _ _ _ s2) (fun im1 lv1 hp1 => ?_) (fun j1 im1 lv1 hp1 => ?_)
  · rw [hp1.2.1, hp1.2.2]
    have h := h.2 (zq_none hp1.1)
    refine zi_astore_nN (L' := [(0, vR 0 0), (1, vI x1), (2, vI x2), (3, vN)]) hO dX11_harmless_8 (by decide) rfl rfl ?_
    refine zi_aload_n hO dX11_harmless_9 0 rfl ?_
    refine zi_getR (r' := 10) (i' := 0) hO dX11_harmless_10 fX11_25 rfl rfl (zI (by decide)) rfl ?_
    refine zi_iload_n hO dX11_harmless_13 2 rfl ?_
    refine zc_VQ (as := [vI x2]) hO hN dX11_harmless_14 kX11_199 (by decide) rfl (zI (by decide)) rfl rfl (Nat.le_of_ble_eq_true rfl) rfl rfl (C_X1_flightOrNull _ _ _ _ s2) (fun im3 lv3 hp3 => ?_) (fun j3 im3 lv3 hp3 => ?_)
    · rw [hp3.2.1, hp3.2.2]
      have h := h.2 (zq_none hp3.1)
      refine zi_astoreN (L' := [(0, vR 0 0), (1, vI x1), (2, vI x2), (3, vN), (4, vN)]) hO dX11_harmless_17 (by decide) rfl rfl ?_
      refine zi_aload_nN hO dX11_harmless_19 3 rfl ?_
      refine zi_ifnullN (tgt := 40) hO dX11_harmless_20 (by decide) ?_
      refine zi_ldc (v := (-1000001)) hO dX11_harmless_40 nX11_100 ?_
      exact zr_I hO hR rfl dX11_harmless_42 h
    · rw [hp3.2.1, hp3.2.2, (zq_some hp3.1).2]
      obtain ⟨hj3, h⟩ := h.1 (zq_some hp3.1).1
      refine zi_astore (L' := [(0, vR 0 0), (1, vI x1), (2, vI x2), (3, vN), (4, vR 12 (Int32.toNatClampNeg x2))]) hO dX11_harmless_17 (by decide) rfl rfl ?_
      refine zi_aload_nN hO dX11_harmless_19 3 rfl ?_
      refine zi_ifnullN (tgt := 40) hO dX11_harmless_20 (by decide) ?_
      refine zi_ldc (v := (-1000001)) hO dX11_harmless_40 nX11_100 ?_
      exact zr_I hO hR rfl dX11_harmless_42 h
  · rw [hp1.2.1, hp1.2.2, (zq_some hp1.1).2]
    obtain ⟨hj1, h⟩ := h.1 (zq_some hp1.1).1
    refine zi_astore_n (L' := [(0, vR 0 0), (1, vI x1), (2, vI x2), (3, vR 12 (Int32.toNatClampNeg x1))]) hO dX11_harmless_8 (by decide) rfl rfl ?_
    refine zi_aload_n hO dX11_harmless_9 0 rfl ?_
    refine zi_getR (r' := 10) (i' := 0) hO dX11_harmless_10 fX11_25 rfl rfl (zI (by decide)) rfl ?_
    refine zi_iload_n hO dX11_harmless_13 2 rfl ?_
    refine zc_VQ (as := [vI x2]) hO hN dX11_harmless_14 kX11_199 (by decide) rfl (zI (by decide)) rfl rfl (Nat.le_of_ble_eq_true rfl) rfl rfl (C_X1_flightOrNull _ _ _ _ s2) (fun im4 lv4 hp4 => ?_) (fun j4 im4 lv4 hp4 => ?_)
    · rw [hp4.2.1, hp4.2.2]
      have h := h.2 (zq_none hp4.1)
      refine zi_astoreN (L' := [(0, vR 0 0), (1, vI x1), (2, vI x2), (3, vR 12 (Int32.toNatClampNeg x1)), (4, vN)]) hO dX11_harmless_17 (by decide) rfl rfl ?_
      refine zi_aload_n hO dX11_harmless_19 3 rfl ?_
      refine zi_ifnull hO dX11_harmless_20 ?_
      refine zi_aloadN hO dX11_harmless_23 4 rfl ?_
      refine zi_ifnullN (tgt := 40) hO dX11_harmless_25 (by decide) ?_
      refine zi_ldc (v := (-1000001)) hO dX11_harmless_40 nX11_100 ?_
      exact zr_I hO hR rfl dX11_harmless_42 h
    · rw [hp4.2.1, hp4.2.2, (zq_some hp4.1).2]
      obtain ⟨hj4, h⟩ := h.1 (zq_some hp4.1).1
      refine zi_astore (L' := [(0, vR 0 0), (1, vI x1), (2, vI x2), (3, vR 12 (Int32.toNatClampNeg x1)), (4, vR 12 (Int32.toNatClampNeg x2))]) hO dX11_harmless_17 (by decide) rfl rfl ?_
      refine zi_aload_n hO dX11_harmless_19 3 rfl ?_
      refine zi_ifnull hO dX11_harmless_20 ?_
      refine zi_aload hO dX11_harmless_23 4 rfl ?_
      refine zi_ifnull hO dX11_harmless_25 ?_
      refine zi_aload_n hO dX11_harmless_28 3 rfl ?_
      refine zi_getI hO dX11_harmless_29 fX11_203 rfl rfl (zI hj1) ?_
      refine zi_aload hO dX11_harmless_32 4 rfl ?_
      refine zi_getI hO dX11_harmless_34 fX11_203 rfl rfl (zI hj4) ?_
      refine zi_icmp_ne (tgt := 43) hO dX11_harmless_37 (by decide) (fun c1 => ?_) (fun c1 => ?_)
      · have h := h.1 c1
        refine zi_aload_n hO dX11_harmless_43 0 rfl ?_
        refine zi_aload_n hO dX11_harmless_44 3 rfl ?_
        refine zi_aload hO dX11_harmless_45 4 rfl ?_
        obtain ⟨P5, hM5, h⟩ := h
        refine zc_VI (as := [vR 12 (Int32.toNatClampNeg x1), vR 12 (Int32.toNatClampNeg x2)]) hO hN dX11_harmless_47 kX11_297 (by decide) rfl (zI (by decide)) rfl rfl (Nat.le_of_ble_eq_true rfl) rfl rfl hM5 (fun v5 im5 lv5 hp5 => ?_)
        replace h := h v5 im5 lv5 hp5
        refine zi_if_eq (tgt := 57) hO dX11_harmless_50 (by decide) (fun c2 => ?_) (fun c2 => ?_)
        · have h := h.1 c2
          refine zi_iconst (v := 0) hO dX11_harmless_57 (by decide) ?_
          exact zr_I hO hR rfl dX11_harmless_58 h
        · have h := h.2 c2
          refine zi_iconst (v := 1) hO dX11_harmless_53 (by decide) ?_
          refine zi_goto (tgt := 58) hO dX11_harmless_54 (by decide) ?_
          exact zr_I hO hR rfl dX11_harmless_58 h
      · have h := h.2 c1
        refine zi_ldc (v := (-1000001)) hO dX11_harmless_40 nX11_100 ?_
        exact zr_I hO hR rfl dX11_harmless_42 h
theorem rX11_swap_0 {x : zX} {w : zWd} {im : zMem} {lv : Int64} {P : Int32 → zMem → Int64 → Prop} (hO : zOK x w zyX11_swap 7) (hR : zRetI x w zyX11_swap P) (hN : zN x 126 126)
 (h : zW x w 2 [(0, vR 0 0), (1, vI 0)] [] im lv) :
 zW x w 0 [(0, vR 0 0)] [] im lv := by
  refine zi_iconst (v := 0) hO dX11_swap_0 (by decide) ?_
  refine zi_istore_n (L' := [(0, vR 0 0), (1, vI 0)]) hO dX11_swap_1 (by decide) rfl rfl ?_
  exact h
theorem rX11_swap_2 {x : zX} {w : zWd} {im : zMem} {lv : Int64} {P : Int32 → zMem → Int64 → Prop} {x1 : Int32} (hO : zOK x w zyX11_swap 7) (hR : zRetI x w zyX11_swap P) (hN : zN x 126 126)
 (h : (((im 10 0 1) ≤ x1 → P (-1000000) im lv) ∧
 (¬ ((im 10 0 1) ≤ x1) → zW x w 17 [(0, vR 0 0), (1, vI x1), (2, vI (x1 + 1))] [] im lv))) :
 zW x w 2 [(0, vR 0 0), (1, vI x1)] [] im lv := by
  refine zi_iload_n hO dX11_swap_2 1 rfl ?_
  refine zi_aload_n hO dX11_swap_3 0 rfl ?_
  refine zi_getR (r' := 10) (i' := 0) hO dX11_swap_4 fX11_25 rfl rfl (zI (by decide)) rfl ?_
  refine zi_getI hO dX11_swap_7 fX11_196 rfl rfl (zI (by decide)) ?_
  refine zi_icmp_ge (tgt := 96) hO dX11_swap_10 (by decide) (fun c1 => ?_) (fun c1 => ?_)
  · have h := h.1 c1
    refine zi_ldc (v := (-1000000)) hO dX11_swap_96 nX11_170 ?_
    exact zr_I hO hR rfl dX11_swap_98 h
  · have h := h.2 c1
    refine zi_iload_n hO dX11_swap_13 1 rfl ?_
    refine zi_iconst (v := 1) hO dX11_swap_14 (by decide) ?_
    refine zi_iadd hO dX11_swap_15 ?_
    refine zi_istore_n (L' := [(0, vR 0 0), (1, vI x1), (2, vI (x1 + 1))]) hO dX11_swap_16 (by decide) rfl rfl ?_
    exact h
theorem rX11_swap_17 {x : zX} {w : zWd} {im : zMem} {lv : Int64} {P : Int32 → zMem → Int64 → Prop} {x1 : Int32} {x2 : Int32} (hO : zOK x w zyX11_swap 7) (hR : zRetI x w zyX11_swap P) (hN : zN x 126 126)
 (h : (((im 10 0 1) ≤ x2 → zW x w 2 [(0, vR 0 0), (1, vI (x1 + 1))] [] im lv) ∧
 (¬ ((im 10 0 1) ≤ x2) → (vp_in x1 12 ∧ (vp_in x2 12 ∧ (((im 12 (Int32.toNatClampNeg x1) 0) = (im 12 (Int32.toNatClampNeg x2) 0) → zW x w 17 [(0, vR 0 0), (1, vI x1), (2, vI (x2 + 1))] [] im lv) ∧
 (¬ ((im 12 (Int32.toNatClampNeg x1) 0) = (im 12 (Int32.toNatClampNeg x2) 0)) → (∃ P3 : Int32 → zMem → Int64 → Prop, zSpecI x.2.1 w 6 zyX11_harmsNone [vR 0 0, vR 12 (Int32.toNatClampNeg x1), vR 12 (Int32.toNatClampNeg x2)] im lv P3 ∧ ∀ (v3 : Int32) (im3 : zMem) (lv3 : Int64), P3 v3 im3 lv3 → ((v3 = 0 → zW x w 17 [(0, vR 0 0), (1, vI x1), (2, vI (x2 + 1))] [] im3 lv3) ∧
 (¬ (v3 = 0) → P ((100 * x1) + x2) (zwr (zwr im3 12 (Int32.toNatClampNeg x1) 9 (im3 12 (Int32.toNatClampNeg x2) 9)) 12 (Int32.toNatClampNeg x2) 9 (im3 12 (Int32.toNatClampNeg x1) 9)) lv3)))))))))) :
 zW x w 17 [(0, vR 0 0), (1, vI x1), (2, vI x2)] [] im lv := by
  refine zi_iload_n hO dX11_swap_17 2 rfl ?_
  refine zi_aload_n hO dX11_swap_18 0 rfl ?_
  refine zi_getR (r' := 10) (i' := 0) hO dX11_swap_19 fX11_25 rfl rfl (zI (by decide)) rfl ?_
  refine zi_getI hO dX11_swap_22 fX11_196 rfl rfl (zI (by decide)) ?_
  refine zi_icmp_ge (tgt := 90) hO dX11_swap_25 (by decide) (fun c1 => ?_) (fun c1 => ?_)
  · have h := h.1 c1
    refine zi_iinc (v' := (x1 + 1)) (L' := [(0, vR 0 0), (1, vI (x1 + 1)), (2, vI x2)]) hO dX11_swap_90 1 rfl rfl (by decide) rfl rfl ?_
    refine zi_goto (tgt := 2) hO dX11_swap_93 (by decide) ?_
    refine zi_pick (L' := [(0, vR 0 0), (1, vI (x1 + 1))]) [0, 1] rfl ?_
    exact h
  · have h := h.2 c1
    refine zi_aload_n hO dX11_swap_28 0 rfl ?_
    refine zi_getR (r' := 10) (i' := 0) hO dX11_swap_29 fX11_25 rfl rfl (zI (by decide)) rfl ?_
    refine zi_getR (r' := 11) (i' := 0) hO dX11_swap_32 fX11_301 rfl rfl (zI (by decide)) rfl ?_
    refine zi_iload_n hO dX11_swap_35 1 rfl ?_
    obtain ⟨s1, h⟩ := h
    refine zi_aald (t := 1) (r' := 12) (i' := (Int32.toNatClampNeg x1)) hO dX11_swap_36 rfl (zI (by decide)) s1 rfl ?_
    refine zi_astore_n (L' := [(0, vR 0 0), (1, vI x1), (2, vI x2), (3, vR 12 (Int32.toNatClampNeg x1))]) hO dX11_swap_37 (by decide) rfl rfl ?_
    refine zi_aload_n hO dX11_swap_38 0 rfl ?_
    refine zi_getR (r' := 10) (i' := 0) hO dX11_swap_39 fX11_25 rfl rfl (zI (by decide)) rfl ?_
    refine zi_getR (r' := 11) (i' := 0) hO dX11_swap_42 fX11_301 rfl rfl (zI (by decide)) rfl ?_
    refine zi_iload_n hO dX11_swap_45 2 rfl ?_
    obtain ⟨s2, h⟩ := h
    refine zi_aald (t := 1) (r' := 12) (i' := (Int32.toNatClampNeg x2)) hO dX11_swap_46 rfl (zI (by decide)) s2 rfl ?_
    refine zi_astore (L' := [(0, vR 0 0), (1, vI x1), (2, vI x2), (3, vR 12 (Int32.toNatClampNeg x1)), (4, vR 12 (Int32.toNatClampNeg x2))]) hO dX11_swap_47 (by decide) rfl rfl ?_
    refine zi_aload_n hO dX11_swap_49 3 rfl ?_
    refine zi_getI hO dX11_swap_50 fX11_203 rfl rfl (zI (zvp s1)) ?_
    refine zi_aload hO dX11_swap_53 4 rfl ?_
    refine zi_getI hO dX11_swap_55 fX11_203 rfl rfl (zI (zvp s2)) ?_
    refine zi_icmp_eq (tgt := 84) hO dX11_swap_58 (by decide) (fun c2 => ?_) (fun c2 => ?_)
    · have h := h.1 c2
      refine zi_iinc (v' := (x2 + 1)) (L' := [(0, vR 0 0), (1, vI x1), (2, vI (x2 + 1)), (3, vR 12 (Int32.toNatClampNeg x1)), (4, vR 12 (Int32.toNatClampNeg x2))]) hO dX11_swap_84 2 rfl rfl (by decide) rfl rfl ?_
      refine zi_goto (tgt := 17) hO dX11_swap_87 (by decide) ?_
      refine zi_pick (L' := [(0, vR 0 0), (1, vI x1), (2, vI (x2 + 1))]) [0, 1, 2] rfl ?_
      exact h
    · have h := h.2 c2
      refine zi_aload_n hO dX11_swap_61 0 rfl ?_
      refine zi_aload_n hO dX11_swap_62 3 rfl ?_
      refine zi_aload hO dX11_swap_63 4 rfl ?_
      obtain ⟨P3, hM3, h⟩ := h
      refine zc_VI (as := [vR 12 (Int32.toNatClampNeg x1), vR 12 (Int32.toNatClampNeg x2)]) hO hN dX11_swap_65 kX11_297 (by decide) rfl (zI (by decide)) rfl rfl (Nat.le_of_ble_eq_true rfl) rfl rfl hM3 (fun v3 im3 lv3 hp3 => ?_)
      replace h := h v3 im3 lv3 hp3
      refine zi_if_eq (tgt := 84) hO dX11_swap_68 (by decide) (fun c3 => ?_) (fun c3 => ?_)
      · have h := h.1 c3
        refine zi_iinc (v' := (x2 + 1)) (L' := [(0, vR 0 0), (1, vI x1), (2, vI (x2 + 1)), (3, vR 12 (Int32.toNatClampNeg x1)), (4, vR 12 (Int32.toNatClampNeg x2))]) hO dX11_swap_84 2 rfl rfl (by decide) rfl rfl ?_
        refine zi_goto (tgt := 17) hO dX11_swap_87 (by decide) ?_
        refine zi_pick (L' := [(0, vR 0 0), (1, vI x1), (2, vI (x2 + 1))]) [0, 1, 2] rfl ?_
        exact h
      · have h := h.2 c3
        refine zi_aload_n hO dX11_swap_71 3 rfl ?_
        refine zi_aload hO dX11_swap_72 4 rfl ?_
        refine zc_SV (as := [vR 12 (Int32.toNatClampNeg x1), vR 12 (Int32.toNatClampNeg x2)]) hO hN dX11_swap_74 kX11_305 (by decide) rfl (Nat.le_of_ble_eq_true rfl) rfl rfl (C_X11_exchangeDelays _ _ _ _ (zvp s1) (zvp s2)) (fun im4 lv4 hp4 => ?_)
        rw [hp4.1, hp4.2]
        refine zi_bipush (v := 100) hO dX11_swap_77 (by decide) ?_
        refine zi_iload_n hO dX11_swap_79 1 rfl ?_
        refine zi_imul hO dX11_swap_80 ?_
        refine zi_iload_n hO dX11_swap_81 2 rfl ?_
        refine zi_iadd hO dX11_swap_82 ?_
        exact zr_I hO hR rfl dX11_swap_83 h
theorem rX11_settle_0 {x : zX} {w : zWd} {im : zMem} {lv : Int64} {P : Int32 → zMem → Int64 → Prop} {x1 : Int32} (hO : zOK x w zyX11_settle 13) (hR : zRetI x w zyX11_settle P) (hN : zN x 126 126)
 (h : (∃ P1 : Int32 → zMem → Int64 → Prop, zSpecI x.2.1 w 2 zyX1_everyFlight [vR 10 0] im lv P1 ∧ ∀ (v1 : Int32) (im1 : zMem) (lv1 : Int64), P1 v1 im1 lv1 → ((¬ ((x1 &&& (v1 ^^^ (-1))) = 0) → ((x1 = 0 → P (-1000001) im1 lv1) ∧
 (¬ (x1 = 0) → P (-1000001) im1 lv1))) ∧
 ((x1 &&& (v1 ^^^ (-1))) = 0 → ((x1 = 0 → P (-1000001) im1 lv1) ∧
 (¬ (x1 = 0) → (∃ P2 : Int32 → zMem → Int64 → Prop, zSpecI x.2.1 w 2 zyJ6_bitCount_0f7a4 [vI x1] im1 lv1 P2 ∧ ∀ (v2 : Int32) (im2 : zMem) (lv2 : Int64), P2 v2 im2 lv2 → ((v2 ≤ 5 → (∃ P3 : zMem → Int64 → Prop, zSpecV x.2.1 w 5 zyX8_refresh [vR 20 0] im2 lv2 P3 ∧ ∀ (im3 : zMem) (lv3 : Int64), P3 im3 lv3 → (∃ P4 : Int32 → zMem → Int64 → Prop, zSpecI x.2.1 w 12 zyX6_findChoices [vR 29 0, vI x1] im3 lv3 P4 ∧ ∀ (v4 : Int32) (im4 : zMem) (lv4 : Int64), P4 v4 im4 lv4 → ((v4 = 0 → P (-1000000) im4 lv4) ∧
 (¬ (v4 = 0) → (∃ P5 : Int32 → zMem → Int64 → Prop, zSpecI x.2.1 w 2 zyX6_takeChoices [vR 29 0] im4 lv4 P5 ∧ ∀ (v5 : Int32) (im5 : zMem) (lv5 : Int64), P5 v5 im5 lv5 → P v5 im5 lv5)))))) ∧
 (¬ (v2 ≤ 5) → P (-1000001) im2 lv2))))))))) :
 zW x w 0 [(0, vR 0 0), (1, vI x1)] [] im lv := by
  refine zi_iload_n hO dX11_settle_0 1 rfl ?_
  refine zi_aload_n hO dX11_settle_1 0 rfl ?_
  refine zi_getR (r' := 10) (i' := 0) hO dX11_settle_2 fX11_25 rfl rfl (zI (by decide)) rfl ?_
  obtain ⟨P1, hM1, h⟩ := h
  refine zc_VI (as := []) hO hN dX11_settle_5 kX11_283 (by decide) rfl (zI (by decide)) rfl rfl (Nat.le_of_ble_eq_true rfl) rfl rfl hM1 (fun v1 im1 lv1 hp1 => ?_)
  replace h := h v1 im1 lv1 hp1
  refine zi_iconst (v := (-1)) hO dX11_settle_8 (by decide) ?_
  refine zi_ixor hO dX11_settle_9 ?_
  refine zi_iand hO dX11_settle_10 ?_
  refine zi_if_ne (tgt := 18) hO dX11_settle_11 (by decide) (fun c1 => ?_) (fun c1 => ?_)
  · have h := h.1 c1
    refine zi_iconst (v := 0) hO dX11_settle_18 (by decide) ?_
    refine zi_istore_n (L' := [(0, vR 0 0), (1, vI x1), (2, vI 0)]) hO dX11_settle_19 (by decide) rfl rfl ?_
    refine zi_iload_n hO dX11_settle_20 1 rfl ?_
    refine zi_if_eq (tgt := 36) hO dX11_settle_21 (by decide) (fun c2 => ?_) (fun c2 => ?_)
    · have h := h.1 c2
      refine zi_ldc (v := (-1000001)) hO dX11_settle_36 nX11_100 ?_
      exact zr_I hO hR rfl dX11_settle_38 h
    · have h := h.2 c2
      refine zi_iload_n hO dX11_settle_24 2 rfl ?_
      refine zi_if_eq (tgt := 36) hO dX11_settle_25 (by decide) (fun _ => ?_) (fun c3 => absurd (show ¬ ((0 : Int32) = 0) from c3) (by decide))
      refine zi_ldc (v := (-1000001)) hO dX11_settle_36 nX11_100 ?_
      exact zr_I hO hR rfl dX11_settle_38 h
  · have h := h.2 c1
    refine zi_iconst (v := 1) hO dX11_settle_14 (by decide) ?_
    refine zi_goto (tgt := 19) hO dX11_settle_15 (by decide) ?_
    refine zi_istore_n (L' := [(0, vR 0 0), (1, vI x1), (2, vI 1)]) hO dX11_settle_19 (by decide) rfl rfl ?_
    refine zi_iload_n hO dX11_settle_20 1 rfl ?_
    refine zi_if_eq (tgt := 36) hO dX11_settle_21 (by decide) (fun c4 => ?_) (fun c4 => ?_)
    · have h := h.1 c4
      refine zi_ldc (v := (-1000001)) hO dX11_settle_36 nX11_100 ?_
      exact zr_I hO hR rfl dX11_settle_38 h
    · have h := h.2 c4
      refine zi_iload_n hO dX11_settle_24 2 rfl ?_
      refine zi_if_eq (tgt := 36) hO dX11_settle_25 (by decide) (fun c5 => absurd (show (1 : Int32) = 0 from c5) (by decide)) (fun _ => ?_)
      refine zi_iload_n hO dX11_settle_28 1 rfl ?_
      obtain ⟨P2, hM2, h⟩ := h
      refine zc_SI (as := [vI x1]) hO hN dX11_settle_29 kX11_286 (by decide) rfl (Nat.le_of_ble_eq_true rfl) rfl rfl hM2 (fun v2 im2 lv2 hp2 => ?_)
      replace h := h v2 im2 lv2 hp2
      refine zi_iconst (v := 5) hO dX11_settle_32 (by decide) ?_
      refine zi_icmp_le (tgt := 39) hO dX11_settle_33 (by decide) (fun c6 => ?_) (fun c6 => ?_)
      · have h := h.1 c6
        refine zi_aload_n hO dX11_settle_39 0 rfl ?_
        refine zi_getR (r' := 20) (i' := 0) hO dX11_settle_40 fX11_50 rfl rfl (zI (by decide)) rfl ?_
        obtain ⟨P3, hM3, h⟩ := h
        refine zc_VV (as := []) hO hN dX11_settle_43 kX11_244 (by decide) rfl (zI (by decide)) rfl rfl (Nat.le_of_ble_eq_true rfl) rfl rfl hM3 (fun im3 lv3 hp3 => ?_)
        replace h := h im3 lv3 hp3
        refine zi_aload_n hO dX11_settle_46 0 rfl ?_
        refine zi_getR (r' := 29) (i' := 0) hO dX11_settle_47 fX11_68 rfl rfl (zI (by decide)) rfl ?_
        refine zi_iload_n hO dX11_settle_50 1 rfl ?_
        obtain ⟨P4, hM4, h⟩ := h
        refine zc_VI (as := [vI x1]) hO hN dX11_settle_51 kX11_291 (by decide) rfl (zI (by decide)) rfl rfl (Nat.le_of_ble_eq_true rfl) rfl rfl hM4 (fun v4 im4 lv4 hp4 => ?_)
        replace h := h v4 im4 lv4 hp4
        refine zi_if_eq (tgt := 67) hO dX11_settle_54 (by decide) (fun c7 => ?_) (fun c7 => ?_)
        · have h := h.1 c7
          refine zi_ldc (v := (-1000000)) hO dX11_settle_67 nX11_170 ?_
          exact zr_I hO hR rfl dX11_settle_69 h
        · have h := h.2 c7
          refine zi_aload_n hO dX11_settle_57 0 rfl ?_
          refine zi_getR (r' := 29) (i' := 0) hO dX11_settle_58 fX11_68 rfl rfl (zI (by decide)) rfl ?_
          obtain ⟨P5, hM5, h⟩ := h
          refine zc_VI (as := []) hO hN dX11_settle_61 kX11_294 (by decide) rfl (zI (by decide)) rfl rfl (Nat.le_of_ble_eq_true rfl) rfl rfl hM5 (fun v5 im5 lv5 hp5 => ?_)
          replace h := h v5 im5 lv5 hp5
          refine zi_goto (tgt := 69) hO dX11_settle_64 (by decide) ?_
          exact zr_I hO hR rfl dX11_settle_69 h
      · have h := h.2 c6
        refine zi_ldc (v := (-1000001)) hO dX11_settle_36 nX11_100 ?_
        exact zr_I hO hR rfl dX11_settle_38 h
theorem C_X11_look (l : Launch) (w : zWd) {im : zMem} (lv : Int64) (x1 : Int32) : zSpecI l w 2 zyX11_look [vR 0 0, vI x1] im lv (fun v im' lv' => (if 1 ≤ x1 ∧ x1 ≤ 15 then v = im 2 0 8 ∧ im' = zwr im 2 0 8 x1 else v = -1000001 ∧ im' = im) ∧ lv' = lv) := by
  refine ze_I (by decide) (Nat.le_of_ble_eq_true rfl) (fun x hO hR hN => rX11_look_0 hO hR hN ?_)
  refine ⟨fun q => ?_, fun q => ⟨fun q2 => ?_, fun q2 => ?_⟩⟩
  · rw [if_neg (by rw [Int32.lt_iff_toInt_lt] at q; rw [Int32.le_iff_toInt_le]; omega)]; exact ⟨⟨rfl, rfl⟩, rfl⟩
  · rw [if_pos (by
      rw [Int32.lt_iff_toInt_lt] at q q2
      rw [Int32.le_iff_toInt_le, Int32.le_iff_toInt_le]
      simp only [Int32.reduceToInt] at *
      omega)]
    exact ⟨⟨rfl, rfl⟩, rfl⟩
  · rw [if_neg (by
      rw [Int32.lt_iff_toInt_lt] at q2
      rw [Int32.le_iff_toInt_le, Int32.le_iff_toInt_le]
      simp only [Int32.reduceToInt] at *
      omega)]
    exact ⟨⟨rfl, rfl⟩, rfl⟩
theorem Fc.wr {a b : zMem} (h : Fc a b) {r i k : Nat} {v : Int32} (hr : ¬ (20 ≤ r ∧ r ≤ 38)) : Fc (zwr a r i k v) (zwr b r i k v) := by
  intro q hq
  funext i' k'
  rw [zwr_app, zwr_app, h q hq]
theorem C_X11_as (l : Launch) (w : zWd) {m im : zMem} (lv : Int64) (hW : WF m) (hC : RC m im) (x1 x2 : Int32) : zSpecI l w 6 zyX11_as [vR 0 0, vI x1, vI x2] im lv (fun v im' lv' => (if (0 ≤ x1 ∧ x1 < nI (nfl m)) ∧ (0 ≤ x2 ∧ x2 < nI 4) then (if isK (knd m (cN x1)) (cN x2) = true then v = nI (wgt m (cN x1)) ∧ Fc (zwr im 0 0 10 0) im' else v = -1000013 ∧ Fc (zwr im 0 0 10 3) im') else v = -1000001 ∧ im' = im) ∧ lv' = lv) := by
  refine ze_I (by decide) (Nat.le_of_ble_eq_true rfl) (fun x hO hR hN => rX11_as_0 hO hR hN ⟨hC.le hW, ?_⟩)
  have h12 := hW.1.2
  rw [hC.1]
  refine ⟨fun q => ?_, fun q => ⟨by rw [if_neg (fun z => q z.1)]; exact ⟨rfl, rfl⟩, rfl⟩⟩
  have q' := q
  obtain ⟨f, hf, rfl⟩ := zrx (by omega) q
  have cf : cN (nI f) = f := nI_clamp (by omega)
  rw [show Int32.toNatClampNeg (nI f) = f from cf, cf]
  refine ⟨by omega, fun q2 => ⟨by rw [if_neg (fun z => b0' q2 z.2.1)]; exact ⟨rfl, rfl⟩, rfl⟩, fun q2 => ⟨fun q3 => ?_, fun q3 => ⟨by rw [if_neg (fun z => q3 z.2.2)]; exact ⟨rfl, rfl⟩, rfl⟩⟩⟩
  have qq : 0 ≤ x2 ∧ x2 < nI 4 := ⟨b0 q2, q3⟩
  have qq' := qq
  obtain ⟨c, hc, rfl⟩ := zrx (N := 4) (by decide) qq
  rw [show cN (nI c) = c from nI_clamp (by omega)]
  refine ⟨_, C_X8_refresh _ _ _ hW hC, ?_⟩
  rintro im3 lv3 ⟨⟨g1, hS⟩, rfl⟩
  have fc : Fc im im3 := fun r hr => g1 r (by omega)
  refine ⟨_, C_X0_isOfKind _ _ _ hW (fc.rc hC) hS hf hc, ?_⟩
  rintro v4 im4 lv4 ⟨⟨rfl, g4⟩, rfl⟩
  have fc4 : Fc im im4 := fc.trans (fun r hr => g4 r (by omega))
  have qc : (0 ≤ nI f ∧ nI f < nI (nfl m)) ∧ (0 ≤ nI c ∧ nI c < nI 4) := ⟨q', qq'⟩
  refine ⟨fun z => ⟨?_, rfl⟩, fun z => ⟨?_, rfl⟩⟩
  · rw [if_pos qc]
    by_cases hk : isK (knd m f) c = true
    · rw [if_pos hk] at z; exact absurd z (by decide)
    · rw [if_neg hk]; exact ⟨rfl, fc4.wr (by decide)⟩
  · rw [if_pos qc]
    by_cases hk : isK (knd m f) c = true
    · rw [if_pos hk]; exact ⟨((fc4.rc hC).2.1 f hf).2.1, fc4.wr (by decide)⟩
    · rw [if_neg hk] at z; exact absurd rfl z
def TRa (L : List Nat) (im im' : zMem) : Prop := (∀ r, ¬ (20 ≤ r ∧ r ≤ 40) → im' r = im r) ∧ im' 39 0 2 = nI L.length ∧ ∀ i, i < L.length → im' 40 0 i = nI (L.getD i 0)
theorem C_X11_ask (l : Launch) (w : zWd) {m im : zMem} (lv : Int64) (hW : WF m) (hC : RC m im) (x1 x2 : Int32) : zSpecI l w 8 zyX11_ask [vR 0 0, vI x1, vI x2] im lv (fun v im' lv' => (if (0 ≤ x1 ∧ x1 < nI (nfl m)) ∧ (0 ≤ x2 ∧ x2 < nI 2) then (if x2 = 0 then v = nI (szV m (cN x1) (knd m (cN x1))) ∧ TRa (szL (knd m (cN x1))) im im' else v = nI (mkV m (cN x1) (knd m (cN x1))) ∧ TRa (mkL (knd m (cN x1))) im im') else v = -1000001 ∧ im' = im) ∧ lv' = lv) := by
  refine ze_I (by decide) (Nat.le_of_ble_eq_true rfl) (fun x hO hR hN => rX11_ask_0 hO hR hN ⟨hC.le hW, ?_⟩)
  have h12 := hW.1.2
  rw [hC.1]
  refine ⟨fun q => ?_, fun q => ⟨by rw [if_neg (fun z => q z.1)]; exact ⟨rfl, rfl⟩, rfl⟩⟩
  have q' := q
  obtain ⟨f, hf, rfl⟩ := zrx (by omega) q
  have cf : cN (nI f) = f := nI_clamp (by omega)
  rw [show Int32.toNatClampNeg (nI f) = f from cf, cf]
  refine ⟨by omega, fun q2 => ⟨by rw [if_neg (fun z => b0' q2 z.2.1)]; exact ⟨rfl, rfl⟩, rfl⟩, fun q2 => ⟨fun q3 => ?_, fun q3 => ⟨by rw [if_neg (fun z => b1' (k := 1) (by decide) q3 z.2.2)]; exact ⟨rfl, rfl⟩, rfl⟩⟩⟩
  have qc : (0 ≤ nI f ∧ nI f < nI (nfl m)) ∧ (0 ≤ x2 ∧ x2 < nI 2) := ⟨q', b0 q2, b1 (k := 1) (by decide) q3⟩
  refine ⟨_, C_X8_refresh _ _ _ hW hC, ?_⟩
  rintro im3 lv3 ⟨⟨g1, hS⟩, rfl⟩
  have fc : Fc im im3 := fun r hr => g1 r (by omega)
  have hC3 : RC m (zwr im3 39 0 2 0) := (fc.rc hC).fr (fun r hr => zwr_r (by omega))
  have hS3 : SKY m (zwr im3 39 0 2 0) := hS.fr (zwr_r (by decide)) (zwr_r (by decide))
  have tra : ∀ {L : List Nat} {im4 : zMem}, TR 0 L (zwr im3 39 0 2 0) im4 → TRa L im im4 := fun h => ⟨fun r hr => by rw [h.1 r (by omega) (by omega) (by omega), zwr_r (by omega)]; exact fc r (by omega), by rw [h.2.1, Nat.zero_add], fun i hi => by have := h.2.2.2 i hi; rw [Nat.zero_add] at this; exact this⟩
  refine ⟨fun z => ⟨_, C_X0_markOf _ _ _ hW hC3 hS3 hf (n := 0) zwr_eq (by decide), ?_⟩, fun z => ⟨_, C_X0_sizeOf _ _ _ hW hC3 hS3 hf zwr_eq, ?_⟩⟩
  · rintro v4 im4 lv4 ⟨⟨rfl, h⟩, rfl⟩
    rw [if_pos qc, if_neg z]
    exact ⟨⟨rfl, tra h⟩, rfl⟩
  · rintro v4 im4 lv4 ⟨⟨rfl, h⟩, rfl⟩
    rw [if_pos qc, if_pos z]
    exact ⟨⟨rfl, tra h⟩, rfl⟩
theorem C_X11_choose (l : Launch) (w : zWd) {m im : zMem} (lv : Int64) (hW : WF m) (hC : RC m im) (x1 x2 x3 : Int32) : zSpecI l w 4 zyX11_choose [vR 0 0, vI x1, vI x2, vI x3] im lv (fun v im' lv' => (if (0 ≤ x1 ∧ x1 < nI (nfl m)) ∧ (0 ≤ x2 ∧ x2 < nI (wys m (cN x1))) ∧ (0 ≤ x3 ∧ x3 < nI 5) then v = nI (rat m (cN x1) * cN x3 + 10 * cN x2) ∧ im' = zwr (zwr im 12 (cN x1) 8 x2) 12 (cN x1) 9 x3 else v = -1000001 ∧ im' = im) ∧ lv' = lv) := by
  refine ze_I (by decide) (Nat.le_of_ble_eq_true rfl) (fun x hO hR hN => rX11_choose_0 hO hR hN ⟨hC.le hW, ?_⟩)
  have h12 := hW.1.2
  rw [hC.1]
  refine ⟨fun q => ?_, fun q => ⟨by rw [if_neg (fun z => q z.1)]; exact ⟨rfl, rfl⟩, rfl⟩⟩
  have q' := q
  obtain ⟨f, hf, rfl⟩ := zrx (by omega) q
  have cf : cN (nI f) = f := nI_clamp (by omega)
  obtain ⟨-, -, -, -, f4, -, -, f7⟩ := hW.2.1 f hf
  obtain ⟨c0, c1, c2, c3, c4, c5, c6, cw⟩ := hC.2.1 f hf
  rw [show Int32.toNatClampNeg (nI f) = f from cf, cf, c4]
  refine ⟨by omega, fun q2 => ⟨by rw [if_neg (fun z => q2 z.2.1)]; exact ⟨rfl, rfl⟩, rfl⟩, fun q2 => ⟨fun q3 => ⟨by rw [if_neg (fun z => b0' q3 z.2.2.1)]; exact ⟨rfl, rfl⟩, rfl⟩, fun q3 => ⟨fun q4 => ?_, fun q4 => ⟨by rw [if_neg (fun z => b1' (k := 4) (by decide) q4 z.2.2.2)]; exact ⟨rfl, rfl⟩, rfl⟩⟩⟩⟩
  have qq : 0 ≤ x3 ∧ x3 < nI 5 := ⟨b0 q3, b1 (k := 4) (by decide) q4⟩
  rw [if_pos ⟨q', q2, qq⟩]
  have r3 : ∀ {u v : Int32}, (zwr (zwr im 12 f 8 u) 12 f 9 v) 12 f 3 = nI (rat m f) := by intros; rw [zwr_k (by decide), zwr_k (by decide)]; exact c3
  have r8 : ∀ {u v : Int32}, (zwr (zwr im 12 f 8 u) 12 f 9 v) 12 f 8 = u := by intros; rw [zwr_k (by decide), zwr_eq]
  obtain ⟨wy, hwy, rfl⟩ := zrx (by omega) q2
  rw [r3, r8, zwr_eq]
  obtain ⟨d, hd, rfl⟩ := zrx (N := 5) (by decide) qq
  rw [show cN (nI wy) = wy from nI_clamp (by omega), show cN (nI d) = d from nI_clamp (by omega), show (10 : Int32) * nI wy = nI (10 * wy) from pk_mul 10 _, pk_mul, nI_add]
  exact ⟨⟨rfl, rfl⟩, rfl⟩
def exC (im : zMem) (a b : Nat) : zMem := zwr (zwr im 12 a 9 (im 12 b 9)) 12 b 9 (im 12 a 9)
theorem exC_r {im : zMem} {a b r : Nat} (h : ¬ r = 12) : exC im a b r = im r := by
  unfold exC
  rw [zwr_r h, zwr_r h]
theorem exC_k {im : zMem} {a b i k : Nat} (h : ¬ k = 9) : exC im a b 12 i k = im 12 i k := by
  unfold exC
  rw [zwr_k h, zwr_k h]
theorem exC_9 {im : zMem} {a b i : Nat} : exC im a b 12 i 9 = if i = b then im 12 a 9 else if i = a then im 12 b 9 else im 12 i 9 := by
  unfold exC
  rw [zwr_app, zwr_app]
  simp only [true_and, and_true]
theorem exC_exC {im : zMem} {a b : Nat} : exC (exC im a b) a b = im := by
  funext r i k
  by_cases hr : r = 12
  · subst hr
    by_cases hk : k = 9
    · subst hk
      rw [exC_9, exC_9, exC_9, exC_9]
      by_cases hb : i = b
      · subst hb
        rw [if_pos rfl]
        by_cases hab : a = i
        · rw [if_pos hab, hab]
        · rw [if_neg hab, if_pos rfl]
      · rw [if_neg hb]
        by_cases ha : i = a
        · subst ha
          rw [if_pos rfl, if_pos rfl]
        · rw [if_neg ha, if_neg hb, if_neg ha]
    · rw [exC_k hk, exC_k hk]
  · rw [exC_r hr, exC_r hr]
theorem exM_dly {m : zMem} {a b f : Nat} : dly (exM m a b) f = if f = b then dly m a else if f = a then dly m b else dly m f := by
  unfold dly
  by_cases hb : f = b
  · rw [if_pos hb, hb, exM_b]
  · rw [if_neg hb]
    by_cases ha : f = a
    · rw [if_pos ha, ha, exM_a]
    · rw [if_neg ha, exM_f ha hb]
theorem exC_RC {m im : zMem} (hC : RC m im) {a b : Nat} (ha : a < nfl m) (hb : b < nfl m) : RC (exM m a b) (exC im a b) := by
  have hw : ∀ {f w k : Nat}, lsl (exM m a b) f w k = lsl m f w k := by intros; unfold lsl; rw [exM_r (by decide)]
  have hr : ∀ {f w k : Nat}, lrm (exM m a b) f w k = lrm m f w k := by intros; unfold lrm; rw [exM_r (by decide)]
  obtain ⟨h1, h2, h3, h4, h5, h6, h7⟩ := hC
  refine ⟨?_, ?_, ?_, ?_, ?_, ?_, ?_⟩
  · rw [exC_r (by decide), exM_nfl]; exact h1
  · rw [exM_nfl]
    intro f hf
    obtain ⟨c0, c1, c2, c3, c4, c5, c6, cw⟩ := h2 f hf
    have e4 : wys (exM m a b) f = wys m f := by unfold wys; rw [exM_r (by decide)]
    refine ⟨?_, ?_, ?_, ?_, ?_, ?_, ?_, fun w hw' => ?_⟩
    · rw [exC_k (by decide), c0]; unfold own; rw [exM_r (by decide)]
    · rw [exC_k (by decide), c1]; unfold wgt; rw [exM_r (by decide)]
    · rw [exC_k (by decide), c2]; unfold sta; rw [exM_r (by decide)]
    · rw [exC_k (by decide), c3]; unfold rat; rw [exM_r (by decide)]
    · rw [exC_k (by decide), c4, e4]
    · rw [exC_k (by decide), c5]; unfold way; rw [exM_r (by decide)]
    · rw [exC_9, exM_dly]
      by_cases hfb : f = b
      · rw [if_pos hfb, if_pos hfb]; exact (h2 a ha).2.2.2.2.2.2.1
      · rw [if_neg hfb, if_neg hfb]
        by_cases hfa : f = a
        · rw [if_pos hfa, if_pos hfa]; exact (h2 b hb).2.2.2.2.2.2.1
        · rw [if_neg hfa, if_neg hfa]; exact c6
    · rw [e4] at hw'
      obtain ⟨c, g1, g2, g3, g4⟩ := cw w hw'
      refine ⟨c, g1, by rw [exC_r (by decide)]; exact g2, fun k hk => ?_, fun k hk1 hk2 => by rw [hw]; exact g4 k hk1 hk2⟩
      rw [hw, hr, exC_r (by decide), exC_r (by decide)]
      exact g3 k hk
  · rw [exC_r (by decide), h3]; unfold nst; rw [exM_r (by decide)]
  · rw [show nst (exM m a b) = nst m by unfold nst; rw [exM_r (by decide)]]
    intro k hk
    unfold RCs stw str sta1 stb stv at *
    rw [exC_r (by decide), exC_r (by decide), exC_r (by decide), exC_r (by decide), exC_r (by decide), exM_r (by decide)]
    exact h4 k hk
  · intro k hk
    unfold bas at *
    rw [exC_r (by decide), exM_r (by decide)]; exact h5 k hk
  · intro k hk
    unfold stf at *
    rw [exC_r (by decide), exM_r (by decide)]; exact h6 k hk
  · unfold lok at *
    rw [exC_r (by decide), exM_r (by decide)]; exact h7
theorem exC_Fc {a b : zMem} (h : Fc a b) {f g : Nat} : Fc (exC a f g) (exC b f g) := by
  intro r hr
  by_cases h12 : r = 12
  · subst h12
    unfold exC
    rw [h 12 (by decide)]
    funext i k
    rw [zwr_app, zwr_app, zwr_app, zwr_app, h 12 (by decide)]
  · rw [exC_r h12, exC_r h12, h r hr]
theorem C_X11_harmsNone (l : Launch) (w : zWd) {m im : zMem} (lv : Int64) (hW : WF m) (hC : RC m im) {f g : Nat} (hf : f < nfl m) (hg : g < nfl m) (hown : ¬ own m f = own m g) : zSpecI l w 6 zyX11_harmsNone [vR 0 0, vR 12 f, vR 12 g] im lv (fun v im' lv' => v = (if hml m f g = true then 1 else 0) ∧ Fc im im' ∧ lv' = lv) := by
  have h12 := hW.1.2
  refine ze_I (by decide) (Nat.le_of_ble_eq_true rfl) (fun x hO hR hN => rX11_harmsNone_0 hO hR hN (by omega) (by omega) ?_)
  obtain ⟨f0, f1, -, f3, f4, f5, f6, -⟩ := hW.2.1 f hf
  obtain ⟨g0, g1, -, g3, g4, g5, g6, -⟩ := hW.2.1 g hg
  obtain ⟨c0, c1, c2, c3, c4, c5, c6, -⟩ := hC.2.1 f hf
  obtain ⟨d0, d1, d2, d3, d4, d5, d6, -⟩ := hC.2.1 g hg
  have hne : ¬ f = g := fun e => hown (by rw [e])
  have eX : ∀ a w, (nI a : Int32) * nI w = nI (a * w) := fun a w => pk_mul a w
  have e10 : ∀ a, (10 : Int32) * nI a = nI (10 * a) := fun a => pk_mul 10 a
  have ef : cost (exM m f g) f = rat m f * dly m g + 10 * way m f := by
    unfold cost
    rw [exM_dly, if_neg hne, if_pos rfl]
    unfold rat way
    rw [exM_r (by decide), exM_r (by decide)]
  have eg : cost (exM m f g) g = rat m g * dly m f + 10 * way m g := by
    unfold cost
    rw [exM_dly, if_pos rfl]
    unfold rat way
    rw [exM_r (by decide), exM_r (by decide)]
  have m1 : rat m f * dly m f ≤ 99 * 4 := Nat.mul_le_mul f3.2 f6.2
  have m2 : rat m f * dly m g ≤ 99 * 4 := Nat.mul_le_mul f3.2 g6.2
  have m3 : rat m g * dly m f ≤ 99 * 4 := Nat.mul_le_mul g3.2 f6.2
  have m4 : rat m g * dly m g ≤ 99 * 4 := Nat.mul_le_mul g3.2 g6.2
  have hml_iff : hml m f g = true ↔ (rat m f * dly m g + 10 * way m f ≤ rat m f * dly m f + 10 * way m f ∧ rat m g * dly m f + 10 * way m g ≤ rat m g * dly m g + 10 * way m g ∧ (rat m f * dly m g + 10 * way m f < rat m f * dly m f + 10 * way m f ∨ rat m g * dly m f + 10 * way m g < rat m g * dly m g + 10 * way m g) ∧ overAll (exM m f g) ≤ overAll m) := by
    unfold hml
    rw [decide_eq_true_iff, ef, eg]
    unfold cost
    exact ⟨fun z => z.2, fun z => ⟨hown, z⟩⟩
  have tail : (rat m f * dly m g + 10 * way m f ≤ rat m f * dly m f + 10 * way m f) → (rat m g * dly m f + 10 * way m g ≤ rat m g * dly m g + 10 * way m g) → (rat m f * dly m g + 10 * way m f < rat m f * dly m f + 10 * way m f ∨ rat m g * dly m f + 10 * way m g < rat m g * dly m g + 10 * way m g) → ∃ P8 : zMem → Int64 → Prop, zSpecV x.2.1 w 5 zyX8_refresh [vR 20 0] im lv P8 ∧ ∀ (im8 : zMem) (lv8 : Int64), P8 im8 lv8 → (∃ P9 : Int32 → zMem → Int64 → Prop, zSpecI x.2.1 w 4 zyX8_tooMuchTogether [vR 20 0] im8 lv8 P9 ∧ ∀ (v9 : Int32) (im9 : zMem) (lv9 : Int64), P9 v9 im9 lv9 → (∃ P11 : zMem → Int64 → Prop, zSpecV x.2.1 w 5 zyX8_refresh [vR 20 0] (exC im9 f g) lv9 P11 ∧ ∀ (im11 : zMem) (lv11 : Int64), P11 im11 lv11 → (∃ P12 : Int32 → zMem → Int64 → Prop, zSpecI x.2.1 w 4 zyX8_tooMuchTogether [vR 20 0] im11 lv11 P12 ∧ ∀ (v12 : Int32) (im12 : zMem) (lv12 : Int64), P12 v12 im12 lv12 → ((v9 < v12 → ((0 : Int32) = (if hml m f g = true then 1 else 0) ∧ Fc im (exC im12 f g) ∧ lv12 = lv)) ∧ (¬ (v9 < v12) → ((1 : Int32) = (if hml m f g = true then 1 else 0) ∧ Fc im (exC im12 f g) ∧ lv12 = lv)))))) := by
    intro t1 t2 t3
    refine ⟨_, C_X8_refresh _ _ _ hW hC, ?_⟩
    rintro im8 lv8 ⟨⟨k1, hS⟩, rfl⟩
    have fc : Fc im im8 := fun r hr => k1 r (by omega)
    refine ⟨_, C_X8_tooMuchTogether _ _ _ hW hS, ?_⟩
    rintro v9 im9 lv9 ⟨rfl, rfl, rfl⟩
    have hW' := exM_WF hW hf hg
    have hC' := exC_RC (fc.rc hC) hf hg
    refine ⟨_, C_X8_refresh _ _ _ hW' hC', ?_⟩
    rintro im11 lv11 ⟨⟨k2, hS2⟩, rfl⟩
    have fc2 : Fc (exC im9 f g) im11 := fun r hr => k2 r (by omega)
    refine ⟨_, C_X8_tooMuchTogether _ _ _ hW' hS2, ?_⟩
    rintro v12 im12 lv12 ⟨rfl, rfl, rfl⟩
    have fc3 : Fc im (exC im12 f g) := by
      have h3 := exC_Fc fc2 (f := f) (g := g)
      rw [exC_exC] at h3
      exact fc.trans h3
    have o1 := overAll_le hW
    have o2 := overAll_le hW'
    rw [nI_ltI (by omega) (by omega)]
    refine ⟨fun z => ⟨?_, fc3, rfl⟩, fun z => ⟨?_, fc3, rfl⟩⟩
    · rw [if_neg (fun y => by have := (hml_iff.mp y).2.2.2; omega)]
    · rw [if_pos (hml_iff.mpr ⟨t1, t2, t3, by omega⟩)]
  rw [c3, c5, c6, d3, d5, d6, eX, eX, eX, eX, e10, e10, nI_add, nI_add, nI_add, nI_add, nI_ltI (by omega) (by omega), nI_ltI (by omega) (by omega), nI_leI (by omega) (by omega), nI_leI (by omega) (by omega)]
  have no : ¬ (rat m f * dly m g + 10 * way m f ≤ rat m f * dly m f + 10 * way m f ∧ rat m g * dly m f + 10 * way m g ≤ rat m g * dly m g + 10 * way m g ∧ (rat m f * dly m g + 10 * way m f < rat m f * dly m f + 10 * way m f ∨ rat m g * dly m f + 10 * way m g < rat m g * dly m g + 10 * way m g)) → (0 : Int32) = (if hml m f g = true then 1 else 0) ∧ Fc im im ∧ lv = lv := fun h => ⟨by rw [if_neg (fun y => h ⟨(hml_iff.mp y).1, (hml_iff.mp y).2.1, (hml_iff.mp y).2.2.1⟩)], Fc.refl, rfl⟩
  refine ⟨fun q => ⟨fun q2 => no (by omega), fun q2 => ⟨fun q3 => no (by omega), fun q3 => no (by omega)⟩⟩, fun q => ⟨fun q2 => ⟨fun q3 => tail (by omega) (by omega) (by omega), fun q3 => ⟨fun q4 => no (by omega), fun q4 => tail (by omega) (by omega) (by omega)⟩⟩, fun q2 => ⟨fun q3 => no (by omega), fun q3 => ⟨fun q4 => no (by omega), fun q4 => no (by omega)⟩⟩⟩⟩
theorem C_X11_harmless (l : Launch) (w : zWd) {m im : zMem} (lv : Int64) (hW : WF m) (hC : RC m im) (x1 x2 : Int32) : zSpecI l w 7 zyX11_harmless [vR 0 0, vI x1, vI x2] im lv (fun v im' lv' => v = aHarm m x1 x2 ∧ Fc im im' ∧ lv' = lv) := by
  refine ze_I (by decide) (Nat.le_of_ble_eq_true rfl) (fun x hO hR hN => rX11_harmless_0 hO hR hN ⟨hC.le hW, ?_⟩)
  have h12 := hW.1.2
  rw [hC.1]
  unfold aHarm
  refine ⟨fun q => ?_, fun q => ⟨fun q2 => ⟨?_, (if_neg (fun z => q z.1)).symm, Fc.refl, rfl⟩, fun q2 => ⟨(if_neg (fun z => q z.1)).symm, Fc.refl, rfl⟩⟩⟩
  · have q' := q
    obtain ⟨f, hf, rfl⟩ := zrx (by omega) q
    have cf : cN (nI f) = f := nI_clamp (by omega)
    rw [show Int32.toNatClampNeg (nI f) = f from cf, cf]
    refine ⟨by omega, fun q2 => ?_, fun q2 => ⟨(if_neg (fun z => q2 z.2.1)).symm, Fc.refl, rfl⟩⟩
    have q2' := q2
    obtain ⟨g, hg, rfl⟩ := zrx (by omega) q2
    have cg : cN (nI g) = g := nI_clamp (by omega)
    obtain ⟨f0, -⟩ := hW.2.1 f hf
    obtain ⟨g0, -⟩ := hW.2.1 g hg
    rw [show Int32.toNatClampNeg (nI g) = g from cg, cg, (hC.2.1 f hf).1, (hC.2.1 g hg).1, nI_eq (by omega) (by omega)]
    refine ⟨by omega, fun q3 => ⟨_, C_X11_harmsNone _ _ _ hW hC hf hg q3, ?_⟩, fun q3 => ⟨(if_neg (fun z => z.2.2 q3)).symm, Fc.refl, rfl⟩⟩
    rintro v5 im5 lv5 ⟨rfl, fc, rfl⟩
    rw [if_pos (c := (0 ≤ nI f ∧ nI f < nI (nfl m)) ∧ (0 ≤ nI g ∧ nI g < nI (nfl m)) ∧ ¬ own m f = own m g) ⟨q', q2', q3⟩]
    refine ⟨fun z => ⟨z.symm, fc, rfl⟩, fun z => ⟨?_, fc, rfl⟩⟩
    by_cases hh : hml m f g = true
    · rw [if_pos hh]
    · rw [if_neg hh] at z; exact absurd rfl z
  · obtain ⟨g, hg, rfl⟩ := zrx (by omega) q2
    rw [nI_clamp (by omega)]
    omega
theorem hml_own {m : zMem} {a b : Nat} (h : own m a = own m b) : ¬ hml m a b = true := by
  unfold hml
  rw [decide_eq_true_iff]
  exact fun z => z.1 h
theorem C_X11_swap (l : Launch) (w : zWd) {m im : zMem} (lv : Int64) (hW : WF m) (hC : RC m im) : zSpecI l w 7 zyX11_swap [vR 0 0] im lv (fun v im' lv' => (match swp m with | none => v = -1000000 ∧ Fc im im' | some q => (q.1 < nfl m ∧ q.2 < nfl m) ∧ v = nI (100 * q.1 + q.2) ∧ Fc (exC im q.1 q.2) im') ∧ lv' = lv) := by
  refine ze_I (by decide) (Nat.le_of_ble_eq_true rfl) (fun x hO hR hN => rX11_swap_0 hO hR hN ?_)
  have h12 := hW.1.2
  have key : ∀ n a (im1 : zMem), n + a = nfl m → Fc im im1 → sw1 m n a = swp m → zW x w 2 [(0, vR 0 0), (1, vI (nI a))] [] im1 lv := by
    intro n
    induction n with
    | zero =>
      intro a im1 ha hf e
      have : a = nfl m := by omega
      subst this
      refine rX11_swap_2 hO hR hN ?_
      rw [(hf.rc hC).1]
      refine ⟨fun _ => ?_, fun q => absurd (Int32.le_refl _) q⟩
      rw [← e]
      exact ⟨⟨rfl, hf⟩, rfl⟩
    | succ n ih =>
      intro a im1 ha hf e
      have key2 : ∀ n2 b (im2 : zMem), n2 + b = nfl m → Fc im im2 → (match sw2 m a n2 b with | some b => some (a, b) | none => sw1 m n (a + 1)) = swp m → zW x w 17 [(0, vR 0 0), (1, vI (nI a)), (2, vI (nI b))] [] im2 lv := by
        intro n2
        induction n2 with
        | zero =>
          intro b im2 hb hf2 e2
          have : b = nfl m := by omega
          subst this
          refine rX11_swap_17 hO hR hN ?_
          rw [(hf2.rc hC).1, nI_1 a]
          exact ⟨fun _ => ih (a + 1) im2 (by omega) hf2 e2, fun q => absurd (Int32.le_refl _) q⟩
        | succ n2 ih2 =>
          intro b im2 hb hf2 e2
          have hC2 := hf2.rc hC
          have hal : a < nfl m := by omega
          have hbl : b < nfl m := by omega
          obtain ⟨f0, -⟩ := hW.2.1 a hal
          obtain ⟨g0, -⟩ := hW.2.1 b hbl
          refine rX11_swap_17 hO hR hN ?_
          rw [hC2.1, nI_clamp (show a < 2 ^ 31 by omega), nI_clamp (show b < 2 ^ 31 by omega), (hC2.2.1 a hal).1, (hC2.2.1 b hbl).1, nI_1 b, nI_leI (by omega) (by omega), nI_eq (by omega) (by omega)]
          rw [sw2] at e2
          refine ⟨fun q => by omega, fun _ => ⟨vp_in_nI (by omega) (by decide), vp_in_nI (by omega) (by decide), fun q => ?_, fun q => ⟨_, C_X11_harmsNone _ _ _ hW hC2 hal hbl q, ?_⟩⟩⟩
          · rw [if_neg (hml_own q)] at e2
            exact ih2 (b + 1) im2 (by omega) hf2 e2
          · rintro v3 im3 lv3 ⟨rfl, fc, rfl⟩
            have hf3 := hf2.trans fc
            by_cases hh : hml m a b = true
            · rw [if_pos hh] at e2 ⊢
              refine ⟨fun z => absurd z (by decide), fun _ => ?_⟩
              rw [← e2]
              exact ⟨⟨⟨hal, hbl⟩, by rw [show (100 : Int32) * nI a = nI (100 * a) from pk_mul 100 a, nI_add], exC_Fc hf3⟩, rfl⟩
            · rw [if_neg hh] at e2 ⊢
              exact ⟨fun _ => ih2 (b + 1) im3 (by omega) hf3 e2, fun z => absurd rfl z⟩
      refine rX11_swap_2 hO hR hN ?_
      rw [(hf.rc hC).1, nI_1 a, nI_leI (by omega) (by omega)]
      exact ⟨fun q => by omega, fun _ => key2 (nfl m - (a + 1)) (a + 1) im1 (by omega) hf e⟩
  exact key (nfl m) 0 im (by omega) Fc.refl rfl
theorem andn {x M : Int32} : (x &&& (M ^^^ (-1)) = 0) ↔ x &&& M = x := by
  have hb : ∀ i, i < 32 → (x &&& (M ^^^ (-1))).toBitVec.getLsbD i = (x.toBitVec.getLsbD i && !M.toBitVec.getLsbD i) := by
    intro i hi
    rw [Int32.toBitVec_and, Int32.toBitVec_xor, BitVec.getLsbD_and, BitVec.getLsbD_xor]
    have : (-1 : Int32).toBitVec = BitVec.allOnes 32 := by decide
    rw [this, BitVec.getLsbD_allOnes]
    simp [hi]
  constructor
  · intro h
    apply Int32.toBitVec_inj.1
    apply BitVec.eq_of_getLsbD_eq
    intro i hi
    have := hb i hi
    rw [h] at this
    rw [Int32.toBitVec_and, BitVec.getLsbD_and]
    have h0 : (0 : Int32).toBitVec.getLsbD i = false := by simp
    rw [h0] at this
    cases hx : x.toBitVec.getLsbD i <;> cases hM : M.toBitVec.getLsbD i <;> simp_all
  · intro h
    apply Int32.toBitVec_inj.1
    apply BitVec.eq_of_getLsbD_eq
    intro i hi
    rw [hb i hi]
    have h0 : (0 : Int32).toBitVec.getLsbD i = false := by simp
    rw [h0]
    have : (x &&& M).toBitVec.getLsbD i = x.toBitVec.getLsbD i := by rw [h]
    rw [Int32.toBitVec_and, BitVec.getLsbD_and] at this
    cases hx : x.toBitVec.getLsbD i <;> cases hM : M.toBitVec.getLsbD i <;> simp_all
theorem C_X1_everyFlight (l : Launch) (w : zWd) {m im : zMem} (lv : Int64) (hW : WF m) (hC : RC m im) : zSpecI l w 2 zyX1_everyFlight [vR 10 0] im lv (fun v im' lv' => v = nI (2 ^ nfl m - 1) ∧ im' = im ∧ lv' = lv) := by
  refine ze_I (by decide) (Nat.le_of_ble_eq_true rfl) (fun x hO hR hN => rX1_everyFlight_0 hO hR hN ⟨?_, rfl, rfl⟩)
  have h12 := hW.1.2
  have hp12 : 2 ^ nfl m ≤ 4096 := Nat.pow_le_pow_right (by decide) h12
  have hp1 : 1 ≤ 2 ^ nfl m := Nat.two_pow_pos _
  have e : (1 : Int32) <<< (nI (nfl m) &&& 31) = nI (1 * 2 ^ nfl m) := pk_shlN (n := 1) _ _ (zsm _ (by omega)) (by omega)
  rw [hC.1, e, Nat.one_mul]
  exact pk_sub (b := 1) hp1
def stC (m : zMem) (s : Nat) (v : Int32) (im im' : zMem) : Prop := (∀ r, ¬ (20 ≤ r ∧ r ≤ 38) → ¬ r = 12 → im' r = im r) ∧ match stR m s with
  | none => v = -1000000 ∧ im' 12 = im 12
  | some q => v = nI q.1 ∧ (∀ g j, ¬ j = 8 → ¬ j = 9 → im' 12 g j = im 12 g j) ∧ (∀ g, g ∉ mbs m s (nfl m) → im' 12 g = im 12 g) ∧ ∀ k, k < (mbs m s (nfl m)).length → im' 12 ((mbs m s (nfl m)).getD k 0) 8 = nI (q.2.getD k 0 / 5) ∧ im' 12 ((mbs m s (nfl m)).getD k 0) 9 = nI (q.2.getD k 0 % 5)
theorem C_X11_settle (l : Launch) (w : zWd) {m im : zMem} (lv : Int64) (hW : WF m) (hC : RC m im) (x1 : Int32) : zSpecI l w 13 zyX11_settle [vR 0 0, vI x1] im lv (fun v im' lv' => ((∃ s, (1 ≤ s ∧ s < 2 ^ nfl m ∧ btN s 12 ≤ 5) ∧ x1 = nI s ∧ stC m s v im im') ∨ ((¬ ∃ s, (1 ≤ s ∧ s < 2 ^ nfl m ∧ btN s 12 ≤ 5) ∧ x1 = nI s) ∧ v = -1000001 ∧ im' = im)) ∧ lv' = lv) := by
  refine ze_I (by decide) (Nat.le_of_ble_eq_true rfl) (fun x hO hR hN => rX11_settle_0 hO hR hN ⟨_, C_X1_everyFlight _ _ _ hW hC, ?_⟩)
  have h12 := hW.1.2
  have hp12 : 2 ^ nfl m ≤ 4096 := Nat.pow_le_pow_right (by decide) h12
  have hp1 : 1 ≤ 2 ^ nfl m := Nat.two_pow_pos _
  rintro v1 im1 lv1 ⟨rfl, rfl, rfl⟩
  have hm : (nI (2 ^ nfl m - 1)).toBitVec.toNat = 2 ^ nfl m - 1 := pk_tn (by omega)
  have hiff : (x1 &&& (nI (2 ^ nfl m - 1) ^^^ (-1)) = 0) ↔ ∃ s, s < 2 ^ nfl m ∧ x1 = nI s := by
    rw [andn, pk_and x1 (nfl m) hm]
    constructor
    · intro h
      exact ⟨_, Nat.mod_lt _ (Nat.two_pow_pos _), h.symm⟩
    · rintro ⟨s, hs, rfl⟩
      rw [pk_tn (by omega), Nat.mod_eq_of_lt hs]
  rw [hiff]
  refine ⟨fun q => ⟨fun _ => ⟨Or.inr ⟨?_, rfl, rfl⟩, rfl⟩, fun _ => ⟨Or.inr ⟨?_, rfl, rfl⟩, rfl⟩⟩, fun q => ⟨fun q2 => ⟨Or.inr ⟨?_, rfl, rfl⟩, rfl⟩, fun q2 => ?_⟩⟩
  · rintro ⟨s, ⟨-, h2, -⟩, e⟩; exact q ⟨s, h2, e⟩
  · rintro ⟨s, ⟨-, h2, -⟩, e⟩; exact q ⟨s, h2, e⟩
  · rintro ⟨s, ⟨h1, h2, -⟩, e⟩
    rw [q2] at e
    exact nI_ne0 (by omega) (by omega) e.symm
  obtain ⟨s, hs, rfl⟩ := q
  have hs1 : 1 ≤ s := by
    rcases Nat.eq_zero_or_pos s with z | z
    · rw [z] at q2; exact absurd rfl q2
    · exact z
  refine ⟨_, C_J6_bitCount _ _ _ _ (n := s) (by omega), ?_⟩
  rintro v2 im2 lv2 ⟨rfl, rfl, rfl⟩
  have hb := btN_le (s := s) 12
  rw [show (5 : Int32) = nI 5 from rfl, nI_leI (by omega) (by omega)]
  refine ⟨fun q5 => ⟨_, C_X8_refresh _ _ _ hW hC, ?_⟩, fun q5 => ⟨Or.inr ⟨?_, rfl, rfl⟩, rfl⟩⟩
  · rintro im3 lv3 ⟨⟨g1, hS⟩, rfl⟩
    have fc : Fc im2 im3 := fun r hr => g1 r (by omega)
    refine ⟨_, C_X6_findChoices _ _ _ hW (fc.rc hC) hS (s := s) (by omega) q5, ?_⟩
    rintro v4 im4 lv4 ⟨⟨rfl, k1, k2, k3, k4⟩, rfl⟩
    have fc4 : Fc im2 im4 := fc.trans (fun r hr => k1 r (by omega))
    have hlen : (mbs m s (nfl m)).length ≤ 5 := by
      rw [mbs_len]
      have := btN_mono (s := s) (i := nfl m) (j := 12 - nfl m)
      rw [show nfl m + (12 - nfl m) = 12 by omega] at this
      omega
    cases hst : stR m s with
    | none =>
      refine ⟨fun _ => ⟨Or.inl ⟨s, ⟨hs1, hs, q5⟩, rfl, fun r h1 _ => fc4 r h1, ?_⟩, rfl⟩, fun z => absurd (if_pos rfl) z⟩
      rw [hst]
      exact ⟨rfl, fc4 12 (by decide)⟩
    | some q =>
      rw [hst] at k4
      refine ⟨fun z => absurd z (by rw [if_neg (by simp)]; decide), fun _ => ⟨_, C_X6_takeChoices _ _ _ hW hlen k2 k3 k4, ?_⟩⟩
      rintro v5 im5 lv5 ⟨⟨rfl, j1, j2, j3, j4⟩, rfl⟩
      refine ⟨Or.inl ⟨s, ⟨hs1, hs, q5⟩, rfl, fun r h1 h2 => (j1 r h2).trans (fc4 r h1), ?_⟩, rfl⟩
      rw [hst]
      have e12 := fc4 12 (by decide)
      exact ⟨rfl, fun g j n8 n9 => by rw [j2 g j n8 n9, e12], fun g hg => by rw [j3 g hg, e12], j4⟩
  · rintro ⟨s', ⟨-, h2, h3⟩, e⟩
    rw [nI_eq (by omega) (by omega)] at e
    subst e
    exact q5 h3
