/-! the class's reader: flights -/
theorem rX2_begin_0 {x : zX} {w : zWd} {im : zMem} {lv : Int64} {P : zMem → Int64 → Prop} {f0 : Nat} (hO : zOK x w zyX2_begin 2) (hR : zRetV x w zyX2_begin P) (hN : zN x 126 126) (hf0 : f0 < 12)
 (h : P (zwr (zwr (zwr im 12 f0 4 0) 12 f0 8 0) 12 f0 9 0) lv) :
 zW x w 0 [(0, vR 12 f0)] [] im lv := by
  refine zi_aload_n hO dX2_begin_0 0 rfl ?_
  refine zi_iconst (v := 0) hO dX2_begin_1 (by decide) ?_
  refine zi_putI hO dX2_begin_2 gX2_24 rfl rfl (zI hf0) ?_
  refine zi_aload_n hO dX2_begin_5 0 rfl ?_
  refine zi_iconst (v := 0) hO dX2_begin_6 (by decide) ?_
  refine zi_putI hO dX2_begin_7 gX2_37 rfl rfl (zI hf0) ?_
  refine zi_aload_n hO dX2_begin_10 0 rfl ?_
  refine zi_iconst (v := 0) hO dX2_begin_11 (by decide) ?_
  refine zi_putI hO dX2_begin_12 gX2_40 rfl rfl (zI hf0) ?_
  exact zr_V hO hR rfl dX2_begin_15 h
theorem rX2_addWay_0 {x : zX} {w : zWd} {im : zMem} {lv : Int64} {P : zMem → Int64 → Prop} {f0 : Nat} (hO : zOK x w zyX2_addWay 2) (hR : zRetV x w zyX2_addWay P) (hN : zN x 126 126) (hf0 : f0 < 12)
 (h : ((3 ≤ (im 12 f0 4) → P im lv) ∧
 (¬ (3 ≤ (im 12 f0 4)) → (vp_in (im 12 f0 4) 3 ∧ P (zwr (zwr im 13 f0 (Int32.toNatClampNeg (im 12 f0 4)) 0) 12 f0 4 ((im 12 f0 4) + 1)) lv)))) :
 zW x w 0 [(0, vR 12 f0)] [] im lv := by
  refine zi_aload_n hO dX2_addWay_0 0 rfl ?_
  refine zi_getI hO dX2_addWay_1 fX2_24 rfl rfl (zI hf0) ?_
  refine zi_iconst (v := 3) hO dX2_addWay_4 (by decide) ?_
  refine zi_icmp_ge (tgt := 28) hO dX2_addWay_5 (by decide) (fun c1 => ?_) (fun c1 => ?_)
  · have h := h.1 c1
    exact zr_V hO hR rfl dX2_addWay_28 h
  · have h := h.2 c1
    refine zi_aload_n hO dX2_addWay_8 0 rfl ?_
    refine zi_getR (r' := 13) (i' := f0) hO dX2_addWay_9 fX2_27 rfl rfl (zI hf0) rfl ?_
    refine zi_aload_n hO dX2_addWay_12 0 rfl ?_
    refine zi_getI hO dX2_addWay_13 fX2_24 rfl rfl (zI hf0) ?_
    refine zi_iconst (v := 0) hO dX2_addWay_16 (by decide) ?_
    obtain ⟨s1, h⟩ := h
    refine zi_iast hO dX2_addWay_17 rfl (zI hf0) s1 ?_
    refine zi_aload_n hO dX2_addWay_18 0 rfl ?_
    refine zi_dup hO dX2_addWay_19 rfl ?_
    refine zi_getI hO dX2_addWay_20 fX2_24 rfl rfl (zI hf0) ?_
    refine zi_iconst (v := 1) hO dX2_addWay_23 (by decide) ?_
    refine zi_iadd hO dX2_addWay_24 ?_
    refine zi_putI hO dX2_addWay_25 gX2_24 rfl rfl (zI hf0) ?_
    exact zr_V hO hR rfl dX2_addWay_28 h
theorem rX2_addLegToLastWay_0 {x : zX} {w : zWd} {im : zMem} {lv : Int64} {P : zMem → Int64 → Prop} {f0 : Nat} {x1 : Int32} {x2 : Int32} (hO : zOK x w zyX2_addLegToLastWay 2) (hR : zRetV x w zyX2_addLegToLastWay P) (hN : zN x 126 126) (hf0 : f0 < 12)
 (h : ((((im 12 f0 4) - 1) < 0 → P im lv) ∧
 (¬ (((im 12 f0 4) - 1) < 0) → (vp_in ((im 12 f0 4) - 1) 3 ∧ (((im 13 f0 (Int32.toNatClampNeg ((im 12 f0 4) - 1))) < 5 → (vp_in ((((im 12 f0 4) - 1) * 5) + (im 13 f0 (Int32.toNatClampNeg ((im 12 f0 4) - 1)))) 15 ∧ P (zwr (zwr (zwr im 14 f0 (Int32.toNatClampNeg ((((im 12 f0 4) - 1) * 5) + (im 13 f0 (Int32.toNatClampNeg ((im 12 f0 4) - 1))))) x1) 15 f0 (Int32.toNatClampNeg ((((im 12 f0 4) - 1) * 5) + (im 13 f0 (Int32.toNatClampNeg ((im 12 f0 4) - 1))))) x2) 13 f0 (Int32.toNatClampNeg ((im 12 f0 4) - 1)) ((im 13 f0 (Int32.toNatClampNeg ((im 12 f0 4) - 1))) + 1)) lv)) ∧
 (¬ ((im 13 f0 (Int32.toNatClampNeg ((im 12 f0 4) - 1))) < 5) → P im lv)))))) :
 zW x w 0 [(0, vR 12 f0), (1, vI x1), (2, vI x2)] [] im lv := by
  refine zi_aload_n hO dX2_addLegToLastWay_0 0 rfl ?_
  refine zi_getI hO dX2_addLegToLastWay_1 fX2_24 rfl rfl (zI hf0) ?_
  refine zi_iconst (v := 1) hO dX2_addLegToLastWay_4 (by decide) ?_
  refine zi_isub hO dX2_addLegToLastWay_5 ?_
  refine zi_istore_n (L' := [(0, vR 12 f0), (1, vI x1), (2, vI x2), (3, vI ((im 12 f0 4) - 1))]) hO dX2_addLegToLastWay_6 (by decide) rfl rfl ?_
  refine zi_iload_n hO dX2_addLegToLastWay_7 3 rfl ?_
  refine zi_if_lt (tgt := 21) hO dX2_addLegToLastWay_8 (by decide) (fun c1 => ?_) (fun c1 => ?_)
  · have h := h.1 c1
    exact zr_V hO hR rfl dX2_addLegToLastWay_21 h
  · have h := h.2 c1
    refine zi_aload_n hO dX2_addLegToLastWay_11 0 rfl ?_
    refine zi_getR (r' := 13) (i' := f0) hO dX2_addLegToLastWay_12 fX2_27 rfl rfl (zI hf0) rfl ?_
    refine zi_iload_n hO dX2_addLegToLastWay_15 3 rfl ?_
    obtain ⟨s1, h⟩ := h
    refine zi_iald hO dX2_addLegToLastWay_16 rfl (zI hf0) s1 ?_
    refine zi_iconst (v := 5) hO dX2_addLegToLastWay_17 (by decide) ?_
    refine zi_icmp_lt (tgt := 22) hO dX2_addLegToLastWay_18 (by decide) (fun c2 => ?_) (fun c2 => ?_)
    · have h := h.1 c2
      refine zi_iload_n hO dX2_addLegToLastWay_22 3 rfl ?_
      refine zi_iconst (v := 5) hO dX2_addLegToLastWay_23 (by decide) ?_
      refine zi_imul hO dX2_addLegToLastWay_24 ?_
      refine zi_aload_n hO dX2_addLegToLastWay_25 0 rfl ?_
      refine zi_getR (r' := 13) (i' := f0) hO dX2_addLegToLastWay_26 fX2_27 rfl rfl (zI hf0) rfl ?_
      refine zi_iload_n hO dX2_addLegToLastWay_29 3 rfl ?_
      refine zi_iald hO dX2_addLegToLastWay_30 rfl (zI hf0) s1 ?_
      refine zi_iadd hO dX2_addLegToLastWay_31 ?_
      refine zi_istore (L' := [(0, vR 12 f0), (1, vI x1), (2, vI x2), (3, vI ((im 12 f0 4) - 1)), (4, vI ((((im 12 f0 4) - 1) * 5) + (im 13 f0 (Int32.toNatClampNeg ((im 12 f0 4) - 1)))))]) hO dX2_addLegToLastWay_32 (by decide) rfl rfl ?_
      refine zi_aload_n hO dX2_addLegToLastWay_34 0 rfl ?_
      refine zi_getR (r' := 14) (i' := f0) hO dX2_addLegToLastWay_35 fX2_31 rfl rfl (zI hf0) rfl ?_
      refine zi_iload hO dX2_addLegToLastWay_38 4 rfl ?_
      refine zi_iload_n hO dX2_addLegToLastWay_40 1 rfl ?_
      obtain ⟨s2, h⟩ := h
      refine zi_iast hO dX2_addLegToLastWay_41 rfl (zI hf0) s2 ?_
      refine zi_aload_n hO dX2_addLegToLastWay_42 0 rfl ?_
      refine zi_getR (r' := 15) (i' := f0) hO dX2_addLegToLastWay_43 fX2_34 rfl rfl (zI hf0) rfl ?_
      refine zi_iload hO dX2_addLegToLastWay_46 4 rfl ?_
      refine zi_iload_n hO dX2_addLegToLastWay_48 2 rfl ?_
      refine zi_iast hO dX2_addLegToLastWay_49 rfl (zI hf0) s2 ?_
      refine zi_aload_n hO dX2_addLegToLastWay_50 0 rfl ?_
      refine zi_getR (r' := 13) (i' := f0) hO dX2_addLegToLastWay_51 fX2_27 rfl rfl (zI hf0) rfl ?_
      refine zi_iload_n hO dX2_addLegToLastWay_54 3 rfl ?_
      refine zi_dup2 hO dX2_addLegToLastWay_55 rfl rfl ?_
      refine zi_iald hO dX2_addLegToLastWay_56 rfl (zI hf0) s1 ?_
      refine zi_iconst (v := 1) hO dX2_addLegToLastWay_57 (by decide) ?_
      refine zi_iadd hO dX2_addLegToLastWay_58 ?_
      refine zi_iast hO dX2_addLegToLastWay_59 rfl (zI hf0) s1 ?_
      exact zr_V hO hR rfl dX2_addLegToLastWay_60 h
    · have h := h.2 c2
      exact zr_V hO hR rfl dX2_addLegToLastWay_21 h
theorem C_X2_begin (l : Launch) (w : zWd) (im : zMem) (lv : Int64) {f : Nat} (hf : f < 12) : zSpecV l w 2 zyX2_begin [vR 12 f] im lv (fun im' lv' => im' = zwr (zwr (zwr im 12 f 4 0) 12 f 8 0) 12 f 9 0 ∧ lv' = lv) :=
  ze_V (by decide) (Nat.le_of_ble_eq_true rfl) (fun x hO hR hN => rX2_begin_0 hO hR hN hf ⟨rfl, rfl⟩)
theorem C_X2_addWay (l : Launch) (w : zWd) {im : zMem} (lv : Int64) {f i : Nat} (hf : f < 12) (h4 : im 12 f 4 = nI i) (hi : i < 3) : zSpecV l w 2 zyX2_addWay [vR 12 f] im lv (fun im' lv' => im' = zwr (zwr im 13 f i 0) 12 f 4 (nI (i + 1)) ∧ lv' = lv) := by
  refine ze_V (by decide) (Nat.le_of_ble_eq_true rfl) (fun x hO hR hN => rX2_addWay_0 hO hR hN hf ?_)
  rw [h4, nI_clamp (show i < 2 ^ 31 by omega), nI_1]
  exact ⟨fun q => absurd q (nI_ge (b := 3) hi (by decide)), fun _ => ⟨vp_in_nI hi (by decide), rfl, rfl⟩⟩
theorem C_X2_addLeg (l : Launch) (w : zWd) {im : zMem} (lv : Int64) {f wy c : Nat} (hf : f < 12) (h4 : im 12 f 4 = nI (wy + 1)) (hwy : wy < 3) (h13 : im 13 f wy = nI c) (hc : c < 5) {x1 x2 : Int32} : zSpecV l w 2 zyX2_addLegToLastWay [vR 12 f, vI x1, vI x2] im lv (fun im' lv' => im' = zwr (zwr (zwr im 14 f (wy * 5 + c) x1) 15 f (wy * 5 + c) x2) 13 f wy (nI (c + 1)) ∧ lv' = lv) := by
  refine ze_V (by decide) (Nat.le_of_ble_eq_true rfl) (fun x hO hR hN => rX2_addLegToLastWay_0 hO hR hN hf ?_)
  rw [h4, nI_pred, nI_clamp (show wy < 2 ^ 31 by omega), h13, show nI wy * 5 = nI (wy * 5) from pk_mul wy 5, nI_add, nI_clamp (show wy * 5 + c < 2 ^ 31 by omega), nI_1]
  exact ⟨fun q => absurd q (nI_pos (by omega)), fun _ => ⟨vp_in_nI hwy (by decide), fun _ => ⟨vp_in_nI (by omega) (by decide), rfl, rfl⟩, fun q => absurd (nI_lt (b := 5) hc (by decide)) q⟩⟩
theorem rX5_readLegs_0 {x : zX} {w : zWd} {im : zMem} {lv : Int64} {P : zMem → Int64 → Prop} {f1 : Nat} (hO : zOK x w zyX5_readLegs 5) (hR : zRetV x w zyX5_readLegs P) (hN : zN x 126 126) (hf1 : f1 < 12)
 (h : zW x w 4 [(0, vR 18 0), (1, vR 12 f1), (2, vI 1), (3, vI 0)] [] im lv) :
 zW x w 0 [(0, vR 18 0), (1, vR 12 f1)] [] im lv := by
  refine zi_iconst (v := 1) hO dX5_readLegs_0 (by decide) ?_
  refine zi_istore_n (L' := [(0, vR 18 0), (1, vR 12 f1), (2, vI 1)]) hO dX5_readLegs_1 (by decide) rfl rfl ?_
  refine zi_iconst (v := 0) hO dX5_readLegs_2 (by decide) ?_
  refine zi_istore_n (L' := [(0, vR 18 0), (1, vR 12 f1), (2, vI 1), (3, vI 0)]) hO dX5_readLegs_3 (by decide) rfl rfl ?_
  exact h
theorem rX5_readLegs_4 {x : zX} {w : zWd} {im : zMem} {lv : Int64} {P : zMem → Int64 → Prop} {f1 : Nat} {x2 : Int32} {x3 : Int32} (hO : zOK x w zyX5_readLegs 5) (hR : zRetV x w zyX5_readLegs P) (hN : zN x 126 126) (hf1 : f1 < 12)
 (h : ((5 ≤ x3 → ((x2 = 0 → P im lv) ∧
 (¬ (x2 = 0) → (∃ P1 : zMem → Int64 → Prop, zSpecV x.2.1 w 2 zyX5_stopAt [vR 18 0, vI 3] im lv P1 ∧ ∀ (im1 : zMem) (lv1 : Int64), P1 im1 lv1 → P im1 lv1)))) ∧
 (¬ (5 ≤ x3) → ((x2 = 0 → P im lv) ∧
 (¬ (x2 = 0) → (∃ P2 : zMem → Int64 → Prop, zSpecV x.2.1 w 3 zyX10_advance [vR 16 0] im lv P2 ∧ ∀ (im2 : zMem) (lv2 : Int64), P2 im2 lv2 → (∃ P3 : Int32 → zMem → Int64 → Prop, zSpecI x.2.1 w 4 zyX5_readNumber [vR 18 0, vI 0, vI 7] im2 lv2 P3 ∧ ∀ (v3 : Int32) (im3 : zMem) (lv3 : Int64), P3 v3 im3 lv3 → (∃ P4 : Int32 → zMem → Int64 → Prop, zSpecI x.2.1 w 4 zyX5_readNumber [vR 18 0, vI 1, vI 4] im3 lv3 P4 ∧ ∀ (v4 : Int32) (im4 : zMem) (lv4 : Int64), P4 v4 im4 lv4 → (∃ P5 : zMem → Int64 → Prop, zSpecV x.2.1 w 2 zyX2_addLegToLastWay [vR 12 f1, vI v3, vI v4] im4 lv4 P5 ∧ ∀ (im5 : zMem) (lv5 : Int64), P5 im5 lv5 → ((¬ ((im5 18 0 6) = 0) → zW x w 4 [(0, vR 18 0), (1, vR 12 f1), (2, vI 0), (3, vI (x3 + 1))] [] im5 lv5) ∧
 ((im5 18 0 6) = 0 → ((¬ ((im5 16 0 3) = 3) → zW x w 4 [(0, vR 18 0), (1, vR 12 f1), (2, vI 0), (3, vI (x3 + 1))] [] im5 lv5) ∧
 ((im5 16 0 3) = 3 → zW x w 4 [(0, vR 18 0), (1, vR 12 f1), (2, vI 1), (3, vI (x3 + 1))] [] im5 lv5))))))))))))) :
 zW x w 4 [(0, vR 18 0), (1, vR 12 f1), (2, vI x2), (3, vI x3)] [] im lv := by
  refine zi_iload_n hO dX5_readLegs_4 3 rfl ?_
  refine zi_iconst (v := 5) hO dX5_readLegs_5 (by decide) ?_
  refine zi_icmp_ge (tgt := 75) hO dX5_readLegs_6 (by decide) (fun c1 => ?_) (fun c1 => ?_)
  · have h := h.1 c1
    refine zi_iload_n hO dX5_readLegs_75 2 rfl ?_
    refine zi_if_eq (tgt := 84) hO dX5_readLegs_76 (by decide) (fun c2 => ?_) (fun c2 => ?_)
    · have h := h.1 c2
      exact zr_V hO hR rfl dX5_readLegs_84 h
    · have h := h.2 c2
      refine zi_aload_n hO dX5_readLegs_79 0 rfl ?_
      refine zi_iconst (v := 3) hO dX5_readLegs_80 (by decide) ?_
      obtain ⟨P1, hM1, h⟩ := h
      refine zc_VV (as := [vI 3]) hO hN dX5_readLegs_81 kX5_83 (by decide) rfl (zI (by decide)) rfl rfl (Nat.le_of_ble_eq_true rfl) rfl rfl hM1 (fun im1 lv1 hp1 => ?_)
      replace h := h im1 lv1 hp1
      exact zr_V hO hR rfl dX5_readLegs_84 h
  · have h := h.2 c1
    refine zi_iload_n hO dX5_readLegs_9 2 rfl ?_
    refine zi_if_eq (tgt := 75) hO dX5_readLegs_10 (by decide) (fun c3 => ?_) (fun c3 => ?_)
    · have h := h.1 c3
      refine zi_iload_n hO dX5_readLegs_75 2 rfl ?_
      refine zi_if_eq (tgt := 84) hO dX5_readLegs_76 (by decide) (fun _ => ?_) (fun c4 => absurd c3 c4)
      exact zr_V hO hR rfl dX5_readLegs_84 h
    · have h := h.2 c3
      refine zi_aload_n hO dX5_readLegs_13 0 rfl ?_
      refine zi_getR (r' := 16) (i' := 0) hO dX5_readLegs_14 fX5_28 rfl rfl (zI (by decide)) rfl ?_
      obtain ⟨P2, hM2, h⟩ := h
      refine zc_VV (as := []) hO hN dX5_readLegs_17 kX5_100 (by decide) rfl (zI (by decide)) rfl rfl (Nat.le_of_ble_eq_true rfl) rfl rfl hM2 (fun im2 lv2 hp2 => ?_)
      replace h := h im2 lv2 hp2
      refine zi_aload_n hO dX5_readLegs_20 0 rfl ?_
      refine zi_iconst (v := 0) hO dX5_readLegs_21 (by decide) ?_
      refine zi_bipush (v := 7) hO dX5_readLegs_22 (by decide) ?_
      obtain ⟨P3, hM3, h⟩ := h
      refine zc_VI (as := [vI 0, vI 7]) hO hN dX5_readLegs_24 kX5_103 (by decide) rfl (zI (by decide)) rfl rfl (Nat.le_of_ble_eq_true rfl) rfl rfl hM3 (fun v3 im3 lv3 hp3 => ?_)
      replace h := h v3 im3 lv3 hp3
      refine zi_istore (L' := [(0, vR 18 0), (1, vR 12 f1), (2, vI x2), (3, vI x3), (4, vI v3)]) hO dX5_readLegs_27 (by decide) rfl rfl ?_
      refine zi_aload_n hO dX5_readLegs_29 0 rfl ?_
      refine zi_iconst (v := 1) hO dX5_readLegs_30 (by decide) ?_
      refine zi_iconst (v := 4) hO dX5_readLegs_31 (by decide) ?_
      obtain ⟨P4, hM4, h⟩ := h
      refine zc_VI (as := [vI 1, vI 4]) hO hN dX5_readLegs_32 kX5_103 (by decide) rfl (zI (by decide)) rfl rfl (Nat.le_of_ble_eq_true rfl) rfl rfl hM4 (fun v4 im4 lv4 hp4 => ?_)
      replace h := h v4 im4 lv4 hp4
      refine zi_istore (L' := [(0, vR 18 0), (1, vR 12 f1), (2, vI x2), (3, vI x3), (4, vI v3), (5, vI v4)]) hO dX5_readLegs_35 (by decide) rfl rfl ?_
      refine zi_aload_n hO dX5_readLegs_37 1 rfl ?_
      refine zi_iload hO dX5_readLegs_38 4 rfl ?_
      refine zi_iload hO dX5_readLegs_40 5 rfl ?_
      obtain ⟨P5, hM5, h⟩ := h
      refine zc_VV (as := [vI v3, vI v4]) hO hN dX5_readLegs_42 kX5_134 (by decide) rfl (zI hf1) rfl rfl (Nat.le_of_ble_eq_true rfl) rfl rfl hM5 (fun im5 lv5 hp5 => ?_)
      replace h := h im5 lv5 hp5
      refine zi_aload_n hO dX5_readLegs_45 0 rfl ?_
      refine zi_getI hO dX5_readLegs_46 fX5_22 rfl rfl (zI (by decide)) ?_
      refine zi_if_ne (tgt := 67) hO dX5_readLegs_49 (by decide) (fun c5 => ?_) (fun c5 => ?_)
      · have h := h.1 c5
        refine zi_iconst (v := 0) hO dX5_readLegs_67 (by decide) ?_
        refine zi_istore_n (L' := [(0, vR 18 0), (1, vR 12 f1), (2, vI 0), (3, vI x3), (4, vI v3), (5, vI v4)]) hO dX5_readLegs_68 (by decide) rfl rfl ?_
        refine zi_iinc (v' := (x3 + 1)) (L' := [(0, vR 18 0), (1, vR 12 f1), (2, vI 0), (3, vI (x3 + 1)), (4, vI v3), (5, vI v4)]) hO dX5_readLegs_69 3 rfl rfl (by decide) rfl rfl ?_
        refine zi_goto (tgt := 4) hO dX5_readLegs_72 (by decide) ?_
        refine zi_pick (L' := [(0, vR 18 0), (1, vR 12 f1), (2, vI 0), (3, vI (x3 + 1))]) [0, 1, 2, 3] rfl ?_
        exact h
      · have h := h.2 c5
        refine zi_aload_n hO dX5_readLegs_52 0 rfl ?_
        refine zi_getR (r' := 16) (i' := 0) hO dX5_readLegs_53 fX5_28 rfl rfl (zI (by decide)) rfl ?_
        refine zi_getI hO dX5_readLegs_56 fX5_61 rfl rfl (zI (by decide)) ?_
        refine zi_iconst (v := 3) hO dX5_readLegs_59 (by decide) ?_
        refine zi_icmp_ne (tgt := 67) hO dX5_readLegs_60 (by decide) (fun c6 => ?_) (fun c6 => ?_)
        · have h := h.1 c6
          refine zi_iconst (v := 0) hO dX5_readLegs_67 (by decide) ?_
          refine zi_istore_n (L' := [(0, vR 18 0), (1, vR 12 f1), (2, vI 0), (3, vI x3), (4, vI v3), (5, vI v4)]) hO dX5_readLegs_68 (by decide) rfl rfl ?_
          refine zi_iinc (v' := (x3 + 1)) (L' := [(0, vR 18 0), (1, vR 12 f1), (2, vI 0), (3, vI (x3 + 1)), (4, vI v3), (5, vI v4)]) hO dX5_readLegs_69 3 rfl rfl (by decide) rfl rfl ?_
          refine zi_goto (tgt := 4) hO dX5_readLegs_72 (by decide) ?_
          refine zi_pick (L' := [(0, vR 18 0), (1, vR 12 f1), (2, vI 0), (3, vI (x3 + 1))]) [0, 1, 2, 3] rfl ?_
          exact h
        · have h := h.2 c6
          refine zi_iconst (v := 1) hO dX5_readLegs_63 (by decide) ?_
          refine zi_goto (tgt := 68) hO dX5_readLegs_64 (by decide) ?_
          refine zi_istore_n (L' := [(0, vR 18 0), (1, vR 12 f1), (2, vI 1), (3, vI x3), (4, vI v3), (5, vI v4)]) hO dX5_readLegs_68 (by decide) rfl rfl ?_
          refine zi_iinc (v' := (x3 + 1)) (L' := [(0, vR 18 0), (1, vR 12 f1), (2, vI 1), (3, vI (x3 + 1)), (4, vI v3), (5, vI v4)]) hO dX5_readLegs_69 3 rfl rfl (by decide) rfl rfl ?_
          refine zi_goto (tgt := 4) hO dX5_readLegs_72 (by decide) ?_
          refine zi_pick (L' := [(0, vR 18 0), (1, vR 12 f1), (2, vI 1), (3, vI (x3 + 1))]) [0, 1, 2, 3] rfl ?_
          exact h
theorem rX5_readWays_0 {x : zX} {w : zWd} {im : zMem} {lv : Int64} {P : zMem → Int64 → Prop} {f1 : Nat} (hO : zOK x w zyX5_readWays 6) (hR : zRetV x w zyX5_readWays P) (hN : zN x 126 126) (hf1 : f1 < 12)
 (h : (((im 16 0 3) = 1 ∧ (lg_cmp lv (7823737 : Int64)) = 0 → ((¬ ((im 18 0 6) = 0) → zW x w 33 [(0, vR 18 0), (1, vR 12 f1), (2, vI 0), (3, vI 0)] [] im lv) ∧
 ((im 18 0 6) = 0 → zW x w 33 [(0, vR 18 0), (1, vR 12 f1), (2, vI 1), (3, vI 0)] [] im lv))) ∧
 (¬ ((im 16 0 3) = 1 ∧ (lg_cmp lv (7823737 : Int64)) = 0) → (∃ P2 : zMem → Int64 → Prop, zSpecV x.2.1 w 2 zyX5_stopAt [vR 18 0, vI 1] im lv P2 ∧ ∀ (im2 : zMem) (lv2 : Int64), P2 im2 lv2 → ((¬ ((im2 18 0 6) = 0) → zW x w 33 [(0, vR 18 0), (1, vR 12 f1), (2, vI 0), (3, vI 0)] [] im2 lv2) ∧
 ((im2 18 0 6) = 0 → zW x w 33 [(0, vR 18 0), (1, vR 12 f1), (2, vI 1), (3, vI 0)] [] im2 lv2)))))) :
 zW x w 0 [(0, vR 18 0), (1, vR 12 f1)] [] im lv := by
  refine zi_aload_n hO dX5_readWays_0 0 rfl ?_
  refine zi_getR (r' := 16) (i' := 0) hO dX5_readWays_1 fX5_28 rfl rfl (zI (by decide)) rfl ?_
  refine zi_ldc2 (v := 7823737) hO dX5_readWays_4 nX5_126 ?_
  refine zc_VI (as := [vL (7823737 : Int64)]) hO hN dX5_readWays_7 kX5_66 (by decide) rfl (zI (by decide)) rfl rfl (Nat.le_of_ble_eq_true rfl) rfl rfl (C_X10_isName _ _ _ _) (fun v1 im1 lv1 hp1 => ?_)
  rw [hp1.1, hp1.2.1, hp1.2.2]
  refine zi_if_ne (tgt := 18) hO dX5_readWays_10 (by decide) (fun c1 => ?_) (fun c1 => ?_)
  · have h := h.1 (vB_1.mp (vB_01.resolve_left c1))
    refine zi_aload_n hO dX5_readWays_18 0 rfl ?_
    refine zi_getI hO dX5_readWays_19 fX5_22 rfl rfl (zI (by decide)) ?_
    refine zi_if_ne (tgt := 29) hO dX5_readWays_22 (by decide) (fun c2 => ?_) (fun c2 => ?_)
    · have h := h.1 c2
      refine zi_iconst (v := 0) hO dX5_readWays_29 (by decide) ?_
      refine zi_istore_n (L' := [(0, vR 18 0), (1, vR 12 f1), (2, vI 0)]) hO dX5_readWays_30 (by decide) rfl rfl ?_
      refine zi_iconst (v := 0) hO dX5_readWays_31 (by decide) ?_
      refine zi_istore_n (L' := [(0, vR 18 0), (1, vR 12 f1), (2, vI 0), (3, vI 0)]) hO dX5_readWays_32 (by decide) rfl rfl ?_
      exact h
    · have h := h.2 c2
      refine zi_iconst (v := 1) hO dX5_readWays_25 (by decide) ?_
      refine zi_goto (tgt := 30) hO dX5_readWays_26 (by decide) ?_
      refine zi_istore_n (L' := [(0, vR 18 0), (1, vR 12 f1), (2, vI 1)]) hO dX5_readWays_30 (by decide) rfl rfl ?_
      refine zi_iconst (v := 0) hO dX5_readWays_31 (by decide) ?_
      refine zi_istore_n (L' := [(0, vR 18 0), (1, vR 12 f1), (2, vI 1), (3, vI 0)]) hO dX5_readWays_32 (by decide) rfl rfl ?_
      exact h
  · have h := h.2 (vB_0.mp c1)
    refine zi_aload_n hO dX5_readWays_13 0 rfl ?_
    refine zi_iconst (v := 1) hO dX5_readWays_14 (by decide) ?_
    obtain ⟨P2, hM2, h⟩ := h
    refine zc_VV (as := [vI 1]) hO hN dX5_readWays_15 kX5_83 (by decide) rfl (zI (by decide)) rfl rfl (Nat.le_of_ble_eq_true rfl) rfl rfl hM2 (fun im2 lv2 hp2 => ?_)
    replace h := h im2 lv2 hp2
    refine zi_aload_n hO dX5_readWays_18 0 rfl ?_
    refine zi_getI hO dX5_readWays_19 fX5_22 rfl rfl (zI (by decide)) ?_
    refine zi_if_ne (tgt := 29) hO dX5_readWays_22 (by decide) (fun c3 => ?_) (fun c3 => ?_)
    · have h := h.1 c3
      refine zi_iconst (v := 0) hO dX5_readWays_29 (by decide) ?_
      refine zi_istore_n (L' := [(0, vR 18 0), (1, vR 12 f1), (2, vI 0)]) hO dX5_readWays_30 (by decide) rfl rfl ?_
      refine zi_iconst (v := 0) hO dX5_readWays_31 (by decide) ?_
      refine zi_istore_n (L' := [(0, vR 18 0), (1, vR 12 f1), (2, vI 0), (3, vI 0)]) hO dX5_readWays_32 (by decide) rfl rfl ?_
      exact h
    · have h := h.2 c3
      refine zi_iconst (v := 1) hO dX5_readWays_25 (by decide) ?_
      refine zi_goto (tgt := 30) hO dX5_readWays_26 (by decide) ?_
      refine zi_istore_n (L' := [(0, vR 18 0), (1, vR 12 f1), (2, vI 1)]) hO dX5_readWays_30 (by decide) rfl rfl ?_
      refine zi_iconst (v := 0) hO dX5_readWays_31 (by decide) ?_
      refine zi_istore_n (L' := [(0, vR 18 0), (1, vR 12 f1), (2, vI 1), (3, vI 0)]) hO dX5_readWays_32 (by decide) rfl rfl ?_
      exact h
theorem rX5_readWays_33 {x : zX} {w : zWd} {im : zMem} {lv : Int64} {P : zMem → Int64 → Prop} {f1 : Nat} {x2 : Int32} {x3 : Int32} (hO : zOK x w zyX5_readWays 6) (hR : zRetV x w zyX5_readWays P) (hN : zN x 126 126) (hf1 : f1 < 12)
 (h : ((3 ≤ x3 → ((x2 = 0 → P im lv) ∧
 (¬ (x2 = 0) → (∃ P1 : zMem → Int64 → Prop, zSpecV x.2.1 w 2 zyX5_stopAt [vR 18 0, vI 3] im lv P1 ∧ ∀ (im1 : zMem) (lv1 : Int64), P1 im1 lv1 → P im1 lv1)))) ∧
 (¬ (3 ≤ x3) → ((x2 = 0 → P im lv) ∧
 (¬ (x2 = 0) → (∃ P2 : zMem → Int64 → Prop, zSpecV x.2.1 w 2 zyX2_addWay [vR 12 f1] im lv P2 ∧ ∀ (im2 : zMem) (lv2 : Int64), P2 im2 lv2 → (∃ P3 : zMem → Int64 → Prop, zSpecV x.2.1 w 5 zyX5_readLegs [vR 18 0, vR 12 f1] im2 lv2 P3 ∧ ∀ (im3 : zMem) (lv3 : Int64), P3 im3 lv3 → ((¬ ((im3 18 0 6) = 0) → zW x w 33 [(0, vR 18 0), (1, vR 12 f1), (2, vI 0), (3, vI (x3 + 1))] [] im3 lv3) ∧
 ((im3 18 0 6) = 0 → ((¬ ((im3 16 0 3) = 1 ∧ (lg_cmp lv3 (7823737 : Int64)) = 0) → zW x w 33 [(0, vR 18 0), (1, vR 12 f1), (2, vI 0), (3, vI (x3 + 1))] [] im3 lv3) ∧
 ((im3 16 0 3) = 1 ∧ (lg_cmp lv3 (7823737 : Int64)) = 0 → zW x w 33 [(0, vR 18 0), (1, vR 12 f1), (2, vI 1), (3, vI (x3 + 1))] [] im3 lv3))))))))))) :
 zW x w 33 [(0, vR 18 0), (1, vR 12 f1), (2, vI x2), (3, vI x3)] [] im lv := by
  refine zi_iload_n hO dX5_readWays_33 3 rfl ?_
  refine zi_iconst (v := 3) hO dX5_readWays_34 (by decide) ?_
  refine zi_icmp_ge (tgt := 83) hO dX5_readWays_35 (by decide) (fun c1 => ?_) (fun c1 => ?_)
  · have h := h.1 c1
    refine zi_iload_n hO dX5_readWays_83 2 rfl ?_
    refine zi_if_eq (tgt := 92) hO dX5_readWays_84 (by decide) (fun c2 => ?_) (fun c2 => ?_)
    · have h := h.1 c2
      exact zr_V hO hR rfl dX5_readWays_92 h
    · have h := h.2 c2
      refine zi_aload_n hO dX5_readWays_87 0 rfl ?_
      refine zi_iconst (v := 3) hO dX5_readWays_88 (by decide) ?_
      obtain ⟨P1, hM1, h⟩ := h
      refine zc_VV (as := [vI 3]) hO hN dX5_readWays_89 kX5_83 (by decide) rfl (zI (by decide)) rfl rfl (Nat.le_of_ble_eq_true rfl) rfl rfl hM1 (fun im1 lv1 hp1 => ?_)
      replace h := h im1 lv1 hp1
      exact zr_V hO hR rfl dX5_readWays_92 h
  · have h := h.2 c1
    refine zi_iload_n hO dX5_readWays_38 2 rfl ?_
    refine zi_if_eq (tgt := 83) hO dX5_readWays_39 (by decide) (fun c3 => ?_) (fun c3 => ?_)
    · have h := h.1 c3
      refine zi_iload_n hO dX5_readWays_83 2 rfl ?_
      refine zi_if_eq (tgt := 92) hO dX5_readWays_84 (by decide) (fun _ => ?_) (fun c4 => absurd c3 c4)
      exact zr_V hO hR rfl dX5_readWays_92 h
    · have h := h.2 c3
      refine zi_aload_n hO dX5_readWays_42 1 rfl ?_
      obtain ⟨P2, hM2, h⟩ := h
      refine zc_VV (as := []) hO hN dX5_readWays_43 kX5_128 (by decide) rfl (zI hf1) rfl rfl (Nat.le_of_ble_eq_true rfl) rfl rfl hM2 (fun im2 lv2 hp2 => ?_)
      replace h := h im2 lv2 hp2
      refine zi_aload_n hO dX5_readWays_46 0 rfl ?_
      refine zi_aload_n hO dX5_readWays_47 1 rfl ?_
      obtain ⟨P3, hM3, h⟩ := h
      refine zc_VV (as := [vR 12 f1]) hO hN dX5_readWays_48 kX5_131 (by decide) rfl (zI (by decide)) rfl rfl (Nat.le_of_ble_eq_true rfl) rfl rfl hM3 (fun im3 lv3 hp3 => ?_)
      replace h := h im3 lv3 hp3
      refine zi_aload_n hO dX5_readWays_51 0 rfl ?_
      refine zi_getI hO dX5_readWays_52 fX5_22 rfl rfl (zI (by decide)) ?_
      refine zi_if_ne (tgt := 75) hO dX5_readWays_55 (by decide) (fun c5 => ?_) (fun c5 => ?_)
      · have h := h.1 c5
        refine zi_iconst (v := 0) hO dX5_readWays_75 (by decide) ?_
        refine zi_istore_n (L' := [(0, vR 18 0), (1, vR 12 f1), (2, vI 0), (3, vI x3)]) hO dX5_readWays_76 (by decide) rfl rfl ?_
        refine zi_iinc (v' := (x3 + 1)) (L' := [(0, vR 18 0), (1, vR 12 f1), (2, vI 0), (3, vI (x3 + 1))]) hO dX5_readWays_77 3 rfl rfl (by decide) rfl rfl ?_
        refine zi_goto (tgt := 33) hO dX5_readWays_80 (by decide) ?_
        exact h
      · have h := h.2 c5
        refine zi_aload_n hO dX5_readWays_58 0 rfl ?_
        refine zi_getR (r' := 16) (i' := 0) hO dX5_readWays_59 fX5_28 rfl rfl (zI (by decide)) rfl ?_
        refine zi_ldc2 (v := 7823737) hO dX5_readWays_62 nX5_126 ?_
        refine zc_VI (as := [vL (7823737 : Int64)]) hO hN dX5_readWays_65 kX5_66 (by decide) rfl (zI (by decide)) rfl rfl (Nat.le_of_ble_eq_true rfl) rfl rfl (C_X10_isName _ _ _ _) (fun v4 im4 lv4 hp4 => ?_)
        rw [hp4.1, hp4.2.1, hp4.2.2]
        refine zi_if_eq (tgt := 75) hO dX5_readWays_68 (by decide) (fun c6 => ?_) (fun c6 => ?_)
        · have h := h.1 (vB_0.mp c6)
          refine zi_iconst (v := 0) hO dX5_readWays_75 (by decide) ?_
          refine zi_istore_n (L' := [(0, vR 18 0), (1, vR 12 f1), (2, vI 0), (3, vI x3)]) hO dX5_readWays_76 (by decide) rfl rfl ?_
          refine zi_iinc (v' := (x3 + 1)) (L' := [(0, vR 18 0), (1, vR 12 f1), (2, vI 0), (3, vI (x3 + 1))]) hO dX5_readWays_77 3 rfl rfl (by decide) rfl rfl ?_
          refine zi_goto (tgt := 33) hO dX5_readWays_80 (by decide) ?_
          exact h
        · have h := h.2 (vB_1.mp (vB_01.resolve_left c6))
          refine zi_iconst (v := 1) hO dX5_readWays_71 (by decide) ?_
          refine zi_goto (tgt := 76) hO dX5_readWays_72 (by decide) ?_
          refine zi_istore_n (L' := [(0, vR 18 0), (1, vR 12 f1), (2, vI 1), (3, vI x3)]) hO dX5_readWays_76 (by decide) rfl rfl ?_
          refine zi_iinc (v' := (x3 + 1)) (L' := [(0, vR 18 0), (1, vR 12 f1), (2, vI 1), (3, vI (x3 + 1))]) hO dX5_readWays_77 3 rfl rfl (by decide) rfl rfl ?_
          refine zi_goto (tgt := 33) hO dX5_readWays_80 (by decide) ?_
          exact h
theorem rX5_readFlight_0 {x : zX} {w : zWd} {im : zMem} {lv : Int64} {P : zMem → Int64 → Prop} (hO : zOK x w zyX5_readFlight 7) (hR : zRetV x w zyX5_readFlight P) (hN : zN x 126 126)
 (h : (((im 18 0 4) < 12 → (vp_in (im 18 0 4) 12 ∧ (∃ P3 : zMem → Int64 → Prop, zSpecV x.2.1 w 3 zyX10_advance [vR 16 0] (zwr (zwr (zwr im 12 (Int32.toNatClampNeg (im 18 0 4)) 4 0) 12 (Int32.toNatClampNeg (im 18 0 4)) 8 0) 12 (Int32.toNatClampNeg (im 18 0 4)) 9 0) lv P3 ∧ ∀ (im3 : zMem) (lv3 : Int64), P3 im3 lv3 → (∃ P4 : Int32 → zMem → Int64 → Prop, zSpecI x.2.1 w 4 zyX5_readNumber [vR 18 0, vI 0, vI 3] im3 lv3 P4 ∧ ∀ (v4 : Int32) (im4 : zMem) (lv4 : Int64), P4 v4 im4 lv4 → (∃ P5 : Int32 → zMem → Int64 → Prop, zSpecI x.2.1 w 4 zyX5_readNumber [vR 18 0, vI 1, vI 9] (zwr im4 12 (Int32.toNatClampNeg (im 18 0 4)) 0 v4) lv4 P5 ∧ ∀ (v5 : Int32) (im5 : zMem) (lv5 : Int64), P5 v5 im5 lv5 → (∃ P6 : Int32 → zMem → Int64 → Prop, zSpecI x.2.1 w 4 zyX5_readNumber [vR 18 0, vI 0, vI 40] (zwr im5 12 (Int32.toNatClampNeg (im 18 0 4)) 1 v5) lv5 P6 ∧ ∀ (v6 : Int32) (im6 : zMem) (lv6 : Int64), P6 v6 im6 lv6 → (∃ P7 : Int32 → zMem → Int64 → Prop, zSpecI x.2.1 w 4 zyX5_readNumber [vR 18 0, vI 0, vI 99] (zwr im6 12 (Int32.toNatClampNeg (im 18 0 4)) 2 v6) lv6 P7 ∧ ∀ (v7 : Int32) (im7 : zMem) (lv7 : Int64), P7 v7 im7 lv7 → (∃ P8 : zMem → Int64 → Prop, zSpecV x.2.1 w 6 zyX5_readWays [vR 18 0, vR 12 (Int32.toNatClampNeg (im 18 0 4))] (zwr im7 12 (Int32.toNatClampNeg (im 18 0 4)) 3 v7) lv7 P8 ∧ ∀ (im8 : zMem) (lv8 : Int64), P8 im8 lv8 → (∃ P9 : zMem → Int64 → Prop, zSpecV x.2.1 w 4 zyX5_readSemicolon [vR 18 0] im8 lv8 P9 ∧ ∀ (im9 : zMem) (lv9 : Int64), P9 im9 lv9 → P (zwr im9 18 0 4 ((im9 18 0 4) + 1)) lv9))))))))) ∧
 (¬ ((im 18 0 4) < 12) → (∃ P10 : zMem → Int64 → Prop, zSpecV x.2.1 w 2 zyX5_stopAt [vR 18 0, vI 4] im lv P10 ∧ ∀ (im10 : zMem) (lv10 : Int64), P10 im10 lv10 → P im10 lv10)))) :
 zW x w 0 [(0, vR 18 0)] [] im lv := by
  refine zi_aload_n hO dX5_readFlight_0 0 rfl ?_
  refine zi_getI hO dX5_readFlight_1 fX5_15 rfl rfl (zI (by decide)) ?_
  refine zi_bipush (v := 12) hO dX5_readFlight_4 (by decide) ?_
  refine zi_icmp_lt (tgt := 15) hO dX5_readFlight_6 (by decide) (fun c1 => ?_) (fun c1 => ?_)
  · have h := h.1 c1
    refine zi_aload_n hO dX5_readFlight_15 0 rfl ?_
    refine zi_getR (r' := 10) (i' := 0) hO dX5_readFlight_16 fX5_36 rfl rfl (zI (by decide)) rfl ?_
    refine zi_getR (r' := 11) (i' := 0) hO dX5_readFlight_19 fX5_91 rfl rfl (zI (by decide)) rfl ?_
    refine zi_aload_n hO dX5_readFlight_22 0 rfl ?_
    refine zi_getI hO dX5_readFlight_23 fX5_15 rfl rfl (zI (by decide)) ?_
    obtain ⟨s1, h⟩ := h
    refine zi_aald (t := 1) (r' := 12) (i' := (Int32.toNatClampNeg (im 18 0 4))) hO dX5_readFlight_26 rfl (zI (by decide)) s1 rfl ?_
    refine zi_astore_n (L' := [(0, vR 18 0), (1, vR 12 (Int32.toNatClampNeg (im 18 0 4)))]) hO dX5_readFlight_27 (by decide) rfl rfl ?_
    refine zi_aload_n hO dX5_readFlight_28 1 rfl ?_
    refine zc_VV (as := []) hO hN dX5_readFlight_29 kX5_95 (by decide) rfl (zI (zvp s1)) rfl rfl (Nat.le_of_ble_eq_true rfl) rfl rfl (C_X2_begin _ _ _ _ (zvp s1)) (fun im2 lv2 hp2 => ?_)
    rw [hp2.1, hp2.2]
    refine zi_aload_n hO dX5_readFlight_32 0 rfl ?_
    refine zi_getR (r' := 16) (i' := 0) hO dX5_readFlight_33 fX5_28 rfl rfl (zI (by decide)) rfl ?_
    obtain ⟨P3, hM3, h⟩ := h
    refine zc_VV (as := []) hO hN dX5_readFlight_36 kX5_100 (by decide) rfl (zI (by decide)) rfl rfl (Nat.le_of_ble_eq_true rfl) rfl rfl hM3 (fun im3 lv3 hp3 => ?_)
    replace h := h im3 lv3 hp3
    refine zi_aload_n hO dX5_readFlight_39 1 rfl ?_
    refine zi_aload_n hO dX5_readFlight_40 0 rfl ?_
    refine zi_iconst (v := 0) hO dX5_readFlight_41 (by decide) ?_
    refine zi_iconst (v := 3) hO dX5_readFlight_42 (by decide) ?_
    obtain ⟨P4, hM4, h⟩ := h
    refine zc_VI (as := [vI 0, vI 3]) hO hN dX5_readFlight_43 kX5_103 (by decide) rfl (zI (by decide)) rfl rfl (Nat.le_of_ble_eq_true rfl) rfl rfl hM4 (fun v4 im4 lv4 hp4 => ?_)
    replace h := h v4 im4 lv4 hp4
    refine zi_putI hO dX5_readFlight_46 gX5_107 rfl rfl (zI (zvp s1)) ?_
    refine zi_aload_n hO dX5_readFlight_49 1 rfl ?_
    refine zi_aload_n hO dX5_readFlight_50 0 rfl ?_
    refine zi_iconst (v := 1) hO dX5_readFlight_51 (by decide) ?_
    refine zi_bipush (v := 9) hO dX5_readFlight_52 (by decide) ?_
    obtain ⟨P5, hM5, h⟩ := h
    refine zc_VI (as := [vI 1, vI 9]) hO hN dX5_readFlight_54 kX5_103 (by decide) rfl (zI (by decide)) rfl rfl (Nat.le_of_ble_eq_true rfl) rfl rfl hM5 (fun v5 im5 lv5 hp5 => ?_)
    replace h := h v5 im5 lv5 hp5
    refine zi_putI hO dX5_readFlight_57 gX5_110 rfl rfl (zI (zvp s1)) ?_
    refine zi_aload_n hO dX5_readFlight_60 1 rfl ?_
    refine zi_aload_n hO dX5_readFlight_61 0 rfl ?_
    refine zi_iconst (v := 0) hO dX5_readFlight_62 (by decide) ?_
    refine zi_bipush (v := 40) hO dX5_readFlight_63 (by decide) ?_
    obtain ⟨P6, hM6, h⟩ := h
    refine zc_VI (as := [vI 0, vI 40]) hO hN dX5_readFlight_65 kX5_103 (by decide) rfl (zI (by decide)) rfl rfl (Nat.le_of_ble_eq_true rfl) rfl rfl hM6 (fun v6 im6 lv6 hp6 => ?_)
    replace h := h v6 im6 lv6 hp6
    refine zi_putI hO dX5_readFlight_68 gX5_113 rfl rfl (zI (zvp s1)) ?_
    refine zi_aload_n hO dX5_readFlight_71 1 rfl ?_
    refine zi_aload_n hO dX5_readFlight_72 0 rfl ?_
    refine zi_iconst (v := 0) hO dX5_readFlight_73 (by decide) ?_
    refine zi_bipush (v := 99) hO dX5_readFlight_74 (by decide) ?_
    obtain ⟨P7, hM7, h⟩ := h
    refine zc_VI (as := [vI 0, vI 99]) hO hN dX5_readFlight_76 kX5_103 (by decide) rfl (zI (by decide)) rfl rfl (Nat.le_of_ble_eq_true rfl) rfl rfl hM7 (fun v7 im7 lv7 hp7 => ?_)
    replace h := h v7 im7 lv7 hp7
    refine zi_putI hO dX5_readFlight_79 gX5_116 rfl rfl (zI (zvp s1)) ?_
    refine zi_aload_n hO dX5_readFlight_82 0 rfl ?_
    refine zi_aload_n hO dX5_readFlight_83 1 rfl ?_
    obtain ⟨P8, hM8, h⟩ := h
    refine zc_VV (as := [vR 12 (Int32.toNatClampNeg (im 18 0 4))]) hO hN dX5_readFlight_84 kX5_119 (by decide) rfl (zI (by decide)) rfl rfl (Nat.le_of_ble_eq_true rfl) rfl rfl hM8 (fun im8 lv8 hp8 => ?_)
    replace h := h im8 lv8 hp8
    refine zi_aload_n hO dX5_readFlight_87 0 rfl ?_
    obtain ⟨P9, hM9, h⟩ := h
    refine zc_VV (as := []) hO hN dX5_readFlight_88 kX5_123 (by decide) rfl (zI (by decide)) rfl rfl (Nat.le_of_ble_eq_true rfl) rfl rfl hM9 (fun im9 lv9 hp9 => ?_)
    replace h := h im9 lv9 hp9
    refine zi_aload_n hO dX5_readFlight_91 0 rfl ?_
    refine zi_dup hO dX5_readFlight_92 rfl ?_
    refine zi_getI hO dX5_readFlight_93 fX5_15 rfl rfl (zI (by decide)) ?_
    refine zi_iconst (v := 1) hO dX5_readFlight_96 (by decide) ?_
    refine zi_iadd hO dX5_readFlight_97 ?_
    refine zi_putI hO dX5_readFlight_98 gX5_15 rfl rfl (zI (by decide)) ?_
    exact zr_V hO hR rfl dX5_readFlight_101 h
  · have h := h.2 c1
    refine zi_aload_n hO dX5_readFlight_9 0 rfl ?_
    refine zi_iconst (v := 4) hO dX5_readFlight_10 (by decide) ?_
    obtain ⟨P10, hM10, h⟩ := h
    refine zc_VV (as := [vI 4]) hO hN dX5_readFlight_11 kX5_83 (by decide) rfl (zI (by decide)) rfl rfl (Nat.le_of_ble_eq_true rfl) rfl rfl hM10 (fun im10 lv10 hp10 => ?_)
    replace h := h im10 lv10 hp10
    exact zr_V hO hR rfl dX5_readFlight_14 h
theorem isN {m im : zMem} {lv : Int64} (hT : WT m) {s : Nat × Nat} (hS : RSC m im lv s) {W : Nat} (h0 : 0 < W) (hW : W < 2 ^ 63) {y : Int64} (hy : y = Int64.ofNat W) : (im 16 0 3 = 1 ∧ lg_cmp lv y = 0) ↔ wd m s.1 = W := by
  subst hy
  have hkl := kd_le (m := m) (a := s.1)
  have e3 : im 16 0 3 = 1 ↔ kd m s.1 = 1 := by rw [hS.2.1.2.1]; exact nI_eq (b := 1) (by omega) (by decide)
  rw [e3]
  by_cases hk : kd m s.1 = 1
  · have hl := wd_lt hT hS.2.2.2.2.1
    rw [hS.2.1.2.2.2.1 hk, w64 (by omega) hW]
    exact ⟨fun z => z.2, fun z => ⟨hk, z⟩⟩
  · unfold wd
    rw [if_neg hk]
    exact ⟨fun z => absurd z.1 hk, fun z => by omega⟩
abbrev Slg (f wy : Nat) : Nat → Nat → Nat → Prop := fun r i k => Srb r i k ∨ (r = 13 ∧ i = f ∧ k = wy) ∨ ((r = 14 ∨ r = 15) ∧ i = f ∧ wy * 5 ≤ k ∧ k < wy * 5 + 5)
def lgC (im : zMem) (f wy : Nat) (g : List (Nat × Nat)) : Prop := (im 13 f wy = nI g.length ∧ g.length ≤ 5) ∧ ∀ j, j < g.length → im 14 f (wy * 5 + j) = nI (g.getD j (0, 0)).1 ∧ im 15 f (wy * 5 + j) = nI (g.getD j (0, 0)).2
theorem C_X5_readLegs (l : Launch) (w : zWd) {m im : zMem} (lv : Int64) (hT : WT m) {a f wy : Nat} (hS : RSC m im lv (a, 0)) (hf : f < 12) (hwy : wy < 3) (h4 : im 12 f 4 = nI (wy + 1)) (h13 : im 13 f wy = nI 0) : zSpecV l w 5 zyX5_readLegs [vR 18 0, vR 12 f] im lv (fun im' lv' => Fr (Slg f wy) im im' ∧ RSC m im' lv' (lgS m 5 (nx m a)).1 ∧ ((lgS m 5 (nx m a)).1.2 = 0 → lgC im' f wy (lgS m 5 (nx m a)).2)) := by
  refine ze_V (by decide) (Nat.le_of_ble_eq_true rfl) (fun x hO hR hN => rX5_readLegs_0 hO hR hN hf ?_)
  have mo : ∀ {a b : zMem}, Fr Srb a b → Fr (Slg f wy) a b := fun h => Fr.mono h (fun r i k z => Or.inl z)
  have key : ∀ n i (D : List (Nat × Nat)) a' (im1 : zMem) (lv1 : Int64), n + i = 5 → RSC m im1 lv1 (a', 0) → Fr (Slg f wy) im im1 → D.length = i → lgC im1 f wy D → (if n = 0 then (lgS m 5 (nx m a)).1 = (a', 3) else lgS m 5 (nx m a) = ((lgS m n (nx m a')).1, D ++ (lgS m n (nx m a')).2)) → zW x w 4 [(0, vR 18 0), (1, vR 12 f), (2, vI 1), (3, vI (nI i))] [] im1 lv1 := by
    intro n
    induction n with
    | zero =>
      intro i D a' im1 lv1 hn hR1 hF hD hL he
      rw [if_pos rfl] at he
      have : i = 5 := by omega
      subst this
      refine rX5_readLegs_4 hO hR hN hf ⟨fun _ => ⟨fun z => absurd z (by decide), fun _ => ⟨_, C_X5_stopAt _ _ _ hR1 (k := 3) (by decide) (by decide) rfl, ?_⟩⟩, fun z => absurd (by decide) z⟩
      rintro im2 lv2 ⟨⟨g1, g2⟩, rfl⟩
      rw [he]
      exact ⟨hF.trans (mo g1), g2, fun z => absurd z (by simp)⟩
    | succ n ih =>
      intro i D a' im1 lv1 hn hR1 hF hD hL he
      rw [if_neg (by omega)] at he
      refine rX5_readLegs_4 hO hR hN hf ⟨fun z => absurd z (nI_ge (b := 5) (by omega) (by decide)), fun _ => ⟨fun z => absurd z (by decide), fun _ => ?_⟩⟩
      obtain ⟨P1, p1, p2⟩ := advR x.2.1 w lv1 hT hR1
      refine ⟨P1, p1, fun im2 lv2 h2 => ?_⟩
      obtain ⟨g2, r2⟩ := p2 im2 lv2 h2
      generalize hp : nx m a' = p at *
      refine ⟨_, C_X5_readNumber _ _ _ hT r2 (lo := 0) (hi := 7) (fun _ => ⟨rfl, rfl, by decide, by decide⟩), ?_⟩
      rintro v3 im3 lv3 ⟨g3, r3, n3, -⟩
      refine ⟨_, C_X5_readNumber _ _ _ hT r3 (lo := 1) (hi := 4) (fun _ => ⟨rfl, rfl, by decide, by decide⟩), ?_⟩
      rintro v4 im4 lv4 ⟨g4, r4, n4, -⟩
      have g24 : Fr Srb im1 im4 := (g2.trans g3).trans g4
      have e12 : im4 12 f 4 = nI (wy + 1) := by rw [zcr g24 (by decide) (by decide), hF 12 f 4 (by omega)]; exact h4
      have e13 : im4 13 f wy = nI i := by rw [zcr g24 (by decide) (by decide), hL.1.1, hD]
      refine ⟨_, C_X2_addLeg _ _ _ hf e12 hwy e13 (show i < 5 by omega), ?_⟩
      rintro im5 lv5 ⟨rfl, rfl⟩
      have r5 : RSC m (zwr (zwr (zwr im4 14 f (wy * 5 + i) v3) 15 f (wy * 5 + i) v4) 13 f wy (nI (i + 1))) lv5 (nmS m 1 4 (nmS m 0 7 (p, 0))) := ((r4.wr (by decide) (by decide) (by omega)).wr (by decide) (by decide) (by omega)).wr (by decide) (by decide) (by omega)
      have f5 : Fr (Slg f wy) im (zwr (zwr (zwr im4 14 f (wy * 5 + i) v3) 15 f (wy * 5 + i) v4) 13 f wy (nI (i + 1))) := (((hF.trans (mo g24)).wr (Or.inr (Or.inr ⟨Or.inl rfl, rfl, by omega, by omega⟩))).wr (Or.inr (Or.inr ⟨Or.inr rfl, rfl, by omega, by omega⟩))).wr (Or.inr (Or.inl ⟨rfl, rfl, rfl⟩))
      have l5 : (nmS m 1 4 (nmS m 0 7 (p, 0))).2 = 0 → lgC (zwr (zwr (zwr im4 14 f (wy * 5 + i) v3) 15 f (wy * 5 + i) v4) 13 f wy (nI (i + 1))) f wy (D ++ [(nv m p, nv m (nmS m 0 7 (p, 0)).1)]) := by
        intro h
        have h0 := (nmS_0 h).1
        refine ⟨⟨by rw [zwr_eq, List.length_append, List.length_singleton, hD], by rw [List.length_append, List.length_singleton, hD]; omega⟩, fun j hj => ?_⟩
        rw [List.length_append, List.length_singleton, hD] at hj
        have e14 : ∀ k, (zwr (zwr (zwr im4 14 f (wy * 5 + i) v3) 15 f (wy * 5 + i) v4) 13 f wy (nI (i + 1))) 14 f k = if k = wy * 5 + i then v3 else im4 14 f k := fun k => by
          rw [zwr_r (by decide), zwr_r (by decide), zwr_app]
          simp only [true_and]
        have e15 : ∀ k, (zwr (zwr (zwr im4 14 f (wy * 5 + i) v3) 15 f (wy * 5 + i) v4) 13 f wy (nI (i + 1))) 15 f k = if k = wy * 5 + i then v4 else im4 15 f k := fun k => by
          rw [zwr_r (by decide), zwr_app, zwr_r (by decide)]
          simp only [true_and]
        rw [e14, e15]
        by_cases hji : j = i
        · subst hji
          rw [if_pos rfl, if_pos rfl]
          have : (D ++ [(nv m p, nv m (nmS m 0 7 (p, 0)).1)]).getD j (0, 0) = (nv m p, nv m (nmS m 0 7 (p, 0)).1) := by rw [← hD]; exact gP_m
          rw [this]
          exact ⟨n3 h0, n4 h⟩
        · rw [if_neg (by omega), if_neg (by omega), gP_l (by omega), zcr g24 (by decide) (by decide), zcr g24 (by decide) (by decide)]
          exact hL.2 j (by omega)
      have hl : lgS m (n + 1) p = if (nmS m 1 4 (nmS m 0 7 (p, 0))).2 = 0 ∧ kd m (nmS m 1 4 (nmS m 0 7 (p, 0))).1 = 3 then (if n = 0 then (((nmS m 1 4 (nmS m 0 7 (p, 0))).1, 3), [(nv m p, nv m (nmS m 0 7 (p, 0)).1)]) else ((lgS m n (nx m (nmS m 1 4 (nmS m 0 7 (p, 0))).1)).1, (nv m p, nv m (nmS m 0 7 (p, 0)).1) :: (lgS m n (nx m (nmS m 1 4 (nmS m 0 7 (p, 0))).1)).2)) else (nmS m 1 4 (nmS m 0 7 (p, 0)), [(nv m p, nv m (nmS m 0 7 (p, 0)).1)]) := rfl
      generalize nmS m 1 4 (nmS m 0 7 (p, 0)) = s2 at *
      generalize (nv m p, nv m (nmS m 0 7 (p, 0)).1) = leg at *
      generalize zwr (zwr (zwr im4 14 f (wy * 5 + i) v3) 15 f (wy * 5 + i) v4) 13 f wy (nI (i + 1)) = im6 at *
      have hkl := kd_le (m := m) (a := s2.1)
      have e3 : im6 16 0 3 = 3 ↔ kd m s2.1 = 3 := by rw [r5.2.1.2.1]; exact nI_eq (b := 3) (by omega) (by decide)
      have e6 : im6 18 0 6 = 0 ↔ s2.2 = 0 := by rw [r5.2.2.1]; exact nI_eq (b := 0) (by have := r5.2.2.2.2.2; omega) (by decide)
      rw [e3, e6, nI_1 i]
      have stopd : ¬ (s2.2 = 0 ∧ kd m s2.1 = 3) → zW x w 4 [(0, vR 18 0), (1, vR 12 f), (2, vI 0), (3, vI (nI (i + 1)))] [] im6 lv5 := by
        intro hc
        rw [if_neg hc] at hl
        rw [hl] at he
        have fin : Fr (Slg f wy) im im6 ∧ RSC m im6 lv5 (lgS m 5 (nx m a)).1 ∧ ((lgS m 5 (nx m a)).1.2 = 0 → lgC im6 f wy (lgS m 5 (nx m a)).2) := by
          rw [he]
          exact ⟨f5, r5, l5⟩
        exact rX5_readLegs_4 hO hR hN hf ⟨fun _ => ⟨fun _ => fin, fun z => absurd rfl z⟩, fun _ => ⟨fun _ => fin, fun z => absurd rfl z⟩⟩
      refine ⟨fun z => stopd (fun y => z y.1), fun z => ⟨fun y => stopd (fun u => y u.2), fun y => ?_⟩⟩
      rw [if_pos ⟨z, y⟩] at hl
      have r5' : RSC m im6 lv5 (s2.1, 0) := by rw [← z]; exact r5
      refine ih (i + 1) (D ++ [leg]) s2.1 im6 lv5 (by omega) r5' f5 (by rw [List.length_append, List.length_singleton, hD]) (l5 z) ?_
      by_cases hn0 : n = 0
      · rw [if_pos hn0]
        rw [if_pos hn0] at hl
        rw [he, hl]
      · rw [if_neg hn0]
        rw [if_neg hn0] at hl
        rw [he, hl, List.append_assoc, List.singleton_append]
  exact key 5 0 [] a im lv rfl hS Fr.refl rfl ⟨⟨h13, by decide⟩, fun j hj => by cases hj⟩ (by rw [if_neg (by decide), List.nil_append])
abbrev Swc (f : Nat) : Nat → Nat → Nat → Prop := fun r i k => Srb r i k ∨ (r = 12 ∧ i = f ∧ k = 4) ∨ ((13 ≤ r ∧ r ≤ 15) ∧ i = f)
def wyC (im : zMem) (f : Nat) (g : List (List (Nat × Nat))) : Prop := im 12 f 4 = nI g.length ∧ ∀ w, w < g.length → lgC im f w (g.getD w [])
theorem C_X5_readWays (l : Launch) (w : zWd) {m im : zMem} (lv : Int64) (hT : WT m) {s : Nat × Nat} {f : Nat} (hS : RSC m im lv s) (hf : f < 12) (h4 : im 12 f 4 = nI 0) (Q : (Nat × Nat) × List (List (Nat × Nat))) (hQ : Q = if s.2 = 0 then (if wd m s.1 = wWy then wyS m 3 s.1 else ((s.1, 1), [])) else (s, [])) : zSpecV l w 6 zyX5_readWays [vR 18 0, vR 12 f] im lv (fun im' lv' => Fr (Swc f) im im' ∧ RSC m im' lv' Q.1 ∧ (Q.1.2 = 0 → wyC im' f Q.2)) := by
  refine ze_V (by decide) (Nat.le_of_ble_eq_true rfl) (fun x hO hR hN => rX5_readWays_0 hO hR hN hf ?_)
  have mo : ∀ {a b : zMem}, Fr Srb a b → Fr (Swc f) a b := fun h => Fr.mono h (fun r i k z => Or.inl z)
  have ml : ∀ {a b : zMem} {wy : Nat}, Fr (Slg f wy) a b → Fr (Swc f) a b := fun h => Fr.mono h (fun r i k z => by omega)
  have stopd : ∀ {x3 : Int32} {im1 : zMem} {lv1 : Int64}, (Fr (Swc f) im im1 ∧ RSC m im1 lv1 Q.1 ∧ (Q.1.2 = 0 → wyC im1 f Q.2)) → zW x w 33 [(0, vR 18 0), (1, vR 12 f), (2, vI 0), (3, vI x3)] [] im1 lv1 := fun fin => rX5_readWays_33 hO hR hN hf ⟨fun _ => ⟨fun _ => fin, fun z => absurd rfl z⟩, fun _ => ⟨fun _ => fin, fun z => absurd rfl z⟩⟩
  have key : ∀ n i (D : List (List (Nat × Nat))) a' (im1 : zMem) (lv1 : Int64), n + i = 3 → RSC m im1 lv1 (a', 0) → Fr (Swc f) im im1 → D.length = i → wyC im1 f D → (if n = 0 then Q.1 = (a', 3) else Q = ((wyS m n a').1, D ++ (wyS m n a').2)) → zW x w 33 [(0, vR 18 0), (1, vR 12 f), (2, vI 1), (3, vI (nI i))] [] im1 lv1 := by
    intro n
    induction n with
    | zero =>
      intro i D a' im1 lv1 hn hR1 hF hD hL he
      rw [if_pos rfl] at he
      have : i = 3 := by omega
      subst this
      refine rX5_readWays_33 hO hR hN hf ⟨fun _ => ⟨fun z => absurd z (by decide), fun _ => ⟨_, C_X5_stopAt _ _ _ hR1 (k := 3) (by decide) (by decide) rfl, ?_⟩⟩, fun z => absurd (by decide) z⟩
      rintro im2 lv2 ⟨⟨g1, g2⟩, rfl⟩
      rw [he]
      exact ⟨hF.trans (mo g1), g2, fun z => absurd z (by simp)⟩
    | succ n ih =>
      intro i D a' im1 lv1 hn hR1 hF hD hL he
      rw [if_neg (by omega)] at he
      have hi3 : i < 3 := by omega
      refine rX5_readWays_33 hO hR hN hf ⟨fun z => absurd z (nI_ge (b := 3) hi3 (by decide)), fun _ => ⟨fun z => absurd z (by decide), fun _ => ?_⟩⟩
      refine ⟨_, C_X2_addWay _ _ _ hf (by rw [hL.1, hD]) hi3, ?_⟩
      rintro im2 lv2 ⟨rfl, rfl⟩
      have r2 : RSC m (zwr (zwr im1 13 f i 0) 12 f 4 (nI (i + 1))) lv2 (a', 0) := (hR1.wr (by decide) (by decide) (by omega)).wr (by decide) (by decide) (by omega)
      have f2 : Fr (Swc f) im (zwr (zwr im1 13 f i 0) 12 f 4 (nI (i + 1))) := (hF.wr (Or.inr (Or.inr ⟨by decide, rfl⟩))).wr (Or.inr (Or.inl ⟨rfl, rfl, rfl⟩))
      refine ⟨_, C_X5_readLegs _ _ _ hT r2 hf hi3 zwr_eq (by rw [zwr_r (by decide), zwr_eq]; rfl), ?_⟩
      rintro im3 lv3 ⟨g3, r3, l3⟩
      have f3 := f2.trans (ml g3)
      have hw : wyS m (n + 1) a' = if (lgS m 5 (nx m a')).1.2 = 0 ∧ wd m (lgS m 5 (nx m a')).1.1 = wWy then (if n = 0 then (((lgS m 5 (nx m a')).1.1, 3), [(lgS m 5 (nx m a')).2]) else ((wyS m n (lgS m 5 (nx m a')).1.1).1, (lgS m 5 (nx m a')).2 :: (wyS m n (lgS m 5 (nx m a')).1.1).2)) else ((lgS m 5 (nx m a')).1, [(lgS m 5 (nx m a')).2]) := rfl
      generalize lgS m 5 (nx m a') = q at *
      have hw3 : q.1.2 = 0 → wyC im3 f (D ++ [q.2]) := by
        intro h
        refine ⟨by rw [g3 12 f 4 (by omega), zwr_eq, List.length_append, List.length_singleton, hD], fun w' hw' => ?_⟩
        rw [List.length_append, List.length_singleton, hD] at hw'
        by_cases hwi : w' = i
        · subst hwi
          have : (D ++ [q.2]).getD w' [] = q.2 := by rw [← hD]; exact gW_m
          rw [this]
          exact l3 h
        · rw [gW_l (by omega)]
          obtain ⟨d1, d2⟩ := hL.2 w' (by omega)
          have hfr : ∀ r k, (r = 13 ∧ k = w') ∨ ((r = 14 ∨ r = 15) ∧ w' * 5 ≤ k ∧ k < w' * 5 + 5) → im3 r f k = im1 r f k := by
            intro r k hrk
            rw [g3 r f k (by omega), zwr_r (by omega), zwr_app, if_neg (by omega)]
          refine ⟨by rw [hfr 13 w' (Or.inl ⟨rfl, rfl⟩)]; exact d1, fun j hj => ?_⟩
          rw [hfr 14 _ (Or.inr ⟨Or.inl rfl, by omega, by omega⟩), hfr 15 _ (Or.inr ⟨Or.inr rfl, by omega, by omega⟩)]
          exact d2 j hj
      rw [isN hT r3 (W := wWy) (y := (7823737 : Int64)) (by decide) (by decide) rfl, nI_1 i]
      have e6 : im3 18 0 6 = 0 ↔ q.1.2 = 0 := by rw [r3.2.2.1]; exact nI_eq (b := 0) (by have := r3.2.2.2.2.2; omega) (by decide)
      rw [e6]
      have fin : ¬ (q.1.2 = 0 ∧ wd m q.1.1 = wWy) → (Fr (Swc f) im im3 ∧ RSC m im3 lv3 Q.1 ∧ (Q.1.2 = 0 → wyC im3 f Q.2)) := by
        intro hc
        rw [if_neg hc] at hw
        rw [hw] at he
        rw [he]
        exact ⟨f3, r3, hw3⟩
      refine ⟨fun z => stopd (fin (fun y => z y.1)), fun z => ⟨fun y => stopd (fin (fun u => y u.2)), fun y => ?_⟩⟩
      rw [if_pos ⟨z, y⟩] at hw
      have r3' : RSC m im3 lv3 (q.1.1, 0) := by rw [← z]; exact r3
      refine ih (i + 1) (D ++ [q.2]) q.1.1 im3 lv3 (by omega) r3' f3 (by rw [List.length_append, List.length_singleton, hD]) (hw3 z) ?_
      by_cases hn0 : n = 0
      · rw [if_pos hn0]
        rw [if_pos hn0] at hw
        rw [he, hw]
      · rw [if_neg hn0]
        rw [if_neg hn0] at hw
        rw [he, hw, List.append_assoc, List.singleton_append]
  rw [isN hT hS (W := wWy) (y := (7823737 : Int64)) (by decide) (by decide) rfl]
  have e6 : im 18 0 6 = 0 ↔ s.2 = 0 := by rw [hS.2.2.1]; exact nI_eq (b := 0) (by have := hS.2.2.2.2.2; omega) (by decide)
  rw [e6]
  refine ⟨fun hw => ⟨fun z => stopd ?_, fun z => ?_⟩, fun hw => ⟨_, C_X5_stopAt _ _ _ hS (k := 1) (by decide) (by decide) rfl, ?_⟩⟩
  · rw [if_neg z] at hQ
    rw [hQ]
    exact ⟨Fr.refl, hS, fun y => absurd y z⟩
  · rw [if_pos z, if_pos hw] at hQ
    have hS' : RSC m im lv (s.1, 0) := by rw [← z]; exact hS
    exact key 3 0 [] s.1 im lv rfl hS' Fr.refl rfl ⟨h4, fun w' hw' => by cases hw'⟩ (by rw [if_neg (by decide), List.nil_append, hQ])
  · rintro im2 lv2 ⟨⟨g1, g2⟩, rfl⟩
    have hne : ¬ (bdS 1 s).2 = 0 := bdS_ne (Nat.le_refl _)
    have hq1 : Q.1 = bdS 1 s := by
      rw [hQ]
      unfold bdS
      by_cases z : s.2 = 0
      · rw [if_pos z, if_neg hw, if_pos z]
      · rw [if_neg z, if_neg z]
    refine ⟨fun _ => stopd ?_, fun z => ?_⟩
    · rw [hq1]
      exact ⟨mo g1, g2, fun y => absurd y hne⟩
    · exfalso
      rw [g2.2.2.1] at z
      exact hne ((nI_eq (b := 0) (by have := g2.2.2.2.2.2; omega) (by decide)).mp z)
abbrev Sfc (nf : Nat) : Nat → Nat → Nat → Prop := fun r i k => Srb r i k ∨ (r = 18 ∧ k = 4) ∨ ((12 ≤ r ∧ r ≤ 15) ∧ i = nf)
def flC (im : zMem) (f : Nat) (d : zFl) : Prop := (im 12 f 0 = nI d.1.1 ∧ im 12 f 1 = nI d.1.2.1 ∧ im 12 f 2 = nI d.1.2.2.1 ∧ im 12 f 3 = nI d.1.2.2.2) ∧ (im 12 f 8 = 0 ∧ im 12 f 9 = 0) ∧ wyC im f d.2
theorem C_X5_readFlight (l : Launch) (w : zWd) {m im : zMem} (lv : Int64) (hT : WT m) {a nf : Nat} (hS : RSC m im lv (a, 0)) (hnf : nf < 12) (h4 : im 18 0 4 = nI nf) : zSpecV l w 7 zyX5_readFlight [vR 18 0] im lv (fun im' lv' => Fr (Sfc nf) im im' ∧ RSC m im' lv' (semS m (flS m (nx m a)).1) ∧ im' 18 0 4 = nI (nf + 1) ∧ ((semS m (flS m (nx m a)).1).2 = 0 → flC im' nf (flS m (nx m a)).2)) := by
  refine ze_V (by decide) (Nat.le_of_ble_eq_true rfl) (fun x hO hR hN => rX5_readFlight_0 hO hR hN ?_)
  rw [h4, nI_clamp (show nf < 2 ^ 31 by omega)]
  refine ⟨fun _ => ⟨vp_in_nI hnf (by decide), ?_⟩, fun q => absurd (nI_lt (b := 12) hnf (by decide)) q⟩
  have mo : ∀ {a b : zMem}, Fr Srb a b → Fr (Sfc nf) a b := fun h => Fr.mono h (fun r i k z => Or.inl z)
  have mw : ∀ {a b : zMem}, Fr (Swc nf) a b → Fr (Sfc nf) a b := fun h => Fr.mono h (fun r i k z => by omega)
  have wf : ∀ {r k}, 12 ≤ r ∧ r ≤ 15 → Sfc nf r nf k := fun h => Or.inr (Or.inr ⟨h, rfl⟩)
  have r0 : RSC m (zwr (zwr (zwr im 12 nf 4 0) 12 nf 8 0) 12 nf 9 0) lv (a, 0) := ((hS.wr (by decide) (by decide) (by omega)).wr (by decide) (by decide) (by omega)).wr (by decide) (by decide) (by omega)
  have f0 : Fr (Sfc nf) im (zwr (zwr (zwr im 12 nf 4 0) 12 nf 8 0) 12 nf 9 0) := ((Fr.refl.wr (wf (by decide))).wr (wf (by decide))).wr (wf (by decide))
  have b4 : (zwr (zwr (zwr im 12 nf 4 0) 12 nf 8 0) 12 nf 9 0) 12 nf 4 = 0 := by rw [zwr_k (by decide), zwr_k (by decide), zwr_eq]
  have b8 : (zwr (zwr (zwr im 12 nf 4 0) 12 nf 8 0) 12 nf 9 0) 12 nf 8 = 0 := by rw [zwr_k (by decide), zwr_eq]
  have b9 : (zwr (zwr (zwr im 12 nf 4 0) 12 nf 8 0) 12 nf 9 0) 12 nf 9 = 0 := zwr_eq
  have b18 : (zwr (zwr (zwr im 12 nf 4 0) 12 nf 8 0) 12 nf 9 0) 18 0 4 = nI nf := by rw [zwr_r (by decide), zwr_r (by decide), zwr_r (by decide)]; exact h4
  generalize zwr (zwr (zwr im 12 nf 4 0) 12 nf 8 0) 12 nf 9 0 = im0 at *
  obtain ⟨P1, p1, p2⟩ := advR x.2.1 w lv hT r0
  refine ⟨P1, p1, fun im3 lv3 h3 => ?_⟩
  obtain ⟨g3, r3⟩ := p2 im3 lv3 h3
  have hfl : flS m (nx m a) = ((if (nmS m 0 99 (nmS m 0 40 (nmS m 1 9 (nmS m 0 3 (nx m a, 0))))).2 = 0 then (if wd m (nmS m 0 99 (nmS m 0 40 (nmS m 1 9 (nmS m 0 3 (nx m a, 0))))).1 = wWy then wyS m 3 (nmS m 0 99 (nmS m 0 40 (nmS m 1 9 (nmS m 0 3 (nx m a, 0))))).1 else (((nmS m 0 99 (nmS m 0 40 (nmS m 1 9 (nmS m 0 3 (nx m a, 0))))).1, 1), [])) else (nmS m 0 99 (nmS m 0 40 (nmS m 1 9 (nmS m 0 3 (nx m a, 0)))), [])).1, ((nv m (nx m a), nv m (nmS m 0 3 (nx m a, 0)).1, nv m (nmS m 1 9 (nmS m 0 3 (nx m a, 0))).1, nv m (nmS m 0 40 (nmS m 1 9 (nmS m 0 3 (nx m a, 0)))).1), (if (nmS m 0 99 (nmS m 0 40 (nmS m 1 9 (nmS m 0 3 (nx m a, 0))))).2 = 0 then (if wd m (nmS m 0 99 (nmS m 0 40 (nmS m 1 9 (nmS m 0 3 (nx m a, 0))))).1 = wWy then wyS m 3 (nmS m 0 99 (nmS m 0 40 (nmS m 1 9 (nmS m 0 3 (nx m a, 0))))).1 else (((nmS m 0 99 (nmS m 0 40 (nmS m 1 9 (nmS m 0 3 (nx m a, 0))))).1, 1), [])) else (nmS m 0 99 (nmS m 0 40 (nmS m 1 9 (nmS m 0 3 (nx m a, 0)))), [])).2)) := rfl
  generalize hp : nx m a = p at *
  refine ⟨_, C_X5_readNumber _ _ _ hT r3 (lo := 0) (hi := 3) (fun _ => ⟨rfl, rfl, by decide, by decide⟩), ?_⟩
  rintro v4 im4 lv4 ⟨g4, r4, n4, -⟩
  refine ⟨_, C_X5_readNumber _ _ _ hT (r4.wr (by decide) (by decide) (by omega)) (lo := 1) (hi := 9) (fun _ => ⟨rfl, rfl, by decide, by decide⟩), ?_⟩
  rintro v5 im5 lv5 ⟨g5, r5, n5, -⟩
  refine ⟨_, C_X5_readNumber _ _ _ hT (r5.wr (by decide) (by decide) (by omega)) (lo := 0) (hi := 40) (fun _ => ⟨rfl, rfl, by decide, by decide⟩), ?_⟩
  rintro v6 im6 lv6 ⟨g6, r6, n6, -⟩
  refine ⟨_, C_X5_readNumber _ _ _ hT (r6.wr (by decide) (by decide) (by omega)) (lo := 0) (hi := 99) (fun _ => ⟨rfl, rfl, by decide, by decide⟩), ?_⟩
  rintro v7 im7 lv7 ⟨g7, r7, n7, -⟩
  have f4 : Fr (Sfc nf) im (zwr im4 12 nf 0 v4) := ((f0.trans (mo g3)).trans (mo g4)).wr (wf (by decide))
  have f5 : Fr (Sfc nf) im (zwr im5 12 nf 1 v5) := (f4.trans (mo g5)).wr (wf (by decide))
  have f6 : Fr (Sfc nf) im (zwr im6 12 nf 2 v6) := (f5.trans (mo g6)).wr (wf (by decide))
  have f7 : Fr (Sfc nf) im (zwr im7 12 nf 3 v7) := (f6.trans (mo g7)).wr (wf (by decide))
  have keep : ∀ k, ¬ k = 0 → ¬ k = 1 → ¬ k = 2 → ¬ k = 3 → (zwr im7 12 nf 3 v7) 12 nf k = im0 12 nf k := by
    intro k k0 k1 k2 k3
    rw [zwr_k k3, zcr g7 (by decide) (by decide), zwr_k k2, zcr g6 (by decide) (by decide), zwr_k k1, zcr g5 (by decide) (by decide), zwr_k k0, zcr g4 (by decide) (by decide), zcr g3 (by decide) (by decide)]
  refine ⟨_, C_X5_readWays _ _ _ hT (r7.wr (by decide) (by decide) (by omega)) hnf (by rw [keep 4 (by decide) (by decide) (by decide) (by decide)]; exact b4) _ rfl, ?_⟩
  rintro im8 lv8 ⟨g8, r8, w8'⟩
  have e1 : (flS m p).1 = (if (nmS m 0 99 (nmS m 0 40 (nmS m 1 9 (nmS m 0 3 (p, 0))))).2 = 0 then (if wd m (nmS m 0 99 (nmS m 0 40 (nmS m 1 9 (nmS m 0 3 (p, 0))))).1 = wWy then wyS m 3 (nmS m 0 99 (nmS m 0 40 (nmS m 1 9 (nmS m 0 3 (p, 0))))).1 else (((nmS m 0 99 (nmS m 0 40 (nmS m 1 9 (nmS m 0 3 (p, 0))))).1, 1), [])) else (nmS m 0 99 (nmS m 0 40 (nmS m 1 9 (nmS m 0 3 (p, 0)))), [])).1 := by rw [hfl]
  refine ⟨_, C_X5_readSemicolon _ _ _ hT r8, ?_⟩
  rintro im9 lv9 ⟨g9, r9⟩
  rw [← e1] at r9
  have e18 : im9 18 0 4 = nI nf := by
    rw [g9 18 0 4 (by omega), g8 18 0 4 (by omega), zwr_r (by decide), g7 18 0 4 (by omega), zwr_r (by decide), g6 18 0 4 (by omega), zwr_r (by decide), g5 18 0 4 (by omega), zwr_r (by decide), g4 18 0 4 (by omega), g3 18 0 4 (by omega)]
    exact b18
  rw [e18, nI_1]
  refine ⟨((f7.trans (mw g8)).trans (mo g9)).wr (Or.inr (Or.inl ⟨rfl, rfl⟩)), r9.wr (by decide) (by decide) (by omega), zwr_eq, fun h => ?_⟩
  have hs := (semS_0 h).1
  have hk : ∀ k, ¬ k = 4 → (zwr im9 18 0 4 (nI (nf + 1))) 12 nf k = (zwr im7 12 nf 3 v7) 12 nf k := by
    intro k k4
    rw [zwr_r (by decide), zcr g9 (by decide) (by decide), g8 12 nf k (by omega)]
  rw [e1] at hs
  have hs4 : (nmS m 0 99 (nmS m 0 40 (nmS m 1 9 (nmS m 0 3 (p, 0))))).2 = 0 := by
    by_cases z : (nmS m 0 99 (nmS m 0 40 (nmS m 1 9 (nmS m 0 3 (p, 0))))).2 = 0
    · exact z
    · rw [if_neg z] at hs; exact absurd hs z
  have t3 := (nmS_0 hs4).1
  have t2 := (nmS_0 t3).1
  have t1 := (nmS_0 t2).1
  have hwc := w8' hs
  have hwy9 : wyC (zwr im9 18 0 4 (nI (nf + 1))) nf (flS m p).2.2 := by
    rw [hfl]
    dsimp only
    refine ⟨?_, fun w' hw' => ?_⟩
    · rw [zwr_r (by decide), zcr g9 (by decide) (by decide)]; exact hwc.1
    · obtain ⟨d1, d2⟩ := hwc.2 w' hw'
      refine ⟨?_, fun j hj => ?_⟩
      · rw [zwr_r (by decide), zcr g9 (by decide) (by decide)]; exact d1
      · rw [zwr_r (by decide), zwr_r (by decide), zcr g9 (by decide) (by decide), zcr g9 (by decide) (by decide)]; exact d2 j hj
  refine ⟨⟨?_, ?_, ?_, ?_⟩, ⟨?_, ?_⟩, hwy9⟩
  · rw [hk 0 (by decide), zwr_k (by decide), zcr g7 (by decide) (by decide), zwr_k (by decide), zcr g6 (by decide) (by decide), zwr_k (by decide), zcr g5 (by decide) (by decide), zwr_eq, hfl]
    exact n4 t1
  · rw [hk 1 (by decide), zwr_k (by decide), zcr g7 (by decide) (by decide), zwr_k (by decide), zcr g6 (by decide) (by decide), zwr_eq, hfl]
    exact n5 t2
  · rw [hk 2 (by decide), zwr_k (by decide), zcr g7 (by decide) (by decide), zwr_eq, hfl]
    exact n6 t3
  · rw [hk 3 (by decide), zwr_eq, hfl]
    exact n7 hs4
  · rw [hk 8 (by decide), keep 8 (by decide) (by decide) (by decide) (by decide)]; exact b8
  · rw [hk 9 (by decide), keep 9 (by decide) (by decide) (by decide) (by decide)]; exact b9
