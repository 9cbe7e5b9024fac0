/-! the class's ledger -/
theorem rX4_ownerOfGreatestRest_0 {x : zX} {w : zWd} {im : zMem} {lv : Int64} {P : Int32 → zMem → Int64 → Prop} (hO : zOK x w zyX4_ownerOfGreatestRest 2) (hR : zRetI x w zyX4_ownerOfGreatestRest P) (hN : zN x 126 126)
 (h : zW x w 4 [(0, vR 35 0), (1, vI 0), (2, vI 1)] [] im lv) :
 zW x w 0 [(0, vR 35 0)] [] im lv := by
  refine zi_iconst (v := 0) hO dX4_ownerOfGreatestRest_0 (by decide) ?_
  refine zi_istore_n (L' := [(0, vR 35 0), (1, vI 0)]) hO dX4_ownerOfGreatestRest_1 (by decide) rfl rfl ?_
  refine zi_iconst (v := 1) hO dX4_ownerOfGreatestRest_2 (by decide) ?_
  refine zi_istore_n (L' := [(0, vR 35 0), (1, vI 0), (2, vI 1)]) hO dX4_ownerOfGreatestRest_3 (by decide) rfl rfl ?_
  exact h
theorem rX4_ownerOfGreatestRest_4 {x : zX} {w : zWd} {im : zMem} {lv : Int64} {P : Int32 → zMem → Int64 → Prop} {x1 : Int32} {x2 : Int32} (hO : zOK x w zyX4_ownerOfGreatestRest 2) (hR : zRetI x w zyX4_ownerOfGreatestRest P) (hN : zN x 126 126)
 (h : ((4 ≤ x2 → P x1 im lv) ∧
 (¬ (4 ≤ x2) → (vp_in x2 4 ∧ (vp_in x1 4 ∧ (((im 38 0 (Int32.toNatClampNeg x2)) ≤ (im 38 0 (Int32.toNatClampNeg x1)) → zW x w 4 [(0, vR 35 0), (1, vI x1), (2, vI (x2 + 1))] [] im lv) ∧
 (¬ ((im 38 0 (Int32.toNatClampNeg x2)) ≤ (im 38 0 (Int32.toNatClampNeg x1))) → zW x w 4 [(0, vR 35 0), (1, vI x2), (2, vI (x2 + 1))] [] im lv))))))) :
 zW x w 4 [(0, vR 35 0), (1, vI x1), (2, vI x2)] [] im lv := by
  refine zi_iload_n hO dX4_ownerOfGreatestRest_4 2 rfl ?_
  refine zi_iconst (v := 4) hO dX4_ownerOfGreatestRest_5 (by decide) ?_
  refine zi_icmp_ge (tgt := 32) hO dX4_ownerOfGreatestRest_6 (by decide) (fun c1 => ?_) (fun c1 => ?_)
  · have h := h.1 c1
    refine zi_iload_n hO dX4_ownerOfGreatestRest_32 1 rfl ?_
    exact zr_I hO hR rfl dX4_ownerOfGreatestRest_33 h
  · have h := h.2 c1
    refine zi_aload_n hO dX4_ownerOfGreatestRest_9 0 rfl ?_
    refine zi_getR (r' := 38) (i' := 0) hO dX4_ownerOfGreatestRest_10 fX4_18 rfl rfl (zI (by decide)) rfl ?_
    refine zi_iload_n hO dX4_ownerOfGreatestRest_13 2 rfl ?_
    obtain ⟨s1, h⟩ := h
    refine zi_iald hO dX4_ownerOfGreatestRest_14 rfl (zI (by decide)) s1 ?_
    refine zi_aload_n hO dX4_ownerOfGreatestRest_15 0 rfl ?_
    refine zi_getR (r' := 38) (i' := 0) hO dX4_ownerOfGreatestRest_16 fX4_18 rfl rfl (zI (by decide)) rfl ?_
    refine zi_iload_n hO dX4_ownerOfGreatestRest_19 1 rfl ?_
    obtain ⟨s2, h⟩ := h
    refine zi_iald hO dX4_ownerOfGreatestRest_20 rfl (zI (by decide)) s2 ?_
    refine zi_icmp_le (tgt := 26) hO dX4_ownerOfGreatestRest_21 (by decide) (fun c2 => ?_) (fun c2 => ?_)
    · have h := h.1 c2
      refine zi_iinc (v' := (x2 + 1)) (L' := [(0, vR 35 0), (1, vI x1), (2, vI (x2 + 1))]) hO dX4_ownerOfGreatestRest_26 2 rfl rfl (by decide) rfl rfl ?_
      refine zi_goto (tgt := 4) hO dX4_ownerOfGreatestRest_29 (by decide) ?_
      exact h
    · have h := h.2 c2
      refine zi_iload_n hO dX4_ownerOfGreatestRest_24 2 rfl ?_
      refine zi_istore_n (L' := [(0, vR 35 0), (1, vI x2), (2, vI x2)]) hO dX4_ownerOfGreatestRest_25 (by decide) rfl rfl ?_
      refine zi_iinc (v' := (x2 + 1)) (L' := [(0, vR 35 0), (1, vI x2), (2, vI (x2 + 1))]) hO dX4_ownerOfGreatestRest_26 2 rfl rfl (by decide) rfl rfl ?_
      refine zi_goto (tgt := 4) hO dX4_ownerOfGreatestRest_29 (by decide) ?_
      exact h
theorem rX4_divide_0 {x : zX} {w : zWd} {im : zMem} {lv : Int64} {P : zMem → Int64 → Prop} {x1 : Int32} {x2 : Int32} (hO : zOK x w zyX4_divide 3) (hR : zRetV x w zyX4_divide P) (hN : zN x 126 126)
 (h : (∃ P1 : zMem → Int64 → Prop, zSpecV x.2.1 w 2 zyJ7_fill_53178 [vR 37 0, vI 0] im lv P1 ∧ ∀ (im1 : zMem) (lv1 : Int64), P1 im1 lv1 → ((0 < x2 → zW x w 18 [(0, vR 35 0), (1, vI x1), (2, vI x2), (3, vI x1), (4, vI 0)] [] im1 lv1) ∧
 (¬ (0 < x2) → P im1 lv1)))) :
 zW x w 0 [(0, vR 35 0), (1, vI x1), (2, vI x2)] [] im lv := by
  refine zi_aload_n hO dX4_divide_0 0 rfl ?_
  refine zi_getR (r' := 37) (i' := 0) hO dX4_divide_1 fX4_15 rfl rfl (zI (by decide)) rfl ?_
  refine zi_iconst (v := 0) hO dX4_divide_4 (by decide) ?_
  obtain ⟨P1, hM1, h⟩ := h
  refine zc_SV (as := [vR 37 0, vI 0]) hO hN dX4_divide_5 kX4_70 (by decide) rfl (Nat.le_of_ble_eq_true rfl) rfl rfl hM1 (fun im1 lv1 hp1 => ?_)
  replace h := h im1 lv1 hp1
  refine zi_iload_n hO dX4_divide_8 2 rfl ?_
  refine zi_if_gt (tgt := 13) hO dX4_divide_9 (by decide) (fun c1 => ?_) (fun c1 => ?_)
  · have h := h.1 c1
    refine zi_iload_n hO dX4_divide_13 1 rfl ?_
    refine zi_istore_n (L' := [(0, vR 35 0), (1, vI x1), (2, vI x2), (3, vI x1)]) hO dX4_divide_14 (by decide) rfl rfl ?_
    refine zi_iconst (v := 0) hO dX4_divide_15 (by decide) ?_
    refine zi_istore (L' := [(0, vR 35 0), (1, vI x1), (2, vI x2), (3, vI x1), (4, vI 0)]) hO dX4_divide_16 (by decide) rfl rfl ?_
    exact h
  · have h := h.2 c1
    exact zr_V hO hR rfl dX4_divide_12 h
theorem rX4_divide_18 {x : zX} {w : zWd} {im : zMem} {lv : Int64} {P : zMem → Int64 → Prop} {x1 : Int32} {x2 : Int32} {x3 : Int32} {x4 : Int32} (hO : zOK x w zyX4_divide 3) (hR : zRetV x w zyX4_divide P) (hN : zN x 126 126)
 (h : ((4 ≤ x4 → zW x w 79 [(0, vR 35 0), (1, vI x1), (2, vI x2), (3, vI x3), (4, vI 0)] [] im lv) ∧
 (¬ (4 ≤ x4) → (vp_in x4 4 ∧ (¬ x2 = 0 ∧ zW x w 18 [(0, vR 35 0), (1, vI x1), (2, vI x2), (3, vI (x3 - ((zwr im 37 0 (Int32.toNatClampNeg x4) ((x1 * (im 36 0 (Int32.toNatClampNeg x4))) / x2)) 37 0 (Int32.toNatClampNeg x4)))), (4, vI (x4 + 1))] [] (zwr (zwr im 37 0 (Int32.toNatClampNeg x4) ((x1 * (im 36 0 (Int32.toNatClampNeg x4))) / x2)) 38 0 (Int32.toNatClampNeg x4) ((x1 * (im 36 0 (Int32.toNatClampNeg x4))) - (x1 * (im 36 0 (Int32.toNatClampNeg x4))) / x2 * x2)) lv))))) :
 zW x w 18 [(0, vR 35 0), (1, vI x1), (2, vI x2), (3, vI x3), (4, vI x4)] [] im lv := by
  refine zi_iload hO dX4_divide_18 4 rfl ?_
  refine zi_iconst (v := 4) hO dX4_divide_20 (by decide) ?_
  refine zi_icmp_ge (tgt := 76) hO dX4_divide_21 (by decide) (fun c1 => ?_) (fun c1 => ?_)
  · have h := h.1 c1
    refine zi_iconst (v := 0) hO dX4_divide_76 (by decide) ?_
    refine zi_istore (L' := [(0, vR 35 0), (1, vI x1), (2, vI x2), (3, vI x3), (4, vI 0)]) hO dX4_divide_77 (by decide) rfl rfl ?_
    exact h
  · have h := h.2 c1
    refine zi_aload_n hO dX4_divide_24 0 rfl ?_
    refine zi_getR (r' := 37) (i' := 0) hO dX4_divide_25 fX4_15 rfl rfl (zI (by decide)) rfl ?_
    refine zi_iload hO dX4_divide_28 4 rfl ?_
    refine zi_iload_n hO dX4_divide_30 1 rfl ?_
    refine zi_aload_n hO dX4_divide_31 0 rfl ?_
    refine zi_getR (r' := 36) (i' := 0) hO dX4_divide_32 fX4_9 rfl rfl (zI (by decide)) rfl ?_
    refine zi_iload hO dX4_divide_35 4 rfl ?_
    obtain ⟨s1, h⟩ := h
    refine zi_iald hO dX4_divide_37 rfl (zI (by decide)) s1 ?_
    refine zi_imul hO dX4_divide_38 ?_
    refine zi_iload_n hO dX4_divide_39 2 rfl ?_
    obtain ⟨s2, h⟩ := h
    refine zi_idiv hO dX4_divide_40 s2 ?_
    refine zi_iast hO dX4_divide_41 rfl (zI (by decide)) s1 ?_
    refine zi_aload_n hO dX4_divide_42 0 rfl ?_
    refine zi_getR (r' := 38) (i' := 0) hO dX4_divide_43 fX4_18 rfl rfl (zI (by decide)) rfl ?_
    refine zi_iload hO dX4_divide_46 4 rfl ?_
    refine zi_iload_n hO dX4_divide_48 1 rfl ?_
    refine zi_aload_n hO dX4_divide_49 0 rfl ?_
    refine zi_getR (r' := 36) (i' := 0) hO dX4_divide_50 fX4_9 rfl rfl (zI (by decide)) rfl ?_
    refine zi_iload hO dX4_divide_53 4 rfl ?_
    refine zi_iald hO dX4_divide_55 rfl (zI (by decide)) s1 ?_
    refine zi_imul hO dX4_divide_56 ?_
    refine zi_iload_n hO dX4_divide_57 2 rfl ?_
    refine zi_irem hO dX4_divide_58 s2 ?_
    refine zi_iast hO dX4_divide_59 rfl (zI (by decide)) s1 ?_
    refine zi_iload_n hO dX4_divide_60 3 rfl ?_
    refine zi_aload_n hO dX4_divide_61 0 rfl ?_
    refine zi_getR (r' := 37) (i' := 0) hO dX4_divide_62 fX4_15 rfl rfl (zI (by decide)) rfl ?_
    refine zi_iload hO dX4_divide_65 4 rfl ?_
    refine zi_iald hO dX4_divide_67 rfl (zI (by decide)) s1 ?_
    refine zi_isub hO dX4_divide_68 ?_
    refine zi_istore_n (L' := [(0, vR 35 0), (1, vI x1), (2, vI x2), (3, vI (x3 - ((zwr im 37 0 (Int32.toNatClampNeg x4) ((x1 * (im 36 0 (Int32.toNatClampNeg x4))) / x2)) 37 0 (Int32.toNatClampNeg x4)))), (4, vI x4)]) hO dX4_divide_69 (by decide) rfl rfl ?_
    refine zi_iinc (v' := (x4 + 1)) (L' := [(0, vR 35 0), (1, vI x1), (2, vI x2), (3, vI (x3 - ((zwr im 37 0 (Int32.toNatClampNeg x4) ((x1 * (im 36 0 (Int32.toNatClampNeg x4))) / x2)) 37 0 (Int32.toNatClampNeg x4)))), (4, vI (x4 + 1))]) hO dX4_divide_70 4 rfl rfl (by decide) rfl rfl ?_
    refine zi_goto (tgt := 18) hO dX4_divide_73 (by decide) ?_
    exact h
theorem rX4_divide_79 {x : zX} {w : zWd} {im : zMem} {lv : Int64} {P : zMem → Int64 → Prop} {x1 : Int32} {x2 : Int32} {x3 : Int32} {x4 : Int32} (hO : zOK x w zyX4_divide 3) (hR : zRetV x w zyX4_divide P) (hN : zN x 126 126)
 (h : ((x3 ≤ x4 → P im lv) ∧
 (¬ (x3 ≤ x4) → ((4 ≤ x4 → P im lv) ∧
 (¬ (4 ≤ x4) → (∃ P1 : Int32 → zMem → Int64 → Prop, zSpecI x.2.1 w 2 zyX4_ownerOfGreatestRest [vR 35 0] im lv P1 ∧ ∀ (v1 : Int32) (im1 : zMem) (lv1 : Int64), P1 v1 im1 lv1 → (vp_in v1 4 ∧ zW x w 79 [(0, vR 35 0), (1, vI x1), (2, vI x2), (3, vI x3), (4, vI (x4 + 1))] [] (zwr (zwr im1 37 0 (Int32.toNatClampNeg v1) ((im1 37 0 (Int32.toNatClampNeg v1)) + 1)) 38 0 (Int32.toNatClampNeg v1) (-1)) lv1))))))) :
 zW x w 79 [(0, vR 35 0), (1, vI x1), (2, vI x2), (3, vI x3), (4, vI x4)] [] im lv := by
  refine zi_iload hO dX4_divide_79 4 rfl ?_
  refine zi_iload_n hO dX4_divide_81 3 rfl ?_
  refine zi_icmp_ge (tgt := 122) hO dX4_divide_82 (by decide) (fun c1 => ?_) (fun c1 => ?_)
  · have h := h.1 c1
    exact zr_V hO hR rfl dX4_divide_122 h
  · have h := h.2 c1
    refine zi_iload hO dX4_divide_85 4 rfl ?_
    refine zi_iconst (v := 4) hO dX4_divide_87 (by decide) ?_
    refine zi_icmp_ge (tgt := 122) hO dX4_divide_88 (by decide) (fun c2 => ?_) (fun c2 => ?_)
    · have h := h.1 c2
      exact zr_V hO hR rfl dX4_divide_122 h
    · have h := h.2 c2
      refine zi_aload_n hO dX4_divide_91 0 rfl ?_
      obtain ⟨P1, hM1, h⟩ := h
      refine zc_VI (as := []) hO hN dX4_divide_92 kX4_101 (by decide) rfl (zI (by decide)) rfl rfl (Nat.le_of_ble_eq_true rfl) rfl rfl hM1 (fun v1 im1 lv1 hp1 => ?_)
      replace h := h v1 im1 lv1 hp1
      refine zi_istore (L' := [(0, vR 35 0), (1, vI x1), (2, vI x2), (3, vI x3), (4, vI x4), (5, vI v1)]) hO dX4_divide_95 (by decide) rfl rfl ?_
      refine zi_aload_n hO dX4_divide_97 0 rfl ?_
      refine zi_getR (r' := 37) (i' := 0) hO dX4_divide_98 fX4_15 rfl rfl (zI (by decide)) rfl ?_
      refine zi_iload hO dX4_divide_101 5 rfl ?_
      refine zi_dup2 hO dX4_divide_103 rfl rfl ?_
      obtain ⟨s2, h⟩ := h
      refine zi_iald hO dX4_divide_104 rfl (zI (by decide)) s2 ?_
      refine zi_iconst (v := 1) hO dX4_divide_105 (by decide) ?_
      refine zi_iadd hO dX4_divide_106 ?_
      refine zi_iast hO dX4_divide_107 rfl (zI (by decide)) s2 ?_
      refine zi_aload_n hO dX4_divide_108 0 rfl ?_
      refine zi_getR (r' := 38) (i' := 0) hO dX4_divide_109 fX4_18 rfl rfl (zI (by decide)) rfl ?_
      refine zi_iload hO dX4_divide_112 5 rfl ?_
      refine zi_iconst (v := (-1)) hO dX4_divide_114 (by decide) ?_
      refine zi_iast hO dX4_divide_115 rfl (zI (by decide)) s2 ?_
      refine zi_iinc (v' := (x4 + 1)) (L' := [(0, vR 35 0), (1, vI x1), (2, vI x2), (3, vI x3), (4, vI (x4 + 1)), (5, vI v1)]) hO dX4_divide_116 4 rfl rfl (by decide) rfl rfl ?_
      refine zi_goto (tgt := 79) hO dX4_divide_119 (by decide) ?_
      refine zi_pick (L' := [(0, vR 35 0), (1, vI x1), (2, vI x2), (3, vI x3), (4, vI (x4 + 1))]) [0, 1, 2, 3, 4] rfl ?_
      exact h
theorem rX4_divideDelays_0 {x : zX} {w : zWd} {im : zMem} {lv : Int64} {P : zMem → Int64 → Prop} (hO : zOK x w zyX4_divideDelays 4) (hR : zRetV x w zyX4_divideDelays P) (hN : zN x 126 126)
 (h : zW x w 2 [(0, vR 35 0), (1, vI 0)] [] im lv) :
 zW x w 0 [(0, vR 35 0)] [] im lv := by
  refine zi_iconst (v := 0) hO dX4_divideDelays_0 (by decide) ?_
  refine zi_istore_n (L' := [(0, vR 35 0), (1, vI 0)]) hO dX4_divideDelays_1 (by decide) rfl rfl ?_
  exact h
theorem rX4_divideDelays_2 {x : zX} {w : zWd} {im : zMem} {lv : Int64} {P : zMem → Int64 → Prop} {x1 : Int32} (hO : zOK x w zyX4_divideDelays 4) (hR : zRetV x w zyX4_divideDelays P) (hN : zN x 126 126)
 (h : ((4 ≤ x1 → (∃ P1 : Int32 → zMem → Int64 → Prop, zSpecI x.2.1 w 2 zyX1_delaysTogether [vR 10 0] im lv P1 ∧ ∀ (v1 : Int32) (im1 : zMem) (lv1 : Int64), P1 v1 im1 lv1 → (∃ P2 : zMem → Int64 → Prop, zSpecV x.2.1 w 3 zyX4_divide [vR 35 0, vI v1, vI (im1 10 0 1)] im1 lv1 P2 ∧ ∀ (im2 : zMem) (lv2 : Int64), P2 im2 lv2 → P im2 lv2))) ∧
 (¬ (4 ≤ x1) → (∃ P3 : Int32 → zMem → Int64 → Prop, zSpecI x.2.1 w 2 zyX1_flightsOf [vR 10 0, vI x1] im lv P3 ∧ ∀ (v3 : Int32) (im3 : zMem) (lv3 : Int64), P3 v3 im3 lv3 → (vp_in x1 4 ∧ zW x w 2 [(0, vR 35 0), (1, vI (x1 + 1))] [] (zwr im3 36 0 (Int32.toNatClampNeg x1) v3) lv3))))) :
 zW x w 2 [(0, vR 35 0), (1, vI x1)] [] im lv := by
  refine zi_iload_n hO dX4_divideDelays_2 1 rfl ?_
  refine zi_iconst (v := 4) hO dX4_divideDelays_3 (by decide) ?_
  refine zi_icmp_ge (tgt := 27) hO dX4_divideDelays_4 (by decide) (fun c1 => ?_) (fun c1 => ?_)
  · have h := h.1 c1
    refine zi_aload_n hO dX4_divideDelays_27 0 rfl ?_
    refine zi_aload_n hO dX4_divideDelays_28 0 rfl ?_
    refine zi_getR (r' := 10) (i' := 0) hO dX4_divideDelays_29 fX4_21 rfl rfl (zI (by decide)) rfl ?_
    obtain ⟨P1, hM1, h⟩ := h
    refine zc_VI (as := []) hO hN dX4_divideDelays_32 kX4_59 (by decide) rfl (zI (by decide)) rfl rfl (Nat.le_of_ble_eq_true rfl) rfl rfl hM1 (fun v1 im1 lv1 hp1 => ?_)
    replace h := h v1 im1 lv1 hp1
    refine zi_aload_n hO dX4_divideDelays_35 0 rfl ?_
    refine zi_getR (r' := 10) (i' := 0) hO dX4_divideDelays_36 fX4_21 rfl rfl (zI (by decide)) rfl ?_
    refine zi_getI hO dX4_divideDelays_39 fX4_63 rfl rfl (zI (by decide)) ?_
    obtain ⟨P2, hM2, h⟩ := h
    refine zc_VV (as := [vI v1, vI (im1 10 0 1)]) hO hN dX4_divideDelays_42 kX4_67 (by decide) rfl (zI (by decide)) rfl rfl (Nat.le_of_ble_eq_true rfl) rfl rfl hM2 (fun im2 lv2 hp2 => ?_)
    replace h := h im2 lv2 hp2
    exact zr_V hO hR rfl dX4_divideDelays_45 h
  · have h := h.2 c1
    refine zi_aload_n hO dX4_divideDelays_7 0 rfl ?_
    refine zi_getR (r' := 36) (i' := 0) hO dX4_divideDelays_8 fX4_9 rfl rfl (zI (by decide)) rfl ?_
    refine zi_iload_n hO dX4_divideDelays_11 1 rfl ?_
    refine zi_aload_n hO dX4_divideDelays_12 0 rfl ?_
    refine zi_getR (r' := 10) (i' := 0) hO dX4_divideDelays_13 fX4_21 rfl rfl (zI (by decide)) rfl ?_
    refine zi_iload_n hO dX4_divideDelays_16 1 rfl ?_
    obtain ⟨P3, hM3, h⟩ := h
    refine zc_VI (as := [vI x1]) hO hN dX4_divideDelays_17 kX4_56 (by decide) rfl (zI (by decide)) rfl rfl (Nat.le_of_ble_eq_true rfl) rfl rfl hM3 (fun v3 im3 lv3 hp3 => ?_)
    replace h := h v3 im3 lv3 hp3
    obtain ⟨s4, h⟩ := h
    refine zi_iast hO dX4_divideDelays_20 rfl (zI (by decide)) s4 ?_
    refine zi_iinc (v' := (x1 + 1)) (L' := [(0, vR 35 0), (1, vI (x1 + 1))]) hO dX4_divideDelays_21 1 rfl rfl (by decide) rfl rfl ?_
    refine zi_goto (tgt := 2) hO dX4_divideDelays_24 (by decide) ?_
    exact h
theorem rX4_divideTooMuch_0 {x : zX} {w : zWd} {im : zMem} {lv : Int64} {P : zMem → Int64 → Prop} {x1 : Int32} {x2 : Int32} (hO : zOK x w zyX4_divideTooMuch 4) (hR : zRetV x w zyX4_divideTooMuch P) (hN : zN x 126 126)
 (h : (∃ P1 : zMem → Int64 → Prop, zSpecV x.2.1 w 2 zyJ7_fill_53178 [vR 36 0, vI 0] im lv P1 ∧ ∀ (im1 : zMem) (lv1 : Int64), P1 im1 lv1 → zW x w 10 [(0, vR 35 0), (1, vI x1), (2, vI x2), (3, vI 0)] [] im1 lv1)) :
 zW x w 0 [(0, vR 35 0), (1, vI x1), (2, vI x2)] [] im lv := by
  refine zi_aload_n hO dX4_divideTooMuch_0 0 rfl ?_
  refine zi_getR (r' := 36) (i' := 0) hO dX4_divideTooMuch_1 fX4_9 rfl rfl (zI (by decide)) rfl ?_
  refine zi_iconst (v := 0) hO dX4_divideTooMuch_4 (by decide) ?_
  obtain ⟨P1, hM1, h⟩ := h
  refine zc_SV (as := [vR 36 0, vI 0]) hO hN dX4_divideTooMuch_5 kX4_70 (by decide) rfl (Nat.le_of_ble_eq_true rfl) rfl rfl hM1 (fun im1 lv1 hp1 => ?_)
  replace h := h im1 lv1 hp1
  refine zi_iconst (v := 0) hO dX4_divideTooMuch_8 (by decide) ?_
  refine zi_istore_n (L' := [(0, vR 35 0), (1, vI x1), (2, vI x2), (3, vI 0)]) hO dX4_divideTooMuch_9 (by decide) rfl rfl ?_
  exact h
theorem rX4_divideTooMuch_10 {x : zX} {w : zWd} {im : zMem} {lv : Int64} {P : zMem → Int64 → Prop} {x1 : Int32} {x2 : Int32} {x3 : Int32} (hO : zOK x w zyX4_divideTooMuch 4) (hR : zRetV x w zyX4_divideTooMuch P) (hN : zN x 126 126)
 (h : (((im 10 0 1) ≤ x3 → (vp_in ((x1 * 48) + x2) 384 ∧ (∃ P4 : zMem → Int64 → Prop, zSpecV x.2.1 w 3 zyX4_divide [vR 35 0, vI (if 0 < ((im 21 0 (Int32.toNatClampNeg ((x1 * 48) + x2))) - (im 22 0 (Int32.toNatClampNeg ((x1 * 48) + x2)))) then ((im 21 0 (Int32.toNatClampNeg ((x1 * 48) + x2))) - (im 22 0 (Int32.toNatClampNeg ((x1 * 48) + x2)))) else 0), vI (im 21 0 (Int32.toNatClampNeg ((x1 * 48) + x2)))] im lv P4 ∧ ∀ (im4 : zMem) (lv4 : Int64), P4 im4 lv4 → P im4 lv4))) ∧
 (¬ ((im 10 0 1) ≤ x3) → (vp_in x3 12 ∧ (∃ P6 : Int32 → zMem → Int64 → Prop, zSpecI x.2.1 w 2 zyX2_roomIn [vR 12 (Int32.toNatClampNeg x3), vI x2, vI (im 12 (Int32.toNatClampNeg x3) 8), vI (im 12 (Int32.toNatClampNeg x3) 9)] im lv P6 ∧ ∀ (v6 : Int32) (im6 : zMem) (lv6 : Int64), P6 v6 im6 lv6 → ((¬ (v6 = x1) → zW x w 10 [(0, vR 35 0), (1, vI x1), (2, vI x2), (3, vI (x3 + 1))] [] im6 lv6) ∧
 (v6 = x1 → (vp_in (im6 12 (Int32.toNatClampNeg x3) 0) 4 ∧ zW x w 10 [(0, vR 35 0), (1, vI x1), (2, vI x2), (3, vI (x3 + 1))] [] (zwr im6 36 0 (Int32.toNatClampNeg (im6 12 (Int32.toNatClampNeg x3) 0)) ((im6 36 0 (Int32.toNatClampNeg (im6 12 (Int32.toNatClampNeg x3) 0))) + (im6 12 (Int32.toNatClampNeg x3) 1))) lv6)))))))) :
 zW x w 10 [(0, vR 35 0), (1, vI x1), (2, vI x2), (3, vI x3)] [] im lv := by
  refine zi_iload_n hO dX4_divideTooMuch_10 3 rfl ?_
  refine zi_aload_n hO dX4_divideTooMuch_11 0 rfl ?_
  refine zi_getR (r' := 10) (i' := 0) hO dX4_divideTooMuch_12 fX4_21 rfl rfl (zI (by decide)) rfl ?_
  refine zi_getI hO dX4_divideTooMuch_15 fX4_63 rfl rfl (zI (by decide)) ?_
  refine zi_icmp_ge (tgt := 76) hO dX4_divideTooMuch_18 (by decide) (fun c1 => ?_) (fun c1 => ?_)
  · have h := h.1 c1
    refine zi_iload_n hO dX4_divideTooMuch_76 1 rfl ?_
    refine zi_iload_n hO dX4_divideTooMuch_77 2 rfl ?_
    refine zc_NI (as := [vI x1, vI x2]) hO hN dX4_divideTooMuch_78 kX4_43 ksX4_43 (by decide) rfl (Nat.le_of_ble_eq_true rfl) rfl rfl (C_X11_cellOf _ _ _ _) (fun v1 im1 lv1 hp1 => ?_)
    rw [hp1.1, hp1.2.1, hp1.2.2]
    refine zi_istore_n (L' := [(0, vR 35 0), (1, vI x1), (2, vI x2), (3, vI ((x1 * 48) + x2))]) hO dX4_divideTooMuch_81 (by decide) rfl rfl ?_
    refine zi_aload_n hO dX4_divideTooMuch_82 0 rfl ?_
    refine zi_aload_n hO dX4_divideTooMuch_83 0 rfl ?_
    refine zi_getR (r' := 20) (i' := 0) hO dX4_divideTooMuch_84 fX4_25 rfl rfl (zI (by decide)) rfl ?_
    refine zi_iload_n hO dX4_divideTooMuch_87 3 rfl ?_
    obtain ⟨s3, h⟩ := h
    refine zc_VI (as := [vI ((x1 * 48) + x2)]) hO hN dX4_divideTooMuch_88 kX4_47 (by decide) rfl (zI (by decide)) rfl rfl (Nat.le_of_ble_eq_true rfl) rfl rfl (C_X8_tooMuchIn _ _ _ _ s3) (fun v2 im2 lv2 hp2 => ?_)
    rw [hp2.1, hp2.2.1, hp2.2.2]
    refine zi_aload_n hO dX4_divideTooMuch_91 0 rfl ?_
    refine zi_getR (r' := 20) (i' := 0) hO dX4_divideTooMuch_92 fX4_25 rfl rfl (zI (by decide)) rfl ?_
    refine zi_getR (r' := 21) (i' := 0) hO dX4_divideTooMuch_95 fX4_98 rfl rfl (zI (by decide)) rfl ?_
    refine zi_iload_n hO dX4_divideTooMuch_98 3 rfl ?_
    refine zi_iald hO dX4_divideTooMuch_99 rfl (zI (by decide)) s3 ?_
    obtain ⟨P4, hM4, h⟩ := h
    refine zc_VV (as := [vI (if 0 < ((im 21 0 (Int32.toNatClampNeg ((x1 * 48) + x2))) - (im 22 0 (Int32.toNatClampNeg ((x1 * 48) + x2)))) then ((im 21 0 (Int32.toNatClampNeg ((x1 * 48) + x2))) - (im 22 0 (Int32.toNatClampNeg ((x1 * 48) + x2)))) else 0), vI (im 21 0 (Int32.toNatClampNeg ((x1 * 48) + x2)))]) hO hN dX4_divideTooMuch_100 kX4_67 (by decide) rfl (zI (by decide)) rfl rfl (Nat.le_of_ble_eq_true rfl) rfl rfl hM4 (fun im4 lv4 hp4 => ?_)
    replace h := h im4 lv4 hp4
    exact zr_V hO hR rfl dX4_divideTooMuch_103 h
  · have h := h.2 c1
    refine zi_aload_n hO dX4_divideTooMuch_21 0 rfl ?_
    refine zi_getR (r' := 10) (i' := 0) hO dX4_divideTooMuch_22 fX4_21 rfl rfl (zI (by decide)) rfl ?_
    refine zi_getR (r' := 11) (i' := 0) hO dX4_divideTooMuch_25 fX4_76 rfl rfl (zI (by decide)) rfl ?_
    refine zi_iload_n hO dX4_divideTooMuch_28 3 rfl ?_
    obtain ⟨s5, h⟩ := h
    refine zi_aald (t := 1) (r' := 12) (i' := (Int32.toNatClampNeg x3)) hO dX4_divideTooMuch_29 rfl (zI (by decide)) s5 rfl ?_
    refine zi_astore (L' := [(0, vR 35 0), (1, vI x1), (2, vI x2), (3, vI x3), (4, vR 12 (Int32.toNatClampNeg x3))]) hO dX4_divideTooMuch_30 (by decide) rfl rfl ?_
    refine zi_aload hO dX4_divideTooMuch_32 4 rfl ?_
    refine zi_iload_n hO dX4_divideTooMuch_34 2 rfl ?_
    refine zi_aload hO dX4_divideTooMuch_35 4 rfl ?_
    refine zi_getI hO dX4_divideTooMuch_37 fX4_80 rfl rfl (zI (zvp s5)) ?_
    refine zi_aload hO dX4_divideTooMuch_40 4 rfl ?_
    refine zi_getI hO dX4_divideTooMuch_42 fX4_85 rfl rfl (zI (zvp s5)) ?_
    obtain ⟨P6, hM6, h⟩ := h
    refine zc_VI (as := [vI x2, vI (im 12 (Int32.toNatClampNeg x3) 8), vI (im 12 (Int32.toNatClampNeg x3) 9)]) hO hN dX4_divideTooMuch_45 kX4_88 (by decide) rfl (zI (zvp s5)) rfl rfl (Nat.le_of_ble_eq_true rfl) rfl rfl hM6 (fun v6 im6 lv6 hp6 => ?_)
    replace h := h v6 im6 lv6 hp6
    refine zi_iload_n hO dX4_divideTooMuch_48 1 rfl ?_
    refine zi_icmp_ne (tgt := 70) hO dX4_divideTooMuch_49 (by decide) (fun c2 => ?_) (fun c2 => ?_)
    · have h := h.1 c2
      refine zi_iinc (v' := (x3 + 1)) (L' := [(0, vR 35 0), (1, vI x1), (2, vI x2), (3, vI (x3 + 1)), (4, vR 12 (Int32.toNatClampNeg x3))]) hO dX4_divideTooMuch_70 3 rfl rfl (by decide) rfl rfl ?_
      refine zi_goto (tgt := 10) hO dX4_divideTooMuch_73 (by decide) ?_
      refine zi_pick (L' := [(0, vR 35 0), (1, vI x1), (2, vI x2), (3, vI (x3 + 1))]) [0, 1, 2, 3] rfl ?_
      exact h
    · have h := h.2 c2
      refine zi_aload_n hO dX4_divideTooMuch_52 0 rfl ?_
      refine zi_getR (r' := 36) (i' := 0) hO dX4_divideTooMuch_53 fX4_9 rfl rfl (zI (by decide)) rfl ?_
      refine zi_aload hO dX4_divideTooMuch_56 4 rfl ?_
      refine zi_getI hO dX4_divideTooMuch_58 fX4_92 rfl rfl (zI (zvp s5)) ?_
      refine zi_dup2 hO dX4_divideTooMuch_61 rfl rfl ?_
      obtain ⟨s7, h⟩ := h
      refine zi_iald hO dX4_divideTooMuch_62 rfl (zI (by decide)) s7 ?_
      refine zi_aload hO dX4_divideTooMuch_63 4 rfl ?_
      refine zi_getI hO dX4_divideTooMuch_65 fX4_95 rfl rfl (zI (zvp s5)) ?_
      refine zi_iadd hO dX4_divideTooMuch_68 ?_
      refine zi_iast hO dX4_divideTooMuch_69 rfl (zI (by decide)) s7 ?_
      refine zi_iinc (v' := (x3 + 1)) (L' := [(0, vR 35 0), (1, vI x1), (2, vI x2), (3, vI (x3 + 1)), (4, vR 12 (Int32.toNatClampNeg x3))]) hO dX4_divideTooMuch_70 3 rfl rfl (by decide) rfl rfl ?_
      refine zi_goto (tgt := 10) hO dX4_divideTooMuch_73 (by decide) ?_
      refine zi_pick (L' := [(0, vR 35 0), (1, vI x1), (2, vI x2), (3, vI (x3 + 1))]) [0, 1, 2, 3] rfl ?_
      exact h
theorem rX4_shareOf_0 {x : zX} {w : zWd} {im : zMem} {lv : Int64} {P : Int32 → zMem → Int64 → Prop} {x1 : Int32} (hO : zOK x w zyX4_shareOf 5) (hR : zRetI x w zyX4_shareOf P) (hN : zN x 126 126)
 (h : (∃ P1 : zMem → Int64 → Prop, zSpecV x.2.1 w 4 zyX4_divideDelays [vR 35 0] im lv P1 ∧ ∀ (im1 : zMem) (lv1 : Int64), P1 im1 lv1 → (vp_in x1 4 ∧ P (im1 37 0 (Int32.toNatClampNeg x1)) im1 lv1))) :
 zW x w 0 [(0, vR 35 0), (1, vI x1)] [] im lv := by
  refine zi_aload_n hO dX4_shareOf_0 0 rfl ?_
  obtain ⟨P1, hM1, h⟩ := h
  refine zc_VV (as := []) hO hN dX4_shareOf_1 kX4_29 (by decide) rfl (zI (by decide)) rfl rfl (Nat.le_of_ble_eq_true rfl) rfl rfl hM1 (fun im1 lv1 hp1 => ?_)
  replace h := h im1 lv1 hp1
  refine zi_aload_n hO dX4_shareOf_4 0 rfl ?_
  refine zi_getR (r' := 37) (i' := 0) hO dX4_shareOf_5 fX4_15 rfl rfl (zI (by decide)) rfl ?_
  refine zi_iload_n hO dX4_shareOf_8 1 rfl ?_
  obtain ⟨s2, h⟩ := h
  refine zi_iald hO dX4_shareOf_9 rfl (zI (by decide)) s2 ?_
  exact zr_I hO hR rfl dX4_shareOf_10 h
theorem rX4_unfairness_0 {x : zX} {w : zWd} {im : zMem} {lv : Int64} {P : Int32 → zMem → Int64 → Prop} (hO : zOK x w zyX4_unfairness 5) (hR : zRetI x w zyX4_unfairness P) (hN : zN x 126 126)
 (h : (∃ P1 : zMem → Int64 → Prop, zSpecV x.2.1 w 4 zyX4_divideDelays [vR 35 0] im lv P1 ∧ ∀ (im1 : zMem) (lv1 : Int64), P1 im1 lv1 → zW x w 8 [(0, vR 35 0), (1, vI 0), (2, vI 0)] [] im1 lv1)) :
 zW x w 0 [(0, vR 35 0)] [] im lv := by
  refine zi_aload_n hO dX4_unfairness_0 0 rfl ?_
  obtain ⟨P1, hM1, h⟩ := h
  refine zc_VV (as := []) hO hN dX4_unfairness_1 kX4_29 (by decide) rfl (zI (by decide)) rfl rfl (Nat.le_of_ble_eq_true rfl) rfl rfl hM1 (fun im1 lv1 hp1 => ?_)
  replace h := h im1 lv1 hp1
  refine zi_iconst (v := 0) hO dX4_unfairness_4 (by decide) ?_
  refine zi_istore_n (L' := [(0, vR 35 0), (1, vI 0)]) hO dX4_unfairness_5 (by decide) rfl rfl ?_
  refine zi_iconst (v := 0) hO dX4_unfairness_6 (by decide) ?_
  refine zi_istore_n (L' := [(0, vR 35 0), (1, vI 0), (2, vI 0)]) hO dX4_unfairness_7 (by decide) rfl rfl ?_
  exact h
theorem rX4_unfairness_8 {x : zX} {w : zWd} {im : zMem} {lv : Int64} {P : Int32 → zMem → Int64 → Prop} {x1 : Int32} {x2 : Int32} (hO : zOK x w zyX4_unfairness 5) (hR : zRetI x w zyX4_unfairness P) (hN : zN x 126 126)
 (h : ((4 ≤ x2 → P x1 im lv) ∧
 (¬ (4 ≤ x2) → (∃ P1 : Int32 → zMem → Int64 → Prop, zSpecI x.2.1 w 2 zyX1_delaysOf [vR 10 0, vI x2] im lv P1 ∧ ∀ (v1 : Int32) (im1 : zMem) (lv1 : Int64), P1 v1 im1 lv1 → (vp_in x2 4 ∧ zW x w 8 [(0, vR 35 0), (1, vI (x1 + (if 0 ≤ (v1 - (im1 37 0 (Int32.toNatClampNeg x2))) then (v1 - (im1 37 0 (Int32.toNatClampNeg x2))) else 0 - (v1 - (im1 37 0 (Int32.toNatClampNeg x2)))))), (2, vI (x2 + 1))] [] im1 lv1))))) :
 zW x w 8 [(0, vR 35 0), (1, vI x1), (2, vI x2)] [] im lv := by
  refine zi_iload_n hO dX4_unfairness_8 2 rfl ?_
  refine zi_iconst (v := 4) hO dX4_unfairness_9 (by decide) ?_
  refine zi_icmp_ge (tgt := 40) hO dX4_unfairness_10 (by decide) (fun c1 => ?_) (fun c1 => ?_)
  · have h := h.1 c1
    refine zi_iload_n hO dX4_unfairness_40 1 rfl ?_
    exact zr_I hO hR rfl dX4_unfairness_41 h
  · have h := h.2 c1
    refine zi_iload_n hO dX4_unfairness_13 1 rfl ?_
    refine zi_aload_n hO dX4_unfairness_14 0 rfl ?_
    refine zi_getR (r' := 10) (i' := 0) hO dX4_unfairness_15 fX4_21 rfl rfl (zI (by decide)) rfl ?_
    refine zi_iload_n hO dX4_unfairness_18 2 rfl ?_
    obtain ⟨P1, hM1, h⟩ := h
    refine zc_VI (as := [vI x2]) hO hN dX4_unfairness_19 kX4_32 (by decide) rfl (zI (by decide)) rfl rfl (Nat.le_of_ble_eq_true rfl) rfl rfl hM1 (fun v1 im1 lv1 hp1 => ?_)
    replace h := h v1 im1 lv1 hp1
    refine zi_aload_n hO dX4_unfairness_22 0 rfl ?_
    refine zi_getR (r' := 37) (i' := 0) hO dX4_unfairness_23 fX4_15 rfl rfl (zI (by decide)) rfl ?_
    refine zi_iload_n hO dX4_unfairness_26 2 rfl ?_
    obtain ⟨s2, h⟩ := h
    refine zi_iald hO dX4_unfairness_27 rfl (zI (by decide)) s2 ?_
    refine zi_isub hO dX4_unfairness_28 ?_
    refine zi_abs hO hN (by decide) dX4_unfairness_29 qX4_38 q_abs_s q_math_i q_abs_c (Nat.le_of_ble_eq_true rfl) ?_
    refine zi_iadd hO dX4_unfairness_32 ?_
    refine zi_istore_n (L' := [(0, vR 35 0), (1, vI (x1 + (if 0 ≤ (v1 - (im1 37 0 (Int32.toNatClampNeg x2))) then (v1 - (im1 37 0 (Int32.toNatClampNeg x2))) else 0 - (v1 - (im1 37 0 (Int32.toNatClampNeg x2)))))), (2, vI x2)]) hO dX4_unfairness_33 (by decide) rfl rfl ?_
    refine zi_iinc (v' := (x2 + 1)) (L' := [(0, vR 35 0), (1, vI (x1 + (if 0 ≤ (v1 - (im1 37 0 (Int32.toNatClampNeg x2))) then (v1 - (im1 37 0 (Int32.toNatClampNeg x2))) else 0 - (v1 - (im1 37 0 (Int32.toNatClampNeg x2)))))), (2, vI (x2 + 1))]) hO dX4_unfairness_34 2 rfl rfl (by decide) rfl rfl ?_
    refine zi_goto (tgt := 8) hO dX4_unfairness_37 (by decide) ?_
    exact h
theorem rX4_blameOf_0 {x : zX} {w : zWd} {im : zMem} {lv : Int64} {P : Int32 → zMem → Int64 → Prop} {x1 : Int32} (hO : zOK x w zyX4_blameOf 5) (hR : zRetI x w zyX4_blameOf P) (hN : zN x 126 126)
 (h : zW x w 4 [(0, vR 35 0), (1, vI x1), (2, vI 0), (3, vI 0)] [] im lv) :
 zW x w 0 [(0, vR 35 0), (1, vI x1)] [] im lv := by
  refine zi_iconst (v := 0) hO dX4_blameOf_0 (by decide) ?_
  refine zi_istore_n (L' := [(0, vR 35 0), (1, vI x1), (2, vI 0)]) hO dX4_blameOf_1 (by decide) rfl rfl ?_
  refine zi_iconst (v := 0) hO dX4_blameOf_2 (by decide) ?_
  refine zi_istore_n (L' := [(0, vR 35 0), (1, vI x1), (2, vI 0), (3, vI 0)]) hO dX4_blameOf_3 (by decide) rfl rfl ?_
  exact h
theorem rX4_blameOf_4 {x : zX} {w : zWd} {im : zMem} {lv : Int64} {P : Int32 → zMem → Int64 → Prop} {x1 : Int32} {x2 : Int32} {x3 : Int32} (hO : zOK x w zyX4_blameOf 5) (hR : zRetI x w zyX4_blameOf P) (hN : zN x 126 126)
 (h : ((8 ≤ x3 → P x2 im lv) ∧
 (¬ (8 ≤ x3) → zW x w 13 [(0, vR 35 0), (1, vI x1), (2, vI x2), (3, vI x3), (4, vI 0)] [] im lv))) :
 zW x w 4 [(0, vR 35 0), (1, vI x1), (2, vI x2), (3, vI x3)] [] im lv := by
  refine zi_iload_n hO dX4_blameOf_4 3 rfl ?_
  refine zi_bipush (v := 8) hO dX4_blameOf_5 (by decide) ?_
  refine zi_icmp_ge (tgt := 64) hO dX4_blameOf_7 (by decide) (fun c1 => ?_) (fun c1 => ?_)
  · have h := h.1 c1
    refine zi_iload_n hO dX4_blameOf_64 2 rfl ?_
    exact zr_I hO hR rfl dX4_blameOf_65 h
  · have h := h.2 c1
    refine zi_iconst (v := 0) hO dX4_blameOf_10 (by decide) ?_
    refine zi_istore (L' := [(0, vR 35 0), (1, vI x1), (2, vI x2), (3, vI x3), (4, vI 0)]) hO dX4_blameOf_11 (by decide) rfl rfl ?_
    exact h
theorem rX4_blameOf_13 {x : zX} {w : zWd} {im : zMem} {lv : Int64} {P : Int32 → zMem → Int64 → Prop} {x1 : Int32} {x2 : Int32} {x3 : Int32} {x4 : Int32} (hO : zOK x w zyX4_blameOf 5) (hR : zRetI x w zyX4_blameOf P) (hN : zN x 126 126)
 (h : ((48 ≤ x4 → zW x w 4 [(0, vR 35 0), (1, vI x1), (2, vI x2), (3, vI (x3 + 1))] [] im lv) ∧
 (¬ (48 ≤ x4) → (vp_in ((x3 * 48) + x4) 384 ∧ (((if 0 < ((im 21 0 (Int32.toNatClampNeg ((x3 * 48) + x4))) - (im 22 0 (Int32.toNatClampNeg ((x3 * 48) + x4)))) then ((im 21 0 (Int32.toNatClampNeg ((x3 * 48) + x4))) - (im 22 0 (Int32.toNatClampNeg ((x3 * 48) + x4)))) else 0) ≤ 0 → zW x w 13 [(0, vR 35 0), (1, vI x1), (2, vI x2), (3, vI x3), (4, vI (x4 + 1))] [] im lv) ∧
 (¬ ((if 0 < ((im 21 0 (Int32.toNatClampNeg ((x3 * 48) + x4))) - (im 22 0 (Int32.toNatClampNeg ((x3 * 48) + x4)))) then ((im 21 0 (Int32.toNatClampNeg ((x3 * 48) + x4))) - (im 22 0 (Int32.toNatClampNeg ((x3 * 48) + x4)))) else 0) ≤ 0) → (∃ P4 : zMem → Int64 → Prop, zSpecV x.2.1 w 4 zyX4_divideTooMuch [vR 35 0, vI x3, vI x4] im lv P4 ∧ ∀ (im4 : zMem) (lv4 : Int64), P4 im4 lv4 → (vp_in x1 4 ∧ zW x w 13 [(0, vR 35 0), (1, vI x1), (2, vI (x2 + (im4 37 0 (Int32.toNatClampNeg x1)))), (3, vI x3), (4, vI (x4 + 1))] [] im4 lv4)))))))) :
 zW x w 13 [(0, vR 35 0), (1, vI x1), (2, vI x2), (3, vI x3), (4, vI x4)] [] im lv := by
  refine zi_iload hO dX4_blameOf_13 4 rfl ?_
  refine zi_bipush (v := 48) hO dX4_blameOf_15 (by decide) ?_
  refine zi_icmp_ge (tgt := 58) hO dX4_blameOf_17 (by decide) (fun c1 => ?_) (fun c1 => ?_)
  · have h := h.1 c1
    refine zi_iinc (v' := (x3 + 1)) (L' := [(0, vR 35 0), (1, vI x1), (2, vI x2), (3, vI (x3 + 1)), (4, vI x4)]) hO dX4_blameOf_58 3 rfl rfl (by decide) rfl rfl ?_
    refine zi_goto (tgt := 4) hO dX4_blameOf_61 (by decide) ?_
    refine zi_pick (L' := [(0, vR 35 0), (1, vI x1), (2, vI x2), (3, vI (x3 + 1))]) [0, 1, 2, 3] rfl ?_
    exact h
  · have h := h.2 c1
    refine zi_aload_n hO dX4_blameOf_20 0 rfl ?_
    refine zi_getR (r' := 20) (i' := 0) hO dX4_blameOf_21 fX4_25 rfl rfl (zI (by decide)) rfl ?_
    refine zi_iload_n hO dX4_blameOf_24 3 rfl ?_
    refine zi_iload hO dX4_blameOf_25 4 rfl ?_
    refine zc_NI (as := [vI x3, vI x4]) hO hN dX4_blameOf_27 kX4_43 ksX4_43 (by decide) rfl (Nat.le_of_ble_eq_true rfl) rfl rfl (C_X11_cellOf _ _ _ _) (fun v1 im1 lv1 hp1 => ?_)
    rw [hp1.1, hp1.2.1, hp1.2.2]
    obtain ⟨s3, h⟩ := h
    refine zc_VI (as := [vI ((x3 * 48) + x4)]) hO hN dX4_blameOf_30 kX4_47 (by decide) rfl (zI (by decide)) rfl rfl (Nat.le_of_ble_eq_true rfl) rfl rfl (C_X8_tooMuchIn _ _ _ _ s3) (fun v2 im2 lv2 hp2 => ?_)
    rw [hp2.1, hp2.2.1, hp2.2.2]
    refine zi_if_le (tgt := 52) hO dX4_blameOf_33 (by decide) (fun c2 => ?_) (fun c2 => ?_)
    · have h := h.1 c2
      refine zi_iinc (v' := (x4 + 1)) (L' := [(0, vR 35 0), (1, vI x1), (2, vI x2), (3, vI x3), (4, vI (x4 + 1))]) hO dX4_blameOf_52 4 rfl rfl (by decide) rfl rfl ?_
      refine zi_goto (tgt := 13) hO dX4_blameOf_55 (by decide) ?_
      exact h
    · have h := h.2 c2
      refine zi_aload_n hO dX4_blameOf_36 0 rfl ?_
      refine zi_iload_n hO dX4_blameOf_37 3 rfl ?_
      refine zi_iload hO dX4_blameOf_38 4 rfl ?_
      obtain ⟨P4, hM4, h⟩ := h
      refine zc_VV (as := [vI x3, vI x4]) hO hN dX4_blameOf_40 kX4_52 (by decide) rfl (zI (by decide)) rfl rfl (Nat.le_of_ble_eq_true rfl) rfl rfl hM4 (fun im4 lv4 hp4 => ?_)
      replace h := h im4 lv4 hp4
      refine zi_iload_n hO dX4_blameOf_43 2 rfl ?_
      refine zi_aload_n hO dX4_blameOf_44 0 rfl ?_
      refine zi_getR (r' := 37) (i' := 0) hO dX4_blameOf_45 fX4_15 rfl rfl (zI (by decide)) rfl ?_
      refine zi_iload_n hO dX4_blameOf_48 1 rfl ?_
      obtain ⟨s5, h⟩ := h
      refine zi_iald hO dX4_blameOf_49 rfl (zI (by decide)) s5 ?_
      refine zi_iadd hO dX4_blameOf_50 ?_
      refine zi_istore_n (L' := [(0, vR 35 0), (1, vI x1), (2, vI (x2 + (im4 37 0 (Int32.toNatClampNeg x1)))), (3, vI x3), (4, vI x4)]) hO dX4_blameOf_51 (by decide) rfl rfl ?_
      refine zi_iinc (v' := (x4 + 1)) (L' := [(0, vR 35 0), (1, vI x1), (2, vI (x2 + (im4 37 0 (Int32.toNatClampNeg x1)))), (3, vI x3), (4, vI (x4 + 1))]) hO dX4_blameOf_52 4 rfl rfl (by decide) rfl rfl ?_
      refine zi_goto (tgt := 13) hO dX4_blameOf_55 (by decide) ?_
      exact h
theorem pow2_1 : ∀ M, M < 16 → ∀ k, k < 4 → (M / 2 ^ k % 2 = 0 ∨ M / 2 ^ k % 2 = 1) := by decide +kernel
theorem nIm1 {a : Nat} (ha : a < 2 ^ 30) : ¬ nI a ≤ (-1 : Int32) := by
  rw [Int32.le_iff_toInt_le, nI_toInt (by omega)]
  have : (-1 : Int32).toInt = -1 := by decide
  omega
theorem nIm1' {a : Nat} (ha : a < 2 ^ 30) : (-1 : Int32) ≤ nI a := by
  rw [Int32.le_iff_toInt_le, nI_toInt (by omega)]
  have : (-1 : Int32).toInt = -1 := by decide
  omega
theorem bestN_step {rest : Nat → Nat} {M : Nat} (hM : M < 16) (hr : ∀ a, a < 4 → rest a < 2 ^ 30) {f : Nat → Int32} (hf : ∀ a, a < 4 → f a = if M / 2 ^ a % 2 = 1 then -1 else nI (rest a)) {k : Nat} (h1 : 1 ≤ k) (h4 : k < 4) : (f k ≤ f ((bestN rest M k).getD 0) → (bestN rest M (k + 1)).getD 0 = (bestN rest M k).getD 0) ∧ (¬ f k ≤ f ((bestN rest M k).getD 0) → (bestN rest M (k + 1)).getD 0 = k) := by
  have hk := hf k h4
  rw [bestN]
  cases hb : bestN rest M k with
  | none =>
    have h0 : M / 2 ^ 0 % 2 = 1 := by
      rcases pow2_1 M hM 0 (by decide) with q | q
      · obtain ⟨b, e⟩ := bestN_some (rest := rest) (M := M) (a := k) ⟨0, by omega, q⟩
        rw [hb] at e; cases e
      · exact q
    have e0 : f 0 = -1 := by rw [hf 0 (by decide), if_pos h0]
    dsimp only [Option.getD_none]
    rw [e0, hk]
    rcases pow2_1 M hM k h4 with q | q
    · rw [if_neg (by omega), if_pos q]
      exact ⟨fun z => absurd z (nIm1 (hr k h4)), fun _ => rfl⟩
    · rw [if_pos q, if_neg (by omega)]
      exact ⟨fun _ => rfl, fun z => absurd (Int32.le_refl _) z⟩
  | some b =>
    obtain ⟨b1, b2⟩ := bestN_spec hb
    have eb : f b = nI (rest b) := by rw [hf b (by omega), if_neg (by omega)]
    dsimp only [Option.getD_some]
    rw [eb, hk]
    have r1 := hr k h4
    have r2 := hr b (by omega)
    rcases pow2_1 M hM k h4 with q | q
    · rw [if_neg (by omega), nI_leI (by omega) (by omega)]
      exact ⟨fun z => by rw [if_neg (by omega)]; rfl, fun z => by rw [if_pos ⟨q, by omega⟩]; rfl⟩
    · rw [if_pos q, if_neg (by omega)]
      exact ⟨fun _ => rfl, fun z => absurd (nIm1' (hr b (by omega))) z⟩
theorem C_X4_ownerOfGreatestRest (l : Launch) (w : zWd) {im : zMem} (lv : Int64) {rest : Nat → Nat} {M b : Nat} (hM : M < 16) (hr : ∀ a, a < 4 → rest a < 2 ^ 30) (hf : ∀ a, a < 4 → im 38 0 a = if M / 2 ^ a % 2 = 1 then -1 else nI (rest a)) (hb : bestN rest M 4 = some b) : zSpecI l w 2 zyX4_ownerOfGreatestRest [vR 35 0] im lv (fun v im' lv' => v = nI b ∧ im' = im ∧ lv' = lv) := by
  refine ze_I (by decide) (Nat.le_of_ble_eq_true rfl) (fun x hO hR hN => rX4_ownerOfGreatestRest_0 hO hR hN ?_)
  have hl : ∀ k, k ≤ 4 → 1 ≤ k → (bestN rest M k).getD 0 < k := by
    intro k hk h1
    cases h : bestN rest M k with
    | none => exact h1
    | some c => exact (bestN_spec h).1
  have key : ∀ n k, n + k = 4 → 1 ≤ k → zW x w 4 [(0, vR 35 0), (1, vI (nI ((bestN rest M k).getD 0))), (2, vI (nI k))] [] im lv := by
    intro n
    induction n with
    | zero =>
      intro k hk h1
      have : k = 4 := by omega
      subst this
      exact rX4_ownerOfGreatestRest_4 hO hR hN ⟨fun _ => ⟨by rw [hb]; rfl, rfl, rfl⟩, fun q => absurd (by decide) q⟩
    | succ n ih =>
      intro k hk h1
      refine rX4_ownerOfGreatestRest_4 hO hR hN ?_
      have h2 := hl k (by omega) h1
      obtain ⟨s1, s2⟩ := bestN_step hM hr hf h1 (show k < 4 by omega)
      have ih := ih (k + 1) (by omega) (by omega)
      rw [nI_clamp (show k < 2 ^ 31 by omega), nI_clamp (show (bestN rest M k).getD 0 < 2 ^ 31 by omega), nI_1 k]
      refine ⟨fun q => ?_, fun _ => ⟨vp_in_nI (by omega) (by decide), vp_in_nI (by omega) (by decide), fun q => ?_, fun q => ?_⟩⟩
      · have : nI 4 ≤ nI k := q
        rw [nI_leI (by omega) (by omega)] at this
        omega
      · rw [s1 q] at ih; exact ih
      · rw [s2 q] at ih; exact ih
  have h0 : (bestN rest M 1).getD 0 = 0 := by
    have := hl 1 (by decide) (by decide)
    omega
  have := key 3 1 rfl (by decide)
  rw [h0] at this
  exact this
def psN (q : Nat → Nat) : Nat → Nat
  | 0 => 0
  | k + 1 => psN q k + q k
theorem psN_mono {q : Nat → Nat} : ∀ {k j : Nat}, psN q k ≤ psN q (k + j)
  | k, 0 => Nat.le_refl _
  | k, j + 1 => Nat.le_trans (psN_mono (j := j)) (Nat.le_add_right _ _)
theorem psN_4 {q : Nat → Nat} : psN q 4 = sum4 q := by
  simp only [psN, sum4, Nat.zero_add]
theorem C_X4_divide (l : Launch) (w : zWd) {im : zMem} (lv : Int64) {A O : Nat} {c : Nat → Nat} (hA : A ≤ 200) (hO0 : O ≤ 200) (hc : ∀ a, a < 4 → im 36 0 a = nI (c a) ∧ c a ≤ 200) (hs : ¬ O = 0 → sum4 c = O) : zSpecV l w 3 zyX4_divide [vR 35 0, vI (nI A), vI (nI O)] im lv (fun im' lv' => ((∀ r, ¬ r = 37 → ¬ r = 38 → im' r = im r) ∧ ∀ a, a < 4 → im' 37 0 a = nI (gsh A c O a)) ∧ lv' = lv) := by
  refine ze_V (by decide) (Nat.le_of_ble_eq_true rfl) (fun x hO hR hN => rX4_divide_0 hO hR hN ?_)
  have hmul : ∀ a, a < 4 → A * c a ≤ 40000 := fun a ha => Nat.mul_le_mul hA (hc a ha).2
  refine ⟨_, C_J7_fill _ _ _ _ (ra := 37) (ia := 0) rfl (by decide) (by decide), ?_⟩
  rintro im0 lv0 ⟨⟨g1, -, g2⟩, rfl⟩
  by_cases h0 : O = 0
  · subst h0
    refine ⟨fun q => absurd q (by decide), fun _ => ⟨⟨fun r hr _ => g1 r hr, fun a ha => ?_⟩, rfl⟩⟩
    rw [g2 a ha]
    unfold gsh
    rw [if_pos rfl]
    rfl
  · obtain ⟨gl1, gl2⟩ := gleft (A := A) (hs h0) h0
    refine ⟨fun _ => ?_, fun q => absurd (nI_lt (a := 0) (by omega) (by omega)) q⟩
    have key2 : ∀ p i M (im1 : zMem), p + i = A - sum4 (fun a => A * c a / O) → M < 16 → btN M 4 = i → (∀ r, ¬ r = 37 → ¬ r = 38 → im1 r = im r) → (∀ a, a < 4 → im1 37 0 a = nI (A * c a / O + M / 2 ^ a % 2)) → (∀ a, a < 4 → im1 38 0 a = if M / 2 ^ a % 2 = 1 then -1 else nI (A * c a % O)) → gvN (fun a => A * c a % O) p M = gvN (fun a => A * c a % O) (A - sum4 (fun a => A * c a / O)) 0 → zW x w 79 [(0, vR 35 0), (1, vI (nI A)), (2, vI (nI O)), (3, vI (nI (A - sum4 (fun a => A * c a / O)))), (4, vI (nI i))] [] im1 lv0 := by
      generalize hn : A - sum4 (fun a => A * c a / O) = n at *
      intro p
      induction p with
      | zero =>
        intro i M im1 hp hM hb h1 h2 h2' h3
        have : i = n := by omega
        subst this
        refine rX4_divide_79 hO hR hN ⟨fun _ => ⟨⟨h1, fun a ha => ?_⟩, rfl⟩, fun q => absurd (Int32.le_refl _) q⟩
        rw [h2 a ha]
        unfold gsh
        rw [gvN] at h3
        rw [if_neg h0, hn, ← h3]
      | succ p ih =>
        intro i M im1 hp hM hb h1 h2 h2' h3
        refine rX4_divide_79 hO hR hN ?_
        obtain ⟨b, hbest⟩ := bestN_some (rest := fun a => A * c a % O) (munmet M hM (by omega))
        rw [gvN, hbest] at h3
        dsimp only at h3
        obtain ⟨b1, b2⟩ := bestN_spec hbest
        obtain ⟨m1, m2, m3, m4⟩ := mbits M hM b b1 b2
        rw [show (4 : Int32) = nI 4 from rfl, nI_leI (by omega) (by omega), nI_leI (by omega) (by omega), nI_1 i]
        refine ⟨fun q => by omega, fun _ => ⟨fun q => by omega, fun _ => ⟨_, C_X4_ownerOfGreatestRest _ _ _ hM (fun a ha => by have := Nat.mod_lt (A * c a) (Nat.pos_of_ne_zero h0); omega) h2' hbest, ?_⟩⟩⟩
        rintro _ _ _ ⟨rfl, rfl, rfl⟩
        rw [nI_clamp (show b < 2 ^ 31 by omega), h2 b b1]
        refine ⟨vp_in_nI b1 (by decide), ih (i + 1) (M + 2 ^ b) _ (by omega) m2 (by omega) (fun r q1 q2 => by rw [zwr_r q2, zwr_r q1]; exact h1 r q1 q2) (fun a ha => ?_) (fun a ha => ?_) h3⟩
        · rw [zwr_r (by decide), zwr_app, m4 a ha]
          by_cases hab : a = b
          · subst hab
            rw [if_pos ⟨rfl, rfl, rfl⟩, if_pos rfl, nI_1, Nat.add_assoc]
          · rw [if_neg (fun q => hab q.2.2), if_neg hab, h2 a ha, Nat.add_zero]
        · rw [zwr_app, m4 a ha]
          by_cases hab : a = b
          · subst hab
            rw [if_pos ⟨rfl, rfl, rfl⟩, if_pos rfl, if_pos (by omega)]
          · rw [if_neg (fun q => hab q.2.2), if_neg hab, zwr_r (by decide), h2' a ha, Nat.add_zero]
    have key : ∀ n k (im1 : zMem), n + k = 4 → (∀ r, ¬ r = 37 → ¬ r = 38 → im1 r = im r) → (∀ a, a < k → im1 37 0 a = nI (A * c a / O) ∧ im1 38 0 a = nI (A * c a % O)) → zW x w 18 [(0, vR 35 0), (1, vI (nI A)), (2, vI (nI O)), (3, vI (nI (A - psN (fun a => A * c a / O) k))), (4, vI (nI k))] [] im1 lv0 := by
      intro n
      induction n with
      | zero =>
        intro k im1 hk h1 h2
        have : k = 4 := by omega
        subst this
        refine rX4_divide_18 hO hR hN ⟨fun _ => ?_, fun q => absurd (by decide) q⟩
        rw [psN_4]
        refine key2 _ 0 0 im1 (Nat.add_zero _) (by decide) rfl h1 (fun a ha => ?_) (fun a ha => ?_) rfl
        · rw [(h2 a ha).1, Nat.zero_div, Nat.zero_mod, Nat.add_zero]
        · rw [(h2 a ha).2, Nat.zero_div, Nat.zero_mod, if_neg (by decide)]
      | succ n ih =>
        intro k im1 hk h1 h2
        refine rX4_divide_18 hO hR hN ?_
        have e36 : im1 36 0 k = nI (c k) := by rw [h1 36 (by decide) (by decide)]; exact (hc k (by omega)).1
        have hm := hmul k (by omega)
        have hp : psN (fun a => A * c a / O) (k + 1) ≤ A := by
          refine Nat.le_trans ?_ gl1
          rw [← psN_4]
          have := psN_mono (q := fun a => A * c a / O) (k := k + 1) (j := 3 - k)
          rw [show k + 1 + (3 - k) = 4 by omega] at this
          exact this
        rw [zwr_eq, nI_clamp (show k < 2 ^ 31 by omega), e36, pk_mul, pk_rem (by omega) (by omega) (by omega), pk_div (by omega) (by omega) (by omega), nI_1 k]
        rw [psN] at hp
        rw [pk_sub (by omega), Nat.sub_sub]
        refine ⟨fun q => ?_, fun _ => ⟨vp_in_nI (by omega) (by decide), nI_ne0 (by omega) (by omega), ih (k + 1) _ (by omega) (fun r q1 q2 => by rw [zwr_r q2, zwr_r q1]; exact h1 r q1 q2) (fun a ha => ⟨?_, ?_⟩)⟩⟩
        · have : nI 4 ≤ nI k := q
          rw [nI_leI (by omega) (by omega)] at this
          omega
        · rw [zwr_r (by decide), zwr_app]
          by_cases hak : a = k
          · subst hak; rw [if_pos ⟨rfl, rfl, rfl⟩]
          · rw [if_neg (fun q => hak q.2.2)]; exact (h2 a (by omega)).1
        · rw [zwr_app]
          by_cases hak : a = k
          · subst hak; rw [if_pos ⟨rfl, rfl, rfl⟩]
          · rw [if_neg (fun q => hak q.2.2), zwr_r (by decide)]; exact (h2 a (by omega)).2
    exact key 4 0 im0 rfl (fun r q1 _ => g1 r q1) (fun a ha => by omega)
theorem C_X4_divideDelays (l : Launch) (w : zWd) {m im : zMem} (lv : Int64) (hW : WF m) (hC : RC m im) : zSpecV l w 4 zyX4_divideDelays [vR 35 0] im lv (fun im' lv' => ((∀ r, ¬ (36 ≤ r ∧ r ≤ 38) → im' r = im r) ∧ ∀ a, a < 4 → im' 37 0 a = nI (shr m a)) ∧ lv' = lv) := by
  refine ze_V (by decide) (Nat.le_of_ble_eq_true rfl) (fun x hO hR hN => rX4_divideDelays_0 hO hR hN ?_)
  have h12 := hW.1.2
  have key : ∀ n k (im1 : zMem), n + k = 4 → (∀ r, ¬ r = 36 → im1 r = im r) → (∀ a, a < k → im1 36 0 a = nI (flOf m a)) → zW x w 2 [(0, vR 35 0), (1, vI (nI k))] [] im1 lv := by
    intro n
    induction n with
    | zero =>
      intro k im1 hk h1 h2
      have : k = 4 := by omega
      subst this
      have hC1 : RC m im1 := hC.fr (fun r g => h1 r (by omega))
      refine rX4_divideDelays_2 hO hR hN ⟨fun _ => ⟨_, C_X1_delaysTogether _ _ _ hW hC1, ?_⟩, fun q => absurd (by decide) q⟩
      rintro _ _ _ ⟨rfl, rfl, rfl⟩
      rw [hC1.1]
      refine ⟨_, C_X4_divide _ _ _ (by have := dlOf_le hW (a := none); omega) (by omega) (c := flOf m) (fun a ha => ⟨h2 a ha, by have := foN_le (m := m) (a := a) (nfl m); unfold flOf; omega⟩) (fun _ => flOf_sum hW), ?_⟩
      rintro im2 _ ⟨⟨g1, g2⟩, rfl⟩
      exact ⟨⟨fun r n1 => (g1 r (by omega) (by omega)).trans (h1 r (by omega)), g2⟩, rfl⟩
    | succ n ih =>
      intro k im1 hk h1 h2
      have hC1 : RC m im1 := hC.fr (fun r g => h1 r (by omega))
      refine rX4_divideDelays_2 hO hR hN ⟨fun q => ?_, fun _ => ⟨_, C_X1_flightsOf _ _ _ hW hC1 (by omega), ?_⟩⟩
      · exfalso
        have : nI 4 ≤ nI k := q
        rw [nI_leI (by omega) (by omega)] at this
        omega
      · rintro _ _ _ ⟨rfl, rfl, rfl⟩
        refine ⟨vp_in_nI (by omega) (by decide), ?_⟩
        rw [nI_clamp (show k < 2 ^ 31 by omega), nI_1 k]
        refine ih (k + 1) _ (by omega) (fun r hr => by rw [zwr_r hr]; exact h1 r hr) (fun a ha => ?_)
        rw [zwr_app]
        by_cases hak : a = k
        · subst hak; rw [if_pos ⟨rfl, rfl, rfl⟩]
        · rw [if_neg (fun q => hak q.2.2)]; exact h2 a (by omega)
  exact key 4 0 im rfl (fun _ _ => rfl) (fun a ha => absurd ha (by omega))
theorem C_X4_shareOf (l : Launch) (w : zWd) {m im : zMem} (lv : Int64) (hW : WF m) (hC : RC m im) {a : Nat} (ha : a < 4) : zSpecI l w 5 zyX4_shareOf [vR 35 0, vI (nI a)] im lv (fun v im' lv' => (v = nI (shr m a) ∧ ∀ r, ¬ (36 ≤ r ∧ r ≤ 38) → im' r = im r) ∧ lv' = lv) := by
  refine ze_I (by decide) (Nat.le_of_ble_eq_true rfl) (fun x hO hR hN => rX4_shareOf_0 hO hR hN ⟨_, C_X4_divideDelays _ _ _ hW hC, ?_⟩)
  rintro im1 lv1 ⟨⟨g1, g2⟩, rfl⟩
  rw [nI_clamp (show a < 2 ^ 31 by omega)]
  exact ⟨vp_in_nI ha (by decide), ⟨g2 a ha, g1⟩, rfl⟩
theorem ndist_j {p q : Nat} (hp : p < 1000) (hq : q < 1000) : (if 0 ≤ (nI p - nI q) then (nI p - nI q) else 0 - (nI p - nI q)) = nI (ndist p q) := by
  rw [← ndist_i hp hq]
  by_cases h : (0 : Int32) ≤ nI p - nI q
  · rw [if_pos h, if_neg (by rw [Int32.lt_iff_toInt_lt]; rw [Int32.le_iff_toInt_le] at h; omega)]
  · rw [if_neg h, if_pos (by rw [Int32.lt_iff_toInt_lt]; rw [Int32.le_iff_toInt_le] at h; omega)]
theorem C_X4_unfairness (l : Launch) (w : zWd) {m im : zMem} (lv : Int64) (hW : WF m) (hC : RC m im) : zSpecI l w 5 zyX4_unfairness [vR 35 0] im lv (fun v im' lv' => (v = nI (frN m 4) ∧ ∀ r, ¬ (36 ≤ r ∧ r ≤ 38) → im' r = im r) ∧ lv' = lv) := by
  refine ze_I (by decide) (Nat.le_of_ble_eq_true rfl) (fun x hO hR hN => rX4_unfairness_0 hO hR hN ⟨_, C_X4_divideDelays _ _ _ hW hC, ?_⟩)
  rintro im1 lv1 ⟨⟨g1, g2⟩, rfl⟩
  have hC1 : RC m im1 := hC.fr (fun r g => g1 r (by omega))
  have key : ∀ n k, n + k = 4 → zW x w 8 [(0, vR 35 0), (1, vI (nI (frN m k))), (2, vI (nI k))] [] im1 lv1 := by
    intro n
    induction n with
    | zero =>
      intro k hk
      have : k = 4 := by omega
      subst this
      exact rX4_unfairness_8 hO hR hN ⟨fun _ => ⟨⟨rfl, g1⟩, rfl⟩, fun q => absurd (by decide) q⟩
    | succ n ih =>
      intro k hk
      have ih := ih (k + 1) (by omega)
      rw [frN] at ih
      refine rX4_unfairness_8 hO hR hN ⟨fun q => ?_, fun _ => ⟨_, C_X1_delaysOf _ _ _ hW hC1 (a := k) (by omega), ?_⟩⟩
      · exfalso
        have : nI 4 ≤ nI k := q
        rw [nI_leI (by omega) (by omega)] at this
        omega
      · rintro _ _ _ ⟨rfl, rfl, rfl⟩
        rw [nI_clamp (show k < 2 ^ 31 by omega), nI_1 k, g2 k (by omega), ndist_j (by have := dlOf_le hW (a := some k); omega) (by have := shr_le hW (a := k); omega), nI_add]
        exact ⟨vp_in_nI (by omega) (by decide), ih⟩
  exact key 4 0 rfl
theorem C_X4_divideTooMuch (l : Launch) (w : zWd) {m im : zMem} (lv : Int64) (hW : WF m) (hC : RC m im) (hS : SKY m im) {r t : Nat} (hr : r < 8) (ht : t < 48) : zSpecV l w 4 zyX4_divideTooMuch [vR 35 0, vI (nI r), vI (nI t)] im lv (fun im' lv' => ((∀ r, ¬ (36 ≤ r ∧ r ≤ 38) → im' r = im r) ∧ ∀ a, a < 4 → im' 37 0 a = nI (gsh (over m r t) (clm m r t) (load m r t) a)) ∧ lv' = lv) := by
  refine ze_V (by decide) (Nat.le_of_ble_eq_true rfl) (fun x hO hR hN => rX4_divideTooMuch_0 hO hR hN ?_)
  have h12 := hW.1.2
  refine ⟨_, C_J7_fill _ _ _ _ (ra := 36) (ia := 0) rfl (by decide) (by decide), ?_⟩
  rintro im0 lv0 ⟨⟨g1, -, g2⟩, rfl⟩
  have key : ∀ n k (im1 : zMem), n + k = nfl m → (∀ r, ¬ r = 36 → im1 r = im r) → (∀ a, a < 4 → im1 36 0 a = nI (clN m r t a k)) → zW x w 10 [(0, vR 35 0), (1, vI (nI r)), (2, vI (nI t)), (3, vI (nI k))] [] im1 lv0 := by
    intro n
    induction n with
    | zero =>
      intro k im1 hk h1 h2
      have : k = nfl m := by omega
      subst this
      have hS1 : SKY m im1 := hS.fr (h1 21 (by decide)) (h1 22 (by decide))
      refine rX4_divideTooMuch_10 hO hR hN ?_
      have a1 := load_le hW (r := r) (t := t)
      have ec : Int32.toNatClampNeg (nI r * 48 + nI t) = r * 48 + t := by simp (disch := omega) only [zlit, nI_add, pk_mul, nI_clamp]
      have htm := hS1.tm hW (c := r * 48 + t) (by omega)
      have hld := (hS1 (r * 48 + t) (by omega)).1
      rw [show (r * 48 + t) / 48 = r by omega, show (r * 48 + t) % 48 = t by omega] at htm hld
      rw [h1 10 (by decide), hC.1, ec, htm, hld]
      have vc : vp_in (nI r * 48 + nI t) 384 := by
        simp (disch := omega) only [zlit, nI_add, pk_mul]
        exact vp_in_nI (by omega) (by decide)
      refine ⟨fun _ => ⟨vc, _, C_X4_divide _ _ _ (by unfold over; omega) (by omega) (c := clm m r t) (fun a ha => ⟨h2 a ha, by have := clN_le hW (r := r) (t := t) (a := a) (nfl m) (Nat.le_refl _); unfold clm; omega⟩) (fun _ => clm_sum hW), ?_⟩, fun q => absurd (Int32.le_refl _) q⟩
      rintro im2 _ ⟨⟨g3, g4⟩, rfl⟩
      exact ⟨⟨fun r n1 => (g3 r (by omega) (by omega)).trans (h1 r (by omega)), g4⟩, rfl⟩
    | succ n ih =>
      intro k im1 hk h1 h2
      have hkn : k < nfl m := by omega
      have hC1 : RC m im1 := hC.fr (fun r g => h1 r (by omega))
      obtain ⟨f0, f1, -, -, f4, f5, f6, -⟩ := hW.2.1 k hkn
      obtain ⟨c0, c1, c2, c3, c4, c5, c6, -⟩ := hC1.2.1 k hkn
      refine rX4_divideTooMuch_10 hO hR hN ?_
      rw [hC1.1, nI_clamp (show k < 2 ^ 31 by omega), c5, c6, nI_1 k]
      refine ⟨fun q => ?_, fun _ => ⟨vp_in_nI (by omega) (by decide), _, C_X2_roomIn _ _ _ hW hC1 hkn f5.2 (by omega) (by omega), ?_⟩⟩
      · exfalso
        rw [nI_leI (by omega) (by omega)] at q
        omega
      · rintro _ _ _ ⟨rfl, rfl, rfl⟩
        rw [zOp_some (by omega) (fun r' h' => by have := room_lt hW hkn (by omega) h'; omega), c0, c1, nI_clamp (show own m k < 2 ^ 31 by omega), h2 _ (by omega)]
        refine ⟨fun q => ih (k + 1) _ (by omega) h1 (fun a ha => ?_), fun q => ⟨vp_in_nI (by omega) (by decide), ih (k + 1) _ (by omega) (fun r hr => by rw [zwr_r hr]; exact h1 r hr) (fun a ha => ?_)⟩⟩
        · rw [h2 a ha, clN, if_neg (fun z => q z.2), Nat.add_zero]
        · rw [zwr_app, clN]
          by_cases hak : a = own m k
          · subst hak; rw [if_pos ⟨rfl, rfl, rfl⟩, if_pos ⟨rfl, q⟩, nI_add]
          · rw [if_neg (fun z => hak z.2.2), if_neg (fun z => hak z.1.symm), Nat.add_zero]; exact h2 a ha
  exact key (nfl m) 0 im0 (by omega) g1 (fun a ha => by rw [g2 a ha]; exact nI_0.symm)
theorem C_X4_blameOf (l : Launch) (w : zWd) {m im : zMem} (lv : Int64) (hW : WF m) (hC : RC m im) (hS : SKY m im) {a : Nat} (ha : a < 4) : zSpecI l w 5 zyX4_blameOf [vR 35 0, vI (nI a)] im lv (fun v im' lv' => (v = nI (blN m a 384) ∧ ∀ r, ¬ (36 ≤ r ∧ r ≤ 38) → im' r = im r) ∧ lv' = lv) := by
  refine ze_I (by decide) (Nat.le_of_ble_eq_true rfl) (fun x hO hR hN => rX4_blameOf_0 hO hR hN ?_)
  have key : ∀ n r (im1 : zMem), n + r = 8 → (∀ r, ¬ (36 ≤ r ∧ r ≤ 38) → im1 r = im r) → zW x w 4 [(0, vR 35 0), (1, vI (nI a)), (2, vI (nI (blN m a (r * 48)))), (3, vI (nI r))] [] im1 lv := by
    intro n
    induction n with
    | zero =>
      intro r im1 hk h1
      have : r = 8 := by omega
      subst this
      exact rX4_blameOf_4 hO hR hN ⟨fun _ => ⟨⟨rfl, h1⟩, rfl⟩, fun q => absurd (by decide) q⟩
    | succ n ih =>
      intro r im1 hk h1
      refine rX4_blameOf_4 hO hR hN ⟨fun q => ?_, fun _ => ?_⟩
      · exfalso
        have : nI 8 ≤ nI r := q
        rw [nI_leI (by omega) (by omega)] at this
        omega
      have inner : ∀ p t (im2 : zMem), p + t = 48 → (∀ r, ¬ (36 ≤ r ∧ r ≤ 38) → im2 r = im r) → zW x w 13 [(0, vR 35 0), (1, vI (nI a)), (2, vI (nI (blN m a (r * 48 + t)))), (3, vI (nI r)), (4, vI (nI t))] [] im2 lv := by
        intro p
        induction p with
        | zero =>
          intro t im2 hp h2
          have : t = 48 := by omega
          subst this
          refine rX4_blameOf_13 hO hR hN ⟨fun _ => ?_, fun q => absurd (by decide) q⟩
          rw [nI_1 r]
          have := ih (r + 1) im2 (by omega) h2
          rw [Nat.add_mul, Nat.one_mul] at this
          exact this
        | succ p ihp =>
          intro t im2 hp h2
          have hC1 : RC m im2 := hC.fr (fun r g => h2 r (by omega))
          have hS1 : SKY m im2 := hS.fr (h2 21 (by decide)) (h2 22 (by decide))
          refine rX4_blameOf_13 hO hR hN ?_
          have a1 := load_le hW (r := r) (t := t)
          have a2 : over m r t ≤ 108 := by unfold over; omega
          have ec : Int32.toNatClampNeg (nI r * 48 + nI t) = r * 48 + t := by simp (disch := omega) only [zlit, nI_add, pk_mul, nI_clamp]
          have vc : vp_in (nI r * 48 + nI t) 384 := by
            simp (disch := omega) only [zlit, nI_add, pk_mul]
            exact vp_in_nI (by omega) (by decide)
          have htm := hS1.tm hW (c := r * 48 + t) (by omega)
          have ihp := fun im3 => ihp (t + 1) im3 (by omega)
          rw [← Nat.add_assoc, blN] at ihp
          rw [show (r * 48 + t) / 48 = r by omega, show (r * 48 + t) % 48 = t by omega] at htm ihp
          rw [ec, htm, nI_1 t, nI_clamp (show a < 2 ^ 31 by omega), show (0 : Int32) = nI 0 from rfl, nI_leI (by omega) (by omega)]
          refine ⟨fun q => ?_, fun _ => ⟨vc, fun q => ?_, fun q => ⟨_, C_X4_divideTooMuch _ _ _ hW hC1 hS1 (by omega) (by omega), ?_⟩⟩⟩
          · exfalso
            have : nI 48 ≤ nI t := q
            rw [nI_leI (by omega) (by omega)] at this
            omega
          · rw [if_neg (by omega), Nat.add_zero] at ihp
            exact ihp im2 h2
          · rintro im3 lv3 ⟨⟨g1, g2⟩, rfl⟩
            rw [if_pos (by omega)] at ihp
            rw [g2 a ha, nI_add]
            exact ⟨vp_in_nI ha (by decide), ihp im3 (fun r q => (g1 r q).trans (h2 r q))⟩
      exact inner 48 0 im1 rfl h1
  have := key 8 0 im rfl (fun _ _ => rfl)
  rw [Nat.zero_mul] at this
  exact this
