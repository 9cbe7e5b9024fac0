/-! the class's settler: what fits, what it costs -/
theorem rX6_fits_0 {x : zX} {w : zWd} {im : zMem} {lv : Int64} {P : Int32 → zMem → Int64 → Prop} {f1 : Nat} {x2 : Int32} {x3 : Int32} (hO : zOK x w zyX6_fits 3) (hR : zRetI x w zyX6_fits P) (hN : zN x 126 126) (hf1 : f1 < 12)
 (h : (∃ P1 : Int32 → zMem → Int64 → Prop, zSpecI x.2.1 w 2 zyX2_walk [vR 12 f1, vI x2, vI x3, vR 31 0] im lv P1 ∧ ∀ (v1 : Int32) (im1 : zMem) (lv1 : Int64), P1 v1 im1 lv1 → zW x w 15 [(0, vR 29 0), (1, vR 12 f1), (2, vI x2), (3, vI x3), (4, vI v1), (5, vI 0)] [] im1 lv1)) :
 zW x w 0 [(0, vR 29 0), (1, vR 12 f1), (2, vI x2), (3, vI x3)] [] im lv := by
  refine zi_aload_n hO dX6_fits_0 1 rfl ?_
  refine zi_iload_n hO dX6_fits_1 2 rfl ?_
  refine zi_iload_n hO dX6_fits_2 3 rfl ?_
  refine zi_aload_n hO dX6_fits_3 0 rfl ?_
  refine zi_getR (r' := 31) (i' := 0) hO dX6_fits_4 fX6_15 rfl rfl (zI (by decide)) rfl ?_
  obtain ⟨P1, hM1, h⟩ := h
  refine zc_VI (as := [vI x2, vI x3, vR 31 0]) hO hN dX6_fits_7 kX6_104 (by decide) rfl (zI hf1) rfl rfl (Nat.le_of_ble_eq_true rfl) rfl rfl hM1 (fun v1 im1 lv1 hp1 => ?_)
  replace h := h v1 im1 lv1 hp1
  refine zi_istore (L' := [(0, vR 29 0), (1, vR 12 f1), (2, vI x2), (3, vI x3), (4, vI v1)]) hO dX6_fits_10 (by decide) rfl rfl ?_
  refine zi_iconst (v := 0) hO dX6_fits_12 (by decide) ?_
  refine zi_istore (L' := [(0, vR 29 0), (1, vR 12 f1), (2, vI x2), (3, vI x3), (4, vI v1), (5, vI 0)]) hO dX6_fits_13 (by decide) rfl rfl ?_
  exact h
theorem rX6_fits_15 {x : zX} {w : zWd} {im : zMem} {lv : Int64} {P : Int32 → zMem → Int64 → Prop} {f1 : Nat} {x2 : Int32} {x3 : Int32} {x4 : Int32} {x5 : Int32} (hO : zOK x w zyX6_fits 3) (hR : zRetI x w zyX6_fits P) (hN : zN x 126 126) (hf1 : f1 < 12)
 (h : ((x4 ≤ x5 → P 1 im lv) ∧
 (¬ (x4 ≤ x5) → (vp_in x5 20 ∧ (vp_in (im 31 0 (Int32.toNatClampNeg x5)) 384 ∧ (((im 12 f1 1) ≤ (im 30 0 (Int32.toNatClampNeg (im 31 0 (Int32.toNatClampNeg x5)))) → zW x w 15 [(0, vR 29 0), (1, vR 12 f1), (2, vI x2), (3, vI x3), (4, vI x4), (5, vI (x5 + 1))] [] im lv) ∧
 (¬ ((im 12 f1 1) ≤ (im 30 0 (Int32.toNatClampNeg (im 31 0 (Int32.toNatClampNeg x5))))) → P 0 im lv))))))) :
 zW x w 15 [(0, vR 29 0), (1, vR 12 f1), (2, vI x2), (3, vI x3), (4, vI x4), (5, vI x5)] [] im lv := by
  refine zi_iload hO dX6_fits_15 5 rfl ?_
  refine zi_iload hO dX6_fits_17 4 rfl ?_
  refine zi_icmp_ge (tgt := 49) hO dX6_fits_19 (by decide) (fun c1 => ?_) (fun c1 => ?_)
  · have h := h.1 c1
    refine zi_iconst (v := 1) hO dX6_fits_49 (by decide) ?_
    exact zr_Z hO hR rfl (Or.inr rfl) dX6_fits_50 h
  · have h := h.2 c1
    refine zi_aload_n hO dX6_fits_22 0 rfl ?_
    refine zi_getR (r' := 30) (i' := 0) hO dX6_fits_23 fX6_9 rfl rfl (zI (by decide)) rfl ?_
    refine zi_aload_n hO dX6_fits_26 0 rfl ?_
    refine zi_getR (r' := 31) (i' := 0) hO dX6_fits_27 fX6_15 rfl rfl (zI (by decide)) rfl ?_
    refine zi_iload hO dX6_fits_30 5 rfl ?_
    obtain ⟨s1, h⟩ := h
    refine zi_iald hO dX6_fits_32 rfl (zI (by decide)) s1 ?_
    obtain ⟨s2, h⟩ := h
    refine zi_iald hO dX6_fits_33 rfl (zI (by decide)) s2 ?_
    refine zi_aload_n hO dX6_fits_34 1 rfl ?_
    refine zi_getI hO dX6_fits_35 fX6_68 rfl rfl (zI hf1) ?_
    refine zi_icmp_ge (tgt := 43) hO dX6_fits_38 (by decide) (fun c2 => ?_) (fun c2 => ?_)
    · have h := h.1 c2
      refine zi_iinc (v' := (x5 + 1)) (L' := [(0, vR 29 0), (1, vR 12 f1), (2, vI x2), (3, vI x3), (4, vI x4), (5, vI (x5 + 1))]) hO dX6_fits_43 5 rfl rfl (by decide) rfl rfl ?_
      refine zi_goto (tgt := 15) hO dX6_fits_46 (by decide) ?_
      exact h
    · have h := h.2 c2
      refine zi_iconst (v := 0) hO dX6_fits_41 (by decide) ?_
      exact zr_Z hO hR rfl (Or.inl rfl) dX6_fits_42 h
theorem rX6_changeFreeRoom_0 {x : zX} {w : zWd} {im : zMem} {lv : Int64} {P : zMem → Int64 → Prop} {f1 : Nat} {x2 : Int32} {x3 : Int32} {x4 : Int32} (hO : zOK x w zyX6_changeFreeRoom 3) (hR : zRetV x w zyX6_changeFreeRoom P) (hN : zN x 126 126) (hf1 : f1 < 12)
 (h : (∃ P1 : Int32 → zMem → Int64 → Prop, zSpecI x.2.1 w 2 zyX2_walk [vR 12 f1, vI x2, vI x3, vR 31 0] im lv P1 ∧ ∀ (v1 : Int32) (im1 : zMem) (lv1 : Int64), P1 v1 im1 lv1 → zW x w 15 [(0, vR 29 0), (1, vR 12 f1), (2, vI x2), (3, vI x3), (4, vI x4), (5, vI v1), (6, vI 0)] [] im1 lv1)) :
 zW x w 0 [(0, vR 29 0), (1, vR 12 f1), (2, vI x2), (3, vI x3), (4, vI x4)] [] im lv := by
  refine zi_aload_n hO dX6_changeFreeRoom_0 1 rfl ?_
  refine zi_iload_n hO dX6_changeFreeRoom_1 2 rfl ?_
  refine zi_iload_n hO dX6_changeFreeRoom_2 3 rfl ?_
  refine zi_aload_n hO dX6_changeFreeRoom_3 0 rfl ?_
  refine zi_getR (r' := 31) (i' := 0) hO dX6_changeFreeRoom_4 fX6_15 rfl rfl (zI (by decide)) rfl ?_
  obtain ⟨P1, hM1, h⟩ := h
  refine zc_VI (as := [vI x2, vI x3, vR 31 0]) hO hN dX6_changeFreeRoom_7 kX6_104 (by decide) rfl (zI hf1) rfl rfl (Nat.le_of_ble_eq_true rfl) rfl rfl hM1 (fun v1 im1 lv1 hp1 => ?_)
  replace h := h v1 im1 lv1 hp1
  refine zi_istore (L' := [(0, vR 29 0), (1, vR 12 f1), (2, vI x2), (3, vI x3), (4, vI x4), (5, vI v1)]) hO dX6_changeFreeRoom_10 (by decide) rfl rfl ?_
  refine zi_iconst (v := 0) hO dX6_changeFreeRoom_12 (by decide) ?_
  refine zi_istore (L' := [(0, vR 29 0), (1, vR 12 f1), (2, vI x2), (3, vI x3), (4, vI x4), (5, vI v1), (6, vI 0)]) hO dX6_changeFreeRoom_13 (by decide) rfl rfl ?_
  exact h
theorem rX6_changeFreeRoom_15 {x : zX} {w : zWd} {im : zMem} {lv : Int64} {P : zMem → Int64 → Prop} {f1 : Nat} {x2 : Int32} {x3 : Int32} {x4 : Int32} {x5 : Int32} {x6 : Int32} (hO : zOK x w zyX6_changeFreeRoom 3) (hR : zRetV x w zyX6_changeFreeRoom P) (hN : zN x 126 126) (hf1 : f1 < 12)
 (h : ((x5 ≤ x6 → P im lv) ∧
 (¬ (x5 ≤ x6) → (vp_in x6 20 ∧ (vp_in (im 31 0 (Int32.toNatClampNeg x6)) 384 ∧ zW x w 15 [(0, vR 29 0), (1, vR 12 f1), (2, vI x2), (3, vI x3), (4, vI x4), (5, vI x5), (6, vI (x6 + 1))] [] (zwr im 30 0 (Int32.toNatClampNeg (im 31 0 (Int32.toNatClampNeg x6))) ((im 30 0 (Int32.toNatClampNeg (im 31 0 (Int32.toNatClampNeg x6)))) + x4)) lv))))) :
 zW x w 15 [(0, vR 29 0), (1, vR 12 f1), (2, vI x2), (3, vI x3), (4, vI x4), (5, vI x5), (6, vI x6)] [] im lv := by
  refine zi_iload hO dX6_changeFreeRoom_15 6 rfl ?_
  refine zi_iload hO dX6_changeFreeRoom_17 5 rfl ?_
  refine zi_icmp_ge (tgt := 45) hO dX6_changeFreeRoom_19 (by decide) (fun c1 => ?_) (fun c1 => ?_)
  · have h := h.1 c1
    exact zr_V hO hR rfl dX6_changeFreeRoom_45 h
  · have h := h.2 c1
    refine zi_aload_n hO dX6_changeFreeRoom_22 0 rfl ?_
    refine zi_getR (r' := 30) (i' := 0) hO dX6_changeFreeRoom_23 fX6_9 rfl rfl (zI (by decide)) rfl ?_
    refine zi_aload_n hO dX6_changeFreeRoom_26 0 rfl ?_
    refine zi_getR (r' := 31) (i' := 0) hO dX6_changeFreeRoom_27 fX6_15 rfl rfl (zI (by decide)) rfl ?_
    refine zi_iload hO dX6_changeFreeRoom_30 6 rfl ?_
    obtain ⟨s1, h⟩ := h
    refine zi_iald hO dX6_changeFreeRoom_32 rfl (zI (by decide)) s1 ?_
    refine zi_dup2 hO dX6_changeFreeRoom_33 rfl rfl ?_
    obtain ⟨s2, h⟩ := h
    refine zi_iald hO dX6_changeFreeRoom_34 rfl (zI (by decide)) s2 ?_
    refine zi_iload hO dX6_changeFreeRoom_35 4 rfl ?_
    refine zi_iadd hO dX6_changeFreeRoom_37 ?_
    refine zi_iast hO dX6_changeFreeRoom_38 rfl (zI (by decide)) s2 ?_
    refine zi_iinc (v' := (x6 + 1)) (L' := [(0, vR 29 0), (1, vR 12 f1), (2, vI x2), (3, vI x3), (4, vI x4), (5, vI x5), (6, vI (x6 + 1))]) hO dX6_changeFreeRoom_39 6 rfl rfl (by decide) rfl rfl ?_
    refine zi_goto (tgt := 15) hO dX6_changeFreeRoom_42 (by decide) ?_
    exact h
theorem rX6_leastCostAlone_0 {x : zX} {w : zWd} {im : zMem} {lv : Int64} {P : Int32 → zMem → Int64 → Prop} {f1 : Nat} (hO : zOK x w zyX6_leastCostAlone 4) (hR : zRetI x w zyX6_leastCostAlone P) (hN : zN x 126 126) (hf1 : f1 < 12)
 (h : zW x w 5 [(0, vR 29 0), (1, vR 12 f1), (2, vI 100000000), (3, vI 0)] [] im lv) :
 zW x w 0 [(0, vR 29 0), (1, vR 12 f1)] [] im lv := by
  refine zi_ldc (v := 100000000) hO dX6_leastCostAlone_0 nX6_31 ?_
  refine zi_istore_n (L' := [(0, vR 29 0), (1, vR 12 f1), (2, vI 100000000)]) hO dX6_leastCostAlone_2 (by decide) rfl rfl ?_
  refine zi_iconst (v := 0) hO dX6_leastCostAlone_3 (by decide) ?_
  refine zi_istore_n (L' := [(0, vR 29 0), (1, vR 12 f1), (2, vI 100000000), (3, vI 0)]) hO dX6_leastCostAlone_4 (by decide) rfl rfl ?_
  exact h
theorem rX6_leastCostAlone_5 {x : zX} {w : zWd} {im : zMem} {lv : Int64} {P : Int32 → zMem → Int64 → Prop} {f1 : Nat} {x2 : Int32} {x3 : Int32} (hO : zOK x w zyX6_leastCostAlone 4) (hR : zRetI x w zyX6_leastCostAlone P) (hN : zN x 126 126) (hf1 : f1 < 12)
 (h : (((im 12 f1 4) ≤ x3 → P x2 im lv) ∧
 (¬ ((im 12 f1 4) ≤ x3) → zW x w 16 [(0, vR 29 0), (1, vR 12 f1), (2, vI x2), (3, vI x3), (4, vI 0)] [] im lv))) :
 zW x w 5 [(0, vR 29 0), (1, vR 12 f1), (2, vI x2), (3, vI x3)] [] im lv := by
  refine zi_iload_n hO dX6_leastCostAlone_5 3 rfl ?_
  refine zi_aload_n hO dX6_leastCostAlone_6 1 rfl ?_
  refine zi_getI hO dX6_leastCostAlone_7 fX6_89 rfl rfl (zI hf1) ?_
  refine zi_icmp_ge (tgt := 63) hO dX6_leastCostAlone_10 (by decide) (fun c1 => ?_) (fun c1 => ?_)
  · have h := h.1 c1
    refine zi_iload_n hO dX6_leastCostAlone_63 2 rfl ?_
    exact zr_I hO hR rfl dX6_leastCostAlone_64 h
  · have h := h.2 c1
    refine zi_iconst (v := 0) hO dX6_leastCostAlone_13 (by decide) ?_
    refine zi_istore (L' := [(0, vR 29 0), (1, vR 12 f1), (2, vI x2), (3, vI x3), (4, vI 0)]) hO dX6_leastCostAlone_14 (by decide) rfl rfl ?_
    exact h
theorem rX6_leastCostAlone_16 {x : zX} {w : zWd} {im : zMem} {lv : Int64} {P : Int32 → zMem → Int64 → Prop} {f1 : Nat} {x2 : Int32} {x3 : Int32} {x4 : Int32} (hO : zOK x w zyX6_leastCostAlone 4) (hR : zRetI x w zyX6_leastCostAlone P) (hN : zN x 126 126) (hf1 : f1 < 12)
 (h : ((5 ≤ x4 → zW x w 5 [(0, vR 29 0), (1, vR 12 f1), (2, vI x2), (3, vI (x3 + 1))] [] im lv) ∧
 (¬ (5 ≤ x4) → ((x2 ≤ (((im 12 f1 3) * x4) + (10 * x3)) → zW x w 16 [(0, vR 29 0), (1, vR 12 f1), (2, vI x2), (3, vI x3), (4, vI (x4 + 1))] [] im lv) ∧
 (¬ (x2 ≤ (((im 12 f1 3) * x4) + (10 * x3))) → (∃ P2 : Int32 → zMem → Int64 → Prop, zSpecI x.2.1 w 3 zyX6_fits [vR 29 0, vR 12 f1, vI x3, vI x4] im lv P2 ∧ ∀ (v2 : Int32) (im2 : zMem) (lv2 : Int64), P2 v2 im2 lv2 → ((v2 = 0 → zW x w 16 [(0, vR 29 0), (1, vR 12 f1), (2, vI x2), (3, vI x3), (4, vI (x4 + 1))] [] im2 lv2) ∧
 (¬ (v2 = 0) → zW x w 16 [(0, vR 29 0), (1, vR 12 f1), (2, vI (((im 12 f1 3) * x4) + (10 * x3))), (3, vI x3), (4, vI (x4 + 1))] [] im2 lv2)))))))) :
 zW x w 16 [(0, vR 29 0), (1, vR 12 f1), (2, vI x2), (3, vI x3), (4, vI x4)] [] im lv := by
  refine zi_iload hO dX6_leastCostAlone_16 4 rfl ?_
  refine zi_iconst (v := 5) hO dX6_leastCostAlone_18 (by decide) ?_
  refine zi_icmp_ge (tgt := 57) hO dX6_leastCostAlone_19 (by decide) (fun c1 => ?_) (fun c1 => ?_)
  · have h := h.1 c1
    refine zi_iinc (v' := (x3 + 1)) (L' := [(0, vR 29 0), (1, vR 12 f1), (2, vI x2), (3, vI (x3 + 1)), (4, vI x4)]) hO dX6_leastCostAlone_57 3 rfl rfl (by decide) rfl rfl ?_
    refine zi_goto (tgt := 5) hO dX6_leastCostAlone_60 (by decide) ?_
    refine zi_pick (L' := [(0, vR 29 0), (1, vR 12 f1), (2, vI x2), (3, vI (x3 + 1))]) [0, 1, 2, 3] rfl ?_
    exact h
  · have h := h.2 c1
    refine zi_aload_n hO dX6_leastCostAlone_22 1 rfl ?_
    refine zi_iload_n hO dX6_leastCostAlone_23 3 rfl ?_
    refine zi_iload hO dX6_leastCostAlone_24 4 rfl ?_
    refine zc_VI (as := [vI x3, vI x4]) hO hN dX6_leastCostAlone_26 kX6_92 (by decide) rfl (zI hf1) rfl rfl (Nat.le_of_ble_eq_true rfl) rfl rfl (C_X2_costOf _ _ _ _ hf1) (fun v1 im1 lv1 hp1 => ?_)
    rw [hp1.1, hp1.2.1, hp1.2.2]
    refine zi_istore (L' := [(0, vR 29 0), (1, vR 12 f1), (2, vI x2), (3, vI x3), (4, vI x4), (5, vI (((im 12 f1 3) * x4) + (10 * x3)))]) hO dX6_leastCostAlone_29 (by decide) rfl rfl ?_
    refine zi_iload hO dX6_leastCostAlone_31 5 rfl ?_
    refine zi_iload_n hO dX6_leastCostAlone_33 2 rfl ?_
    refine zi_icmp_ge (tgt := 51) hO dX6_leastCostAlone_34 (by decide) (fun c2 => ?_) (fun c2 => ?_)
    · have h := h.1 c2
      refine zi_iinc (v' := (x4 + 1)) (L' := [(0, vR 29 0), (1, vR 12 f1), (2, vI x2), (3, vI x3), (4, vI (x4 + 1)), (5, vI (((im 12 f1 3) * x4) + (10 * x3)))]) hO dX6_leastCostAlone_51 4 rfl rfl (by decide) rfl rfl ?_
      refine zi_goto (tgt := 16) hO dX6_leastCostAlone_54 (by decide) ?_
      refine zi_pick (L' := [(0, vR 29 0), (1, vR 12 f1), (2, vI x2), (3, vI x3), (4, vI (x4 + 1))]) [0, 1, 2, 3, 4] rfl ?_
      exact h
    · have h := h.2 c2
      refine zi_aload_n hO dX6_leastCostAlone_37 0 rfl ?_
      refine zi_aload_n hO dX6_leastCostAlone_38 1 rfl ?_
      refine zi_iload_n hO dX6_leastCostAlone_39 3 rfl ?_
      refine zi_iload hO dX6_leastCostAlone_40 4 rfl ?_
      obtain ⟨P2, hM2, h⟩ := h
      refine zc_VI (as := [vR 12 f1, vI x3, vI x4]) hO hN dX6_leastCostAlone_42 kX6_96 (by decide) rfl (zI (by decide)) rfl rfl (Nat.le_of_ble_eq_true rfl) rfl rfl hM2 (fun v2 im2 lv2 hp2 => ?_)
      replace h := h v2 im2 lv2 hp2
      refine zi_if_eq (tgt := 51) hO dX6_leastCostAlone_45 (by decide) (fun c3 => ?_) (fun c3 => ?_)
      · have h := h.1 c3
        refine zi_iinc (v' := (x4 + 1)) (L' := [(0, vR 29 0), (1, vR 12 f1), (2, vI x2), (3, vI x3), (4, vI (x4 + 1)), (5, vI (((im 12 f1 3) * x4) + (10 * x3)))]) hO dX6_leastCostAlone_51 4 rfl rfl (by decide) rfl rfl ?_
        refine zi_goto (tgt := 16) hO dX6_leastCostAlone_54 (by decide) ?_
        refine zi_pick (L' := [(0, vR 29 0), (1, vR 12 f1), (2, vI x2), (3, vI x3), (4, vI (x4 + 1))]) [0, 1, 2, 3, 4] rfl ?_
        exact h
      · have h := h.2 c3
        refine zi_iload hO dX6_leastCostAlone_48 5 rfl ?_
        refine zi_istore_n (L' := [(0, vR 29 0), (1, vR 12 f1), (2, vI (((im 12 f1 3) * x4) + (10 * x3))), (3, vI x3), (4, vI x4), (5, vI (((im 12 f1 3) * x4) + (10 * x3)))]) hO dX6_leastCostAlone_50 (by decide) rfl rfl ?_
        refine zi_iinc (v' := (x4 + 1)) (L' := [(0, vR 29 0), (1, vR 12 f1), (2, vI (((im 12 f1 3) * x4) + (10 * x3))), (3, vI x3), (4, vI (x4 + 1)), (5, vI (((im 12 f1 3) * x4) + (10 * x3)))]) hO dX6_leastCostAlone_51 4 rfl rfl (by decide) rfl rfl ?_
        refine zi_goto (tgt := 16) hO dX6_leastCostAlone_54 (by decide) ?_
        refine zi_pick (L' := [(0, vR 29 0), (1, vR 12 f1), (2, vI (((im 12 f1 3) * x4) + (10 * x3))), (3, vI x3), (4, vI (x4 + 1))]) [0, 1, 2, 3, 4] rfl ?_
        exact h
theorem rX6_leastCostFrom_0 {x : zX} {w : zWd} {im : zMem} {lv : Int64} {P : Int32 → zMem → Int64 → Prop} {x1 : Int32} (hO : zOK x w zyX6_leastCostFrom 5) (hR : zRetI x w zyX6_leastCostFrom P) (hN : zN x 126 126)
 (h : zW x w 4 [(0, vR 29 0), (1, vI x1), (2, vI 0), (3, vI x1)] [] im lv) :
 zW x w 0 [(0, vR 29 0), (1, vI x1)] [] im lv := by
  refine zi_iconst (v := 0) hO dX6_leastCostFrom_0 (by decide) ?_
  refine zi_istore_n (L' := [(0, vR 29 0), (1, vI x1), (2, vI 0)]) hO dX6_leastCostFrom_1 (by decide) rfl rfl ?_
  refine zi_iload_n hO dX6_leastCostFrom_2 1 rfl ?_
  refine zi_istore_n (L' := [(0, vR 29 0), (1, vI x1), (2, vI 0), (3, vI x1)]) hO dX6_leastCostFrom_3 (by decide) rfl rfl ?_
  exact h
theorem rX6_leastCostFrom_4 {x : zX} {w : zWd} {im : zMem} {lv : Int64} {P : Int32 → zMem → Int64 → Prop} {x1 : Int32} {x2 : Int32} {x3 : Int32} (hO : zOK x w zyX6_leastCostFrom 5) (hR : zRetI x w zyX6_leastCostFrom P) (hN : zN x 126 126)
 (h : (((im 29 0 7) ≤ x3 → P x2 im lv) ∧
 (¬ ((im 29 0 7) ≤ x3) → ((100000000 ≤ x2 → P x2 im lv) ∧
 (¬ (100000000 ≤ x2) → (vp_in x3 5 ∧ (vp_in (im 32 0 (Int32.toNatClampNeg x3)) 12 ∧ (∃ P3 : Int32 → zMem → Int64 → Prop, zSpecI x.2.1 w 4 zyX6_leastCostAlone [vR 29 0, vR 12 (Int32.toNatClampNeg (im 32 0 (Int32.toNatClampNeg x3)))] im lv P3 ∧ ∀ (v3 : Int32) (im3 : zMem) (lv3 : Int64), P3 v3 im3 lv3 → zW x w 4 [(0, vR 29 0), (1, vI x1), (2, vI (x2 + v3)), (3, vI (x3 + 1))] [] im3 lv3)))))))) :
 zW x w 4 [(0, vR 29 0), (1, vI x1), (2, vI x2), (3, vI x3)] [] im lv := by
  refine zi_iload_n hO dX6_leastCostFrom_4 3 rfl ?_
  refine zi_aload_n hO dX6_leastCostFrom_5 0 rfl ?_
  refine zi_getI hO dX6_leastCostFrom_6 fX6_27 rfl rfl (zI (by decide)) ?_
  refine zi_icmp_ge (tgt := 45) hO dX6_leastCostFrom_9 (by decide) (fun c1 => ?_) (fun c1 => ?_)
  · have h := h.1 c1
    refine zi_iload_n hO dX6_leastCostFrom_45 2 rfl ?_
    exact zr_I hO hR rfl dX6_leastCostFrom_46 h
  · have h := h.2 c1
    refine zi_iload_n hO dX6_leastCostFrom_12 2 rfl ?_
    refine zi_ldc (v := 100000000) hO dX6_leastCostFrom_13 nX6_31 ?_
    refine zi_icmp_ge (tgt := 45) hO dX6_leastCostFrom_15 (by decide) (fun c2 => ?_) (fun c2 => ?_)
    · have h := h.1 c2
      refine zi_iload_n hO dX6_leastCostFrom_45 2 rfl ?_
      exact zr_I hO hR rfl dX6_leastCostFrom_46 h
    · have h := h.2 c2
      refine zi_iload_n hO dX6_leastCostFrom_18 2 rfl ?_
      refine zi_aload_n hO dX6_leastCostFrom_19 0 rfl ?_
      refine zi_aload_n hO dX6_leastCostFrom_20 0 rfl ?_
      refine zi_getR (r' := 10) (i' := 0) hO dX6_leastCostFrom_21 fX6_35 rfl rfl (zI (by decide)) rfl ?_
      refine zi_getR (r' := 11) (i' := 0) hO dX6_leastCostFrom_24 fX6_56 rfl rfl (zI (by decide)) rfl ?_
      refine zi_aload_n hO dX6_leastCostFrom_27 0 rfl ?_
      refine zi_getR (r' := 32) (i' := 0) hO dX6_leastCostFrom_28 fX6_18 rfl rfl (zI (by decide)) rfl ?_
      refine zi_iload_n hO dX6_leastCostFrom_31 3 rfl ?_
      obtain ⟨s1, h⟩ := h
      refine zi_iald hO dX6_leastCostFrom_32 rfl (zI (by decide)) s1 ?_
      obtain ⟨s2, h⟩ := h
      refine zi_aald (t := 1) (r' := 12) (i' := (Int32.toNatClampNeg (im 32 0 (Int32.toNatClampNeg x3)))) hO dX6_leastCostFrom_33 rfl (zI (by decide)) s2 rfl ?_
      obtain ⟨P3, hM3, h⟩ := h
      refine zc_VI (as := [vR 12 (Int32.toNatClampNeg (im 32 0 (Int32.toNatClampNeg x3)))]) hO hN dX6_leastCostFrom_34 kX6_100 (by decide) rfl (zI (by decide)) rfl rfl (Nat.le_of_ble_eq_true rfl) rfl rfl hM3 (fun v3 im3 lv3 hp3 => ?_)
      replace h := h v3 im3 lv3 hp3
      refine zi_iadd hO dX6_leastCostFrom_37 ?_
      refine zi_istore_n (L' := [(0, vR 29 0), (1, vI x1), (2, vI (x2 + v3)), (3, vI x3)]) hO dX6_leastCostFrom_38 (by decide) rfl rfl ?_
      refine zi_iinc (v' := (x3 + 1)) (L' := [(0, vR 29 0), (1, vI x1), (2, vI (x2 + v3)), (3, vI (x3 + 1))]) hO dX6_leastCostFrom_39 3 rfl rfl (by decide) rfl rfl ?_
      refine zi_goto (tgt := 4) hO dX6_leastCostFrom_42 (by decide) ?_
      exact h
theorem okT_iff {m : zMem} {f c : Nat} {L : Nat → Nat} : ∀ n, okT m f c L n = true ↔ ∀ t, t < n → ∀ r, room m f (c / 5) (c % 5) t = some r → L (48 * r + t) ≤ safe m r t
  | 0 => ⟨fun _ t ht => by omega, fun _ => rfl⟩
  | n + 1 => by
    rw [okT, Bool.and_eq_true, okT_iff n]
    constructor
    · rintro ⟨h1, h2⟩ t ht r hr
      by_cases htn : t = n
      · subst htn
        rw [hr] at h2
        exact of_decide_eq_true h2
      · exact h1 t (by omega) r hr
    · intro h
      refine ⟨fun t ht => h t (by omega), ?_⟩
      cases hr : room m f (c / 5) (c % 5) n with
      | none => rfl
      | some r => exact decide_eq_true (h n (by omega) r hr)
/-- a flight fits by a choice over what is laid -/
def fitB (m : zMem) (f c : Nat) (L : Nat → Nat) : Bool := okT m f c (put m f c L) 48
theorem fitB_iff {m : zMem} {f c : Nat} {L : Nat → Nat} : fitB m f c L = true ↔ ∀ x, x ∈ pth m f (c / 5) (c % 5) → wgt m f + L x ≤ safe m (x / 48) (x % 48) := by
  unfold fitB
  rw [okT_iff]
  constructor
  · intro h x hx
    rw [pth_mem] at hx
    have h1 := h (x % 48) (by omega) _ hx
    have h2 := wAt_room (by omega) hx
    rw [show 48 * (x / 48) + x % 48 = x by omega] at h1 h2
    unfold put at h1
    omega
  · intro h t ht r hr
    have h2 := wAt_room ht hr
    have h1 := h (48 * r + t) (pth_mem.mpr (by rw [show (48 * r + t) % 48 = t by omega, show (48 * r + t) / 48 = r by omega]; exact hr))
    rw [show (48 * r + t) % 48 = t by omega, show (48 * r + t) / 48 = r by omega] at h1
    show L (48 * r + t) + wAt m f c (48 * r + t) ≤ _
    omega
/-- the free room is what is safe less what is laid -/
def FRE (m im : zMem) (L : Nat → Nat) : Prop := ∀ c, c < 384 → im 30 0 c = nI (safe m (c / 48) (c % 48)) - nI (L c)
theorem C_X6_fits (l : Launch) (w : zWd) {m im : zMem} (lv : Int64) (hW : WF m) (hC : RC m im) {f wy d : Nat} (hf : f < nfl m) (hw : wy < wys m f) (hd : d < 5) {L : Nat → Nat} (hL : ∀ c, c < 384 → L c ≤ 1000) (hF : FRE m im L) : zSpecI l w 3 zyX6_fits [vR 29 0, vR 12 f, vI (nI wy), vI (nI d)] im lv (fun v im' lv' => (v = (if fitB m f (5 * wy + d) L = true then 1 else 0) ∧ ∀ r, ¬ r = 31 → im' r = im r) ∧ lv' = lv) := by
  refine ze_I (by decide) (Nat.le_of_ble_eq_true rfl) (fun x hO hR hN => ?_)
  have h12 := hW.1.2
  obtain ⟨-, f1, -, -, f4, f5, f6, -⟩ := hW.2.1 f hf
  obtain ⟨c0, c1, c2, c3, c4, c5, c6, -⟩ := hC.2.1 f hf
  refine rX6_fits_0 hO hR hN (by omega) ⟨_, C_X2_walk _ _ _ hW hC (ra := 31) hf hw (by omega) rfl (by decide) (by decide), ?_⟩
  rintro v1 im1 lv1 ⟨⟨rfl, hl, g1, g2⟩, rfl⟩
  have hlt : ∀ i, i < (pth m f wy d).length → (pth m f wy d).getD i 0 < 384 := fun i hi => pth_lt hW hf (by omega) (gd_mem hi)
  have hfit : fitB m f (5 * wy + d) L = true ↔ ∀ x, x ∈ pth m f wy d → wgt m f + L x ≤ safe m (x / 48) (x % 48) := by
    rw [fitB_iff, show (5 * wy + d) / 5 = wy by omega, show (5 * wy + d) % 5 = d by omega]
  generalize pth m f wy d = K at *
  have key : ∀ p j, p + j = K.length → (∀ i, i < j → wgt m f + L (K.getD i 0) ≤ safe m (K.getD i 0 / 48) (K.getD i 0 % 48)) → zW x w 15 [(0, vR 29 0), (1, vR 12 f), (2, vI (nI wy)), (3, vI (nI d)), (4, vI (nI K.length)), (5, vI (nI j))] [] im1 lv1 := by
    intro p
    induction p with
    | zero =>
      intro j hp hv
      have : j = K.length := by omega
      subst this
      refine rX6_fits_15 hO hR hN (by omega) ⟨fun _ => ⟨⟨?_, g1⟩, rfl⟩, fun q => absurd (Int32.le_refl _) q⟩
      rw [if_pos]
      refine hfit.mpr (fun y hy => ?_)
      obtain ⟨i, hi, e⟩ := List.mem_iff_getElem.mp hy
      have := hv i hi
      rw [List.getD_eq_getElem?_getD, List.getElem?_eq_getElem hi, Option.getD_some, e] at this
      exact this
    | succ p ihp =>
      intro j hp hv
      refine rX6_fits_15 hO hR hN (by omega) ?_
      have hc := hlt j (by omega)
      have a2 := safe_le hW (r := K.getD j 0 / 48) (t := K.getD j 0 % 48) (by omega) (by omega)
      have a3 := hL _ hc
      have hle : (nI (wgt m f) ≤ nI (safe m (K.getD j 0 / 48) (K.getD j 0 % 48)) - nI (L (K.getD j 0))) ↔ wgt m f + L (K.getD j 0) ≤ safe m (K.getD j 0 / 48) (K.getD j 0 % 48) := by
        rw [Int32.le_iff_toInt_le, pk_sub_toInt (by omega) (by omega), nI_toInt (by omega)]
        omega
      rw [nI_clamp (show j < 2 ^ 31 by omega), g2 j (by omega), nI_clamp (show K.getD j 0 < 2 ^ 31 by omega), g1 12 (by decide), g1 30 (by decide), c1, hF _ hc, nI_1, nI_leI (by omega) (by omega), hle]
      refine ⟨fun q => by omega, fun _ => ⟨vp_in_nI (by omega) (by decide), vp_in_nI hc (by decide), fun q => ihp (j + 1) (by omega) (fun i hi => ?_), fun q => ⟨⟨?_, g1⟩, rfl⟩⟩⟩
      · by_cases hij : i = j
        · subst hij; exact q
        · exact hv i (by omega)
      · rw [if_neg (fun z => q (hfit.mp z _ (gd_mem (by omega))))]
  exact key K.length 0 (by omega) (fun i hi => by omega)
theorem take_le1 {K : List Nat} {c j : Nat} (h : K.count c ≤ 1) (hj : j < K.length) (e : K.getD j 0 = c) : (K.take j).count c = 0 := by
  have h1 := take_cnt (c := c) hj
  rw [if_pos e] at h1
  have h2 : (K.take (j + 1)).count c ≤ K.count c := (List.take_sublist _ _).count_le c
  omega
theorem C_X6_changeFreeRoom (l : Launch) (w : zWd) {m im : zMem} (lv : Int64) (hW : WF m) (hC : RC m im) {f wy d : Nat} (hf : f < nfl m) (hw : wy < wys m f) (hd : d < 5) {z : Int32} : zSpecV l w 3 zyX6_changeFreeRoom [vR 29 0, vR 12 f, vI (nI wy), vI (nI d), vI z] im lv (fun im' lv' => ((∀ r, ¬ r = 30 → ¬ r = 31 → im' r = im r) ∧ ∀ c, c < 384 → im' 30 0 c = if isAt m f (5 * wy + d) c = true then im 30 0 c + z else im 30 0 c) ∧ lv' = lv) := by
  refine ze_V (by decide) (Nat.le_of_ble_eq_true rfl) (fun x hO hR hN => ?_)
  have h12 := hW.1.2
  obtain ⟨-, f1, -, -, f4, f5, f6, -⟩ := hW.2.1 f hf
  refine rX6_changeFreeRoom_0 hO hR hN (by omega) ⟨_, C_X2_walk _ _ _ hW hC (ra := 31) hf hw (by omega) rfl (by decide) (by decide), ?_⟩
  rintro v1 im1 lv1 ⟨⟨rfl, hl, g1, g2⟩, rfl⟩
  have hlt : ∀ i, i < (pth m f wy d).length → (pth m f wy d).getD i 0 < 384 := fun i hi => pth_lt hW hf (by omega) (gd_mem hi)
  have hcn : ∀ c, (pth m f wy d).count c = if isAt m f (5 * wy + d) c = true then 1 else 0 := by
    intro c
    rw [pth_count]
    unfold isAt
    rw [show (5 * wy + d) / 5 = wy by omega, show (5 * wy + d) % 5 = d by omega]
    simp only [decide_eq_true_eq]
  have hc1 : ∀ c, (pth m f wy d).count c ≤ 1 := fun c => by rw [hcn]; split <;> omega
  generalize pth m f wy d = K at *
  have key : ∀ p j (im2 : zMem), p + j = K.length → (∀ r, ¬ r = 30 → im2 r = im1 r) → (∀ c, c < 384 → im2 30 0 c = if (K.take j).count c = 0 then im 30 0 c else im 30 0 c + z) → zW x w 15 [(0, vR 29 0), (1, vR 12 f), (2, vI (nI wy)), (3, vI (nI d)), (4, vI z), (5, vI (nI K.length)), (6, vI (nI j))] [] im2 lv1 := by
    intro p
    induction p with
    | zero =>
      intro j im2 hp h1 h2
      have : j = K.length := by omega
      subst this
      refine rX6_changeFreeRoom_15 hO hR hN (by omega) ⟨fun _ => ⟨⟨fun r q1 q2 => (h1 r q1).trans (g1 r q2), fun c hc => ?_⟩, rfl⟩, fun q => absurd (Int32.le_refl _) q⟩
      rw [h2 c hc, List.take_length, hcn]
      by_cases hh : isAt m f (5 * wy + d) c = true
      · rw [if_pos hh, if_neg (by decide), if_pos hh]
      · rw [if_neg hh, if_pos rfl, if_neg hh]
    | succ p ihp =>
      intro j im2 hp h1 h2
      refine rX6_changeFreeRoom_15 hO hR hN (by omega) ?_
      have hc := hlt j (by omega)
      have h0 := take_le1 (hc1 (K.getD j 0)) (show j < K.length by omega) rfl
      have h3 := h2 _ hc
      rw [if_pos h0] at h3
      rw [nI_clamp (show j < 2 ^ 31 by omega), h1 31 (by decide), g2 j (by omega), nI_clamp (show K.getD j 0 < 2 ^ 31 by omega), h3, nI_1, nI_leI (by omega) (by omega)]
      refine ⟨fun q => by omega, fun _ => ⟨vp_in_nI (by omega) (by decide), vp_in_nI hc (by decide), ihp (j + 1) _ (by omega) (fun r hr => by rw [zwr_r hr]; exact h1 r hr) (fun c hcc => ?_)⟩⟩
      rw [zwr_app, take_cnt (by omega)]
      by_cases hcj : c = K.getD j 0
      · rw [if_pos ⟨rfl, rfl, hcj⟩, if_pos hcj.symm, if_neg (by omega), hcj]
      · rw [if_neg (fun q => hcj q.2.2), if_neg (c := K.getD j 0 = c) (fun q => hcj q.symm), Nat.add_zero]
        exact h2 c hcc
  refine key K.length 0 im1 (by omega) (fun _ _ => rfl) (fun c hc => ?_)
  rw [List.take_zero, List.count_nil, if_pos rfl, g1 30 (by decide)]
theorem fre_put {m im im' : zMem} {f c : Nat} {L : Nat → Nat} (hF : FRE m im L) (h : ∀ x, x < 384 → im' 30 0 x = if isAt m f c x = true then im 30 0 x + (0 - nI (wgt m f)) else im 30 0 x) : FRE m im' (put m f c L) := by
  intro x hx
  rw [h x hx, hF x hx]
  unfold put wAt
  by_cases hh : isAt m f c x = true
  · rw [if_pos hh, if_pos hh, Int32.zero_sub, ← Int32.sub_eq_add_neg, Int32.sub_sub, nI_add]
  · rw [if_neg hh, if_neg hh, Nat.add_zero]
theorem fre_back {m im im' : zMem} {f c : Nat} {L : Nat → Nat} (hF : FRE m im (put m f c L)) (h : ∀ x, x < 384 → im' 30 0 x = if isAt m f c x = true then im 30 0 x + nI (wgt m f) else im 30 0 x) : FRE m im' L := by
  intro x hx
  rw [h x hx, hF x hx]
  unfold put wAt
  by_cases hh : isAt m f c x = true
  · rw [if_pos hh, if_pos hh, ← nI_add, ← Int32.sub_sub, Int32.sub_add_cancel]
  · rw [if_neg hh, if_neg hh, Nat.add_zero]
/-- the least cost of a flight that fits, of its first n choices -/
def lcN (m : zMem) (f : Nat) (L : Nat → Nat) : Nat → Nat
  | 0 => 100000000
  | c + 1 => if cstC m f c < lcN m f L c ∧ fitB m f c L = true then cstC m f c else lcN m f L c
def lcA (m : zMem) (f : Nat) (L : Nat → Nat) : Nat := lcN m f L (5 * wys m f)
theorem lcN_le {m : zMem} {f : Nat} {L : Nat → Nat} : ∀ n, lcN m f L n ≤ 100000000
  | 0 => Nat.le_refl _
  | n + 1 => by
    have := lcN_le (m := m) (f := f) (L := L) n
    rw [lcN]
    split <;> omega
theorem lcN_fit {m : zMem} {f : Nat} {L : Nat → Nat} : ∀ {n c : Nat}, c < n → fitB m f c L = true → lcN m f L n ≤ cstC m f c
  | 0, c, h, _ => by omega
  | n + 1, c, h, hf => by
    rw [lcN]
    by_cases hc : c = n
    · subst hc
      by_cases h2 : cstC m f c < lcN m f L c
      · rw [if_pos ⟨h2, hf⟩]; exact Nat.le_refl _
      · rw [if_neg (fun z => h2 z.1)]; omega
    · have := lcN_fit (show c < n by omega) hf
      split <;> omega
theorem lcN_ex {m : zMem} {f : Nat} {L : Nat → Nat} : ∀ n, lcN m f L n = 100000000 ∨ ∃ c, c < n ∧ fitB m f c L = true ∧ lcN m f L n = cstC m f c
  | 0 => Or.inl rfl
  | n + 1 => by
    rw [lcN]
    split
    · rename_i h; exact Or.inr ⟨n, by omega, h.2, rfl⟩
    · rcases lcN_ex n with h | ⟨c, h1, h2⟩
      · exact Or.inl h
      · exact Or.inr ⟨c, by omega, h2⟩
theorem fitB_mono {m : zMem} {f c : Nat} {L L' : Nat → Nat} (h : ∀ x, L x ≤ L' x) (hf : fitB m f c L' = true) : fitB m f c L = true := by
  rw [fitB_iff] at *
  intro x hx
  have := hf x hx
  have := h x
  omega
theorem lcA_mono {m : zMem} {f : Nat} {L L' : Nat → Nat} (h : ∀ x, L x ≤ L' x) : lcA m f L ≤ lcA m f L' := by
  unfold lcA
  rcases lcN_ex (m := m) (f := f) (L := L') (5 * wys m f) with e | ⟨c, h1, h2, h3⟩
  · rw [e]; exact lcN_le _
  · rw [h3]; exact lcN_fit h1 (fitB_mono h h2)
def lcF (m : zMem) (L : Nat → Nat) : List Nat → Nat
  | [] => 0
  | f :: ms => lcA m f L + lcF m L ms
theorem lcF_mono {m : zMem} {L L' : Nat → Nat} (h : ∀ x, L x ≤ L' x) : ∀ ms, lcF m L ms ≤ lcF m L' ms
  | [] => Nat.le_refl _
  | f :: ms => Nat.add_le_add (lcA_mono h) (lcF_mono h ms)
def vlB (b : zB) : Nat := match b with
  | none => 100000000
  | some q => q.1
theorem fcG_id {st : Nat → zB → zB} {b : zB} : ∀ n c, (∀ j, c ≤ j → j < c + n → st j b = b) → fcG st n c b = b
  | 0, _, _ => rfl
  | n + 1, c, h => by
    rw [fcG, h c (Nat.le_refl _) (by omega)]
    exact fcG_id n (c + 1) (fun j h1 h2 => h j (by omega) (by omega))
theorem put_ge {m : zMem} {f c : Nat} {L : Nat → Nat} (x : Nat) : L x ≤ put m f c L x := Nat.le_add_right _ _
/-- where the bound says so, nothing cheaper comes -/
theorem sr_prune {m : zMem} (hW : WF m) : ∀ (ms : List Nat) (L : Nat → Nat) (s : Nat) (pf : List Nat) (b : zB), ¬ ms = [] → (∀ g ∈ ms, g < nfl m) → s + 416 * ms.length ≤ 10000 → vlB b ≤ s + lcF m L ms → sr m ms L s pf b = b
  | [], _, _, _, _, h, _, _, _ => absurd rfl h
  | f :: ms, L, s, pf, b, _, hg, hs, hb => by
    rw [sr_cons]
    refine fcG_id _ _ (fun c _ hc => ?_)
    unfold stp
    by_cases h : (okT m f c (put m f c L) 48 && lessB b (s + cstC m f c)) = true
    · rw [if_pos h]
      rw [Bool.and_eq_true] at h
      have hf := hg f List.mem_cons_self
      have h3 := (hW.2.1 f hf).2.2.2.2.1.2.2
      have hcst := cstC_le hW hf (show c < 15 by omega)
      have hlc : lcA m f L ≤ cstC m f c := lcN_fit (by omega) h.1
      rw [List.length_cons] at hs
      rw [lcF] at hb
      cases ms with
      | nil =>
        exfalso
        rw [lcF] at hb
        cases b with
        | none =>
          have hb : 100000000 ≤ s + (lcA m f L + 0) := hb
          have hs : s + 416 * (0 + 1) ≤ 10000 := hs
          omega
        | some q =>
          have h2 : s + cstC m f c < q.1 := of_decide_eq_true h.2
          have hb : q.1 ≤ s + (lcA m f L + 0) := hb
          omega
      | cons g ms' =>
        have hs2 : s + cstC m f c + 416 * (g :: ms').length ≤ 10000 := by
          clear hb hlc h
          revert hs hcst
          generalize (g :: ms').length = n
          generalize cstC m f c = z
          intro a b
          omega
        refine sr_prune hW (g :: ms') (put m f c L) (s + cstC m f c) (pf ++ [c]) b (fun z => by cases z) (fun z hz => hg z (List.mem_cons_of_mem _ hz)) hs2 ?_
        have := lcF_mono (m := m) (L := L) (L' := put m f c L) (fun x => put_ge x) (g :: ms')
        omega
    · rw [if_neg h]
theorem C_X6_leastCostAlone (l : Launch) (w : zWd) {m im : zMem} (lv : Int64) (hW : WF m) (hC : RC m im) {f : Nat} (hf : f < nfl m) {L : Nat → Nat} (hL : ∀ c, c < 384 → L c ≤ 1000) (hF : FRE m im L) : zSpecI l w 4 zyX6_leastCostAlone [vR 29 0, vR 12 f] im lv (fun v im' lv' => (v = nI (lcA m f L) ∧ ∀ r, ¬ r = 31 → im' r = im r) ∧ lv' = lv) := by
  refine ze_I (by decide) (Nat.le_of_ble_eq_true rfl) (fun x hO hR hN => rX6_leastCostAlone_0 hO hR hN (by have := hW.1.2; omega) ?_)
  have h12 := hW.1.2
  obtain ⟨-, f1, -, f3, f4, f5, f6, -⟩ := hW.2.1 f hf
  obtain ⟨c0, c1, c2, c3, c4, c5, c6, -⟩ := hC.2.1 f hf
  have key : ∀ n wy (im1 : zMem), n + wy = wys m f → (∀ r, ¬ r = 31 → im1 r = im r) → zW x w 5 [(0, vR 29 0), (1, vR 12 f), (2, vI (nI (lcN m f L (5 * wy)))), (3, vI (nI wy))] [] im1 lv := by
    intro n
    induction n with
    | zero =>
      intro wy im1 hk h1
      have : wy = wys m f := by omega
      subst this
      refine rX6_leastCostAlone_5 hO hR hN (by omega) ?_
      rw [h1 12 (by decide), c4]
      exact ⟨fun _ => ⟨⟨rfl, h1⟩, rfl⟩, fun q => absurd (Int32.le_refl _) q⟩
    | succ n ih =>
      intro wy im1 hk h1
      refine rX6_leastCostAlone_5 hO hR hN (by omega) ?_
      rw [h1 12 (by decide), c4, nI_leI (by omega) (by omega)]
      refine ⟨fun q => by omega, fun _ => ?_⟩
      have inner : ∀ p d (im2 : zMem), p + d = 5 → (∀ r, ¬ r = 31 → im2 r = im r) → zW x w 16 [(0, vR 29 0), (1, vR 12 f), (2, vI (nI (lcN m f L (5 * wy + d)))), (3, vI (nI wy)), (4, vI (nI d))] [] im2 lv := by
        intro p
        induction p with
        | zero =>
          intro d im2 hp h2
          have : d = 5 := by omega
          subst this
          refine rX6_leastCostAlone_16 hO hR hN (by omega) ⟨fun _ => ?_, fun q => absurd (by decide) q⟩
          rw [nI_1]
          exact ih (wy + 1) im2 (by omega) h2
        | succ p ihp =>
          intro d im2 hp h2
          have hC2 : RC m im2 := hC.fr (fun r hr => h2 r (by omega))
          have hF2 : FRE m im2 L := by unfold FRE; rw [h2 30 (by decide)]; exact hF
          refine rX6_leastCostAlone_16 hO hR hN (by omega) ?_
          have hcs := cstC_le hW hf (show 5 * wy + d < 15 by omega)
          have hce : cstC m f (5 * wy + d) = rat m f * d + 10 * wy := by unfold cstC; rw [show (5 * wy + d) / 5 = wy by omega, show (5 * wy + d) % 5 = d by omega]
          have hll := lcN_le (m := m) (f := f) (L := L) (5 * wy + d)
          have ihp := fun im3 => ihp (d + 1) im3 (by omega)
          rw [← Nat.add_assoc (5 * wy) d 1, lcN] at ihp
          rw [h2 12 (by decide), c3, show (10 : Int32) * nI wy = nI (10 * wy) from pk_mul 10 _, pk_mul, nI_add, ← hce, nI_1 d, nI_leI (show lcN m f L (5 * wy + d) < 2 ^ 31 by omega) (by omega), show (5 : Int32) = nI 5 from rfl, nI_leI (by omega) (by omega)]
          refine ⟨fun q => by omega, fun _ => ⟨fun q => ?_, fun q => ⟨_, C_X6_fits _ _ _ hW hC2 hf (by omega) (by omega) hL hF2, ?_⟩⟩⟩
          · rw [if_neg (by omega)] at ihp
            exact ihp im2 h2
          · rintro v3 im3 lv3 ⟨⟨rfl, h3⟩, rfl⟩
            by_cases hfit : fitB m f (5 * wy + d) L = true
            · rw [if_pos hfit]
              rw [if_pos ⟨by omega, hfit⟩] at ihp
              exact ⟨fun z => absurd z (by decide), fun _ => ihp im3 (fun r hr => (h3 r hr).trans (h2 r hr))⟩
            · rw [if_neg hfit]
              rw [if_neg (fun z => hfit z.2)] at ihp
              exact ⟨fun _ => ihp im3 (fun r hr => (h3 r hr).trans (h2 r hr)), fun z => absurd rfl z⟩
      exact inner 5 0 im1 rfl h1
  exact key (wys m f) 0 im (by omega) (fun _ _ => rfl)
theorem C_X6_leastCostFrom (l : Launch) (w : zWd) {m im : zMem} (lv : Int64) (hW : WF m) (hC : RC m im) {M pre ms : List Nat} (hM : M = pre ++ ms) (hM5 : M.length ≤ 5) (hg : ∀ g ∈ M, g < nfl m) (h7 : im 29 0 7 = nI M.length) (h32 : ∀ i, i < M.length → im 32 0 i = nI (M.getD i 0)) {L : Nat → Nat} (hL : ∀ c, c < 384 → L c ≤ 1000) (hF : FRE m im L) : zSpecI l w 5 zyX6_leastCostFrom [vR 29 0, vI (nI pre.length)] im lv (fun v im' lv' => ((∃ n, v = nI n ∧ n ≤ 200000000 ∧ n ≤ lcF m L ms) ∧ ∀ r, ¬ r = 31 → im' r = im r) ∧ lv' = lv) := by
  refine ze_I (by decide) (Nat.le_of_ble_eq_true rfl) (fun x hO hR hN => rX6_leastCostFrom_0 hO hR hN ?_)
  have h12 := hW.1.2
  have key : ∀ (K pr : List Nat) a (im1 : zMem), M = pr ++ K → a ≤ 200000000 → a + lcF m L K ≤ lcF m L ms → (∀ r, ¬ r = 31 → im1 r = im r) → zW x w 4 [(0, vR 29 0), (1, vI (nI pre.length)), (2, vI (nI a)), (3, vI (nI pr.length))] [] im1 lv := by
    intro K
    induction K with
    | nil =>
      intro pr a im1 hK ha hs h1
      refine rX6_leastCostFrom_4 hO hR hN ?_
      rw [List.append_nil] at hK
      subst hK
      rw [h1 29 (by decide), h7]
      exact ⟨fun _ => ⟨⟨⟨a, rfl, ha, by omega⟩, h1⟩, rfl⟩, fun q => absurd (Int32.le_refl _) q⟩
    | cons g K ih =>
      intro pr a im1 hK ha hs h1
      have hlen : pr.length < M.length := by rw [hK, List.length_append, List.length_cons]; omega
      have hgm : g < nfl m := hg g (by rw [hK]; simp)
      have e32 := h32 pr.length hlen
      rw [show M.getD pr.length 0 = g by rw [hK]; exact gD_m] at e32
      have hC1 : RC m im1 := hC.fr (fun r hr => h1 r (by omega))
      have hF1 : FRE m im1 L := by unfold FRE; rw [h1 30 (by decide)]; exact hF
      refine rX6_leastCostFrom_4 hO hR hN ?_
      rw [h1 29 (by decide), h1 32 (by decide), h7, nI_clamp (show pr.length < 2 ^ 31 by omega), e32, nI_clamp (show g < 2 ^ 31 by omega), nI_leI (by omega) (by omega), show (100000000 : Int32) = nI 100000000 from rfl, nI_leI (by omega) (by omega), nI_1 pr.length]
      refine ⟨fun q => by omega, fun _ => ⟨fun q => ⟨⟨⟨a, rfl, ha, by omega⟩, h1⟩, rfl⟩, fun q => ⟨vp_in_nI (by omega) (by decide), vp_in_nI (by omega) (by decide), _, C_X6_leastCostAlone _ _ _ hW hC1 hgm hL hF1, ?_⟩⟩⟩
      rintro v3 im3 lv3 ⟨⟨rfl, h3⟩, rfl⟩
      have hll := lcN_le (m := m) (f := g) (L := L) (5 * wys m g)
      have := ih (pr ++ [g]) (a + lcA m g L) im3 (by rw [List.append_assoc]; exact hK) (by unfold lcA; omega) (by rw [lcF] at hs; omega) (fun r hr => (h3 r hr).trans (h1 r hr))
      rw [List.length_append, List.length_singleton] at this
      rw [nI_add]
      exact this
  exact key ms pre 0 im hM (by decide) (by omega) (fun _ _ => rfl)
