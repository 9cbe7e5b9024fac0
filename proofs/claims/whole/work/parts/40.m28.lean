/-! the class's splitter -/
theorem rX9_reliefBySplit_0 {x : zX} {w : zWd} {im : zMem} {lv : Int64} {P : Int32 → zMem → Int64 → Prop} {x1 : Int32} (hO : zOK x w zyX9_reliefBySplit 4) (hR : zRetI x w zyX9_reliefBySplit P) (hN : zN x 126 126)
 (h : (vp_in x1 384 ∧ P (if ((im 22 0 (Int32.toNatClampNeg x1)) / 2) < (if 0 < ((im 21 0 (Int32.toNatClampNeg x1)) - (im 22 0 (Int32.toNatClampNeg x1))) then ((im 21 0 (Int32.toNatClampNeg x1)) - (im 22 0 (Int32.toNatClampNeg x1))) else 0) then ((im 22 0 (Int32.toNatClampNeg x1)) / 2) else (if 0 < ((im 21 0 (Int32.toNatClampNeg x1)) - (im 22 0 (Int32.toNatClampNeg x1))) then ((im 21 0 (Int32.toNatClampNeg x1)) - (im 22 0 (Int32.toNatClampNeg x1))) else 0)) im lv)) :
 zW x w 0 [(0, vR 24 0), (1, vI x1)] [] im lv := by
  refine zi_aload_n hO dX9_reliefBySplit_0 0 rfl ?_
  refine zi_getR (r' := 20) (i' := 0) hO dX9_reliefBySplit_1 fX9_32 rfl rfl (zI (by decide)) rfl ?_
  refine zi_getR (r' := 22) (i' := 0) hO dX9_reliefBySplit_4 fX9_85 rfl rfl (zI (by decide)) rfl ?_
  refine zi_iload_n hO dX9_reliefBySplit_7 1 rfl ?_
  obtain ⟨s1, h⟩ := h
  refine zi_iald hO dX9_reliefBySplit_8 rfl (zI (by decide)) s1 ?_
  refine zi_iconst (v := 2) hO dX9_reliefBySplit_9 (by decide) ?_
  refine zi_idiv hO dX9_reliefBySplit_10 (by decide) ?_
  refine zi_istore_n (L' := [(0, vR 24 0), (1, vI x1), (2, vI ((im 22 0 (Int32.toNatClampNeg x1)) / 2))]) hO dX9_reliefBySplit_11 (by decide) rfl rfl ?_
  refine zi_aload_n hO dX9_reliefBySplit_12 0 rfl ?_
  refine zi_getR (r' := 20) (i' := 0) hO dX9_reliefBySplit_13 fX9_32 rfl rfl (zI (by decide)) rfl ?_
  refine zi_iload_n hO dX9_reliefBySplit_16 1 rfl ?_
  refine zc_VI (as := [vI x1]) hO hN dX9_reliefBySplit_17 kX9_62 (by decide) rfl (zI (by decide)) rfl rfl (Nat.le_of_ble_eq_true rfl) rfl rfl (C_X8_tooMuchIn _ _ _ _ s1) (fun v2 im2 lv2 hp2 => ?_)
  rw [hp2.1, hp2.2.1, hp2.2.2]
  refine zi_iload_n hO dX9_reliefBySplit_20 2 rfl ?_
  refine zi_min hO hN (by decide) dX9_reliefBySplit_21 qX9_88 q_min_s q_math_i q_min_c (Nat.le_of_ble_eq_true rfl) ?_
  exact zr_I hO hR rfl dX9_reliefBySplit_24 h
theorem rX9_fillRelieved_0 {x : zX} {w : zWd} {im : zMem} {lv : Int64} {P : zMem → Int64 → Prop} {x1 : Int32} (hO : zOK x w zyX9_fillRelieved 5) (hR : zRetV x w zyX9_fillRelieved P) (hN : zN x 126 126)
 (h : (vp_in 0 64 ∧ zW x w 9 [(0, vR 24 0), (1, vI x1), (2, vI 0)] [] (zwr im 27 0 (Int32.toNatClampNeg 0) 0) lv)) :
 zW x w 0 [(0, vR 24 0), (1, vI x1)] [] im lv := by
  refine zi_aload_n hO dX9_fillRelieved_0 0 rfl ?_
  refine zi_getR (r' := 27) (i' := 0) hO dX9_fillRelieved_1 fX9_18 rfl rfl (zI (by decide)) rfl ?_
  refine zi_iconst (v := 0) hO dX9_fillRelieved_4 (by decide) ?_
  refine zi_iconst (v := 0) hO dX9_fillRelieved_5 (by decide) ?_
  obtain ⟨s1, h⟩ := h
  refine zi_iast hO dX9_fillRelieved_6 rfl (zI (by decide)) s1 ?_
  refine zi_iconst (v := 0) hO dX9_fillRelieved_7 (by decide) ?_
  refine zi_istore_n (L' := [(0, vR 24 0), (1, vI x1), (2, vI 0)]) hO dX9_fillRelieved_8 (by decide) rfl rfl ?_
  exact h
theorem rX9_fillRelieved_9 {x : zX} {w : zWd} {im : zMem} {lv : Int64} {P : zMem → Int64 → Prop} {x1 : Int32} {x2 : Int32} (hO : zOK x w zyX9_fillRelieved 5) (hR : zRetV x w zyX9_fillRelieved P) (hN : zN x 126 126)
 (h : ((6 ≤ x2 → P im lv) ∧
 (¬ (6 ≤ x2) → (∃ P2 : Int32 → zMem → Int64 → Prop, zSpecI x.2.1 w 4 zyX9_reliefBySplit [vR 24 0, vI ((x2 * 48) + x1)] im lv P2 ∧ ∀ (v2 : Int32) (im2 : zMem) (lv2 : Int64), P2 v2 im2 lv2 → zW x w 33 [(0, vR 24 0), (1, vI x1), (2, vI x2), (3, vI v2), (4, vI (1 <<< (x2 &&& 31))), (5, vI 0)] [] im2 lv2)))) :
 zW x w 9 [(0, vR 24 0), (1, vI x1), (2, vI x2)] [] im lv := by
  refine zi_iload_n hO dX9_fillRelieved_9 2 rfl ?_
  refine zi_bipush (v := 6) hO dX9_fillRelieved_10 (by decide) ?_
  refine zi_icmp_ge (tgt := 71) hO dX9_fillRelieved_12 (by decide) (fun c1 => ?_) (fun c1 => ?_)
  · have h := h.1 c1
    exact zr_V hO hR rfl dX9_fillRelieved_71 h
  · have h := h.2 c1
    refine zi_aload_n hO dX9_fillRelieved_15 0 rfl ?_
    refine zi_iload_n hO dX9_fillRelieved_16 2 rfl ?_
    refine zi_iload_n hO dX9_fillRelieved_17 1 rfl ?_
    refine zc_NI (as := [vI x2, vI x1]) hO hN dX9_fillRelieved_18 kX9_59 ksX9_59 (by decide) rfl (Nat.le_of_ble_eq_true rfl) rfl rfl (C_X11_cellOf _ _ _ _) (fun v1 im1 lv1 hp1 => ?_)
    rw [hp1.1, hp1.2.1, hp1.2.2]
    obtain ⟨P2, hM2, h⟩ := h
    refine zc_VI (as := [vI ((x2 * 48) + x1)]) hO hN dX9_fillRelieved_21 kX9_82 (by decide) rfl (zI (by decide)) rfl rfl (Nat.le_of_ble_eq_true rfl) rfl rfl hM2 (fun v2 im2 lv2 hp2 => ?_)
    replace h := h v2 im2 lv2 hp2
    refine zi_istore_n (L' := [(0, vR 24 0), (1, vI x1), (2, vI x2), (3, vI v2)]) hO dX9_fillRelieved_24 (by decide) rfl rfl ?_
    refine zi_iconst (v := 1) hO dX9_fillRelieved_25 (by decide) ?_
    refine zi_iload_n hO dX9_fillRelieved_26 2 rfl ?_
    refine zi_ishl hO dX9_fillRelieved_27 ?_
    refine zi_istore (L' := [(0, vR 24 0), (1, vI x1), (2, vI x2), (3, vI v2), (4, vI (1 <<< (x2 &&& 31)))]) hO dX9_fillRelieved_28 (by decide) rfl rfl ?_
    refine zi_iconst (v := 0) hO dX9_fillRelieved_30 (by decide) ?_
    refine zi_istore (L' := [(0, vR 24 0), (1, vI x1), (2, vI x2), (3, vI v2), (4, vI (1 <<< (x2 &&& 31))), (5, vI 0)]) hO dX9_fillRelieved_31 (by decide) rfl rfl ?_
    exact h
theorem rX9_fillRelieved_33 {x : zX} {w : zWd} {im : zMem} {lv : Int64} {P : zMem → Int64 → Prop} {x1 : Int32} {x2 : Int32} {x3 : Int32} {x4 : Int32} {x5 : Int32} (hO : zOK x w zyX9_fillRelieved 5) (hR : zRetV x w zyX9_fillRelieved P) (hN : zN x 126 126)
 (h : ((x4 ≤ x5 → zW x w 9 [(0, vR 24 0), (1, vI x1), (2, vI (x2 + 1))] [] im lv) ∧
 (¬ (x4 ≤ x5) → (vp_in x5 64 ∧ (vp_in (x4 + x5) 64 ∧ zW x w 33 [(0, vR 24 0), (1, vI x1), (2, vI x2), (3, vI x3), (4, vI x4), (5, vI (x5 + 1))] [] (zwr im 27 0 (Int32.toNatClampNeg (x4 + x5)) ((im 27 0 (Int32.toNatClampNeg x5)) + x3)) lv))))) :
 zW x w 33 [(0, vR 24 0), (1, vI x1), (2, vI x2), (3, vI x3), (4, vI x4), (5, vI x5)] [] im lv := by
  refine zi_iload hO dX9_fillRelieved_33 5 rfl ?_
  refine zi_iload hO dX9_fillRelieved_35 4 rfl ?_
  refine zi_icmp_ge (tgt := 65) hO dX9_fillRelieved_37 (by decide) (fun c1 => ?_) (fun c1 => ?_)
  · have h := h.1 c1
    refine zi_iinc (v' := (x2 + 1)) (L' := [(0, vR 24 0), (1, vI x1), (2, vI (x2 + 1)), (3, vI x3), (4, vI x4), (5, vI x5)]) hO dX9_fillRelieved_65 2 rfl rfl (by decide) rfl rfl ?_
    refine zi_goto (tgt := 9) hO dX9_fillRelieved_68 (by decide) ?_
    refine zi_pick (L' := [(0, vR 24 0), (1, vI x1), (2, vI (x2 + 1))]) [0, 1, 2] rfl ?_
    exact h
  · have h := h.2 c1
    refine zi_aload_n hO dX9_fillRelieved_40 0 rfl ?_
    refine zi_getR (r' := 27) (i' := 0) hO dX9_fillRelieved_41 fX9_18 rfl rfl (zI (by decide)) rfl ?_
    refine zi_iload hO dX9_fillRelieved_44 4 rfl ?_
    refine zi_iload hO dX9_fillRelieved_46 5 rfl ?_
    refine zi_iadd hO dX9_fillRelieved_48 ?_
    refine zi_aload_n hO dX9_fillRelieved_49 0 rfl ?_
    refine zi_getR (r' := 27) (i' := 0) hO dX9_fillRelieved_50 fX9_18 rfl rfl (zI (by decide)) rfl ?_
    refine zi_iload hO dX9_fillRelieved_53 5 rfl ?_
    obtain ⟨s1, h⟩ := h
    refine zi_iald hO dX9_fillRelieved_55 rfl (zI (by decide)) s1 ?_
    refine zi_iload_n hO dX9_fillRelieved_56 3 rfl ?_
    refine zi_iadd hO dX9_fillRelieved_57 ?_
    obtain ⟨s2, h⟩ := h
    refine zi_iast hO dX9_fillRelieved_58 rfl (zI (by decide)) s2 ?_
    refine zi_iinc (v' := (x5 + 1)) (L' := [(0, vR 24 0), (1, vI x1), (2, vI x2), (3, vI x3), (4, vI x4), (5, vI (x5 + 1))]) hO dX9_fillRelieved_59 5 rfl rfl (by decide) rfl rfl ?_
    refine zi_goto (tgt := 33) hO dX9_fillRelieved_62 (by decide) ?_
    exact h
theorem rX9_addChangesAhead_0 {x : zX} {w : zWd} {im : zMem} {lv : Int64} {P : zMem → Int64 → Prop} (hO : zOK x w zyX9_addChangesAhead 3) (hR : zRetV x w zyX9_addChangesAhead P) (hN : zN x 126 126)
 (h : zW x w 2 [(0, vR 24 0), (1, vI 0)] [] im lv) :
 zW x w 0 [(0, vR 24 0)] [] im lv := by
  refine zi_iconst (v := 0) hO dX9_addChangesAhead_0 (by decide) ?_
  refine zi_istore_n (L' := [(0, vR 24 0), (1, vI 0)]) hO dX9_addChangesAhead_1 (by decide) rfl rfl ?_
  exact h
theorem rX9_addChangesAhead_2 {x : zX} {w : zWd} {im : zMem} {lv : Int64} {P : zMem → Int64 → Prop} {x1 : Int32} (hO : zOK x w zyX9_addChangesAhead 3) (hR : zRetV x w zyX9_addChangesAhead P) (hN : zN x 126 126)
 (h : ((6 ≤ x1 → P im lv) ∧
 (¬ (6 ≤ x1) → zW x w 14 [(0, vR 24 0), (1, vI x1), (2, vI (1 <<< (x1 &&& 31))), (3, vI 0)] [] im lv))) :
 zW x w 2 [(0, vR 24 0), (1, vI x1)] [] im lv := by
  refine zi_iload_n hO dX9_addChangesAhead_2 1 rfl ?_
  refine zi_bipush (v := 6) hO dX9_addChangesAhead_3 (by decide) ?_
  refine zi_icmp_ge (tgt := 88) hO dX9_addChangesAhead_5 (by decide) (fun c1 => ?_) (fun c1 => ?_)
  · have h := h.1 c1
    exact zr_V hO hR rfl dX9_addChangesAhead_88 h
  · have h := h.2 c1
    refine zi_iconst (v := 1) hO dX9_addChangesAhead_8 (by decide) ?_
    refine zi_iload_n hO dX9_addChangesAhead_9 1 rfl ?_
    refine zi_ishl hO dX9_addChangesAhead_10 ?_
    refine zi_istore_n (L' := [(0, vR 24 0), (1, vI x1), (2, vI (1 <<< (x1 &&& 31)))]) hO dX9_addChangesAhead_11 (by decide) rfl rfl ?_
    refine zi_iconst (v := 0) hO dX9_addChangesAhead_12 (by decide) ?_
    refine zi_istore_n (L' := [(0, vR 24 0), (1, vI x1), (2, vI (1 <<< (x1 &&& 31))), (3, vI 0)]) hO dX9_addChangesAhead_13 (by decide) rfl rfl ?_
    exact h
theorem rX9_addChangesAhead_14 {x : zX} {w : zWd} {im : zMem} {lv : Int64} {P : zMem → Int64 → Prop} {x1 : Int32} {x2 : Int32} {x3 : Int32} (hO : zOK x w zyX9_addChangesAhead 3) (hR : zRetV x w zyX9_addChangesAhead P) (hN : zN x 126 126)
 (h : ((64 ≤ x3 → zW x w 2 [(0, vR 24 0), (1, vI (x1 + 1))] [] im lv) ∧
 (¬ (64 ≤ x3) → ((¬ ((x3 &&& x2) = 0) → zW x w 14 [(0, vR 24 0), (1, vI x1), (2, vI x2), (3, vI (x3 + 1))] [] im lv) ∧
 ((x3 &&& x2) = 0 → (vp_in x3 64 ∧ (vp_in (x3 + x2) 64 ∧ zW x w 14 [(0, vR 24 0), (1, vI x1), (2, vI x2), (3, vI (x3 + 1))] [] (zwr (zwr im 26 0 (Int32.toNatClampNeg x3) (if ((im 26 0 (Int32.toNatClampNeg (x3 + x2))) + 1) < (im 26 0 (Int32.toNatClampNeg x3)) then ((im 26 0 (Int32.toNatClampNeg (x3 + x2))) + 1) else (im 26 0 (Int32.toNatClampNeg x3)))) 26 0 (Int32.toNatClampNeg (x3 + x2)) (if ((im 26 0 (Int32.toNatClampNeg x3)) + 1) < (im 26 0 (Int32.toNatClampNeg (x3 + x2))) then ((im 26 0 (Int32.toNatClampNeg x3)) + 1) else (im 26 0 (Int32.toNatClampNeg (x3 + x2))))) lv))))))) :
 zW x w 14 [(0, vR 24 0), (1, vI x1), (2, vI x2), (3, vI x3)] [] im lv := by
  refine zi_iload_n hO dX9_addChangesAhead_14 3 rfl ?_
  refine zi_bipush (v := 64) hO dX9_addChangesAhead_15 (by decide) ?_
  refine zi_icmp_ge (tgt := 82) hO dX9_addChangesAhead_17 (by decide) (fun c1 => ?_) (fun c1 => ?_)
  · have h := h.1 c1
    refine zi_iinc (v' := (x1 + 1)) (L' := [(0, vR 24 0), (1, vI (x1 + 1)), (2, vI x2), (3, vI x3)]) hO dX9_addChangesAhead_82 1 rfl rfl (by decide) rfl rfl ?_
    refine zi_goto (tgt := 2) hO dX9_addChangesAhead_85 (by decide) ?_
    refine zi_pick (L' := [(0, vR 24 0), (1, vI (x1 + 1))]) [0, 1] rfl ?_
    exact h
  · have h := h.2 c1
    refine zi_iload_n hO dX9_addChangesAhead_20 3 rfl ?_
    refine zi_iload_n hO dX9_addChangesAhead_21 2 rfl ?_
    refine zi_iand hO dX9_addChangesAhead_22 ?_
    refine zi_if_ne (tgt := 76) hO dX9_addChangesAhead_23 (by decide) (fun c2 => ?_) (fun c2 => ?_)
    · have h := h.1 c2
      refine zi_iinc (v' := (x3 + 1)) (L' := [(0, vR 24 0), (1, vI x1), (2, vI x2), (3, vI (x3 + 1))]) hO dX9_addChangesAhead_76 3 rfl rfl (by decide) rfl rfl ?_
      refine zi_goto (tgt := 14) hO dX9_addChangesAhead_79 (by decide) ?_
      exact h
    · have h := h.2 c2
      refine zi_aload_n hO dX9_addChangesAhead_26 0 rfl ?_
      refine zi_getR (r' := 26) (i' := 0) hO dX9_addChangesAhead_27 fX9_15 rfl rfl (zI (by decide)) rfl ?_
      refine zi_iload_n hO dX9_addChangesAhead_30 3 rfl ?_
      obtain ⟨s1, h⟩ := h
      refine zi_iald hO dX9_addChangesAhead_31 rfl (zI (by decide)) s1 ?_
      refine zi_istore (L' := [(0, vR 24 0), (1, vI x1), (2, vI x2), (3, vI x3), (4, vI (im 26 0 (Int32.toNatClampNeg x3)))]) hO dX9_addChangesAhead_32 (by decide) rfl rfl ?_
      refine zi_aload_n hO dX9_addChangesAhead_34 0 rfl ?_
      refine zi_getR (r' := 26) (i' := 0) hO dX9_addChangesAhead_35 fX9_15 rfl rfl (zI (by decide)) rfl ?_
      refine zi_iload_n hO dX9_addChangesAhead_38 3 rfl ?_
      refine zi_iload_n hO dX9_addChangesAhead_39 2 rfl ?_
      refine zi_iadd hO dX9_addChangesAhead_40 ?_
      obtain ⟨s2, h⟩ := h
      refine zi_iald hO dX9_addChangesAhead_41 rfl (zI (by decide)) s2 ?_
      refine zi_istore (L' := [(0, vR 24 0), (1, vI x1), (2, vI x2), (3, vI x3), (4, vI (im 26 0 (Int32.toNatClampNeg x3))), (5, vI (im 26 0 (Int32.toNatClampNeg (x3 + x2))))]) hO dX9_addChangesAhead_42 (by decide) rfl rfl ?_
      refine zi_aload_n hO dX9_addChangesAhead_44 0 rfl ?_
      refine zi_getR (r' := 26) (i' := 0) hO dX9_addChangesAhead_45 fX9_15 rfl rfl (zI (by decide)) rfl ?_
      refine zi_iload_n hO dX9_addChangesAhead_48 3 rfl ?_
      refine zi_iload hO dX9_addChangesAhead_49 4 rfl ?_
      refine zi_iload hO dX9_addChangesAhead_51 5 rfl ?_
      refine zi_iconst (v := 1) hO dX9_addChangesAhead_53 (by decide) ?_
      refine zi_iadd hO dX9_addChangesAhead_54 ?_
      refine zi_min hO hN (by decide) dX9_addChangesAhead_55 qX9_88 q_min_s q_math_i q_min_c (Nat.le_of_ble_eq_true rfl) ?_
      refine zi_iast hO dX9_addChangesAhead_58 rfl (zI (by decide)) s1 ?_
      refine zi_aload_n hO dX9_addChangesAhead_59 0 rfl ?_
      refine zi_getR (r' := 26) (i' := 0) hO dX9_addChangesAhead_60 fX9_15 rfl rfl (zI (by decide)) rfl ?_
      refine zi_iload_n hO dX9_addChangesAhead_63 3 rfl ?_
      refine zi_iload_n hO dX9_addChangesAhead_64 2 rfl ?_
      refine zi_iadd hO dX9_addChangesAhead_65 ?_
      refine zi_iload hO dX9_addChangesAhead_66 5 rfl ?_
      refine zi_iload hO dX9_addChangesAhead_68 4 rfl ?_
      refine zi_iconst (v := 1) hO dX9_addChangesAhead_70 (by decide) ?_
      refine zi_iadd hO dX9_addChangesAhead_71 ?_
      refine zi_min hO hN (by decide) dX9_addChangesAhead_72 qX9_88 q_min_s q_math_i q_min_c (Nat.le_of_ble_eq_true rfl) ?_
      refine zi_iast hO dX9_addChangesAhead_75 rfl (zI (by decide)) s2 ?_
      refine zi_iinc (v' := (x3 + 1)) (L' := [(0, vR 24 0), (1, vI x1), (2, vI x2), (3, vI (x3 + 1)), (4, vI (im 26 0 (Int32.toNatClampNeg x3))), (5, vI (im 26 0 (Int32.toNatClampNeg (x3 + x2))))]) hO dX9_addChangesAhead_76 3 rfl rfl (by decide) rfl rfl ?_
      refine zi_goto (tgt := 14) hO dX9_addChangesAhead_79 (by decide) ?_
      refine zi_pick (L' := [(0, vR 24 0), (1, vI x1), (2, vI x2), (3, vI (x3 + 1))]) [0, 1, 2, 3] rfl ?_
      exact h
theorem rX9_bestSetBehind_0 {x : zX} {w : zWd} {im : zMem} {lv : Int64} {P : Int32 → zMem → Int64 → Prop} {x1 : Int32} {x2 : Int32} (hO : zOK x w zyX9_bestSetBehind 3) (hR : zRetI x w zyX9_bestSetBehind P) (hN : zN x 126 126)
 (h : zW x w 9 [(0, vR 24 0), (1, vI x1), (2, vI x2), (3, vI 0), (4, vI 100000000), (5, vI 0)] [] im lv) :
 zW x w 0 [(0, vR 24 0), (1, vI x1), (2, vI x2)] [] im lv := by
  refine zi_iconst (v := 0) hO dX9_bestSetBehind_0 (by decide) ?_
  refine zi_istore_n (L' := [(0, vR 24 0), (1, vI x1), (2, vI x2), (3, vI 0)]) hO dX9_bestSetBehind_1 (by decide) rfl rfl ?_
  refine zi_ldc (v := 100000000) hO dX9_bestSetBehind_2 nX9_81 ?_
  refine zi_istore (L' := [(0, vR 24 0), (1, vI x1), (2, vI x2), (3, vI 0), (4, vI 100000000)]) hO dX9_bestSetBehind_4 (by decide) rfl rfl ?_
  refine zi_iconst (v := 0) hO dX9_bestSetBehind_6 (by decide) ?_
  refine zi_istore (L' := [(0, vR 24 0), (1, vI x1), (2, vI x2), (3, vI 0), (4, vI 100000000), (5, vI 0)]) hO dX9_bestSetBehind_7 (by decide) rfl rfl ?_
  exact h
theorem rX9_bestSetBehind_9 {x : zX} {w : zWd} {im : zMem} {lv : Int64} {P : Int32 → zMem → Int64 → Prop} {x1 : Int32} {x2 : Int32} {x3 : Int32} {x4 : Int32} {x5 : Int32} (hO : zOK x w zyX9_bestSetBehind 3) (hR : zRetI x w zyX9_bestSetBehind P) (hN : zN x 126 126)
 (h : ((64 ≤ x5 → P x3 im lv) ∧
 (¬ (64 ≤ x5) → (vp_in ((x2 * 64) + x5) 3072 ∧ (∃ P2 : Int32 → zMem → Int64 → Prop, zSpecI x.2.1 w 2 zyJ6_bitCount_0f7a4 [vI (x5 ^^^ x1)] im lv P2 ∧ ∀ (v2 : Int32) (im2 : zMem) (lv2 : Int64), P2 v2 im2 lv2 → ((x4 ≤ ((im 25 0 (Int32.toNatClampNeg ((x2 * 64) + x5))) + v2) → zW x w 9 [(0, vR 24 0), (1, vI x1), (2, vI x2), (3, vI x3), (4, vI x4), (5, vI (x5 + 1))] [] im2 lv2) ∧
 (¬ (x4 ≤ ((im 25 0 (Int32.toNatClampNeg ((x2 * 64) + x5))) + v2)) → zW x w 9 [(0, vR 24 0), (1, vI x1), (2, vI x2), (3, vI x5), (4, vI ((im 25 0 (Int32.toNatClampNeg ((x2 * 64) + x5))) + v2)), (5, vI (x5 + 1))] [] im2 lv2))))))) :
 zW x w 9 [(0, vR 24 0), (1, vI x1), (2, vI x2), (3, vI x3), (4, vI x4), (5, vI x5)] [] im lv := by
  refine zi_iload hO dX9_bestSetBehind_9 5 rfl ?_
  refine zi_bipush (v := 64) hO dX9_bestSetBehind_11 (by decide) ?_
  refine zi_icmp_ge (tgt := 58) hO dX9_bestSetBehind_13 (by decide) (fun c1 => ?_) (fun c1 => ?_)
  · have h := h.1 c1
    refine zi_iload_n hO dX9_bestSetBehind_58 3 rfl ?_
    exact zr_I hO hR rfl dX9_bestSetBehind_59 h
  · have h := h.2 c1
    refine zi_aload_n hO dX9_bestSetBehind_16 0 rfl ?_
    refine zi_getR (r' := 25) (i' := 0) hO dX9_bestSetBehind_17 fX9_11 rfl rfl (zI (by decide)) rfl ?_
    refine zi_iload_n hO dX9_bestSetBehind_20 2 rfl ?_
    refine zi_bipush (v := 64) hO dX9_bestSetBehind_21 (by decide) ?_
    refine zi_imul hO dX9_bestSetBehind_23 ?_
    refine zi_iload hO dX9_bestSetBehind_24 5 rfl ?_
    refine zi_iadd hO dX9_bestSetBehind_26 ?_
    obtain ⟨s1, h⟩ := h
    refine zi_iald hO dX9_bestSetBehind_27 rfl (zI (by decide)) s1 ?_
    refine zi_iload hO dX9_bestSetBehind_28 5 rfl ?_
    refine zi_iload_n hO dX9_bestSetBehind_30 1 rfl ?_
    refine zi_ixor hO dX9_bestSetBehind_31 ?_
    obtain ⟨P2, hM2, h⟩ := h
    refine zc_SI (as := [vI (x5 ^^^ x1)]) hO hN dX9_bestSetBehind_32 kX9_71 (by decide) rfl (Nat.le_of_ble_eq_true rfl) rfl rfl hM2 (fun v2 im2 lv2 hp2 => ?_)
    replace h := h v2 im2 lv2 hp2
    refine zi_iadd hO dX9_bestSetBehind_35 ?_
    refine zi_istore (L' := [(0, vR 24 0), (1, vI x1), (2, vI x2), (3, vI x3), (4, vI x4), (5, vI x5), (6, vI ((im 25 0 (Int32.toNatClampNeg ((x2 * 64) + x5))) + v2))]) hO dX9_bestSetBehind_36 (by decide) rfl rfl ?_
    refine zi_iload hO dX9_bestSetBehind_38 6 rfl ?_
    refine zi_iload hO dX9_bestSetBehind_40 4 rfl ?_
    refine zi_icmp_ge (tgt := 52) hO dX9_bestSetBehind_42 (by decide) (fun c2 => ?_) (fun c2 => ?_)
    · have h := h.1 c2
      refine zi_iinc (v' := (x5 + 1)) (L' := [(0, vR 24 0), (1, vI x1), (2, vI x2), (3, vI x3), (4, vI x4), (5, vI (x5 + 1)), (6, vI ((im 25 0 (Int32.toNatClampNeg ((x2 * 64) + x5))) + v2))]) hO dX9_bestSetBehind_52 5 rfl rfl (by decide) rfl rfl ?_
      refine zi_goto (tgt := 9) hO dX9_bestSetBehind_55 (by decide) ?_
      refine zi_pick (L' := [(0, vR 24 0), (1, vI x1), (2, vI x2), (3, vI x3), (4, vI x4), (5, vI (x5 + 1))]) [0, 1, 2, 3, 4, 5] rfl ?_
      exact h
    · have h := h.2 c2
      refine zi_iload hO dX9_bestSetBehind_45 6 rfl ?_
      refine zi_istore (L' := [(0, vR 24 0), (1, vI x1), (2, vI x2), (3, vI x3), (4, vI ((im 25 0 (Int32.toNatClampNeg ((x2 * 64) + x5))) + v2)), (5, vI x5), (6, vI ((im 25 0 (Int32.toNatClampNeg ((x2 * 64) + x5))) + v2))]) hO dX9_bestSetBehind_47 (by decide) rfl rfl ?_
      refine zi_iload hO dX9_bestSetBehind_49 5 rfl ?_
      refine zi_istore_n (L' := [(0, vR 24 0), (1, vI x1), (2, vI x2), (3, vI x5), (4, vI ((im 25 0 (Int32.toNatClampNeg ((x2 * 64) + x5))) + v2)), (5, vI x5), (6, vI ((im 25 0 (Int32.toNatClampNeg ((x2 * 64) + x5))) + v2))]) hO dX9_bestSetBehind_51 (by decide) rfl rfl ?_
      refine zi_iinc (v' := (x5 + 1)) (L' := [(0, vR 24 0), (1, vI x1), (2, vI x2), (3, vI x5), (4, vI ((im 25 0 (Int32.toNatClampNeg ((x2 * 64) + x5))) + v2)), (5, vI (x5 + 1)), (6, vI ((im 25 0 (Int32.toNatClampNeg ((x2 * 64) + x5))) + v2))]) hO dX9_bestSetBehind_52 5 rfl rfl (by decide) rfl rfl ?_
      refine zi_goto (tgt := 9) hO dX9_bestSetBehind_55 (by decide) ?_
      refine zi_pick (L' := [(0, vR 24 0), (1, vI x1), (2, vI x2), (3, vI x5), (4, vI ((im 25 0 (Int32.toNatClampNeg ((x2 * 64) + x5))) + v2)), (5, vI (x5 + 1))]) [0, 1, 2, 3, 4, 5] rfl ?_
      exact h
theorem rX9_weighSlot_0 {x : zX} {w : zWd} {im : zMem} {lv : Int64} {P : zMem → Int64 → Prop} {x1 : Int32} (hO : zOK x w zyX9_weighSlot 6) (hR : zRetV x w zyX9_weighSlot P) (hN : zN x 126 126)
 (h : zW x w 4 [(0, vR 24 0), (1, vI x1), (2, vI 0), (3, vI 0)] [] im lv) :
 zW x w 0 [(0, vR 24 0), (1, vI x1)] [] im lv := by
  refine zi_iconst (v := 0) hO dX9_weighSlot_0 (by decide) ?_
  refine zi_istore_n (L' := [(0, vR 24 0), (1, vI x1), (2, vI 0)]) hO dX9_weighSlot_1 (by decide) rfl rfl ?_
  refine zi_iconst (v := 0) hO dX9_weighSlot_2 (by decide) ?_
  refine zi_istore_n (L' := [(0, vR 24 0), (1, vI x1), (2, vI 0), (3, vI 0)]) hO dX9_weighSlot_3 (by decide) rfl rfl ?_
  exact h
theorem rX9_weighSlot_4 {x : zX} {w : zWd} {im : zMem} {lv : Int64} {P : zMem → Int64 → Prop} {x1 : Int32} {x2 : Int32} {x3 : Int32} (hO : zOK x w zyX9_weighSlot 6) (hR : zRetV x w zyX9_weighSlot P) (hN : zN x 126 126)
 (h : ((8 ≤ x3 → (∃ P1 : zMem → Int64 → Prop, zSpecV x.2.1 w 5 zyX9_fillRelieved [vR 24 0, vI x1] im lv P1 ∧ ∀ (im1 : zMem) (lv1 : Int64), P1 im1 lv1 → zW x w 38 [(0, vR 24 0), (1, vI x1), (2, vI x2), (3, vI 0)] [] im1 lv1)) ∧
 (¬ (8 ≤ x3) → (vp_in ((x3 * 48) + x1) 384 ∧ zW x w 4 [(0, vR 24 0), (1, vI x1), (2, vI (x2 + (if 0 < ((im 21 0 (Int32.toNatClampNeg ((x3 * 48) + x1))) - (im 22 0 (Int32.toNatClampNeg ((x3 * 48) + x1)))) then ((im 21 0 (Int32.toNatClampNeg ((x3 * 48) + x1))) - (im 22 0 (Int32.toNatClampNeg ((x3 * 48) + x1)))) else 0))), (3, vI (x3 + 1))] [] im lv)))) :
 zW x w 4 [(0, vR 24 0), (1, vI x1), (2, vI x2), (3, vI x3)] [] im lv := by
  refine zi_iload_n hO dX9_weighSlot_4 3 rfl ?_
  refine zi_bipush (v := 8) hO dX9_weighSlot_5 (by decide) ?_
  refine zi_icmp_ge (tgt := 31) hO dX9_weighSlot_7 (by decide) (fun c1 => ?_) (fun c1 => ?_)
  · have h := h.1 c1
    refine zi_aload_n hO dX9_weighSlot_31 0 rfl ?_
    refine zi_iload_n hO dX9_weighSlot_32 1 rfl ?_
    obtain ⟨P1, hM1, h⟩ := h
    refine zc_VV (as := [vI x1]) hO hN dX9_weighSlot_33 kX9_68 (by decide) rfl (zI (by decide)) rfl rfl (Nat.le_of_ble_eq_true rfl) rfl rfl hM1 (fun im1 lv1 hp1 => ?_)
    replace h := h im1 lv1 hp1
    refine zi_iconst (v := 0) hO dX9_weighSlot_36 (by decide) ?_
    refine zi_istore_n (L' := [(0, vR 24 0), (1, vI x1), (2, vI x2), (3, vI 0)]) hO dX9_weighSlot_37 (by decide) rfl rfl ?_
    exact h
  · have h := h.2 c1
    refine zi_iload_n hO dX9_weighSlot_10 2 rfl ?_
    refine zi_aload_n hO dX9_weighSlot_11 0 rfl ?_
    refine zi_getR (r' := 20) (i' := 0) hO dX9_weighSlot_12 fX9_32 rfl rfl (zI (by decide)) rfl ?_
    refine zi_iload_n hO dX9_weighSlot_15 3 rfl ?_
    refine zi_iload_n hO dX9_weighSlot_16 1 rfl ?_
    refine zc_NI (as := [vI x3, vI x1]) hO hN dX9_weighSlot_17 kX9_59 ksX9_59 (by decide) rfl (Nat.le_of_ble_eq_true rfl) rfl rfl (C_X11_cellOf _ _ _ _) (fun v2 im2 lv2 hp2 => ?_)
    rw [hp2.1, hp2.2.1, hp2.2.2]
    obtain ⟨s4, h⟩ := h
    refine zc_VI (as := [vI ((x3 * 48) + x1)]) hO hN dX9_weighSlot_20 kX9_62 (by decide) rfl (zI (by decide)) rfl rfl (Nat.le_of_ble_eq_true rfl) rfl rfl (C_X8_tooMuchIn _ _ _ _ s4) (fun v3 im3 lv3 hp3 => ?_)
    rw [hp3.1, hp3.2.1, hp3.2.2]
    refine zi_iadd hO dX9_weighSlot_23 ?_
    refine zi_istore_n (L' := [(0, vR 24 0), (1, vI x1), (2, vI (x2 + (if 0 < ((im 21 0 (Int32.toNatClampNeg ((x3 * 48) + x1))) - (im 22 0 (Int32.toNatClampNeg ((x3 * 48) + x1)))) then ((im 21 0 (Int32.toNatClampNeg ((x3 * 48) + x1))) - (im 22 0 (Int32.toNatClampNeg ((x3 * 48) + x1)))) else 0))), (3, vI x3)]) hO dX9_weighSlot_24 (by decide) rfl rfl ?_
    refine zi_iinc (v' := (x3 + 1)) (L' := [(0, vR 24 0), (1, vI x1), (2, vI (x2 + (if 0 < ((im 21 0 (Int32.toNatClampNeg ((x3 * 48) + x1))) - (im 22 0 (Int32.toNatClampNeg ((x3 * 48) + x1)))) then ((im 21 0 (Int32.toNatClampNeg ((x3 * 48) + x1))) - (im 22 0 (Int32.toNatClampNeg ((x3 * 48) + x1)))) else 0))), (3, vI (x3 + 1))]) hO dX9_weighSlot_25 3 rfl rfl (by decide) rfl rfl ?_
    refine zi_goto (tgt := 4) hO dX9_weighSlot_28 (by decide) ?_
    exact h
theorem rX9_weighSlot_38 {x : zX} {w : zWd} {im : zMem} {lv : Int64} {P : zMem → Int64 → Prop} {x1 : Int32} {x2 : Int32} {x3 : Int32} (hO : zOK x w zyX9_weighSlot 6) (hR : zRetV x w zyX9_weighSlot P) (hN : zN x 126 126)
 (h : ((64 ≤ x3 → P im lv) ∧
 (¬ (64 ≤ x3) → (∃ P1 : Int32 → zMem → Int64 → Prop, zSpecI x.2.1 w 2 zyJ6_bitCount_0f7a4 [vI x3] im lv P1 ∧ ∀ (v1 : Int32) (im1 : zMem) (lv1 : Int64), P1 v1 im1 lv1 → (vp_in x1 48 ∧ (((im1 4 0 (Int32.toNatClampNeg x1)) < v1 → (vp_in x3 64 ∧ (vp_in ((x1 * 64) + x3) 3072 ∧ zW x w 38 [(0, vR 24 0), (1, vI x1), (2, vI x2), (3, vI (x3 + 1))] [] (zwr im1 25 0 (Int32.toNatClampNeg ((x1 * 64) + x3)) 100000000) lv1))) ∧
 (¬ ((im1 4 0 (Int32.toNatClampNeg x1)) < v1) → (vp_in x3 64 ∧ (vp_in ((x1 * 64) + x3) 3072 ∧ zW x w 38 [(0, vR 24 0), (1, vI x1), (2, vI x2), (3, vI (x3 + 1))] [] (zwr im1 25 0 (Int32.toNatClampNeg ((x1 * 64) + x3)) ((10 * (x2 - (im1 27 0 (Int32.toNatClampNeg x3)))) + (im1 26 0 (Int32.toNatClampNeg x3)))) lv1))))))))) :
 zW x w 38 [(0, vR 24 0), (1, vI x1), (2, vI x2), (3, vI x3)] [] im lv := by
  refine zi_iload_n hO dX9_weighSlot_38 3 rfl ?_
  refine zi_bipush (v := 64) hO dX9_weighSlot_39 (by decide) ?_
  refine zi_icmp_ge (tgt := 116) hO dX9_weighSlot_41 (by decide) (fun c1 => ?_) (fun c1 => ?_)
  · have h := h.1 c1
    exact zr_V hO hR rfl dX9_weighSlot_116 h
  · have h := h.2 c1
    refine zi_iload_n hO dX9_weighSlot_44 3 rfl ?_
    obtain ⟨P1, hM1, h⟩ := h
    refine zc_SI (as := [vI x3]) hO hN dX9_weighSlot_45 kX9_71 (by decide) rfl (Nat.le_of_ble_eq_true rfl) rfl rfl hM1 (fun v1 im1 lv1 hp1 => ?_)
    replace h := h v1 im1 lv1 hp1
    refine zi_aload_n hO dX9_weighSlot_48 0 rfl ?_
    refine zi_getR (r' := 2) (i' := 0) hO dX9_weighSlot_49 fX9_28 rfl rfl (zI (by decide)) rfl ?_
    refine zi_getR (r' := 4) (i' := 0) hO dX9_weighSlot_52 fX9_76 rfl rfl (zI (by decide)) rfl ?_
    refine zi_iload_n hO dX9_weighSlot_55 1 rfl ?_
    obtain ⟨s2, h⟩ := h
    refine zi_iald hO dX9_weighSlot_56 rfl (zI (by decide)) s2 ?_
    refine zi_icmp_gt (tgt := 64) hO dX9_weighSlot_57 (by decide) (fun c2 => ?_) (fun c2 => ?_)
    · have h := h.1 c2
      refine zi_iconst (v := 0) hO dX9_weighSlot_64 (by decide) ?_
      refine zi_istore (L' := [(0, vR 24 0), (1, vI x1), (2, vI x2), (3, vI x3), (4, vI 0)]) hO dX9_weighSlot_65 (by decide) rfl rfl ?_
      refine zi_bipush (v := 10) hO dX9_weighSlot_67 (by decide) ?_
      refine zi_iload_n hO dX9_weighSlot_69 2 rfl ?_
      refine zi_aload_n hO dX9_weighSlot_70 0 rfl ?_
      refine zi_getR (r' := 27) (i' := 0) hO dX9_weighSlot_71 fX9_18 rfl rfl (zI (by decide)) rfl ?_
      refine zi_iload_n hO dX9_weighSlot_74 3 rfl ?_
      obtain ⟨s3, h⟩ := h
      refine zi_iald hO dX9_weighSlot_75 rfl (zI (by decide)) s3 ?_
      refine zi_isub hO dX9_weighSlot_76 ?_
      refine zi_imul hO dX9_weighSlot_77 ?_
      refine zi_aload_n hO dX9_weighSlot_78 0 rfl ?_
      refine zi_getR (r' := 26) (i' := 0) hO dX9_weighSlot_79 fX9_15 rfl rfl (zI (by decide)) rfl ?_
      refine zi_iload_n hO dX9_weighSlot_82 3 rfl ?_
      refine zi_iald hO dX9_weighSlot_83 rfl (zI (by decide)) s3 ?_
      refine zi_iadd hO dX9_weighSlot_84 ?_
      refine zi_istore (L' := [(0, vR 24 0), (1, vI x1), (2, vI x2), (3, vI x3), (4, vI 0), (5, vI ((10 * (x2 - (im1 27 0 (Int32.toNatClampNeg x3)))) + (im1 26 0 (Int32.toNatClampNeg x3))))]) hO dX9_weighSlot_85 (by decide) rfl rfl ?_
      refine zi_aload_n hO dX9_weighSlot_87 0 rfl ?_
      refine zi_getR (r' := 25) (i' := 0) hO dX9_weighSlot_88 fX9_11 rfl rfl (zI (by decide)) rfl ?_
      refine zi_iload_n hO dX9_weighSlot_91 1 rfl ?_
      refine zi_bipush (v := 64) hO dX9_weighSlot_92 (by decide) ?_
      refine zi_imul hO dX9_weighSlot_94 ?_
      refine zi_iload_n hO dX9_weighSlot_95 3 rfl ?_
      refine zi_iadd hO dX9_weighSlot_96 ?_
      refine zi_iload hO dX9_weighSlot_97 4 rfl ?_
      refine zi_if_eq (tgt := 107) hO dX9_weighSlot_99 (by decide) (fun _ => ?_) (fun c3 => absurd c3 (by decide))
      refine zi_ldc (v := 100000000) hO dX9_weighSlot_107 nX9_81 ?_
      obtain ⟨s4, h⟩ := h
      refine zi_iast hO dX9_weighSlot_109 rfl (zI (by decide)) s4 ?_
      refine zi_iinc (v' := (x3 + 1)) (L' := [(0, vR 24 0), (1, vI x1), (2, vI x2), (3, vI (x3 + 1)), (4, vI 0), (5, vI ((10 * (x2 - (im1 27 0 (Int32.toNatClampNeg x3)))) + (im1 26 0 (Int32.toNatClampNeg x3))))]) hO dX9_weighSlot_110 3 rfl rfl (by decide) rfl rfl ?_
      refine zi_goto (tgt := 38) hO dX9_weighSlot_113 (by decide) ?_
      refine zi_pick (L' := [(0, vR 24 0), (1, vI x1), (2, vI x2), (3, vI (x3 + 1))]) [0, 1, 2, 3] rfl ?_
      exact h
    · have h := h.2 c2
      refine zi_iconst (v := 1) hO dX9_weighSlot_60 (by decide) ?_
      refine zi_goto (tgt := 65) hO dX9_weighSlot_61 (by decide) ?_
      refine zi_istore (L' := [(0, vR 24 0), (1, vI x1), (2, vI x2), (3, vI x3), (4, vI 1)]) hO dX9_weighSlot_65 (by decide) rfl rfl ?_
      refine zi_bipush (v := 10) hO dX9_weighSlot_67 (by decide) ?_
      refine zi_iload_n hO dX9_weighSlot_69 2 rfl ?_
      refine zi_aload_n hO dX9_weighSlot_70 0 rfl ?_
      refine zi_getR (r' := 27) (i' := 0) hO dX9_weighSlot_71 fX9_18 rfl rfl (zI (by decide)) rfl ?_
      refine zi_iload_n hO dX9_weighSlot_74 3 rfl ?_
      obtain ⟨s5, h⟩ := h
      refine zi_iald hO dX9_weighSlot_75 rfl (zI (by decide)) s5 ?_
      refine zi_isub hO dX9_weighSlot_76 ?_
      refine zi_imul hO dX9_weighSlot_77 ?_
      refine zi_aload_n hO dX9_weighSlot_78 0 rfl ?_
      refine zi_getR (r' := 26) (i' := 0) hO dX9_weighSlot_79 fX9_15 rfl rfl (zI (by decide)) rfl ?_
      refine zi_iload_n hO dX9_weighSlot_82 3 rfl ?_
      refine zi_iald hO dX9_weighSlot_83 rfl (zI (by decide)) s5 ?_
      refine zi_iadd hO dX9_weighSlot_84 ?_
      refine zi_istore (L' := [(0, vR 24 0), (1, vI x1), (2, vI x2), (3, vI x3), (4, vI 1), (5, vI ((10 * (x2 - (im1 27 0 (Int32.toNatClampNeg x3)))) + (im1 26 0 (Int32.toNatClampNeg x3))))]) hO dX9_weighSlot_85 (by decide) rfl rfl ?_
      refine zi_aload_n hO dX9_weighSlot_87 0 rfl ?_
      refine zi_getR (r' := 25) (i' := 0) hO dX9_weighSlot_88 fX9_11 rfl rfl (zI (by decide)) rfl ?_
      refine zi_iload_n hO dX9_weighSlot_91 1 rfl ?_
      refine zi_bipush (v := 64) hO dX9_weighSlot_92 (by decide) ?_
      refine zi_imul hO dX9_weighSlot_94 ?_
      refine zi_iload_n hO dX9_weighSlot_95 3 rfl ?_
      refine zi_iadd hO dX9_weighSlot_96 ?_
      refine zi_iload hO dX9_weighSlot_97 4 rfl ?_
      refine zi_if_eq (tgt := 107) hO dX9_weighSlot_99 (by decide) (fun c4 => absurd c4 (by decide)) (fun _ => ?_)
      refine zi_iload hO dX9_weighSlot_102 5 rfl ?_
      refine zi_goto (tgt := 109) hO dX9_weighSlot_104 (by decide) ?_
      obtain ⟨s6, h⟩ := h
      refine zi_iast hO dX9_weighSlot_109 rfl (zI (by decide)) s6 ?_
      refine zi_iinc (v' := (x3 + 1)) (L' := [(0, vR 24 0), (1, vI x1), (2, vI x2), (3, vI (x3 + 1)), (4, vI 1), (5, vI ((10 * (x2 - (im1 27 0 (Int32.toNatClampNeg x3)))) + (im1 26 0 (Int32.toNatClampNeg x3))))]) hO dX9_weighSlot_110 3 rfl rfl (by decide) rfl rfl ?_
      refine zi_goto (tgt := 38) hO dX9_weighSlot_113 (by decide) ?_
      refine zi_pick (L' := [(0, vR 24 0), (1, vI x1), (2, vI x2), (3, vI (x3 + 1))]) [0, 1, 2, 3] rfl ?_
      exact h
theorem rX9_makePlan_0 {x : zX} {w : zWd} {im : zMem} {lv : Int64} {P : zMem → Int64 → Prop} (hO : zOK x w zyX9_makePlan 7) (hR : zRetV x w zyX9_makePlan P) (hN : zN x 126 126)
 (h : (∃ P1 : zMem → Int64 → Prop, zSpecV x.2.1 w 2 zyJ7_fill_53178 [vR 26 0, vI 0] im lv P1 ∧ ∀ (im1 : zMem) (lv1 : Int64), P1 im1 lv1 → zW x w 11 [(0, vR 24 0), (1, vI 47)] [] im1 lv1)) :
 zW x w 0 [(0, vR 24 0)] [] im lv := by
  refine zi_aload_n hO dX9_makePlan_0 0 rfl ?_
  refine zi_getR (r' := 26) (i' := 0) hO dX9_makePlan_1 fX9_15 rfl rfl (zI (by decide)) rfl ?_
  refine zi_iconst (v := 0) hO dX9_makePlan_4 (by decide) ?_
  obtain ⟨P1, hM1, h⟩ := h
  refine zc_SV (as := [vR 26 0, vI 0]) hO hN dX9_makePlan_5 kX9_36 (by decide) rfl (Nat.le_of_ble_eq_true rfl) rfl rfl hM1 (fun im1 lv1 hp1 => ?_)
  replace h := h im1 lv1 hp1
  refine zi_bipush (v := 47) hO dX9_makePlan_8 (by decide) ?_
  refine zi_istore_n (L' := [(0, vR 24 0), (1, vI 47)]) hO dX9_makePlan_10 (by decide) rfl rfl ?_
  exact h
theorem rX9_makePlan_11 {x : zX} {w : zWd} {im : zMem} {lv : Int64} {P : zMem → Int64 → Prop} {x1 : Int32} (hO : zOK x w zyX9_makePlan 7) (hR : zRetV x w zyX9_makePlan P) (hN : zN x 126 126)
 (h : ((x1 < 0 → (vp_in 0 64 ∧ zW x w 62 [(0, vR 24 0), (1, vI 0), (2, vI 0)] [] (zwr im 24 0 6 (im 26 0 (Int32.toNatClampNeg 0))) lv)) ∧
 (¬ (x1 < 0) → (∃ P2 : zMem → Int64 → Prop, zSpecV x.2.1 w 6 zyX9_weighSlot [vR 24 0, vI x1] im lv P2 ∧ ∀ (im2 : zMem) (lv2 : Int64), P2 im2 lv2 → (¬ ((x1 * 64) : Int32) < 0 ∧ (¬ (0 : Int32) < 0 ∧ (¬ (64 : Int32) < 0 ∧ (Int32.toNatClampNeg (x1 * 64) + Int32.toNatClampNeg 64 ≤ 3072 ∧ (Int32.toNatClampNeg 0 + Int32.toNatClampNeg 64 ≤ 64 ∧ (∃ P8 : zMem → Int64 → Prop, zSpecV x.2.1 w 3 zyX9_addChangesAhead [vR 24 0] (zset im2 26 0 (va_cpy (im2 25 0) (im2 26 0) (Int32.toNatClampNeg (x1 * 64)) (Int32.toNatClampNeg 0) (Int32.toNatClampNeg 64))) lv2 P8 ∧ ∀ (im8 : zMem) (lv8 : Int64), P8 im8 lv8 → zW x w 11 [(0, vR 24 0), (1, vI (x1 + (-1)))] [] im8 lv8)))))))))) :
 zW x w 11 [(0, vR 24 0), (1, vI x1)] [] im lv := by
  refine zi_iload_n hO dX9_makePlan_11 1 rfl ?_
  refine zi_if_lt (tgt := 48) hO dX9_makePlan_12 (by decide) (fun c1 => ?_) (fun c1 => ?_)
  · have h := h.1 c1
    refine zi_aload_n hO dX9_makePlan_48 0 rfl ?_
    refine zi_aload_n hO dX9_makePlan_49 0 rfl ?_
    refine zi_getR (r' := 26) (i' := 0) hO dX9_makePlan_50 fX9_15 rfl rfl (zI (by decide)) rfl ?_
    refine zi_iconst (v := 0) hO dX9_makePlan_53 (by decide) ?_
    obtain ⟨s1, h⟩ := h
    refine zi_iald hO dX9_makePlan_54 rfl (zI (by decide)) s1 ?_
    refine zi_putI hO dX9_makePlan_55 gX9_24 rfl rfl (zI (by decide)) ?_
    refine zi_iconst (v := 0) hO dX9_makePlan_58 (by decide) ?_
    refine zi_istore_n (L' := [(0, vR 24 0), (1, vI 0)]) hO dX9_makePlan_59 (by decide) rfl rfl ?_
    refine zi_iconst (v := 0) hO dX9_makePlan_60 (by decide) ?_
    refine zi_istore_n (L' := [(0, vR 24 0), (1, vI 0), (2, vI 0)]) hO dX9_makePlan_61 (by decide) rfl rfl ?_
    exact h
  · have h := h.2 c1
    refine zi_aload_n hO dX9_makePlan_15 0 rfl ?_
    refine zi_iload_n hO dX9_makePlan_16 1 rfl ?_
    obtain ⟨P2, hM2, h⟩ := h
    refine zc_VV (as := [vI x1]) hO hN dX9_makePlan_17 kX9_42 (by decide) rfl (zI (by decide)) rfl rfl (Nat.le_of_ble_eq_true rfl) rfl rfl hM2 (fun im2 lv2 hp2 => ?_)
    replace h := h im2 lv2 hp2
    refine zi_aload_n hO dX9_makePlan_20 0 rfl ?_
    refine zi_getR (r' := 25) (i' := 0) hO dX9_makePlan_21 fX9_11 rfl rfl (zI (by decide)) rfl ?_
    refine zi_iload_n hO dX9_makePlan_24 1 rfl ?_
    refine zi_bipush (v := 64) hO dX9_makePlan_25 (by decide) ?_
    refine zi_imul hO dX9_makePlan_27 ?_
    refine zi_aload_n hO dX9_makePlan_28 0 rfl ?_
    refine zi_getR (r' := 26) (i' := 0) hO dX9_makePlan_29 fX9_15 rfl rfl (zI (by decide)) rfl ?_
    refine zi_iconst (v := 0) hO dX9_makePlan_32 (by decide) ?_
    refine zi_bipush (v := 64) hO dX9_makePlan_33 (by decide) ?_
    obtain ⟨s3, h⟩ := h
    obtain ⟨s4, h⟩ := h
    obtain ⟨s5, h⟩ := h
    obtain ⟨s6, h⟩ := h
    obtain ⟨s7, h⟩ := h
    refine zi_copy hO (by decide) dX9_makePlan_35 qX9_46 q_copy_n q_copy_s q_sys_i rfl (zI (by decide)) rfl (zI (by decide)) s3 s4 s5 s6 s7 (Nat.le_of_ble_eq_true rfl) ?_
    refine zi_aload_n hO dX9_makePlan_38 0 rfl ?_
    obtain ⟨P8, hM8, h⟩ := h
    refine zc_VV (as := []) hO hN dX9_makePlan_39 kX9_52 (by decide) rfl (zI (by decide)) rfl rfl (Nat.le_of_ble_eq_true rfl) rfl rfl hM8 (fun im8 lv8 hp8 => ?_)
    replace h := h im8 lv8 hp8
    refine zi_iinc (v' := (x1 + (-1))) (L' := [(0, vR 24 0), (1, vI (x1 + (-1)))]) hO dX9_makePlan_42 1 rfl rfl (by decide) rfl rfl ?_
    refine zi_goto (tgt := 11) hO dX9_makePlan_45 (by decide) ?_
    exact h
theorem rX9_makePlan_62 {x : zX} {w : zWd} {im : zMem} {lv : Int64} {P : zMem → Int64 → Prop} {x1 : Int32} {x2 : Int32} (hO : zOK x w zyX9_makePlan 7) (hR : zRetV x w zyX9_makePlan P) (hN : zN x 126 126)
 (h : ((48 ≤ x2 → P im lv) ∧
 (¬ (48 ≤ x2) → (∃ P1 : Int32 → zMem → Int64 → Prop, zSpecI x.2.1 w 3 zyX9_bestSetBehind [vR 24 0, vI x1, vI x2] im lv P1 ∧ ∀ (v1 : Int32) (im1 : zMem) (lv1 : Int64), P1 v1 im1 lv1 → (vp_in x2 48 ∧ zW x w 62 [(0, vR 24 0), (1, vI v1), (2, vI (x2 + 1))] [] (zwr im1 28 0 (Int32.toNatClampNeg x2) v1) lv1))))) :
 zW x w 62 [(0, vR 24 0), (1, vI x1), (2, vI x2)] [] im lv := by
  refine zi_iload_n hO dX9_makePlan_62 2 rfl ?_
  refine zi_bipush (v := 48) hO dX9_makePlan_63 (by decide) ?_
  refine zi_icmp_ge (tgt := 88) hO dX9_makePlan_65 (by decide) (fun c1 => ?_) (fun c1 => ?_)
  · have h := h.1 c1
    exact zr_V hO hR rfl dX9_makePlan_88 h
  · have h := h.2 c1
    refine zi_aload_n hO dX9_makePlan_68 0 rfl ?_
    refine zi_iload_n hO dX9_makePlan_69 1 rfl ?_
    refine zi_iload_n hO dX9_makePlan_70 2 rfl ?_
    obtain ⟨P1, hM1, h⟩ := h
    refine zc_VI (as := [vI x1, vI x2]) hO hN dX9_makePlan_71 kX9_55 (by decide) rfl (zI (by decide)) rfl rfl (Nat.le_of_ble_eq_true rfl) rfl rfl hM1 (fun v1 im1 lv1 hp1 => ?_)
    replace h := h v1 im1 lv1 hp1
    refine zi_istore_n (L' := [(0, vR 24 0), (1, vI v1), (2, vI x2)]) hO dX9_makePlan_74 (by decide) rfl rfl ?_
    refine zi_aload_n hO dX9_makePlan_75 0 rfl ?_
    refine zi_getR (r' := 28) (i' := 0) hO dX9_makePlan_76 fX9_21 rfl rfl (zI (by decide)) rfl ?_
    refine zi_iload_n hO dX9_makePlan_79 2 rfl ?_
    refine zi_iload_n hO dX9_makePlan_80 1 rfl ?_
    obtain ⟨s2, h⟩ := h
    refine zi_iast hO dX9_makePlan_81 rfl (zI (by decide)) s2 ?_
    refine zi_iinc (v' := (x2 + 1)) (L' := [(0, vR 24 0), (1, vI v1), (2, vI (x2 + 1))]) hO dX9_makePlan_82 2 rfl rfl (by decide) rfl rfl ?_
    refine zi_goto (tgt := 62) hO dX9_makePlan_85 (by decide) ?_
    exact h
theorem mI {a b : Nat} (ha : a < 2 ^ 31) (hb : b < 2 ^ 31) : (if nI a < nI b then nI a else nI b) = nI (if a < b then a else b) := by
  by_cases h : a < b
  · rw [if_pos h, if_pos ((nI_ltI ha hb).mpr h)]
  · rw [if_neg h, if_neg (fun z => h ((nI_ltI ha hb).mp z))]
def usN (m : zMem) (t : Nat) : Nat → Nat
  | 0 => 0
  | r + 1 => usN m t r + over m r t
def rlv (m : zMem) (t r : Nat) : Nat := if safe m r t / 2 < over m r t then safe m r t / 2 else over m r t
def rlN (m : zMem) (t s : Nat) : Nat → Nat
  | 0 => 0
  | r + 1 => rlN m t s r + if s / 2 ^ r % 2 = 1 then rlv m t r else 0
theorem rlv_le {m : zMem} {t r : Nat} : rlv m t r ≤ over m r t := by unfold rlv; split <;> omega
theorem rlN_le {m : zMem} {t s : Nat} : ∀ k, rlN m t s k ≤ usN m t k
  | 0 => Nat.le_refl _
  | k + 1 => by
    have := rlN_le (m := m) (t := t) (s := s) k
    have := rlv_le (m := m) (t := t) (r := k)
    rw [rlN, usN]
    split <;> omega
theorem usN_le {m : zMem} (hW : WF m) {t : Nat} : ∀ k, usN m t k ≤ 108 * k
  | 0 => Nat.le_refl _
  | k + 1 => by
    have := usN_le hW (t := t) k
    have : over m k t ≤ 108 := Nat.le_trans (Nat.sub_le _ _) (load_le hW)
    rw [usN]
    omega
theorem sp_us {m : zMem} {t s : Nat} : ∀ k, k ≤ 6 → spN m t s k + rlN m t s k = usN m t k
  | 0, _ => rfl
  | k + 1, h => by
    have ih := sp_us (m := m) (t := t) (s := s) k (by omega)
    rw [spN, rlN, usN]
    have : spO m t s k + (if s / 2 ^ k % 2 = 1 then rlv m t k else 0) = over m k t := by
      unfold spO rlv over
      by_cases hb : s / 2 ^ k % 2 = 1
      · rw [if_pos ⟨by omega, hb⟩, if_pos hb]
        split <;> omega
      · rw [if_neg (fun z => hb z.2), if_neg hb]
        omega
    omega
theorem sp_8 {m : zMem} {t s : Nat} : spN m t s 8 = usN m t 8 - rlN m t s 6 := by
  have h := sp_us (m := m) (t := t) (s := s) 6 (by decide)
  have e6 : spO m t s 6 = over m 6 t := by unfold spO over; rw [if_neg (by omega), Nat.add_zero]
  have e7 : spO m t s 7 = over m 7 t := by unfold spO over; rw [if_neg (by omega), Nat.add_zero]
  rw [show spN m t s 8 = spN m t s 6 + spO m t s 6 + spO m t s 7 from rfl, show usN m t 8 = usN m t 6 + over m 6 t + over m 7 t from rfl, e6, e7]
  omega
theorem rlN_bit {m : zMem} {t s s' k : Nat} (h0 : s / 2 ^ k % 2 = 0) (h : ∀ r, r < 6 → s' / 2 ^ r % 2 = if r = k then 1 else s / 2 ^ r % 2) : ∀ j, j ≤ 6 → rlN m t s' j = rlN m t s j + if k < j then rlv m t k else 0
  | 0, _ => rfl
  | j + 1, hj => by
    rw [rlN, rlN, rlN_bit h0 h j (by omega), h j (by omega)]
    by_cases hk : j = k
    · subst hk
      rw [if_pos rfl, if_neg (Nat.lt_irrefl _), if_pos rfl, if_neg (by omega), if_pos (by omega)]
    · rw [if_neg hk]
      by_cases hk2 : k < j
      · rw [if_pos (c := k < j) hk2, if_pos (c := k < j + 1) (by omega)]; omega
      · rw [if_neg (c := k < j) hk2, if_neg (c := k < j + 1) (by omega)]; omega
theorem bitA : ∀ k, k < 6 → ∀ s, s < 2 ^ k → s / 2 ^ k % 2 = 0 ∧ 2 ^ k + s < 64 ∧ ∀ r, r < 6 → (2 ^ k + s) / 2 ^ r % 2 = if r = k then 1 else s / 2 ^ r % 2 := by decide +kernel
theorem bitB : ∀ k, k < 6 → (1 : Int32) <<< (nI k &&& 31) = nI (2 ^ k) ∧ 2 ^ k ≤ 32 := by decide +kernel
theorem C_X9_reliefBySplit (l : Launch) (w : zWd) {m im : zMem} (lv : Int64) (hW : WF m) (hS : SKY m im) {r t : Nat} (hr : r < 8) (ht : t < 48) : zSpecI l w 4 zyX9_reliefBySplit [vR 24 0, vI (nI (r * 48 + t))] im lv (fun v im' lv' => v = nI (rlv m t r) ∧ im' = im ∧ lv' = lv) := by
  refine ze_I (by decide) (Nat.le_of_ble_eq_true rfl) (fun x hO hR hN => rX9_reliefBySplit_0 hO hR hN ?_)
  have htm := hS.tm hW (c := r * 48 + t) (by omega)
  have hsf := (hS (r * 48 + t) (by omega)).2
  have a1 := load_le hW (r := r) (t := t)
  have a2 := safe_le hW hr ht
  have a3 : over m r t ≤ 108 := by unfold over; omega
  rw [nI_clamp (show r * 48 + t < 2 ^ 31 by omega), htm, hsf]
  rw [show (r * 48 + t) / 48 = r by omega, show (r * 48 + t) % 48 = t by omega, show (2 : Int32) = nI 2 from rfl, pk_div (by omega) (by decide) (by decide)]
  refine ⟨vp_in_nI (by omega) (by decide), ?_, rfl, rfl⟩
  unfold rlv
  by_cases h : safe m r t / 2 < over m r t
  · rw [if_pos h, if_pos ((nI_ltI (by omega) (by omega)).mpr h)]
  · rw [if_neg h, if_neg (fun z => h ((nI_ltI (by omega) (by omega)).mp z))]
theorem C_X9_fillRelieved (l : Launch) (w : zWd) {m im : zMem} (lv : Int64) (hW : WF m) (hS : SKY m im) {t : Nat} (ht : t < 48) : zSpecV l w 5 zyX9_fillRelieved [vR 24 0, vI (nI t)] im lv (fun im' lv' => ((∀ r, ¬ r = 27 → im' r = im r) ∧ ∀ s, s < 64 → im' 27 0 s = nI (rlN m t s 6)) ∧ lv' = lv) := by
  refine ze_V (by decide) (Nat.le_of_ble_eq_true rfl) (fun x hO hR hN => rX9_fillRelieved_0 hO hR hN ?_)
  have key : ∀ n k (im1 : zMem), n + k = 6 → (∀ r, ¬ r = 27 → im1 r = im r) → (∀ s, s < 2 ^ k → im1 27 0 s = nI (rlN m t s 6)) → zW x w 9 [(0, vR 24 0), (1, vI (nI t)), (2, vI (nI k))] [] im1 lv := by
    intro n
    induction n with
    | zero =>
      intro k im1 hk h1 h2
      have : k = 6 := by omega
      subst this
      exact rX9_fillRelieved_9 hO hR hN ⟨fun _ => ⟨⟨h1, h2⟩, rfl⟩, fun q => absurd (by decide) q⟩
    | succ n ih =>
      intro k im1 hk h1 h2
      refine rX9_fillRelieved_9 hO hR hN ⟨fun q => ?_, fun _ => ?_⟩
      · exfalso
        have : nI 6 ≤ nI k := q
        rw [nI_leI (by omega) (by omega)] at this
        omega
      have hS1 : SKY m im1 := hS.fr (h1 21 (by decide)) (h1 22 (by decide))
      rw [show nI k * 48 + nI t = nI (k * 48 + t) by simp only [zlit, nI_add, pk_mul], (bitB k (by omega)).1]
      refine ⟨_, C_X9_reliefBySplit _ _ _ hW hS1 (by omega) ht, ?_⟩
      rintro v9 im9 lv9 ⟨rfl, rfl, rfl⟩
      have h32 := (bitB k (by omega)).2
      have inner : ∀ p j (im2 : zMem), p + j = 2 ^ k → (∀ r, ¬ r = 27 → im2 r = im r) → (∀ s, s < 2 ^ k + j → im2 27 0 s = nI (rlN m t s 6)) → zW x w 33 [(0, vR 24 0), (1, vI (nI t)), (2, vI (nI k)), (3, vI (nI (rlv m t k))), (4, vI (nI (2 ^ k))), (5, vI (nI j))] [] im2 lv9 := by
        intro p
        induction p with
        | zero =>
          intro j im2 hp g1 g2
          have : j = 2 ^ k := by omega
          subst this
          refine rX9_fillRelieved_33 hO hR hN ⟨fun _ => ?_, fun q => absurd (Int32.le_refl _) q⟩
          rw [nI_1 k]
          exact ih (k + 1) im2 (by omega) g1 (fun s hs => g2 s (by rw [Nat.pow_succ] at hs; omega))
        | succ p ihp =>
          intro j im2 hp g1 g2
          obtain ⟨b0, b1, b2⟩ := bitA k (by omega) j (by omega)
          refine rX9_fillRelieved_33 hO hR hN ?_
          rw [nI_add, nI_leI (by omega) (by omega), nI_clamp (show j < 2 ^ 31 by omega), nI_clamp (show 2 ^ k + j < 2 ^ 31 by omega), nI_1 j, g2 j (by omega), nI_add]
          refine ⟨fun q => by omega, fun _ => ⟨vp_in_nI (by omega) (by decide), vp_in_nI b1 (by decide), ihp (j + 1) _ (by omega) (fun r hr => by rw [zwr_r hr]; exact g1 r hr) (fun s hs => ?_)⟩⟩
          rw [zwr_app]
          by_cases hsj : s = 2 ^ k + j
          · subst hsj
            rw [if_pos ⟨rfl, rfl, rfl⟩, rlN_bit b0 b2 6 (Nat.le_refl _), if_pos (by omega)]
          · rw [if_neg (fun z => hsj z.2.2)]
            exact g2 s (by omega)
      exact inner (2 ^ k) 0 _ (by omega) h1 (fun s hs => h2 s (by omega))
  refine ⟨vp_in_nI (n := 0) (by decide) (by decide), key 6 0 _ rfl (fun r hr => by rw [zwr_r hr]) (fun s hs => ?_)⟩
  have : s = 0 := by omega
  subst this
  rw [show Int32.toNatClampNeg 0 = 0 from rfl, zwr_eq]
  have : rlN m t 0 6 = 0 := by simp only [rlN, Nat.zero_div, Nat.zero_mod]; rfl
  rw [this]
  rfl
/-- changes into a set, room by room -/
def ac (f : Nat → Nat) : Nat → Nat → Nat
  | 0, a => f a
  | k + 1, a => if ac f k (a ^^^ 2 ^ k) + 1 < ac f k a then ac f k (a ^^^ 2 ^ k) + 1 else ac f k a
theorem ac_le {f : Nat → Nat} {N : Nat} (hf : ∀ a, a < 64 → f a ≤ N) : ∀ k a, a < 64 → ac f k a ≤ N
  | 0, a, ha => hf a ha
  | k + 1, a, ha => by
    have := ac_le hf k a ha
    rw [ac]
    split <;> omega
theorem xx (a b d : Nat) : (a ^^^ b) ^^^ (d ^^^ b) = a ^^^ d := by
  apply Nat.eq_of_testBit_eq
  intro i
  simp only [Nat.testBit_xor]
  cases a.testBit i <;> cases b.testBit i <;> cases d.testBit i <;> rfl
theorem xy (a b d : Nat) : (a ^^^ b) ^^^ d = a ^^^ (d ^^^ b) := by
  apply Nat.eq_of_testBit_eq
  intro i
  simp only [Nat.testBit_xor]
  cases a.testBit i <;> cases b.testBit i <;> cases d.testBit i <;> rfl
theorem xz (a d : Nat) : a ^^^ (a ^^^ d) = d := by
  apply Nat.eq_of_testBit_eq
  intro i
  simp only [Nat.testBit_xor]
  cases a.testBit i <;> cases d.testBit i <;> rfl
theorem bitC : ∀ k, k < 6 → ∀ d, d < 64 → (d < 2 ^ (k + 1) → ¬ d < 2 ^ k → d ^^^ 2 ^ k < 2 ^ k ∧ btN d 12 = btN (d ^^^ 2 ^ k) 12 + 1) ∧ (d < 2 ^ k → d ^^^ 2 ^ k < 2 ^ (k + 1) ∧ btN (d ^^^ 2 ^ k) 12 = btN d 12 + 1) := by decide +kernel
theorem p64 : ∀ k, k ≤ 6 → 2 ^ k ≤ 64 := by decide +kernel
theorem ac_a {f : Nat → Nat} : ∀ k, k ≤ 6 → ∀ a d, d < 2 ^ k → ac f k a ≤ f (a ^^^ d) + btN d 12
  | 0, _, a, d, hd => by
    have : d = 0 := by omega
    subst this
    rw [ac, Nat.xor_zero]
    omega
  | k + 1, hk, a, d, hd => by
    have h64 := p64 (k + 1) hk
    rw [ac]
    by_cases h : d < 2 ^ k
    · have := ac_a k (by omega) a d h (f := f)
      split <;> omega
    · obtain ⟨h1, h2⟩ := (bitC k (by omega) d (by omega)).1 hd h
      have := ac_a k (by omega) (a ^^^ 2 ^ k) _ h1 (f := f)
      rw [xx] at this
      split <;> omega
theorem ac_b {f : Nat → Nat} : ∀ k, k ≤ 6 → ∀ a, ∃ d, d < 2 ^ k ∧ ac f k a = f (a ^^^ d) + btN d 12
  | 0, _, a => ⟨0, by decide, by rw [ac, Nat.xor_zero]; rfl⟩
  | k + 1, hk, a => by
    have h64 := p64 k (by omega)
    rw [ac]
    split
    · obtain ⟨d, h1, h2⟩ := ac_b k (by omega) (a ^^^ 2 ^ k) (f := f)
      obtain ⟨h3, h4⟩ := (bitC k (by omega) d (by omega)).2 h1
      exact ⟨d ^^^ 2 ^ k, h3, by rw [h2, h4, xy, Nat.add_assoc]⟩
    · obtain ⟨d, h1, h2⟩ := ac_b k (by omega) a (f := f)
      exact ⟨d, by rw [Nat.pow_succ]; omega, h2⟩
theorem bitD : ∀ k, k < 6 → ∀ p, p < 64 → ((nI p &&& nI (2 ^ k) = 0) ↔ p / 2 ^ k % 2 = 0) ∧ (p / 2 ^ k % 2 = 0 → p + 2 ^ k < 64 ∧ p ^^^ 2 ^ k = p + 2 ^ k ∧ (p + 2 ^ k) ^^^ 2 ^ k = p ∧ p - 2 ^ k * (p / 2 ^ k % 2) = p ∧ (p + 2 ^ k) - 2 ^ k * ((p + 2 ^ k) / 2 ^ k % 2) = p) := by decide +kernel
theorem bitE : ∀ k, k < 6 → ∀ a, a < 64 → (a - 2 ^ k * (a / 2 ^ k % 2)) / 2 ^ k % 2 = 0 ∧ (a = a - 2 ^ k * (a / 2 ^ k % 2) ∨ a = a - 2 ^ k * (a / 2 ^ k % 2) + 2 ^ k) ∧ a - 2 ^ k * (a / 2 ^ k % 2) ≤ a := by decide +kernel
theorem C_X9_addChangesAhead (l : Launch) (w : zWd) {im : zMem} (lv : Int64) {f : Nat → Nat} (hf : ∀ a, a < 64 → im 26 0 a = nI (f a) ∧ f a ≤ 100000000) : zSpecV l w 3 zyX9_addChangesAhead [vR 24 0] im lv (fun im' lv' => ((∀ r, ¬ r = 26 → im' r = im r) ∧ ∀ a, a < 64 → im' 26 0 a = nI (ac f 6 a)) ∧ lv' = lv) := by
  refine ze_V (by decide) (Nat.le_of_ble_eq_true rfl) (fun x hO hR hN => rX9_addChangesAhead_0 hO hR hN ?_)
  have hle : ∀ k a, a < 64 → ac f k a ≤ 100000000 := fun k a ha => ac_le (fun a ha => (hf a ha).2) k a ha
  have key : ∀ n k (im1 : zMem), n + k = 6 → (∀ r, ¬ r = 26 → im1 r = im r) → (∀ a, a < 64 → im1 26 0 a = nI (ac f k a)) → zW x w 2 [(0, vR 24 0), (1, vI (nI k))] [] im1 lv := by
    intro n
    induction n with
    | zero =>
      intro k im1 hk h1 h2
      have : k = 6 := by omega
      subst this
      exact rX9_addChangesAhead_2 hO hR hN ⟨fun _ => ⟨⟨h1, h2⟩, rfl⟩, fun q => absurd (by decide) q⟩
    | succ n ih =>
      intro k im1 hk h1 h2
      have hk6 : k < 6 := by omega
      refine rX9_addChangesAhead_2 hO hR hN ⟨fun q => ?_, fun _ => ?_⟩
      · exfalso
        have : nI 6 ≤ nI k := q
        rw [nI_leI (by omega) (by omega)] at this
        omega
      rw [(bitB k hk6).1]
      have h32 := (bitB k hk6).2
      have inner : ∀ q p (im2 : zMem), q + p = 64 → (∀ r, ¬ r = 26 → im2 r = im r) → (∀ a, a < 64 → im2 26 0 a = nI (if a - 2 ^ k * (a / 2 ^ k % 2) < p then ac f (k + 1) a else ac f k a)) → zW x w 14 [(0, vR 24 0), (1, vI (nI k)), (2, vI (nI (2 ^ k))), (3, vI (nI p))] [] im2 lv := by
        intro q
        induction q with
        | zero =>
          intro p im2 hp g1 g2
          have : p = 64 := by omega
          subst this
          refine rX9_addChangesAhead_14 hO hR hN ⟨fun _ => ?_, fun q => absurd (by decide) q⟩
          rw [nI_1 k]
          refine ih (k + 1) im2 (by omega) g1 (fun a ha => ?_)
          rw [g2 a ha, if_pos (by have := (bitE k hk6 a ha).2.2; omega)]
        | succ q ihq =>
          intro p im2 hp g1 g2
          have hp64 : p < 64 := by omega
          obtain ⟨d1, d2⟩ := bitD k hk6 p hp64
          refine rX9_addChangesAhead_14 hO hR hN ?_
          rw [d1, nI_1 p]
          refine ⟨fun z => ?_, fun _ => ⟨fun z => ihq (p + 1) im2 (by omega) g1 (fun a ha => ?_), fun z => ?_⟩⟩
          · exfalso
            have : nI 64 ≤ nI p := z
            rw [nI_leI (by omega) (by omega)] at this
            omega
          · rw [g2 a ha]
            have hb := (bitE k hk6 a ha).1
            have : ¬ a - 2 ^ k * (a / 2 ^ k % 2) = p := fun e => z (by rw [e] at hb; exact hb)
            by_cases h : a - 2 ^ k * (a / 2 ^ k % 2) < p
            · rw [if_pos h, if_pos (by omega)]
            · rw [if_neg h, if_neg (by omega)]
          · obtain ⟨e1, e2, e3, e4, e5⟩ := d2 z
            have gp := g2 p hp64
            have gq := g2 (p + 2 ^ k) e1
            rw [if_neg (by omega)] at gp gq
            have l1 := hle k p hp64
            have l2 := hle k (p + 2 ^ k) e1
            rw [nI_add, nI_clamp (show p < 2 ^ 31 by omega), nI_clamp (show p + 2 ^ k < 2 ^ 31 by omega), gp, gq, nI_1 (ac f k p), nI_1 (ac f k (p + 2 ^ k)), mI (by omega) (by omega), mI (by omega) (by omega)]
            refine ⟨vp_in_nI hp64 (by decide), vp_in_nI e1 (by decide), ihq (p + 1) _ (by omega) (fun r hr => by rw [zwr_r hr, zwr_r hr]; exact g1 r hr) (fun a ha => ?_)⟩
            rw [zwr_app, zwr_app]
            by_cases ha1 : a = p + 2 ^ k
            · subst ha1
              rw [if_pos ⟨rfl, rfl, rfl⟩, e5, if_pos (Nat.lt_succ_self p), ac, e3]
            · rw [if_neg (fun z => ha1 z.2.2)]
              by_cases ha2 : a = p
              · subst ha2
                rw [if_pos ⟨rfl, rfl, rfl⟩, e4, if_pos (Nat.lt_succ_self a), ac, e2]
              · rw [if_neg (fun z => ha2 z.2.2), g2 a ha]
                obtain ⟨-, hc, -⟩ := bitE k hk6 a ha
                by_cases h : a - 2 ^ k * (a / 2 ^ k % 2) < p
                · rw [if_pos h, if_pos (by omega)]
                · rw [if_neg h, if_neg (by omega)]
      refine inner 64 0 im1 rfl h1 (fun a ha => ?_)
      rw [if_neg (by omega)]
      exact h2 a ha
  exact key 6 0 im rfl (fun _ _ => rfl) (fun a ha => (hf a ha).1)
