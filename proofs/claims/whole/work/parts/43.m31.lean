/-! the class's settler: the search -/
theorem rX6_search_0 {x : zX} {w : zWd} {d : Nat} {im : zMem} {lv : Int64} {P : zMem → Int64 → Prop} {x1 : Int32} {x2 : Int32} (hO : zOK x w zyX6_search (d + 1)) (hR : zRetV x w zyX6_search P) (hN : zN x 126 126) (hd5 : 5 ≤ d)
 (h : ((x1 < (im 29 0 7) → (∃ P1 : Int32 → zMem → Int64 → Prop, zSpecI x.2.1 w 5 zyX6_leastCostFrom [vR 29 0, vI x1] im lv P1 ∧ ∀ (v1 : Int32) (im1 : zMem) (lv1 : Int64), P1 v1 im1 lv1 → (((x2 + v1) < (im1 29 0 8) → (vp_in x1 5 ∧ (vp_in (im1 32 0 (Int32.toNatClampNeg x1)) 12 ∧ zW x w 64 [(0, vR 29 0), (1, vI x1), (2, vI x2), (3, vR 12 (Int32.toNatClampNeg (im1 32 0 (Int32.toNatClampNeg x1)))), (4, vI 0)] [] im1 lv1))) ∧
 (¬ ((x2 + v1) < (im1 29 0 8)) → P im1 lv1)))) ∧
 (¬ (x1 < (im 29 0 7)) → (¬ (0 : Int32) < 0 ∧ (¬ (0 : Int32) < 0 ∧ (¬ ((im 29 0 7) : Int32) < 0 ∧ (Int32.toNatClampNeg 0 + Int32.toNatClampNeg (im 29 0 7) ≤ 5 ∧ (Int32.toNatClampNeg 0 + Int32.toNatClampNeg (im 29 0 7) ≤ 5 ∧ P (zset (zwr im 29 0 8 x2) 34 0 (va_cpy ((zwr im 29 0 8 x2) 33 0) ((zwr im 29 0 8 x2) 34 0) (Int32.toNatClampNeg 0) (Int32.toNatClampNeg 0) (Int32.toNatClampNeg (im 29 0 7)))) lv)))))))) :
 zW x w 0 [(0, vR 29 0), (1, vI x1), (2, vI x2)] [] im lv := by
  refine zi_iload_n hO dX6_search_0 1 rfl ?_
  refine zi_aload_n hO dX6_search_1 0 rfl ?_
  refine zi_getI hO dX6_search_2 fX6_27 rfl rfl (zI (by decide)) ?_
  refine zi_icmp_lt (tgt := 31) hO dX6_search_5 (by decide) (fun c1 => ?_) (fun c1 => ?_)
  · have h := h.1 c1
    refine zi_iload_n hO dX6_search_31 2 rfl ?_
    refine zi_aload_n hO dX6_search_32 0 rfl ?_
    refine zi_iload_n hO dX6_search_33 1 rfl ?_
    obtain ⟨P1, hM1, h⟩ := h
    refine zc_VI (as := [vI x1]) hO hN dX6_search_34 kX6_85 (by omega) rfl (zI (by decide)) rfl rfl (Nat.le_of_ble_eq_true rfl) rfl rfl hM1 (fun v1 im1 lv1 hp1 => ?_)
    replace h := h v1 im1 lv1 hp1
    refine zi_iadd hO dX6_search_37 ?_
    refine zi_aload_n hO dX6_search_38 0 rfl ?_
    refine zi_getI hO dX6_search_39 fX6_32 rfl rfl (zI (by decide)) ?_
    refine zi_icmp_lt (tgt := 46) hO dX6_search_42 (by decide) (fun c2 => ?_) (fun c2 => ?_)
    · have h := h.1 c2
      refine zi_aload_n hO dX6_search_46 0 rfl ?_
      refine zi_getR (r' := 10) (i' := 0) hO dX6_search_47 fX6_35 rfl rfl (zI (by decide)) rfl ?_
      refine zi_getR (r' := 11) (i' := 0) hO dX6_search_50 fX6_56 rfl rfl (zI (by decide)) rfl ?_
      refine zi_aload_n hO dX6_search_53 0 rfl ?_
      refine zi_getR (r' := 32) (i' := 0) hO dX6_search_54 fX6_18 rfl rfl (zI (by decide)) rfl ?_
      refine zi_iload_n hO dX6_search_57 1 rfl ?_
      obtain ⟨s2, h⟩ := h
      refine zi_iald hO dX6_search_58 rfl (zI (by decide)) s2 ?_
      obtain ⟨s3, h⟩ := h
      refine zi_aald (t := 1) (r' := 12) (i' := (Int32.toNatClampNeg (im1 32 0 (Int32.toNatClampNeg x1)))) hO dX6_search_59 rfl (zI (by decide)) s3 rfl ?_
      refine zi_astore_n (L' := [(0, vR 29 0), (1, vI x1), (2, vI x2), (3, vR 12 (Int32.toNatClampNeg (im1 32 0 (Int32.toNatClampNeg x1))))]) hO dX6_search_60 (by decide) rfl rfl ?_
      refine zi_iconst (v := 0) hO dX6_search_61 (by decide) ?_
      refine zi_istore (L' := [(0, vR 29 0), (1, vI x1), (2, vI x2), (3, vR 12 (Int32.toNatClampNeg (im1 32 0 (Int32.toNatClampNeg x1)))), (4, vI 0)]) hO dX6_search_62 (by decide) rfl rfl ?_
      exact h
    · have h := h.2 c2
      exact zr_V hO hR rfl dX6_search_45 h
  · have h := h.2 c1
    refine zi_aload_n hO dX6_search_8 0 rfl ?_
    refine zi_iload_n hO dX6_search_9 2 rfl ?_
    refine zi_putI hO dX6_search_10 gX6_32 rfl rfl (zI (by decide)) ?_
    refine zi_aload_n hO dX6_search_13 0 rfl ?_
    refine zi_getR (r' := 33) (i' := 0) hO dX6_search_14 fX6_21 rfl rfl (zI (by decide)) rfl ?_
    refine zi_iconst (v := 0) hO dX6_search_17 (by decide) ?_
    refine zi_aload_n hO dX6_search_18 0 rfl ?_
    refine zi_getR (r' := 34) (i' := 0) hO dX6_search_19 fX6_24 rfl rfl (zI (by decide)) rfl ?_
    refine zi_iconst (v := 0) hO dX6_search_22 (by decide) ?_
    refine zi_aload_n hO dX6_search_23 0 rfl ?_
    refine zi_getI hO dX6_search_24 fX6_27 rfl rfl (zI (by decide)) ?_
    obtain ⟨s4, h⟩ := h
    obtain ⟨s5, h⟩ := h
    obtain ⟨s6, h⟩ := h
    obtain ⟨s7, h⟩ := h
    obtain ⟨s8, h⟩ := h
    refine zi_copy hO (by omega) dX6_search_27 qX6_79 q_copy_n q_copy_s q_sys_i rfl (zI (by decide)) rfl (zI (by decide)) s4 s5 s6 s7 s8 (Nat.le_of_ble_eq_true rfl) ?_
    exact zr_V hO hR rfl dX6_search_30 h
theorem rX6_search_64 {x : zX} {w : zWd} {d : Nat} {im : zMem} {lv : Int64} {P : zMem → Int64 → Prop} {x1 : Int32} {x2 : Int32} {f3 : Nat} {x4 : Int32} (hO : zOK x w zyX6_search (d + 1)) (hR : zRetV x w zyX6_search P) (hN : zN x 126 126) (hd5 : 5 ≤ d) (hf3 : f3 < 12)
 (h : ((((im 12 f3 4) * 5) ≤ x4 → P im lv) ∧
 (¬ (((im 12 f3 4) * 5) ≤ x4) → (((im 29 0 8) ≤ (x2 + (((im 12 f3 3) * (x4 - x4 / 5 * 5)) + (10 * (x4 / 5)))) → zW x w 64 [(0, vR 29 0), (1, vI x1), (2, vI x2), (3, vR 12 f3), (4, vI (x4 + 1))] [] im lv) ∧
 (¬ ((im 29 0 8) ≤ (x2 + (((im 12 f3 3) * (x4 - x4 / 5 * 5)) + (10 * (x4 / 5))))) → (∃ P2 : Int32 → zMem → Int64 → Prop, zSpecI x.2.1 w 3 zyX6_fits [vR 29 0, vR 12 f3, vI (x4 / 5), vI (x4 - x4 / 5 * 5)] im lv P2 ∧ ∀ (v2 : Int32) (im2 : zMem) (lv2 : Int64), P2 v2 im2 lv2 → ((v2 = 0 → zW x w 64 [(0, vR 29 0), (1, vI x1), (2, vI x2), (3, vR 12 f3), (4, vI (x4 + 1))] [] im2 lv2) ∧
 (¬ (v2 = 0) → (vp_in x1 5 ∧ (∃ P4 : zMem → Int64 → Prop, zSpecV x.2.1 w 3 zyX6_changeFreeRoom [vR 29 0, vR 12 f3, vI (x4 / 5), vI (x4 - x4 / 5 * 5), vI (0 - (im2 12 f3 1))] (zwr im2 33 0 (Int32.toNatClampNeg x1) x4) lv2 P4 ∧ ∀ (im4 : zMem) (lv4 : Int64), P4 im4 lv4 → (∃ P5 : zMem → Int64 → Prop, zSpecV x.2.1 w d zyX6_search [vR 29 0, vI (x1 + 1), vI (x2 + (((im 12 f3 3) * (x4 - x4 / 5 * 5)) + (10 * (x4 / 5))))] im4 lv4 P5 ∧ ∀ (im5 : zMem) (lv5 : Int64), P5 im5 lv5 → (∃ P6 : zMem → Int64 → Prop, zSpecV x.2.1 w 3 zyX6_changeFreeRoom [vR 29 0, vR 12 f3, vI (x4 / 5), vI (x4 - x4 / 5 * 5), vI (im5 12 f3 1)] im5 lv5 P6 ∧ ∀ (im6 : zMem) (lv6 : Int64), P6 im6 lv6 → zW x w 64 [(0, vR 29 0), (1, vI x1), (2, vI x2), (3, vR 12 f3), (4, vI (x4 + 1))] [] im6 lv6)))))))))))) :
 zW x w 64 [(0, vR 29 0), (1, vI x1), (2, vI x2), (3, vR 12 f3), (4, vI x4)] [] im lv := by
  refine zi_iload hO dX6_search_64 4 rfl ?_
  refine zi_aload_n hO dX6_search_66 3 rfl ?_
  refine zi_getI hO dX6_search_67 fX6_89 rfl rfl (zI hf3) ?_
  refine zi_iconst (v := 5) hO dX6_search_70 (by decide) ?_
  refine zi_imul hO dX6_search_71 ?_
  refine zi_icmp_ge (tgt := 170) hO dX6_search_72 (by decide) (fun c1 => ?_) (fun c1 => ?_)
  · have h := h.1 c1
    exact zr_V hO hR rfl dX6_search_170 h
  · have h := h.2 c1
    refine zi_iload hO dX6_search_75 4 rfl ?_
    refine zi_iconst (v := 5) hO dX6_search_77 (by decide) ?_
    refine zi_idiv hO dX6_search_78 (by decide) ?_
    refine zi_istore (L' := [(0, vR 29 0), (1, vI x1), (2, vI x2), (3, vR 12 f3), (4, vI x4), (5, vI (x4 / 5))]) hO dX6_search_79 (by decide) rfl rfl ?_
    refine zi_iload hO dX6_search_81 4 rfl ?_
    refine zi_iconst (v := 5) hO dX6_search_83 (by decide) ?_
    refine zi_irem hO dX6_search_84 (by decide) ?_
    refine zi_istore (L' := [(0, vR 29 0), (1, vI x1), (2, vI x2), (3, vR 12 f3), (4, vI x4), (5, vI (x4 / 5)), (6, vI (x4 - x4 / 5 * 5))]) hO dX6_search_85 (by decide) rfl rfl ?_
    refine zi_iload_n hO dX6_search_87 2 rfl ?_
    refine zi_aload_n hO dX6_search_88 3 rfl ?_
    refine zi_iload hO dX6_search_89 5 rfl ?_
    refine zi_iload hO dX6_search_91 6 rfl ?_
    refine zc_VI (as := [vI (x4 / 5), vI (x4 - x4 / 5 * 5)]) hO hN dX6_search_93 kX6_92 (by omega) rfl (zI hf3) rfl rfl (Nat.le_of_ble_eq_true rfl) rfl rfl (C_X2_costOf _ _ _ _ hf3) (fun v1 im1 lv1 hp1 => ?_)
    rw [hp1.1, hp1.2.1, hp1.2.2]
    refine zi_iadd hO dX6_search_96 ?_
    refine zi_istore (L' := [(0, vR 29 0), (1, vI x1), (2, vI x2), (3, vR 12 f3), (4, vI x4), (5, vI (x4 / 5)), (6, vI (x4 - x4 / 5 * 5)), (7, vI (x2 + (((im 12 f3 3) * (x4 - x4 / 5 * 5)) + (10 * (x4 / 5)))))]) hO dX6_search_97 (by decide) rfl rfl ?_
    refine zi_iload hO dX6_search_99 7 rfl ?_
    refine zi_aload_n hO dX6_search_101 0 rfl ?_
    refine zi_getI hO dX6_search_102 fX6_32 rfl rfl (zI (by decide)) ?_
    refine zi_icmp_ge (tgt := 164) hO dX6_search_105 (by decide) (fun c2 => ?_) (fun c2 => ?_)
    · have h := h.1 c2
      refine zi_iinc (v' := (x4 + 1)) (L' := [(0, vR 29 0), (1, vI x1), (2, vI x2), (3, vR 12 f3), (4, vI (x4 + 1)), (5, vI (x4 / 5)), (6, vI (x4 - x4 / 5 * 5)), (7, vI (x2 + (((im 12 f3 3) * (x4 - x4 / 5 * 5)) + (10 * (x4 / 5)))))]) hO dX6_search_164 4 rfl rfl (by decide) rfl rfl ?_
      refine zi_goto (tgt := 64) hO dX6_search_167 (by decide) ?_
      refine zi_pick (L' := [(0, vR 29 0), (1, vI x1), (2, vI x2), (3, vR 12 f3), (4, vI (x4 + 1))]) [0, 1, 2, 3, 4] rfl ?_
      exact h
    · have h := h.2 c2
      refine zi_aload_n hO dX6_search_108 0 rfl ?_
      refine zi_aload_n hO dX6_search_109 3 rfl ?_
      refine zi_iload hO dX6_search_110 5 rfl ?_
      refine zi_iload hO dX6_search_112 6 rfl ?_
      obtain ⟨P2, hM2, h⟩ := h
      refine zc_VI (as := [vR 12 f3, vI (x4 / 5), vI (x4 - x4 / 5 * 5)]) hO hN dX6_search_114 kX6_96 (by omega) rfl (zI (by decide)) rfl rfl (Nat.le_of_ble_eq_true rfl) rfl rfl hM2 (fun v2 im2 lv2 hp2 => ?_)
      replace h := h v2 im2 lv2 hp2
      refine zi_if_eq (tgt := 164) hO dX6_search_117 (by decide) (fun c3 => ?_) (fun c3 => ?_)
      · have h := h.1 c3
        refine zi_iinc (v' := (x4 + 1)) (L' := [(0, vR 29 0), (1, vI x1), (2, vI x2), (3, vR 12 f3), (4, vI (x4 + 1)), (5, vI (x4 / 5)), (6, vI (x4 - x4 / 5 * 5)), (7, vI (x2 + (((im 12 f3 3) * (x4 - x4 / 5 * 5)) + (10 * (x4 / 5)))))]) hO dX6_search_164 4 rfl rfl (by decide) rfl rfl ?_
        refine zi_goto (tgt := 64) hO dX6_search_167 (by decide) ?_
        refine zi_pick (L' := [(0, vR 29 0), (1, vI x1), (2, vI x2), (3, vR 12 f3), (4, vI (x4 + 1))]) [0, 1, 2, 3, 4] rfl ?_
        exact h
      · have h := h.2 c3
        refine zi_aload_n hO dX6_search_120 0 rfl ?_
        refine zi_getR (r' := 33) (i' := 0) hO dX6_search_121 fX6_21 rfl rfl (zI (by decide)) rfl ?_
        refine zi_iload_n hO dX6_search_124 1 rfl ?_
        refine zi_iload hO dX6_search_125 4 rfl ?_
        obtain ⟨s3, h⟩ := h
        refine zi_iast hO dX6_search_127 rfl (zI (by decide)) s3 ?_
        refine zi_aload_n hO dX6_search_128 0 rfl ?_
        refine zi_aload_n hO dX6_search_129 3 rfl ?_
        refine zi_iload hO dX6_search_130 5 rfl ?_
        refine zi_iload hO dX6_search_132 6 rfl ?_
        refine zi_aload_n hO dX6_search_134 3 rfl ?_
        refine zi_getI hO dX6_search_135 fX6_68 rfl rfl (zI hf3) ?_
        refine zi_ineg hO dX6_search_138 ?_
        obtain ⟨P4, hM4, h⟩ := h
        refine zc_VV (as := [vR 12 f3, vI (x4 / 5), vI (x4 - x4 / 5 * 5), vI (0 - (im2 12 f3 1))]) hO hN dX6_search_139 kX6_71 (by omega) rfl (zI (by decide)) rfl rfl (Nat.le_of_ble_eq_true rfl) rfl rfl hM4 (fun im4 lv4 hp4 => ?_)
        replace h := h im4 lv4 hp4
        refine zi_aload_n hO dX6_search_142 0 rfl ?_
        refine zi_iload_n hO dX6_search_143 1 rfl ?_
        refine zi_iconst (v := 1) hO dX6_search_144 (by decide) ?_
        refine zi_iadd hO dX6_search_145 ?_
        refine zi_iload hO dX6_search_146 7 rfl ?_
        obtain ⟨P5, hM5, h⟩ := h
        refine zc_VV (as := [vI (x1 + 1), vI (x2 + (((im 12 f3 3) * (x4 - x4 / 5 * 5)) + (10 * (x4 / 5))))]) hO hN dX6_search_148 kX6_75 (by omega) rfl (zI (by decide)) rfl rfl (Nat.le_of_ble_eq_true rfl) rfl rfl hM5 (fun im5 lv5 hp5 => ?_)
        replace h := h im5 lv5 hp5
        refine zi_aload_n hO dX6_search_151 0 rfl ?_
        refine zi_aload_n hO dX6_search_152 3 rfl ?_
        refine zi_iload hO dX6_search_153 5 rfl ?_
        refine zi_iload hO dX6_search_155 6 rfl ?_
        refine zi_aload_n hO dX6_search_157 3 rfl ?_
        refine zi_getI hO dX6_search_158 fX6_68 rfl rfl (zI hf3) ?_
        obtain ⟨P6, hM6, h⟩ := h
        refine zc_VV (as := [vR 12 f3, vI (x4 / 5), vI (x4 - x4 / 5 * 5), vI (im5 12 f3 1)]) hO hN dX6_search_161 kX6_71 (by omega) rfl (zI (by decide)) rfl rfl (Nat.le_of_ble_eq_true rfl) rfl rfl hM6 (fun im6 lv6 hp6 => ?_)
        replace h := h im6 lv6 hp6
        refine zi_iinc (v' := (x4 + 1)) (L' := [(0, vR 29 0), (1, vI x1), (2, vI x2), (3, vR 12 f3), (4, vI (x4 + 1)), (5, vI (x4 / 5)), (6, vI (x4 - x4 / 5 * 5)), (7, vI (x2 + (((im 12 f3 3) * (x4 - x4 / 5 * 5)) + (10 * (x4 / 5)))))]) hO dX6_search_164 4 rfl rfl (by decide) rfl rfl ?_
        refine zi_goto (tgt := 64) hO dX6_search_167 (by decide) ?_
        refine zi_pick (L' := [(0, vR 29 0), (1, vI x1), (2, vI x2), (3, vR 12 f3), (4, vI (x4 + 1))]) [0, 1, 2, 3, 4] rfl ?_
        exact h
theorem rX6_takeChoices_0 {x : zX} {w : zWd} {im : zMem} {lv : Int64} {P : Int32 → zMem → Int64 → Prop} (hO : zOK x w zyX6_takeChoices 2) (hR : zRetI x w zyX6_takeChoices P) (hN : zN x 126 126)
 (h : zW x w 2 [(0, vR 29 0), (1, vI 0)] [] im lv) :
 zW x w 0 [(0, vR 29 0)] [] im lv := by
  refine zi_iconst (v := 0) hO dX6_takeChoices_0 (by decide) ?_
  refine zi_istore_n (L' := [(0, vR 29 0), (1, vI 0)]) hO dX6_takeChoices_1 (by decide) rfl rfl ?_
  exact h
theorem rX6_takeChoices_2 {x : zX} {w : zWd} {im : zMem} {lv : Int64} {P : Int32 → zMem → Int64 → Prop} {x1 : Int32} (hO : zOK x w zyX6_takeChoices 2) (hR : zRetI x w zyX6_takeChoices P) (hN : zN x 126 126)
 (h : (((im 29 0 7) ≤ x1 → P (im 29 0 8) im lv) ∧
 (¬ ((im 29 0 7) ≤ x1) → (vp_in x1 5 ∧ (vp_in (im 32 0 (Int32.toNatClampNeg x1)) 12 ∧ zW x w 2 [(0, vR 29 0), (1, vI (x1 + 1))] [] (zwr (zwr im 12 (Int32.toNatClampNeg (im 32 0 (Int32.toNatClampNeg x1))) 8 ((im 34 0 (Int32.toNatClampNeg x1)) / 5)) 12 (Int32.toNatClampNeg (im 32 0 (Int32.toNatClampNeg x1))) 9 ((im 34 0 (Int32.toNatClampNeg x1)) - (im 34 0 (Int32.toNatClampNeg x1)) / 5 * 5)) lv))))) :
 zW x w 2 [(0, vR 29 0), (1, vI x1)] [] im lv := by
  refine zi_iload_n hO dX6_takeChoices_2 1 rfl ?_
  refine zi_aload_n hO dX6_takeChoices_3 0 rfl ?_
  refine zi_getI hO dX6_takeChoices_4 fX6_27 rfl rfl (zI (by decide)) ?_
  refine zi_icmp_ge (tgt := 55) hO dX6_takeChoices_7 (by decide) (fun c1 => ?_) (fun c1 => ?_)
  · have h := h.1 c1
    refine zi_aload_n hO dX6_takeChoices_55 0 rfl ?_
    refine zi_getI hO dX6_takeChoices_56 fX6_32 rfl rfl (zI (by decide)) ?_
    exact zr_I hO hR rfl dX6_takeChoices_59 h
  · have h := h.2 c1
    refine zi_aload_n hO dX6_takeChoices_10 0 rfl ?_
    refine zi_getR (r' := 10) (i' := 0) hO dX6_takeChoices_11 fX6_35 rfl rfl (zI (by decide)) rfl ?_
    refine zi_getR (r' := 11) (i' := 0) hO dX6_takeChoices_14 fX6_56 rfl rfl (zI (by decide)) rfl ?_
    refine zi_aload_n hO dX6_takeChoices_17 0 rfl ?_
    refine zi_getR (r' := 32) (i' := 0) hO dX6_takeChoices_18 fX6_18 rfl rfl (zI (by decide)) rfl ?_
    refine zi_iload_n hO dX6_takeChoices_21 1 rfl ?_
    obtain ⟨s1, h⟩ := h
    refine zi_iald hO dX6_takeChoices_22 rfl (zI (by decide)) s1 ?_
    obtain ⟨s2, h⟩ := h
    refine zi_aald (t := 1) (r' := 12) (i' := (Int32.toNatClampNeg (im 32 0 (Int32.toNatClampNeg x1)))) hO dX6_takeChoices_23 rfl (zI (by decide)) s2 rfl ?_
    refine zi_astore_n (L' := [(0, vR 29 0), (1, vI x1), (2, vR 12 (Int32.toNatClampNeg (im 32 0 (Int32.toNatClampNeg x1))))]) hO dX6_takeChoices_24 (by decide) rfl rfl ?_
    refine zi_aload_n hO dX6_takeChoices_25 2 rfl ?_
    refine zi_aload_n hO dX6_takeChoices_26 0 rfl ?_
    refine zi_getR (r' := 34) (i' := 0) hO dX6_takeChoices_27 fX6_24 rfl rfl (zI (by decide)) rfl ?_
    refine zi_iload_n hO dX6_takeChoices_30 1 rfl ?_
    refine zi_iald hO dX6_takeChoices_31 rfl (zI (by decide)) s1 ?_
    refine zi_iconst (v := 5) hO dX6_takeChoices_32 (by decide) ?_
    refine zi_idiv hO dX6_takeChoices_33 (by decide) ?_
    refine zi_putI hO dX6_takeChoices_34 gX6_60 rfl rfl (zI (zvp s2)) ?_
    refine zi_aload_n hO dX6_takeChoices_37 2 rfl ?_
    refine zi_aload_n hO dX6_takeChoices_38 0 rfl ?_
    refine zi_getR (r' := 34) (i' := 0) hO dX6_takeChoices_39 fX6_24 rfl rfl (zI (by decide)) rfl ?_
    refine zi_iload_n hO dX6_takeChoices_42 1 rfl ?_
    refine zi_iald hO dX6_takeChoices_43 rfl (zI (by decide)) s1 ?_
    refine zi_iconst (v := 5) hO dX6_takeChoices_44 (by decide) ?_
    refine zi_irem hO dX6_takeChoices_45 (by decide) ?_
    refine zi_putI hO dX6_takeChoices_46 gX6_65 rfl rfl (zI (zvp s2)) ?_
    refine zi_iinc (v' := (x1 + 1)) (L' := [(0, vR 29 0), (1, vI (x1 + 1)), (2, vR 12 (Int32.toNatClampNeg (im 32 0 (Int32.toNatClampNeg x1))))]) hO dX6_takeChoices_49 1 rfl rfl (by decide) rfl rfl ?_
    refine zi_goto (tgt := 2) hO dX6_takeChoices_52 (by decide) ?_
    refine zi_pick (L' := [(0, vR 29 0), (1, vI (x1 + 1))]) [0, 1] rfl ?_
    exact h
theorem rX6_findChoices_0 {x : zX} {w : zWd} {im : zMem} {lv : Int64} {P : Int32 → zMem → Int64 → Prop} {x1 : Int32} (hO : zOK x w zyX6_findChoices 12) (hR : zRetI x w zyX6_findChoices P) (hN : zN x 126 126)
 (h : zW x w 2 [(0, vR 29 0), (1, vI x1), (2, vI 0)] [] im lv) :
 zW x w 0 [(0, vR 29 0), (1, vI x1)] [] im lv := by
  refine zi_iconst (v := 0) hO dX6_findChoices_0 (by decide) ?_
  refine zi_istore_n (L' := [(0, vR 29 0), (1, vI x1), (2, vI 0)]) hO dX6_findChoices_1 (by decide) rfl rfl ?_
  exact h
theorem rX6_findChoices_2 {x : zX} {w : zWd} {im : zMem} {lv : Int64} {P : Int32 → zMem → Int64 → Prop} {x1 : Int32} {x2 : Int32} (hO : zOK x w zyX6_findChoices 12) (hR : zRetI x w zyX6_findChoices P) (hN : zN x 126 126)
 (h : ((384 ≤ x2 → zW x w 47 [(0, vR 29 0), (1, vI x1), (2, vI 0)] [] (zwr im 29 0 7 0) lv) ∧
 (¬ (384 ≤ x2) → (vp_in x2 384 ∧ zW x w 2 [(0, vR 29 0), (1, vI x1), (2, vI (x2 + 1))] [] (zwr im 30 0 (Int32.toNatClampNeg x2) ((im 22 0 (Int32.toNatClampNeg x2)) - (im 21 0 (Int32.toNatClampNeg x2)))) lv)))) :
 zW x w 2 [(0, vR 29 0), (1, vI x1), (2, vI x2)] [] im lv := by
  refine zi_iload_n hO dX6_findChoices_2 2 rfl ?_
  refine zi_sipush (v := 384) hO dX6_findChoices_3 (by decide) ?_
  refine zi_icmp_ge (tgt := 40) hO dX6_findChoices_6 (by decide) (fun c1 => ?_) (fun c1 => ?_)
  · have h := h.1 c1
    refine zi_aload_n hO dX6_findChoices_40 0 rfl ?_
    refine zi_iconst (v := 0) hO dX6_findChoices_41 (by decide) ?_
    refine zi_putI hO dX6_findChoices_42 gX6_27 rfl rfl (zI (by decide)) ?_
    refine zi_iconst (v := 0) hO dX6_findChoices_45 (by decide) ?_
    refine zi_istore_n (L' := [(0, vR 29 0), (1, vI x1), (2, vI 0)]) hO dX6_findChoices_46 (by decide) rfl rfl ?_
    exact h
  · have h := h.2 c1
    refine zi_aload_n hO dX6_findChoices_9 0 rfl ?_
    refine zi_getR (r' := 30) (i' := 0) hO dX6_findChoices_10 fX6_9 rfl rfl (zI (by decide)) rfl ?_
    refine zi_iload_n hO dX6_findChoices_13 2 rfl ?_
    refine zi_aload_n hO dX6_findChoices_14 0 rfl ?_
    refine zi_getR (r' := 20) (i' := 0) hO dX6_findChoices_15 fX6_39 rfl rfl (zI (by decide)) rfl ?_
    refine zi_getR (r' := 22) (i' := 0) hO dX6_findChoices_18 fX6_43 rfl rfl (zI (by decide)) rfl ?_
    refine zi_iload_n hO dX6_findChoices_21 2 rfl ?_
    obtain ⟨s1, h⟩ := h
    refine zi_iald hO dX6_findChoices_22 rfl (zI (by decide)) s1 ?_
    refine zi_aload_n hO dX6_findChoices_23 0 rfl ?_
    refine zi_getR (r' := 20) (i' := 0) hO dX6_findChoices_24 fX6_39 rfl rfl (zI (by decide)) rfl ?_
    refine zi_getR (r' := 21) (i' := 0) hO dX6_findChoices_27 fX6_48 rfl rfl (zI (by decide)) rfl ?_
    refine zi_iload_n hO dX6_findChoices_30 2 rfl ?_
    refine zi_iald hO dX6_findChoices_31 rfl (zI (by decide)) s1 ?_
    refine zi_isub hO dX6_findChoices_32 ?_
    refine zi_iast hO dX6_findChoices_33 rfl (zI (by decide)) s1 ?_
    refine zi_iinc (v' := (x2 + 1)) (L' := [(0, vR 29 0), (1, vI x1), (2, vI (x2 + 1))]) hO dX6_findChoices_34 2 rfl rfl (by decide) rfl rfl ?_
    refine zi_goto (tgt := 2) hO dX6_findChoices_37 (by decide) ?_
    exact h
theorem rX6_findChoices_47 {x : zX} {w : zWd} {im : zMem} {lv : Int64} {P : Int32 → zMem → Int64 → Prop} {x1 : Int32} {x2 : Int32} (hO : zOK x w zyX6_findChoices 12) (hR : zRetI x w zyX6_findChoices P) (hN : zN x 126 126)
 (h : (((im 10 0 1) ≤ x2 → (∃ P1 : zMem → Int64 → Prop, zSpecV x.2.1 w 11 zyX6_search [vR 29 0, vI 0, vI 0] (zwr im 29 0 8 100000000) lv P1 ∧ ∀ (im1 : zMem) (lv1 : Int64), P1 im1 lv1 → ((100000000 ≤ (im1 29 0 8) → P 0 im1 lv1) ∧
 (¬ (100000000 ≤ (im1 29 0 8)) → P 1 im1 lv1)))) ∧
 (¬ ((im 10 0 1) ≤ x2) → ((5 ≤ (im 29 0 7) → (∃ P2 : zMem → Int64 → Prop, zSpecV x.2.1 w 11 zyX6_search [vR 29 0, vI 0, vI 0] (zwr im 29 0 8 100000000) lv P2 ∧ ∀ (im2 : zMem) (lv2 : Int64), P2 im2 lv2 → ((100000000 ≤ (im2 29 0 8) → P 0 im2 lv2) ∧
 (¬ (100000000 ≤ (im2 29 0 8)) → P 1 im2 lv2)))) ∧
 (¬ (5 ≤ (im 29 0 7)) → ((¬ (((x1 >>> (x2 &&& 31)) &&& 1) = 1) → zW x w 47 [(0, vR 29 0), (1, vI x1), (2, vI (x2 + 1))] [] im lv) ∧
 (((x1 >>> (x2 &&& 31)) &&& 1) = 1 → (vp_in x2 12 ∧ (∃ P4 : zMem → Int64 → Prop, zSpecV x.2.1 w 3 zyX6_changeFreeRoom [vR 29 0, vR 12 (Int32.toNatClampNeg x2), vI (im 12 (Int32.toNatClampNeg x2) 8), vI (im 12 (Int32.toNatClampNeg x2) 9), vI (im 12 (Int32.toNatClampNeg x2) 1)] im lv P4 ∧ ∀ (im4 : zMem) (lv4 : Int64), P4 im4 lv4 → (vp_in (im4 29 0 7) 5 ∧ zW x w 47 [(0, vR 29 0), (1, vI x1), (2, vI (x2 + 1))] [] (zwr (zwr im4 32 0 (Int32.toNatClampNeg (im4 29 0 7)) x2) 29 0 7 ((im4 29 0 7) + 1)) lv4)))))))))) :
 zW x w 47 [(0, vR 29 0), (1, vI x1), (2, vI x2)] [] im lv := by
  refine zi_iload_n hO dX6_findChoices_47 2 rfl ?_
  refine zi_aload_n hO dX6_findChoices_48 0 rfl ?_
  refine zi_getR (r' := 10) (i' := 0) hO dX6_findChoices_49 fX6_35 rfl rfl (zI (by decide)) rfl ?_
  refine zi_getI hO dX6_findChoices_52 fX6_51 rfl rfl (zI (by decide)) ?_
  refine zi_icmp_ge (tgt := 128) hO dX6_findChoices_55 (by decide) (fun c1 => ?_) (fun c1 => ?_)
  · have h := h.1 c1
    refine zi_aload_n hO dX6_findChoices_128 0 rfl ?_
    refine zi_ldc (v := 100000000) hO dX6_findChoices_129 nX6_31 ?_
    refine zi_putI hO dX6_findChoices_131 gX6_32 rfl rfl (zI (by decide)) ?_
    refine zi_aload_n hO dX6_findChoices_134 0 rfl ?_
    refine zi_iconst (v := 0) hO dX6_findChoices_135 (by decide) ?_
    refine zi_iconst (v := 0) hO dX6_findChoices_136 (by decide) ?_
    obtain ⟨P1, hM1, h⟩ := h
    refine zc_VV (as := [vI 0, vI 0]) hO hN dX6_findChoices_137 kX6_75 (by decide) rfl (zI (by decide)) rfl rfl (Nat.le_of_ble_eq_true rfl) rfl rfl hM1 (fun im1 lv1 hp1 => ?_)
    replace h := h im1 lv1 hp1
    refine zi_aload_n hO dX6_findChoices_140 0 rfl ?_
    refine zi_getI hO dX6_findChoices_141 fX6_32 rfl rfl (zI (by decide)) ?_
    refine zi_ldc (v := 100000000) hO dX6_findChoices_144 nX6_31 ?_
    refine zi_icmp_ge (tgt := 153) hO dX6_findChoices_146 (by decide) (fun c2 => ?_) (fun c2 => ?_)
    · have h := h.1 c2
      refine zi_iconst (v := 0) hO dX6_findChoices_153 (by decide) ?_
      exact zr_Z hO hR rfl (Or.inl rfl) dX6_findChoices_154 h
    · have h := h.2 c2
      refine zi_iconst (v := 1) hO dX6_findChoices_149 (by decide) ?_
      refine zi_goto (tgt := 154) hO dX6_findChoices_150 (by decide) ?_
      exact zr_Z hO hR rfl (Or.inr rfl) dX6_findChoices_154 h
  · have h := h.2 c1
    refine zi_aload_n hO dX6_findChoices_58 0 rfl ?_
    refine zi_getI hO dX6_findChoices_59 fX6_27 rfl rfl (zI (by decide)) ?_
    refine zi_iconst (v := 5) hO dX6_findChoices_62 (by decide) ?_
    refine zi_icmp_ge (tgt := 128) hO dX6_findChoices_63 (by decide) (fun c3 => ?_) (fun c3 => ?_)
    · have h := h.1 c3
      refine zi_aload_n hO dX6_findChoices_128 0 rfl ?_
      refine zi_ldc (v := 100000000) hO dX6_findChoices_129 nX6_31 ?_
      refine zi_putI hO dX6_findChoices_131 gX6_32 rfl rfl (zI (by decide)) ?_
      refine zi_aload_n hO dX6_findChoices_134 0 rfl ?_
      refine zi_iconst (v := 0) hO dX6_findChoices_135 (by decide) ?_
      refine zi_iconst (v := 0) hO dX6_findChoices_136 (by decide) ?_
      obtain ⟨P2, hM2, h⟩ := h
      refine zc_VV (as := [vI 0, vI 0]) hO hN dX6_findChoices_137 kX6_75 (by decide) rfl (zI (by decide)) rfl rfl (Nat.le_of_ble_eq_true rfl) rfl rfl hM2 (fun im2 lv2 hp2 => ?_)
      replace h := h im2 lv2 hp2
      refine zi_aload_n hO dX6_findChoices_140 0 rfl ?_
      refine zi_getI hO dX6_findChoices_141 fX6_32 rfl rfl (zI (by decide)) ?_
      refine zi_ldc (v := 100000000) hO dX6_findChoices_144 nX6_31 ?_
      refine zi_icmp_ge (tgt := 153) hO dX6_findChoices_146 (by decide) (fun c4 => ?_) (fun c4 => ?_)
      · have h := h.1 c4
        refine zi_iconst (v := 0) hO dX6_findChoices_153 (by decide) ?_
        exact zr_Z hO hR rfl (Or.inl rfl) dX6_findChoices_154 h
      · have h := h.2 c4
        refine zi_iconst (v := 1) hO dX6_findChoices_149 (by decide) ?_
        refine zi_goto (tgt := 154) hO dX6_findChoices_150 (by decide) ?_
        exact zr_Z hO hR rfl (Or.inr rfl) dX6_findChoices_154 h
    · have h := h.2 c3
      refine zi_iload_n hO dX6_findChoices_66 1 rfl ?_
      refine zi_iload_n hO dX6_findChoices_67 2 rfl ?_
      refine zi_ishr hO dX6_findChoices_68 ?_
      refine zi_iconst (v := 1) hO dX6_findChoices_69 (by decide) ?_
      refine zi_iand hO dX6_findChoices_70 ?_
      refine zi_iconst (v := 1) hO dX6_findChoices_71 (by decide) ?_
      refine zi_icmp_ne (tgt := 122) hO dX6_findChoices_72 (by decide) (fun c5 => ?_) (fun c5 => ?_)
      · have h := h.1 c5
        refine zi_iinc (v' := (x2 + 1)) (L' := [(0, vR 29 0), (1, vI x1), (2, vI (x2 + 1))]) hO dX6_findChoices_122 2 rfl rfl (by decide) rfl rfl ?_
        refine zi_goto (tgt := 47) hO dX6_findChoices_125 (by decide) ?_
        exact h
      · have h := h.2 c5
        refine zi_aload_n hO dX6_findChoices_75 0 rfl ?_
        refine zi_getR (r' := 10) (i' := 0) hO dX6_findChoices_76 fX6_35 rfl rfl (zI (by decide)) rfl ?_
        refine zi_getR (r' := 11) (i' := 0) hO dX6_findChoices_79 fX6_56 rfl rfl (zI (by decide)) rfl ?_
        refine zi_iload_n hO dX6_findChoices_82 2 rfl ?_
        obtain ⟨s3, h⟩ := h
        refine zi_aald (t := 1) (r' := 12) (i' := (Int32.toNatClampNeg x2)) hO dX6_findChoices_83 rfl (zI (by decide)) s3 rfl ?_
        refine zi_astore_n (L' := [(0, vR 29 0), (1, vI x1), (2, vI x2), (3, vR 12 (Int32.toNatClampNeg x2))]) hO dX6_findChoices_84 (by decide) rfl rfl ?_
        refine zi_aload_n hO dX6_findChoices_85 0 rfl ?_
        refine zi_aload_n hO dX6_findChoices_86 3 rfl ?_
        refine zi_aload_n hO dX6_findChoices_87 3 rfl ?_
        refine zi_getI hO dX6_findChoices_88 fX6_60 rfl rfl (zI (zvp s3)) ?_
        refine zi_aload_n hO dX6_findChoices_91 3 rfl ?_
        refine zi_getI hO dX6_findChoices_92 fX6_65 rfl rfl (zI (zvp s3)) ?_
        refine zi_aload_n hO dX6_findChoices_95 3 rfl ?_
        refine zi_getI hO dX6_findChoices_96 fX6_68 rfl rfl (zI (zvp s3)) ?_
        obtain ⟨P4, hM4, h⟩ := h
        refine zc_VV (as := [vR 12 (Int32.toNatClampNeg x2), vI (im 12 (Int32.toNatClampNeg x2) 8), vI (im 12 (Int32.toNatClampNeg x2) 9), vI (im 12 (Int32.toNatClampNeg x2) 1)]) hO hN dX6_findChoices_99 kX6_71 (by decide) rfl (zI (by decide)) rfl rfl (Nat.le_of_ble_eq_true rfl) rfl rfl hM4 (fun im4 lv4 hp4 => ?_)
        replace h := h im4 lv4 hp4
        refine zi_aload_n hO dX6_findChoices_102 0 rfl ?_
        refine zi_getR (r' := 32) (i' := 0) hO dX6_findChoices_103 fX6_18 rfl rfl (zI (by decide)) rfl ?_
        refine zi_aload_n hO dX6_findChoices_106 0 rfl ?_
        refine zi_getI hO dX6_findChoices_107 fX6_27 rfl rfl (zI (by decide)) ?_
        refine zi_iload_n hO dX6_findChoices_110 2 rfl ?_
        obtain ⟨s5, h⟩ := h
        refine zi_iast hO dX6_findChoices_111 rfl (zI (by decide)) s5 ?_
        refine zi_aload_n hO dX6_findChoices_112 0 rfl ?_
        refine zi_dup hO dX6_findChoices_113 rfl ?_
        refine zi_getI hO dX6_findChoices_114 fX6_27 rfl rfl (zI (by decide)) ?_
        refine zi_iconst (v := 1) hO dX6_findChoices_117 (by decide) ?_
        refine zi_iadd hO dX6_findChoices_118 ?_
        refine zi_putI hO dX6_findChoices_119 gX6_27 rfl rfl (zI (by decide)) ?_
        refine zi_iinc (v' := (x2 + 1)) (L' := [(0, vR 29 0), (1, vI x1), (2, vI (x2 + 1)), (3, vR 12 (Int32.toNatClampNeg x2))]) hO dX6_findChoices_122 2 rfl rfl (by decide) rfl rfl ?_
        refine zi_goto (tgt := 47) hO dX6_findChoices_125 (by decide) ?_
        refine zi_pick (L' := [(0, vR 29 0), (1, vI x1), (2, vI (x2 + 1))]) [0, 1, 2] rfl ?_
        exact h
/-- the best so far, as the class's rows hold it -/
def bC (n : Nat) (b : zB) (im : zMem) : Prop := match b with
  | none => im 29 0 8 = nI 100000000
  | some q => im 29 0 8 = nI q.1 ∧ q.1 ≤ 2080 ∧ ∀ i, i < n → im 34 0 i = nI (q.2.getD i 0) ∧ q.2.getD i 0 < 15
theorem bC.v {n : Nat} {b : zB} {im : zMem} (h : bC n b im) : im 29 0 8 = nI (vlB b) ∧ vlB b ≤ 100000000 := by
  cases b with
  | none => exact ⟨h, Nat.le_refl _⟩
  | some q => exact ⟨h.1, Nat.le_trans h.2.1 (by decide)⟩
theorem bC.fr {n : Nat} {b : zB} {im im' : zMem} (h : bC n b im) (h1 : im' 29 = im 29) (h2 : im' 34 = im 34) : bC n b im' := by
  unfold bC at *
  rw [h1, h2]
  exact h
theorem lessB_iff {b : zB} {z : Nat} (hz : z < 100000000) : lessB b z = true ↔ z < vlB b := by
  cases b with
  | none => exact ⟨fun _ => hz, fun _ => rfl⟩
  | some q => exact decide_eq_true_iff
/-- what a search leaves as it was -/
def SRl (m im : zMem) (L : Nat → Nat) (n : Nat) (im' : zMem) : Prop := (∀ r, ¬ (29 ≤ r ∧ r ≤ 31) → ¬ (33 ≤ r ∧ r ≤ 34) → im' r = im r) ∧ im' 29 0 7 = im 29 0 7 ∧ FRE m im' L ∧ ∀ i, i < n → im' 33 0 i = im 33 0 i
theorem C_X6_search (w : zWd) {m : zMem} (hW : WF m) {M : List Nat} (hM5 : M.length ≤ 5) (hg : ∀ g ∈ M, g < nfl m) : ∀ (ms pre : List Nat) (l : Launch) (d : Nat) (im : zMem) (lv : Int64) (L : Nat → Nat) (s : Nat) (pf : List Nat) (b : zB), M = pre ++ ms → 6 + ms.length ≤ d → RC m im → im 29 0 7 = nI M.length → (∀ i, i < M.length → im 32 0 i = nI (M.getD i 0)) → (∀ c, c < 384 → L c ≤ 108 + 9 * pf.length) → FRE m im L → s ≤ 416 * pf.length → pf.length = pre.length → (∀ i, i < pf.length → im 33 0 i = nI (pf.getD i 0) ∧ pf.getD i 0 < 15) → bC M.length b im → zSpecV l w d zyX6_search [vR 29 0, vI (nI pre.length), vI (nI s)] im lv (fun im' lv' => (SRl m im L pf.length im' ∧ bC M.length (sr m ms L s pf b) im') ∧ lv' = lv) := by
  intro ms
  induction ms with
  | nil =>
    intro pre l d im lv L s pf b hM hd hC h7 h32 hL hF hs hpf h33 hb
    obtain ⟨d, rfl⟩ : ∃ d', d = d' + 1 := ⟨d - 1, by omega⟩
    refine ze_V (by decide) (Nat.le_of_ble_eq_true rfl) (fun x hO hR hN => rX6_search_0 hO hR hN (by simp only [List.length_nil] at hd; omega) ?_)
    rw [List.append_nil] at hM
    subst hM
    have e0 : Int32.toNatClampNeg 0 = 0 := rfl
    rw [h7, nI_clamp (show M.length < 2 ^ 31 by omega), e0]
    have hz : ∀ r, ¬ r = 29 → ¬ r = 34 → (zset (zwr im 29 0 8 (nI s)) 34 0 (va_cpy ((zwr im 29 0 8 (nI s)) 33 0) ((zwr im 29 0 8 (nI s)) 34 0) 0 0 M.length)) r = im r := fun r q1 q2 => by unfold zset; rw [if_neg q2, zwr_r q1]
    have h29 : ∀ k, (zset (zwr im 29 0 8 (nI s)) 34 0 (va_cpy ((zwr im 29 0 8 (nI s)) 33 0) ((zwr im 29 0 8 (nI s)) 34 0) 0 0 M.length)) 29 0 k = zwr im 29 0 8 (nI s) 29 0 k := fun k => by rw [zset_ne (by omega)]
    refine ⟨fun q => absurd q (fun z => Int32.lt_irrefl z), fun _ => ⟨by decide, by decide, nI_pos (by omega), by omega, by omega, ⟨⟨fun r q1 q2 => hz r (by omega) (by omega), ?_, ?_, fun i hi => ?_⟩, ?_⟩, rfl⟩⟩
    · rw [h29, zwr_app, if_neg (by omega)]
    · unfold FRE
      rw [hz 30 (by decide) (by decide)]
      exact hF
    · rw [hz 33 (by decide) (by decide)]
    · rw [sr]
      refine ⟨by rw [h29, zwr_eq], by show s ≤ 2080; omega, fun i hi => ?_⟩
      rw [zset_eq, pk_cpy_in (by omega) (by omega), zwr_r (by decide), show 0 + (i - 0) = i by omega]
      exact h33 i (by omega)
  | cons f ms ihs =>
    intro pre l d im lv L s pf b hM hd hC h7 h32 hL hF hs hpf h33 hb
    obtain ⟨d, rfl⟩ : ∃ d', d = d' + 1 := ⟨d - 1, by omega⟩
    rw [List.length_cons] at hd
    have h12 := hW.1.2
    have hlen : M.length = pre.length + (ms.length + 1) := by rw [hM, List.length_append, List.length_cons]
    have hf : f < nfl m := hg f (by rw [hM]; simp)
    have e32 := h32 pre.length (by omega)
    rw [show M.getD pre.length 0 = f by rw [hM]; exact gD_m] at e32
    have hL' : ∀ c, c < 384 → L c ≤ 1000 := fun c hc => by have := hL c hc; omega
    obtain ⟨-, f1, -, f3, f4, f5, f6, -⟩ := hW.2.1 f hf
    refine ze_V (by decide) (Nat.le_of_ble_eq_true rfl) (fun x hO hR hN => rX6_search_0 hO hR hN (by omega) ?_)
    have key : ∀ n c (b1 : zB) (im1 : zMem) (lv1 : Int64), lv1 = lv → n + c = 5 * wys m f → SRl m im L pf.length im1 → bC M.length b1 im1 → fcG (stp m f ms L s pf) n c b1 = sr m (f :: ms) L s pf b → zW x w 64 [(0, vR 29 0), (1, vI (nI pre.length)), (2, vI (nI s)), (3, vR 12 f), (4, vI (nI c))] [] im1 lv1 := by
      intro n
      induction n with
      | zero =>
        intro c b1 im1 lv1 hlv hc hS hb1 e
        refine rX6_search_64 hO hR hN (by omega) (by omega) ?_
        have hC1 : RC m im1 := hC.fr (fun r hr => hS.1 r (by omega) (by omega))
        rw [(hC1.2.1 f hf).2.2.2.2.1, show nI (wys m f) * 5 = nI (wys m f * 5) from pk_mul _ 5]
        rw [fcG] at e
        subst e
        refine ⟨fun _ => ⟨⟨hS, hb1⟩, hlv⟩, fun q => absurd ?_ q⟩
        exact nI_le (by omega) (by omega)
      | succ n ih =>
        intro c b1 im1 lv1 hlv hc hS hb1 e
        rw [fcG] at e
        have hC1 : RC m im1 := hC.fr (fun r hr => hS.1 r (by omega) (by omega))
        have hc15 : c < 15 := by omega
        have hcst := cstC_le hW hf hc15
        obtain ⟨c0, c1, c2, c3, c4, c5, c6, -⟩ := hC1.2.1 f hf
        obtain ⟨v1, v2⟩ := hb1.v
        have e5 : nI c / 5 = nI (c / 5) := pk_div (d := 5) (by omega) (by omega) (by omega)
        have e5' : nI c - nI c / 5 * 5 = nI (c % 5) := pk_rem (d := 5) (by omega) (by omega) (by omega)
        have ecost : nI (rat m f) * nI (c % 5) + 10 * nI (c / 5) = nI (cstC m f c) := by
          unfold cstC
          rw [show (10 : Int32) * nI (c / 5) = nI (10 * (c / 5)) from pk_mul 10 _, pk_mul, nI_add]
        refine rX6_search_64 hO hR hN (by omega) (by omega) ?_
        rw [c4, c3, v1, e5', e5, ecost, nI_add s, nI_1 c, show nI (wys m f) * 5 = nI (wys m f * 5) from pk_mul _ 5, nI_leI (by omega) (by omega), nI_leI (by omega) (by omega)]
        have hstp : stp m f ms L s pf c b1 = if fitB m f c L = true ∧ s + cstC m f c < vlB b1 then sr m ms (put m f c L) (s + cstC m f c) (pf ++ [c]) b1 else b1 := by
          unfold stp
          simp only [Bool.and_eq_true, lessB_iff (b := b1) (z := s + cstC m f c) (by omega)]
          rfl
        refine ⟨fun q => by omega, fun _ => ⟨fun q => ?_, fun q => ⟨_, C_X6_fits _ _ _ hW hC1 hf (wy := c / 5) (d := c % 5) (by omega) (by omega) hL' hS.2.2.1, ?_⟩⟩⟩
        · rw [hstp, if_neg (by omega)] at e
          exact ih (c + 1) b1 im1 lv1 hlv (by omega) hS hb1 e
        · rintro v2' im2 lv2 ⟨⟨rfl, g2⟩, rfl⟩
          rw [show 5 * (c / 5) + c % 5 = c by omega]
          have hS2 : SRl m im L pf.length im2 := by
            refine ⟨fun r q1 q2 => (g2 r (by omega)).trans (hS.1 r q1 q2), by rw [g2 29 (by decide)]; exact hS.2.1, ?_, fun i hi => by rw [g2 33 (by decide)]; exact hS.2.2.2 i hi⟩
            unfold FRE
            rw [g2 30 (by decide)]
            exact hS.2.2.1
          have hb2 : bC M.length b1 im2 := hb1.fr (g2 29 (by decide)) (g2 34 (by decide))
          by_cases hfit : fitB m f c L = true
          · rw [if_pos hfit]
            refine ⟨fun z => absurd z (by decide), fun _ => ⟨vp_in_nI (by omega) (by decide), ?_⟩⟩
            rw [nI_clamp (show pre.length < 2 ^ 31 by omega), g2 12 (by decide), c1]
            have w33 : ∀ r, ¬ r = 33 → zwr im2 33 0 pre.length (nI c) r = im2 r := fun r hr => zwr_r hr
            have hC2 : RC m (zwr im2 33 0 pre.length (nI c)) := hC.fr (fun r hr => by rw [w33 r (by omega)]; exact hS2.1 r (by omega) (by omega))
            have hF2 : FRE m (zwr im2 33 0 pre.length (nI c)) L := by unfold FRE; rw [w33 30 (by decide)]; exact hS2.2.2.1
            refine ⟨_, C_X6_changeFreeRoom _ _ _ hW hC2 hf (wy := c / 5) (d := c % 5) (by omega) (by omega), ?_⟩
            rintro im4 lv4 ⟨⟨g4, g4'⟩, rfl⟩
            rw [show 5 * (c / 5) + c % 5 = c by omega] at g4'
            have hF4 := fre_put hF2 g4'
            have hlf : (pf ++ [c]).length = pf.length + 1 := by rw [List.length_append, List.length_singleton]
            have hC4 : RC m im4 := hC2.fr (fun r hr => g4 r (by omega) (by omega))
            have hrec := ihs (pre ++ [f]) x.2.1 d im4 lv4 (put m f c L) (s + cstC m f c) (pf ++ [c]) b1 (by rw [List.append_assoc]; exact hM) (by omega) hC4 (by rw [g4 29 (by decide) (by decide), w33 29 (by decide), hS2.2.1]; exact h7) (fun i hi => by rw [g4 32 (by decide) (by decide), w33 32 (by decide), hS2.1 32 (by decide) (by decide)]; exact h32 i hi) (fun cc hcc => by have := hL cc hcc; have := wAt_le hW (c := c) (cell := cc) hf; show L cc + wAt m f c cc ≤ _; omega) hF4 (by omega) (by rw [hlf, List.length_append, List.length_singleton, hpf]) (fun i hi => ?_) (hb2.fr (by rw [g4 29 (by decide) (by decide), w33 29 (by decide)]) (by rw [g4 34 (by decide) (by decide), w33 34 (by decide)]))
            · rw [List.length_append, List.length_singleton] at hrec
              rw [nI_1 pre.length]
              refine ⟨_, hrec, ?_⟩
              rintro im5 lv5 ⟨⟨hS5, hb5⟩, rfl⟩
              have hC5 : RC m im5 := hC4.fr (fun r hr => hS5.1 r (by omega) (by omega))
              rw [(hC5.2.1 f hf).2.1]
              refine ⟨_, C_X6_changeFreeRoom _ _ _ hW hC5 hf (wy := c / 5) (d := c % 5) (by omega) (by omega), ?_⟩
              rintro im6 lv6 ⟨⟨g6, g6'⟩, rfl⟩
              rw [show 5 * (c / 5) + c % 5 = c by omega] at g6'
              rw [hstp, if_pos ⟨hfit, by omega⟩] at e
              refine ih (c + 1) _ im6 lv6 hlv (by omega) ⟨fun r q1 q2 => ?_, ?_, fre_back hS5.2.2.1 g6', fun i hi => ?_⟩ (hb5.fr (g6 29 (by decide) (by decide)) (g6 34 (by decide) (by decide))) e
              · rw [g6 r (by omega) (by omega), hS5.1 r q1 q2, g4 r (by omega) (by omega), w33 r (by omega)]
                exact hS2.1 r q1 q2
              · rw [g6 29 (by decide) (by decide), hS5.2.1, g4 29 (by decide) (by decide), w33 29 (by decide)]
                exact hS2.2.1
              · rw [g6 33 (by decide) (by decide), hS5.2.2.2 i (by rw [hlf]; omega), g4 33 (by decide) (by decide), zwr_app, if_neg (by omega)]
                exact hS2.2.2.2 i hi
            · rw [hlf] at hi
              rw [g4 33 (by decide) (by decide), zwr_app, gdA]
              by_cases hi2 : i = pre.length
              · rw [if_pos ⟨rfl, rfl, hi2⟩, if_neg (by omega), if_pos (by omega)]
                exact ⟨rfl, hc15⟩
              · rw [if_neg (fun z => hi2 z.2.2), if_pos (by omega), hS2.2.2.2 i (by omega)]
                exact h33 i (by omega)
          · rw [if_neg hfit]
            rw [hstp, if_neg (fun z => hfit z.1)] at e
            exact ⟨fun _ => ih (c + 1) b1 im2 lv2 hlv (by omega) hS2 hb2 e, fun z => absurd rfl z⟩
    rw [h7]
    refine ⟨fun _ => ⟨_, C_X6_leastCostFrom _ _ _ hW hC hM hM5 hg h7 h32 hL' hF, ?_⟩, fun q => absurd (nI_lt (by omega) (by omega)) q⟩
    rintro v1 im1 lv1 ⟨⟨⟨n, rfl, n1, n2⟩, g1⟩, rfl⟩
    have hS1 : SRl m im L pf.length im1 := by
      refine ⟨fun r q1 q2 => g1 r (by omega), by rw [g1 29 (by decide)], ?_, fun i hi => by rw [g1 33 (by decide)]⟩
      unfold FRE
      rw [g1 30 (by decide)]
      exact hF
    have hb1 : bC M.length b im1 := hb.fr (g1 29 (by decide)) (g1 34 (by decide))
    obtain ⟨v1, v2⟩ := hb1.v
    rw [v1, nI_add, nI_ltI (by omega) (by omega), nI_clamp (show pre.length < 2 ^ 31 by omega), g1 32 (by decide), e32, nI_clamp (show f < 2 ^ 31 by omega)]
    refine ⟨fun q => ⟨vp_in_nI (by omega) (by decide), vp_in_nI (by omega) (by decide), key (5 * wys m f) 0 b im1 lv1 rfl rfl hS1 hb1 sr_cons.symm⟩, fun q => ⟨⟨hS1, ?_⟩, rfl⟩⟩
    have hsl : s + 416 * (f :: ms).length ≤ 10000 := by
      rw [List.length_cons]
      clear hb hb1 v1 v2 n2 e32
      omega
    rw [sr_prune hW (f :: ms) L s pf b (fun z => by cases z) (fun z hz => hg z (by rw [hM]; exact List.mem_append_right _ hz)) hsl (by omega)]
    exact hb1
theorem C_X6_takeChoices (l : Launch) (w : zWd) {m im : zMem} (lv : Int64) (hW : WF m) {s : Nat} {q : Nat × List Nat} (h5 : (mbs m s (nfl m)).length ≤ 5) (h7 : im 29 0 7 = nI (mbs m s (nfl m)).length) (h32 : ∀ i, i < (mbs m s (nfl m)).length → im 32 0 i = nI ((mbs m s (nfl m)).getD i 0)) (hb : bC (mbs m s (nfl m)).length (some q) im) : zSpecI l w 2 zyX6_takeChoices [vR 29 0] im lv (fun v im' lv' => (v = nI q.1 ∧ (∀ r, ¬ r = 12 → im' r = im r) ∧ (∀ g j, ¬ j = 8 → ¬ j = 9 → im' 12 g j = im 12 g j) ∧ (∀ g, g ∉ mbs m s (nfl m) → im' 12 g = im 12 g) ∧ ∀ k, k < (mbs m s (nfl m)).length → im' 12 ((mbs m s (nfl m)).getD k 0) 8 = nI (q.2.getD k 0 / 5) ∧ im' 12 ((mbs m s (nfl m)).getD k 0) 9 = nI (q.2.getD k 0 % 5)) ∧ lv' = lv) := by
  refine ze_I (by decide) (Nat.le_of_ble_eq_true rfl) (fun x hO hR hN => rX6_takeChoices_0 hO hR hN ?_)
  have h12 := hW.1.2
  have hinj := mbs_inj (m := m) (s := s) (nfl m)
  have hlt : ∀ i, i < (mbs m s (nfl m)).length → (mbs m s (nfl m)).getD i 0 < nfl m := fun i hi => mbs_lt _ _ (gd_mem hi)
  have hme : ∀ i, i < (mbs m s (nfl m)).length → (mbs m s (nfl m)).getD i 0 ∈ mbs m s (nfl m) := fun i hi => gd_mem hi
  generalize mbs m s (nfl m) = M at *
  have key : ∀ n k (im1 : zMem), n + k = M.length → (∀ r, ¬ r = 12 → im1 r = im r) → (∀ g j, ¬ j = 8 → ¬ j = 9 → im1 12 g j = im 12 g j) → (∀ g, g ∉ M → im1 12 g = im 12 g) → (∀ i, i < k → im1 12 (M.getD i 0) 8 = nI (q.2.getD i 0 / 5) ∧ im1 12 (M.getD i 0) 9 = nI (q.2.getD i 0 % 5)) → zW x w 2 [(0, vR 29 0), (1, vI (nI k))] [] im1 lv := by
    intro n
    induction n with
    | zero =>
      intro k im1 hk h1 h2 h3 h4
      have : k = M.length := by omega
      subst this
      refine rX6_takeChoices_2 hO hR hN ?_
      rw [h1 29 (by decide), h7]
      exact ⟨fun _ => ⟨⟨hb.1, h1, h2, h3, h4⟩, rfl⟩, fun q => absurd (Int32.le_refl _) q⟩
    | succ n ih =>
      intro k im1 hk h1 h2 h3 h4
      have hk2 : k < M.length := by omega
      have hlk := hlt k hk2
      obtain ⟨b1, b2⟩ := hb.2.2 k hk2
      refine rX6_takeChoices_2 hO hR hN ?_
      rw [h1 29 (by decide), h1 32 (by decide), h1 34 (by decide), h7, nI_clamp (show k < 2 ^ 31 by omega), h32 k hk2, b1, nI_clamp (show M.getD k 0 < 2 ^ 31 by omega), nI_leI (by omega) (by omega), show (5 : Int32) = nI 5 from rfl, pk_rem (by omega) (by decide) (by decide), pk_div (by omega) (by decide) (by decide), nI_1 k]
      refine ⟨fun z => by omega, fun _ => ⟨vp_in_nI (by omega) (by decide), vp_in_nI (by omega) (by decide), ih (k + 1) _ (by omega) (fun r hr => by rw [zwr_r hr, zwr_r hr]; exact h1 r hr) (fun g j q1 q2 => ?_) (fun g hgM => ?_) (fun i hi => ?_)⟩⟩
      · rw [zwr_k q2, zwr_k q1]; exact h2 g j q1 q2
      · have hne : ¬ g = M.getD k 0 := fun e => hgM (e ▸ hme k hk2)
        funext j
        rw [zwr_app, if_neg (fun z => hne z.2.1), zwr_app, if_neg (fun z => hne z.2.1)]
        exact congrFun (h3 g hgM) j
      · rw [zwr_app, zwr_app, zwr_app, zwr_app]
        by_cases hik : i = k
        · subst hik
          rw [if_neg (by omega), if_pos ⟨rfl, rfl, rfl⟩, if_pos ⟨rfl, rfl, rfl⟩]
          exact ⟨rfl, rfl⟩
        · have hne : ¬ M.getD i 0 = M.getD k 0 := fun e => hik (hinj i k (by omega) hk2 e)
          rw [if_neg (fun z => hne z.2.1), if_neg (fun z => hne z.2.1), if_neg (fun z => hne z.2.1), if_neg (fun z => hne z.2.1)]
          exact h4 i (by omega)
  exact key M.length 0 im (by omega) (fun _ _ => rfl) (fun _ _ _ _ => rfl) (fun _ _ => rfl) (fun i hi => by omega)
/-- what the members lay -/
def lyM (m : zMem) (s : Nat) : Nat → Nat → Nat
  | 0 => fun _ => 0
  | f + 1 => if s / 2 ^ f % 2 = 1 then put m f (5 * way m f + dly m f) (lyM m s f) else lyM m s f
theorem ly_sum {m : zMem} (hW : WF m) {s c : Nat} : ∀ f, f ≤ nfl m → ldN m (c / 48) (c % 48) f = ly0 m s f c + lyM m s f c
  | 0, _ => rfl
  | f + 1, h => by
    have ih := ly_sum hW (s := s) (c := c) f (by omega)
    obtain ⟨-, f1, -, f3, f4, f5, f6, -⟩ := hW.2.1 f (by omega)
    have hw : (if room m f (way m f) (dly m f) (c % 48) = some (c / 48) then wgt m f else 0) = wAt m f (5 * way m f + dly m f) c := by
      unfold wAt isAt
      rw [show (5 * way m f + dly m f) / 5 = way m f by omega, show (5 * way m f + dly m f) % 5 = dly m f by omega]
      simp only [decide_eq_true_eq]
    rw [ldN, ly0, lyM, ih, hw]
    by_cases hb : s / 2 ^ f % 2 = 1
    · rw [if_pos hb, if_pos hb]; unfold put; omega
    · rw [if_neg hb, if_neg hb]; unfold put; omega
theorem btN_mono {s : Nat} : ∀ {i j : Nat}, btN s i ≤ btN s (i + j)
  | i, 0 => Nat.le_refl _
  | i, j + 1 => Nat.le_trans (btN_mono (j := j)) (Nat.le_add_right _ _)
theorem full_end {m : zMem} {s i : Nat} (h5 : btN s 12 ≤ 5) (hi : btN s i = 5) : ∀ j, i + j ≤ 12 → mbs m s (i + j) = mbs m s i ∧ lyM m s (i + j) = lyM m s i
  | 0, _ => ⟨rfl, rfl⟩
  | j + 1, h => by
    obtain ⟨h1, h2⟩ := full_end (m := m) h5 hi j (by omega)
    have a1 := btN_mono (s := s) (i := i) (j := j)
    have a2 := btN_mono (s := s) (i := i + j + 1) (j := 12 - (i + j + 1))
    rw [show i + j + 1 + (12 - (i + j + 1)) = 12 by omega] at a2
    have a3 : btN s (i + j + 1) = btN s (i + j) + s / 2 ^ (i + j) % 2 := rfl
    have hb : ¬ s / 2 ^ (i + j) % 2 = 1 := by omega
    rw [← Nat.add_assoc, mbs, lyM, if_neg hb, if_neg hb]
    exact ⟨h1, h2⟩
theorem C_X6_findChoices (l : Launch) (w : zWd) {m im : zMem} (lv : Int64) (hW : WF m) (hC : RC m im) (hS : SKY m im) {s : Nat} (hs : s < 4096) (h5 : btN s 12 ≤ 5) : zSpecI l w 12 zyX6_findChoices [vR 29 0, vI (nI s)] im lv (fun v im' lv' => (v = (if stR m s = none then 0 else 1) ∧ (∀ r, ¬ (29 ≤ r ∧ r ≤ 34) → im' r = im r) ∧ im' 29 0 7 = nI (mbs m s (nfl m)).length ∧ (∀ i, i < (mbs m s (nfl m)).length → im' 32 0 i = nI ((mbs m s (nfl m)).getD i 0)) ∧ bC (mbs m s (nfl m)).length (stR m s) im') ∧ lv' = lv) := by
  refine ze_I (by decide) (Nat.le_of_ble_eq_true rfl) (fun x hO hR hN => rX6_findChoices_0 hO hR hN ?_)
  have h12 := hW.1.2
  have hmb : ∀ i, i ≤ 12 → (mbs m s i).length ≤ 5 := fun i hi => by
    rw [mbs_len]
    have := btN_mono (s := s) (i := i) (j := 12 - i)
    rw [show i + (12 - i) = 12 by omega] at this
    omega
  -- the search
  have fin : ∀ (im1 : zMem) (lv1 : Int64), lv1 = lv → (∀ r, ¬ (29 ≤ r ∧ r ≤ 34) → im1 r = im r) → im1 29 0 7 = nI (mbs m s (nfl m)).length → (∀ i, i < (mbs m s (nfl m)).length → im1 32 0 i = nI ((mbs m s (nfl m)).getD i 0)) → FRE m im1 (ly0 m s (nfl m)) → ∃ P1 : zMem → Int64 → Prop, zSpecV x.2.1 w 11 zyX6_search [vR 29 0, vI 0, vI 0] (zwr im1 29 0 8 100000000) lv1 P1 ∧ ∀ (im2 : zMem) (lv2 : Int64), P1 im2 lv2 → ((100000000 ≤ (im2 29 0 8) → ((0 : Int32) = (if stR m s = none then 0 else 1) ∧ (∀ r, ¬ (29 ≤ r ∧ r ≤ 34) → im2 r = im r) ∧ im2 29 0 7 = nI (mbs m s (nfl m)).length ∧ (∀ i, i < (mbs m s (nfl m)).length → im2 32 0 i = nI ((mbs m s (nfl m)).getD i 0)) ∧ bC (mbs m s (nfl m)).length (stR m s) im2) ∧ lv2 = lv) ∧ (¬ (100000000 ≤ (im2 29 0 8)) → ((1 : Int32) = (if stR m s = none then 0 else 1) ∧ (∀ r, ¬ (29 ≤ r ∧ r ≤ 34) → im2 r = im r) ∧ im2 29 0 7 = nI (mbs m s (nfl m)).length ∧ (∀ i, i < (mbs m s (nfl m)).length → im2 32 0 i = nI ((mbs m s (nfl m)).getD i 0)) ∧ bC (mbs m s (nfl m)).length (stR m s) im2) ∧ lv2 = lv)) := by
    intro im1 lv1 hlv h1 h7 h32 hF
    have hC1 : RC m (zwr im1 29 0 8 100000000) := hC.fr (fun r hr => by rw [zwr_r (by omega)]; exact h1 r (by omega))
    have hF1 : FRE m (zwr im1 29 0 8 100000000) (ly0 m s (nfl m)) := by unfold FRE; rw [zwr_r (by decide)]; exact hF
    have := C_X6_search w hW (M := mbs m s (nfl m)) (hmb _ h12) (fun g hgm => mbs_lt _ g hgm) (mbs m s (nfl m)) [] x.2.1 11 (zwr im1 29 0 8 100000000) lv1 (ly0 m s (nfl m)) 0 [] none (List.nil_append _).symm (by have := hmb _ h12; omega) hC1 (by rw [zwr_app, if_neg (by omega)]; exact h7) (fun i hi => by rw [zwr_r (by decide)]; exact h32 i hi) (fun c hc => by have := ly0_le hW (s := s) (cell := c) (nfl m) (Nat.le_refl _); simp only [List.length_nil]; omega) hF1 (Nat.le_refl _) rfl (fun i hi => by cases hi) zwr_eq
    refine ⟨_, this, ?_⟩
    rintro im2 lv2 ⟨⟨⟨g1, g2, -, -⟩, hb⟩, rfl⟩
    have hfr : ∀ r, ¬ (29 ≤ r ∧ r ≤ 34) → im2 r = im r := fun r hr => by rw [g1 r (by omega) (by omega), zwr_r (by omega)]; exact h1 r hr
    have h7' : im2 29 0 7 = nI (mbs m s (nfl m)).length := by rw [g2, zwr_app, if_neg (by omega)]; exact h7
    have h32' : ∀ i, i < (mbs m s (nfl m)).length → im2 32 0 i = nI ((mbs m s (nfl m)).getD i 0) := fun i hi => by rw [g1 32 (by decide) (by decide), zwr_r (by decide)]; exact h32 i hi
    have hb : bC (mbs m s (nfl m)).length (stR m s) im2 := hb
    cases hst : stR m s with
    | none =>
      rw [hst] at hb
      have e : im2 29 0 8 = nI 100000000 := hb
      rw [e]
      exact ⟨fun _ => ⟨⟨(if_pos rfl).symm, hfr, h7', h32', hb⟩, hlv⟩, fun q => absurd (Int32.le_refl _) q⟩
    | some q =>
      rw [hst] at hb
      rw [hb.1]
      refine ⟨fun z => absurd z ?_, fun _ => ⟨⟨(if_neg (by simp)).symm, hfr, h7', h32', hb⟩, hlv⟩⟩
      have := hb.2.1
      exact nI_ge (a := q.1) (b := 100000000) (by omega) (by omega)
  -- the members
  have key : ∀ n i (im1 : zMem), n + i = nfl m → (∀ r, ¬ (29 ≤ r ∧ r ≤ 34) → im1 r = im r) → im1 29 0 7 = nI (mbs m s i).length → (∀ k, k < (mbs m s i).length → im1 32 0 k = nI ((mbs m s i).getD k 0)) → (∀ c, c < 384 → im1 30 0 c = nI (safe m (c / 48) (c % 48)) - nI (load m (c / 48) (c % 48)) + nI (lyM m s i c)) → zW x w 47 [(0, vR 29 0), (1, vI (nI s)), (2, vI (nI i))] [] im1 lv := by
    intro n
    induction n with
    | zero =>
      intro i im1 hi h1 h7 h32 h30
      have : i = nfl m := by omega
      subst this
      refine rX6_findChoices_47 hO hR hN ?_
      rw [h1 10 (by decide), hC.1]
      refine ⟨fun _ => fin im1 lv rfl h1 h7 h32 (fun c hc => ?_), fun q => absurd (Int32.le_refl _) q⟩
      rw [h30 c hc]
      unfold load
      rw [ly_sum hW (s := s) (nfl m) (Nat.le_refl _), ← nI_add, ← Int32.sub_sub, Int32.sub_add_cancel]
    | succ n ih =>
      intro i im1 hi h1 h7 h32 h30
      have hin : i < nfl m := by omega
      have hC1 : RC m im1 := hC.fr (fun r hr => h1 r (by omega))
      have hl5 := hmb i (by omega)
      obtain ⟨-, f1, -, f3, f4, f5, f6, -⟩ := hW.2.1 i hin
      obtain ⟨c0, c1, c2, c3, c4, c5, c6, -⟩ := hC1.2.1 i hin
      refine rX6_findChoices_47 hO hR hN ?_
      rw [h1 10 (by decide), hC.1, h7, zbit (by omega) (by omega), nI_clamp (show i < 2 ^ 31 by omega), c1, c5, c6, nI_1 i]
      refine ⟨fun q => ?_, fun _ => ⟨fun q => ?_, fun q => ⟨fun q2 => ?_, fun q2 => ⟨vp_in_nI (by omega) (by decide), _, C_X6_changeFreeRoom _ _ _ hW hC1 hin f5.2 (by omega), ?_⟩⟩⟩⟩
      · exfalso
        rw [nI_leI (by omega) (by omega)] at q
        omega
      · have hf5 : (mbs m s i).length = 5 := by
          have : nI 5 ≤ nI (mbs m s i).length := q
          rw [nI_leI (by omega) (by omega)] at this
          omega
        obtain ⟨e1, e2⟩ := full_end (m := m) h5 (by rw [← mbs_len (m := m)]; exact hf5) (nfl m - i) (by omega)
        rw [show i + (nfl m - i) = nfl m by omega] at e1 e2
        refine fin im1 lv rfl h1 (by rw [e1]; exact h7) (by rw [e1]; exact h32) (fun c hc => ?_)
        rw [h30 c hc, ← e2]
        unfold load
        rw [ly_sum hW (s := s) (nfl m) (Nat.le_refl _), ← nI_add, ← Int32.sub_sub, Int32.sub_add_cancel]
      · have hb : ¬ s / 2 ^ i % 2 = 1 := fun z => q2 (by rw [z]; rfl)
        refine ih (i + 1) im1 (by omega) h1 ?_ ?_ ?_
        · rw [mbs, if_neg hb]; exact h7
        · rw [mbs, if_neg hb]; exact h32
        · rw [lyM, if_neg hb]; exact h30
      · rintro im4 lv4 ⟨⟨g1, g2⟩, rfl⟩
        have hb : s / 2 ^ i % 2 = 1 := by
          have : nI (s / 2 ^ i % 2) = nI 1 := q2
          rw [nI_eq (by omega) (by omega)] at this
          exact this
        have hl4 : (mbs m s i).length < 5 := by
          have h6 := hmb (i + 1) (by omega)
          rw [mbs, if_pos hb, List.length_append, List.length_singleton] at h6
          omega
        rw [g1 29 (by decide) (by decide), h7, nI_clamp (show (mbs m s i).length < 2 ^ 31 by omega), nI_1 (mbs m s i).length]
        refine ⟨vp_in_nI hl4 (by decide), ih (i + 1) _ (by omega) (fun r hr => by rw [zwr_r (by omega), zwr_r (by omega), g1 r (by omega) (by omega)]; exact h1 r hr) ?_ ?_ ?_⟩
        · rw [zwr_eq, mbs, if_pos hb, List.length_append, List.length_singleton]
        · rw [mbs, if_pos hb]
          intro k hk
          rw [List.length_append, List.length_singleton] at hk
          rw [zwr_r (by decide), zwr_app, gdA]
          by_cases hkk : k = (mbs m s i).length
          · rw [if_pos ⟨rfl, rfl, hkk⟩, if_neg (by omega), if_pos hkk]
          · rw [if_neg (fun z => hkk z.2.2), if_pos (by omega), g1 32 (by decide) (by decide)]
            exact h32 k (by omega)
        · rw [lyM, if_pos hb]
          intro c hc
          rw [zwr_r (by decide), zwr_r (by decide), g2 c hc, h30 c hc]
          unfold put wAt
          by_cases hh : isAt m i (5 * way m i + dly m i) c = true
          · rw [if_pos hh, if_pos hh, ← nI_add, Int32.add_assoc]
          · rw [if_neg hh, if_neg hh, Nat.add_zero]
  have key0 : ∀ n k (im1 : zMem), n + k = 384 → (∀ r, ¬ r = 30 → im1 r = im r) → (∀ c, c < k → im1 30 0 c = nI (safe m (c / 48) (c % 48)) - nI (load m (c / 48) (c % 48))) → zW x w 2 [(0, vR 29 0), (1, vI (nI s)), (2, vI (nI k))] [] im1 lv := by
    intro n
    induction n with
    | zero =>
      intro k im1 hk h1 h2
      have : k = 384 := by omega
      subst this
      refine rX6_findChoices_2 hO hR hN ⟨fun _ => ?_, fun q => absurd (by decide) q⟩
      refine key (nfl m) 0 _ (by omega) (fun r hr => by rw [zwr_r (by omega)]; exact h1 r (by omega)) (by rw [zwr_eq]; rfl) (fun k hk => by cases hk) (fun c hc => ?_)
      rw [zwr_r (by decide), h2 c hc]
      exact (Int32.add_zero _).symm
    | succ n ih =>
      intro k im1 hk h1 h2
      refine rX6_findChoices_2 hO hR hN ?_
      obtain ⟨s1, s2⟩ := hS k (by omega)
      rw [nI_clamp (show k < 2 ^ 31 by omega), h1 21 (by decide), h1 22 (by decide), s1, s2, nI_1 k]
      refine ⟨fun q => ?_, fun _ => ⟨vp_in_nI (by omega) (by decide), ih (k + 1) _ (by omega) (fun r hr => by rw [zwr_r hr]; exact h1 r hr) (fun c hc => ?_)⟩⟩
      · exfalso
        have : nI 384 ≤ nI k := q
        rw [nI_leI (by omega) (by omega)] at this
        omega
      · rw [zwr_app]
        by_cases hck : c = k
        · subst hck; rw [if_pos ⟨rfl, rfl, rfl⟩]
        · rw [if_neg (fun z => hck z.2.2)]; exact h2 c (by omega)
  exact key0 384 0 im rfl (fun _ _ => rfl) (fun c hc => by omega)
