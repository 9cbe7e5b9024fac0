theorem rX12_blameOf_0 {x : zX} {w : zWd} {im : zMem} {lv : Int64} {P : Int32 → zMem → Int64 → Prop} {x1 : Int32} (hO : zOK x w zyX12_blameOf 5) (hR : zRetI x w zyX12_blameOf P) (hN : zN x 126 126)
 (h : zW x w 4 [(0, vR 43 0), (1, vI x1), (2, vI 0), (3, vI 0)] [] im lv) :
 zW x w 0 [(0, vR 43 0), (1, vI x1)] [] im lv := by
  refine zi_iconst (v := 0) hO dX12_blameOf_0 (by decide) ?_
  refine zi_istore_n (L' := [(0, vR 43 0), (1, vI x1), (2, vI 0)]) hO dX12_blameOf_1 (by decide) rfl rfl ?_
  refine zi_iconst (v := 0) hO dX12_blameOf_2 (by decide) ?_
  refine zi_istore_n (L' := [(0, vR 43 0), (1, vI x1), (2, vI 0), (3, vI 0)]) hO dX12_blameOf_3 (by decide) rfl rfl ?_
  exact h
theorem rX12_blameOf_4 {x : zX} {w : zWd} {im : zMem} {lv : Int64} {P : Int32 → zMem → Int64 → Prop} {x1 : Int32} {x2 : Int32} {x3 : Int32} (hO : zOK x w zyX12_blameOf 5) (hR : zRetI x w zyX12_blameOf P) (hN : zN x 126 126)
 (h : ((384 ≤ x3 → P x2 im lv) ∧
 (¬ (384 ≤ x3) → (∃ P1 : Int32 → zMem → Int64 → Prop, zSpecI x.2.1 w 4 zyX12_overOf [vR 43 0, vI (x3 / 48), vI (x3 - x3 / 48 * 48)] im lv P1 ∧ ∀ (v1 : Int32) (im1 : zMem) (lv1 : Int64), P1 v1 im1 lv1 → ((v1 ≤ 0 → zW x w 4 [(0, vR 43 0), (1, vI x1), (2, vI x2), (3, vI (x3 + 1))] [] im1 lv1) ∧
 (¬ (v1 ≤ 0) → zW x w 33 [(0, vR 43 0), (1, vI x1), (2, vI x2), (3, vI x3), (4, vI v1), (5, vI 0)] [] im1 lv1)))))) :
 zW x w 4 [(0, vR 43 0), (1, vI x1), (2, vI x2), (3, vI x3)] [] im lv := by
  refine zi_iload_n hO dX12_blameOf_4 3 rfl ?_
  refine zi_sipush (v := 384) hO dX12_blameOf_5 (by decide) ?_
  refine zi_icmp_ge (tgt := 167) hO dX12_blameOf_8 (by decide) (fun c1 => ?_) (fun c1 => ?_)
  · have h := h.1 c1
    refine zi_iload_n hO dX12_blameOf_167 2 rfl ?_
    exact zr_I hO hR rfl dX12_blameOf_168 h
  · have h := h.2 c1
    refine zi_aload_n hO dX12_blameOf_11 0 rfl ?_
    refine zi_iload_n hO dX12_blameOf_12 3 rfl ?_
    refine zi_bipush (v := 48) hO dX12_blameOf_13 (by decide) ?_
    refine zi_idiv hO dX12_blameOf_15 (by decide) ?_
    refine zi_iload_n hO dX12_blameOf_16 3 rfl ?_
    refine zi_bipush (v := 48) hO dX12_blameOf_17 (by decide) ?_
    refine zi_irem hO dX12_blameOf_19 (by decide) ?_
    obtain ⟨P1, hM1, h⟩ := h
    refine zc_VI (as := [vI (x3 / 48), vI (x3 - x3 / 48 * 48)]) hO hN dX12_blameOf_20 kX12_247 (by decide) rfl (zI (by decide)) rfl rfl (Nat.le_of_ble_eq_true rfl) rfl rfl hM1 (fun v1 im1 lv1 hp1 => ?_)
    replace h := h v1 im1 lv1 hp1
    refine zi_istore (L' := [(0, vR 43 0), (1, vI x1), (2, vI x2), (3, vI x3), (4, vI v1)]) hO dX12_blameOf_23 (by decide) rfl rfl ?_
    refine zi_iload hO dX12_blameOf_25 4 rfl ?_
    refine zi_if_le (tgt := 161) hO dX12_blameOf_27 (by decide) (fun c2 => ?_) (fun c2 => ?_)
    · have h := h.1 c2
      refine zi_iinc (v' := (x3 + 1)) (L' := [(0, vR 43 0), (1, vI x1), (2, vI x2), (3, vI (x3 + 1)), (4, vI v1)]) hO dX12_blameOf_161 3 rfl rfl (by decide) rfl rfl ?_
      refine zi_goto (tgt := 4) hO dX12_blameOf_164 (by decide) ?_
      refine zi_pick (L' := [(0, vR 43 0), (1, vI x1), (2, vI x2), (3, vI (x3 + 1))]) [0, 1, 2, 3] rfl ?_
      exact h
    · have h := h.2 c2
      refine zi_iconst (v := 0) hO dX12_blameOf_30 (by decide) ?_
      refine zi_istore (L' := [(0, vR 43 0), (1, vI x1), (2, vI x2), (3, vI x3), (4, vI v1), (5, vI 0)]) hO dX12_blameOf_31 (by decide) rfl rfl ?_
      exact h
theorem rX12_blameOf_33 {x : zX} {w : zWd} {im : zMem} {lv : Int64} {P : Int32 → zMem → Int64 → Prop} {x1 : Int32} {x2 : Int32} {x3 : Int32} {x4 : Int32} {x5 : Int32} (hO : zOK x w zyX12_blameOf 5) (hR : zRetI x w zyX12_blameOf P) (hN : zN x 126 126)
 (h : ((4 ≤ x5 → zW x w 56 [(0, vR 43 0), (1, vI x1), (2, vI x2), (3, vI x3), (4, vI x4), (5, vI 0)] [] im lv) ∧
 (¬ (4 ≤ x5) → (vp_in x5 4 ∧ zW x w 33 [(0, vR 43 0), (1, vI x1), (2, vI x2), (3, vI x3), (4, vI x4), (5, vI (x5 + 1))] [] (zwr im 58 0 (Int32.toNatClampNeg x5) 0) lv)))) :
 zW x w 33 [(0, vR 43 0), (1, vI x1), (2, vI x2), (3, vI x3), (4, vI x4), (5, vI x5)] [] im lv := by
  refine zi_iload hO dX12_blameOf_33 5 rfl ?_
  refine zi_iconst (v := 4) hO dX12_blameOf_35 (by decide) ?_
  refine zi_icmp_ge (tgt := 53) hO dX12_blameOf_36 (by decide) (fun c1 => ?_) (fun c1 => ?_)
  · have h := h.1 c1
    refine zi_iconst (v := 0) hO dX12_blameOf_53 (by decide) ?_
    refine zi_istore (L' := [(0, vR 43 0), (1, vI x1), (2, vI x2), (3, vI x3), (4, vI x4), (5, vI 0)]) hO dX12_blameOf_54 (by decide) rfl rfl ?_
    exact h
  · have h := h.2 c1
    refine zi_aload_n hO dX12_blameOf_39 0 rfl ?_
    refine zi_getR (r' := 58) (i' := 0) hO dX12_blameOf_40 fX12_80 rfl rfl (zI (by decide)) rfl ?_
    refine zi_iload hO dX12_blameOf_43 5 rfl ?_
    refine zi_iconst (v := 0) hO dX12_blameOf_45 (by decide) ?_
    obtain ⟨s1, h⟩ := h
    refine zi_iast hO dX12_blameOf_46 rfl (zI (by decide)) s1 ?_
    refine zi_iinc (v' := (x5 + 1)) (L' := [(0, vR 43 0), (1, vI x1), (2, vI x2), (3, vI x3), (4, vI x4), (5, vI (x5 + 1))]) hO dX12_blameOf_47 5 rfl rfl (by decide) rfl rfl ?_
    refine zi_goto (tgt := 33) hO dX12_blameOf_50 (by decide) ?_
    exact h
theorem rX12_blameOf_56 {x : zX} {w : zWd} {im : zMem} {lv : Int64} {P : Int32 → zMem → Int64 → Prop} {x1 : Int32} {x2 : Int32} {x3 : Int32} {x4 : Int32} {x5 : Int32} (hO : zOK x w zyX12_blameOf 5) (hR : zRetI x w zyX12_blameOf P) (hN : zN x 126 126)
 (h : (((im 43 0 10) ≤ x5 → (∃ P1 : Int32 → zMem → Int64 → Prop, zSpecI x.2.1 w 3 zyX12_loadOf [vR 43 0, vI (x3 / 48), vI (x3 - x3 / 48 * 48)] im lv P1 ∧ ∀ (v1 : Int32) (im1 : zMem) (lv1 : Int64), P1 v1 im1 lv1 → (∃ P2 : zMem → Int64 → Prop, zSpecV x.2.1 w 2 zyX12_give [vR 43 0, vI x4, vI v1] im1 lv1 P2 ∧ ∀ (im2 : zMem) (lv2 : Int64), P2 im2 lv2 → (vp_in x1 4 ∧ zW x w 4 [(0, vR 43 0), (1, vI x1), (2, vI (x2 + (im2 59 0 (Int32.toNatClampNeg x1)))), (3, vI (x3 + 1))] [] im2 lv2)))) ∧
 (¬ ((im 43 0 10) ≤ x5) → (vp_in (5 * x5) 60 ∧ (vp_in (im 50 0 (Int32.toNatClampNeg (5 * x5))) 4 ∧ (vp_in x5 12 ∧ (∃ P7 : Int32 → zMem → Int64 → Prop, zSpecI x.2.1 w 2 zyX12_roomBy [vR 43 0, vI x5, vI (im 53 0 (Int32.toNatClampNeg x5)), vI (im 54 0 (Int32.toNatClampNeg x5)), vI (x3 - x3 / 48 * 48)] im lv P7 ∧ ∀ (v7 : Int32) (im7 : zMem) (lv7 : Int64), P7 v7 im7 lv7 → ((¬ (v7 = (x3 / 48)) → zW x w 56 [(0, vR 43 0), (1, vI x1), (2, vI x2), (3, vI x3), (4, vI x4), (5, vI (x5 + 1))] [] (zwr im7 58 0 (Int32.toNatClampNeg (im 50 0 (Int32.toNatClampNeg (5 * x5)))) ((im 58 0 (Int32.toNatClampNeg (im 50 0 (Int32.toNatClampNeg (5 * x5))))) + 0)) lv7) ∧
 (v7 = (x3 / 48) → (vp_in ((5 * x5) + 1) 60 ∧ zW x w 56 [(0, vR 43 0), (1, vI x1), (2, vI x2), (3, vI x3), (4, vI x4), (5, vI (x5 + 1))] [] (zwr im7 58 0 (Int32.toNatClampNeg (im 50 0 (Int32.toNatClampNeg (5 * x5)))) ((im 58 0 (Int32.toNatClampNeg (im 50 0 (Int32.toNatClampNeg (5 * x5))))) + (im7 50 0 (Int32.toNatClampNeg ((5 * x5) + 1))))) lv7)))))))))) :
 zW x w 56 [(0, vR 43 0), (1, vI x1), (2, vI x2), (3, vI x3), (4, vI x4), (5, vI x5)] [] im lv := by
  refine zi_iload hO dX12_blameOf_56 5 rfl ?_
  refine zi_aload_n hO dX12_blameOf_58 0 rfl ?_
  refine zi_getI hO dX12_blameOf_59 fX12_138 rfl rfl (zI (by decide)) ?_
  refine zi_icmp_ge (tgt := 134) hO dX12_blameOf_62 (by decide) (fun c1 => ?_) (fun c1 => ?_)
  · have h := h.1 c1
    refine zi_aload_n hO dX12_blameOf_134 0 rfl ?_
    refine zi_iload hO dX12_blameOf_135 4 rfl ?_
    refine zi_aload_n hO dX12_blameOf_137 0 rfl ?_
    refine zi_iload_n hO dX12_blameOf_138 3 rfl ?_
    refine zi_bipush (v := 48) hO dX12_blameOf_139 (by decide) ?_
    refine zi_idiv hO dX12_blameOf_141 (by decide) ?_
    refine zi_iload_n hO dX12_blameOf_142 3 rfl ?_
    refine zi_bipush (v := 48) hO dX12_blameOf_143 (by decide) ?_
    refine zi_irem hO dX12_blameOf_145 (by decide) ?_
    obtain ⟨P1, hM1, h⟩ := h
    refine zc_VI (as := [vI (x3 / 48), vI (x3 - x3 / 48 * 48)]) hO hN dX12_blameOf_146 kX12_244 (by decide) rfl (zI (by decide)) rfl rfl (Nat.le_of_ble_eq_true rfl) rfl rfl hM1 (fun v1 im1 lv1 hp1 => ?_)
    replace h := h v1 im1 lv1 hp1
    obtain ⟨P2, hM2, h⟩ := h
    refine zc_VV (as := [vI x4, vI v1]) hO hN dX12_blameOf_149 kX12_256 (by decide) rfl (zI (by decide)) rfl rfl (Nat.le_of_ble_eq_true rfl) rfl rfl hM2 (fun im2 lv2 hp2 => ?_)
    replace h := h im2 lv2 hp2
    refine zi_iload_n hO dX12_blameOf_152 2 rfl ?_
    refine zi_aload_n hO dX12_blameOf_153 0 rfl ?_
    refine zi_getR (r' := 59) (i' := 0) hO dX12_blameOf_154 fX12_83 rfl rfl (zI (by decide)) rfl ?_
    refine zi_iload_n hO dX12_blameOf_157 1 rfl ?_
    obtain ⟨s3, h⟩ := h
    refine zi_iald hO dX12_blameOf_158 rfl (zI (by decide)) s3 ?_
    refine zi_iadd hO dX12_blameOf_159 ?_
    refine zi_istore_n (L' := [(0, vR 43 0), (1, vI x1), (2, vI (x2 + (im2 59 0 (Int32.toNatClampNeg x1)))), (3, vI x3), (4, vI x4), (5, vI x5)]) hO dX12_blameOf_160 (by decide) rfl rfl ?_
    refine zi_iinc (v' := (x3 + 1)) (L' := [(0, vR 43 0), (1, vI x1), (2, vI (x2 + (im2 59 0 (Int32.toNatClampNeg x1)))), (3, vI (x3 + 1)), (4, vI x4), (5, vI x5)]) hO dX12_blameOf_161 3 rfl rfl (by decide) rfl rfl ?_
    refine zi_goto (tgt := 4) hO dX12_blameOf_164 (by decide) ?_
    refine zi_pick (L' := [(0, vR 43 0), (1, vI x1), (2, vI (x2 + (im2 59 0 (Int32.toNatClampNeg x1)))), (3, vI (x3 + 1))]) [0, 1, 2, 3] rfl ?_
    exact h
  · have h := h.2 c1
    refine zi_aload_n hO dX12_blameOf_65 0 rfl ?_
    refine zi_getR (r' := 58) (i' := 0) hO dX12_blameOf_66 fX12_80 rfl rfl (zI (by decide)) rfl ?_
    refine zi_aload_n hO dX12_blameOf_69 0 rfl ?_
    refine zi_getR (r' := 50) (i' := 0) hO dX12_blameOf_70 fX12_56 rfl rfl (zI (by decide)) rfl ?_
    refine zi_iconst (v := 5) hO dX12_blameOf_73 (by decide) ?_
    refine zi_iload hO dX12_blameOf_74 5 rfl ?_
    refine zi_imul hO dX12_blameOf_76 ?_
    obtain ⟨s4, h⟩ := h
    refine zi_iald hO dX12_blameOf_77 rfl (zI (by decide)) s4 ?_
    refine zi_dup2 hO dX12_blameOf_78 rfl rfl ?_
    obtain ⟨s5, h⟩ := h
    refine zi_iald hO dX12_blameOf_79 rfl (zI (by decide)) s5 ?_
    refine zi_aload_n hO dX12_blameOf_80 0 rfl ?_
    refine zi_iload hO dX12_blameOf_81 5 rfl ?_
    refine zi_aload_n hO dX12_blameOf_83 0 rfl ?_
    refine zi_getR (r' := 53) (i' := 0) hO dX12_blameOf_84 fX12_65 rfl rfl (zI (by decide)) rfl ?_
    refine zi_iload hO dX12_blameOf_87 5 rfl ?_
    obtain ⟨s6, h⟩ := h
    refine zi_iald hO dX12_blameOf_89 rfl (zI (by decide)) s6 ?_
    refine zi_aload_n hO dX12_blameOf_90 0 rfl ?_
    refine zi_getR (r' := 54) (i' := 0) hO dX12_blameOf_91 fX12_68 rfl rfl (zI (by decide)) rfl ?_
    refine zi_iload hO dX12_blameOf_94 5 rfl ?_
    refine zi_iald hO dX12_blameOf_96 rfl (zI (by decide)) s6 ?_
    refine zi_iload_n hO dX12_blameOf_97 3 rfl ?_
    refine zi_bipush (v := 48) hO dX12_blameOf_98 (by decide) ?_
    refine zi_irem hO dX12_blameOf_100 (by decide) ?_
    obtain ⟨P7, hM7, h⟩ := h
    refine zc_VI (as := [vI x5, vI (im 53 0 (Int32.toNatClampNeg x5)), vI (im 54 0 (Int32.toNatClampNeg x5)), vI (x3 - x3 / 48 * 48)]) hO hN dX12_blameOf_101 kX12_241 (by decide) rfl (zI (by decide)) rfl rfl (Nat.le_of_ble_eq_true rfl) rfl rfl hM7 (fun v7 im7 lv7 hp7 => ?_)
    replace h := h v7 im7 lv7 hp7
    refine zi_iload_n hO dX12_blameOf_104 3 rfl ?_
    refine zi_bipush (v := 48) hO dX12_blameOf_105 (by decide) ?_
    refine zi_idiv hO dX12_blameOf_107 (by decide) ?_
    refine zi_icmp_ne (tgt := 125) hO dX12_blameOf_108 (by decide) (fun c2 => ?_) (fun c2 => ?_)
    · have h := h.1 c2
      refine zi_iconst (v := 0) hO dX12_blameOf_125 (by decide) ?_
      refine zi_iadd hO dX12_blameOf_126 ?_
      refine zi_iast hO dX12_blameOf_127 rfl (zI (by decide)) s5 ?_
      refine zi_iinc (v' := (x5 + 1)) (L' := [(0, vR 43 0), (1, vI x1), (2, vI x2), (3, vI x3), (4, vI x4), (5, vI (x5 + 1))]) hO dX12_blameOf_128 5 rfl rfl (by decide) rfl rfl ?_
      refine zi_goto (tgt := 56) hO dX12_blameOf_131 (by decide) ?_
      exact h
    · have h := h.2 c2
      refine zi_aload_n hO dX12_blameOf_111 0 rfl ?_
      refine zi_getR (r' := 50) (i' := 0) hO dX12_blameOf_112 fX12_56 rfl rfl (zI (by decide)) rfl ?_
      refine zi_iconst (v := 5) hO dX12_blameOf_115 (by decide) ?_
      refine zi_iload hO dX12_blameOf_116 5 rfl ?_
      refine zi_imul hO dX12_blameOf_118 ?_
      refine zi_iconst (v := 1) hO dX12_blameOf_119 (by decide) ?_
      refine zi_iadd hO dX12_blameOf_120 ?_
      obtain ⟨s8, h⟩ := h
      refine zi_iald hO dX12_blameOf_121 rfl (zI (by decide)) s8 ?_
      refine zi_goto (tgt := 126) hO dX12_blameOf_122 (by decide) ?_
      refine zi_iadd hO dX12_blameOf_126 ?_
      refine zi_iast hO dX12_blameOf_127 rfl (zI (by decide)) s5 ?_
      refine zi_iinc (v' := (x5 + 1)) (L' := [(0, vR 43 0), (1, vI x1), (2, vI x2), (3, vI x3), (4, vI x4), (5, vI (x5 + 1))]) hO dX12_blameOf_128 5 rfl rfl (by decide) rfl rfl ?_
      refine zi_goto (tgt := 56) hO dX12_blameOf_131 (by decide) ?_
      exact h
theorem rX12_airline_0 {x : zX} {w : zWd} {im : zMem} {lv : Int64} {P : Int32 → zMem → Int64 → Prop} {x1 : Int32} {x2 : Int32} (hO : zOK x w zyX12_airline 6) (hR : zRetI x w zyX12_airline P) (hN : zN x 126 126)
 (h : ((¬ (0 ≤ x1 ∧ x1 ≤ 3) → P (-1000001) (zwr im 43 0 0 0) lv) ∧
 (0 ≤ x1 ∧ x1 ≤ 3 → ((0 ≤ x2 ∧ x2 ≤ 4 → ((¬ (x2 = 2) → zW x w 53 [(0, vR 43 0), (1, vI x1), (2, vI x2), (3, vI 0), (4, vI 0)] [] (zwr im 43 0 0 0) lv) ∧
 (x2 = 2 → (∃ P3 : zMem → Int64 → Prop, zSpecV x.2.1 w 3 zyX12_shares [vR 43 0] (zwr im 43 0 0 0) lv P3 ∧ ∀ (im3 : zMem) (lv3 : Int64), P3 im3 lv3 → (vp_in x1 4 ∧ P (im3 59 0 (Int32.toNatClampNeg x1)) im3 lv3))))) ∧
 (¬ (0 ≤ x2 ∧ x2 ≤ 4) → P (-1000001) (zwr im 43 0 0 0) lv))))) :
 zW x w 0 [(0, vR 43 0), (1, vI x1), (2, vI x2)] [] im lv := by
  refine zi_aload_n hO dX12_airline_0 0 rfl ?_
  refine zi_iconst (v := 0) hO dX12_airline_1 (by decide) ?_
  refine zi_putI hO dX12_airline_2 gX12_1 rfl rfl (zI (by decide)) ?_
  refine zi_iload_n hO dX12_airline_5 1 rfl ?_
  refine zi_i2l hO dX12_airline_6 ?_
  refine zi_lconst (v := 0) hO dX12_airline_7 (by decide) ?_
  refine zi_ldc2 (v := 3) hO dX12_airline_8 nX12_132 ?_
  refine zc_SI (as := [vL (Int32.toInt64 x1), vL (0 : Int64), vL (3 : Int64)]) hO hN dX12_airline_11 kX12_13 (by decide) rfl (Nat.le_of_ble_eq_true rfl) rfl rfl (C_X12_in _ _ _ _ (a := x1) (b := 0) (c := 3) rfl (by decide) (by decide)) (fun v1 im1 lv1 hp1 => ?_)
  rw [hp1.1, hp1.2.1, hp1.2.2]
  refine zi_if_eq (tgt := 29) hO dX12_airline_14 (by decide) (fun c1 => ?_) (fun c1 => ?_)
  · have h := h.1 (vB_0.mp c1)
    refine zi_ldc (v := (-1000001)) hO dX12_airline_29 nX12_23 ?_
    exact zr_I hO hR rfl dX12_airline_31 h
  · have h := h.2 (vB_1.mp (vB_01.resolve_left c1))
    refine zi_iload_n hO dX12_airline_17 2 rfl ?_
    refine zi_i2l hO dX12_airline_18 ?_
    refine zi_lconst (v := 0) hO dX12_airline_19 (by decide) ?_
    refine zi_ldc2 (v := 4) hO dX12_airline_20 nX12_239 ?_
    refine zc_SI (as := [vL (Int32.toInt64 x2), vL (0 : Int64), vL (4 : Int64)]) hO hN dX12_airline_23 kX12_13 (by decide) rfl (Nat.le_of_ble_eq_true rfl) rfl rfl (C_X12_in _ _ _ _ (a := x2) (b := 0) (c := 4) rfl (by decide) (by decide)) (fun v2 im2 lv2 hp2 => ?_)
    rw [hp2.1, hp2.2.1, hp2.2.2]
    refine zi_if_ne (tgt := 32) hO dX12_airline_26 (by decide) (fun c2 => ?_) (fun c2 => ?_)
    · have h := h.1 (vB_1.mp (vB_01.resolve_left c2))
      refine zi_iload_n hO dX12_airline_32 2 rfl ?_
      refine zi_iconst (v := 2) hO dX12_airline_33 (by decide) ?_
      refine zi_icmp_ne (tgt := 48) hO dX12_airline_34 (by decide) (fun c3 => ?_) (fun c3 => ?_)
      · have h := h.1 c3
        refine zi_iconst (v := 0) hO dX12_airline_48 (by decide) ?_
        refine zi_istore_n (L' := [(0, vR 43 0), (1, vI x1), (2, vI x2), (3, vI 0)]) hO dX12_airline_49 (by decide) rfl rfl ?_
        refine zi_iconst (v := 0) hO dX12_airline_50 (by decide) ?_
        refine zi_istore (L' := [(0, vR 43 0), (1, vI x1), (2, vI x2), (3, vI 0), (4, vI 0)]) hO dX12_airline_51 (by decide) rfl rfl ?_
        exact h
      · have h := h.2 c3
        refine zi_aload_n hO dX12_airline_37 0 rfl ?_
        obtain ⟨P3, hM3, h⟩ := h
        refine zc_VV (as := []) hO hN dX12_airline_38 kX12_266 (by decide) rfl (zI (by decide)) rfl rfl (Nat.le_of_ble_eq_true rfl) rfl rfl hM3 (fun im3 lv3 hp3 => ?_)
        replace h := h im3 lv3 hp3
        refine zi_aload_n hO dX12_airline_41 0 rfl ?_
        refine zi_getR (r' := 59) (i' := 0) hO dX12_airline_42 fX12_83 rfl rfl (zI (by decide)) rfl ?_
        refine zi_iload_n hO dX12_airline_45 1 rfl ?_
        obtain ⟨s4, h⟩ := h
        refine zi_iald hO dX12_airline_46 rfl (zI (by decide)) s4 ?_
        exact zr_I hO hR rfl dX12_airline_47 h
    · have h := h.2 (vB_0.mp c2)
      refine zi_ldc (v := (-1000001)) hO dX12_airline_29 nX12_23 ?_
      exact zr_I hO hR rfl dX12_airline_31 h
theorem rX12_airline_53 {x : zX} {w : zWd} {im : zMem} {lv : Int64} {P : Int32 → zMem → Int64 → Prop} {x1 : Int32} {x2 : Int32} {x3 : Int32} {x4 : Int32} (hO : zOK x w zyX12_airline 6) (hR : zRetI x w zyX12_airline P) (hN : zN x 126 126)
 (h : (((im 43 0 10) ≤ x4 → ((¬ (x2 = 0) → ((¬ (x2 = 1) → ((¬ (x2 = 3) → P x3 im lv) ∧
 (x2 = 3 → (∃ P1 : Int32 → zMem → Int64 → Prop, zSpecI x.2.1 w 5 zyX12_blameOf [vR 43 0, vI x1] im lv P1 ∧ ∀ (v1 : Int32) (im1 : zMem) (lv1 : Int64), P1 v1 im1 lv1 → P v1 im1 lv1)))) ∧
 (x2 = 1 → (∃ P2 : Int32 → zMem → Int64 → Prop, zSpecI x.2.1 w 2 zyX12_delaysOf [vR 43 0, vI x1] im lv P2 ∧ ∀ (v2 : Int32) (im2 : zMem) (lv2 : Int64), P2 v2 im2 lv2 → P v2 im2 lv2)))) ∧
 (x2 = 0 → (∃ P3 : Int32 → zMem → Int64 → Prop, zSpecI x.2.1 w 2 zyX12_flightsOf [vR 43 0, vI x1] im lv P3 ∧ ∀ (v3 : Int32) (im3 : zMem) (lv3 : Int64), P3 v3 im3 lv3 → P v3 im3 lv3)))) ∧
 (¬ ((im 43 0 10) ≤ x4) → (vp_in (5 * x4) 60 ∧ ((¬ ((im 50 0 (Int32.toNatClampNeg (5 * x4))) = x1) → zW x w 53 [(0, vR 43 0), (1, vI x1), (2, vI x2), (3, vI (x3 + 0)), (4, vI (x4 + 1))] [] im lv) ∧
 ((im 50 0 (Int32.toNatClampNeg (5 * x4))) = x1 → (vp_in x4 12 ∧ (vp_in ((5 * x4) + 3) 60 ∧ zW x w 53 [(0, vR 43 0), (1, vI x1), (2, vI x2), (3, vI (x3 + (((im 50 0 (Int32.toNatClampNeg ((5 * x4) + 3))) * (im 54 0 (Int32.toNatClampNeg x4))) + (10 * (im 53 0 (Int32.toNatClampNeg x4)))))), (4, vI (x4 + 1))] [] im lv)))))))) :
 zW x w 53 [(0, vR 43 0), (1, vI x1), (2, vI x2), (3, vI x3), (4, vI x4)] [] im lv := by
  refine zi_iload hO dX12_airline_53 4 rfl ?_
  refine zi_aload_n hO dX12_airline_55 0 rfl ?_
  refine zi_getI hO dX12_airline_56 fX12_138 rfl rfl (zI (by decide)) ?_
  refine zi_icmp_ge (tgt := 94) hO dX12_airline_59 (by decide) (fun c1 => ?_) (fun c1 => ?_)
  · have h := h.1 c1
    refine zi_iload_n hO dX12_airline_94 2 rfl ?_
    refine zi_if_ne (tgt := 106) hO dX12_airline_95 (by decide) (fun c2 => ?_) (fun c2 => ?_)
    · have h := h.1 c2
      refine zi_iload_n hO dX12_airline_106 2 rfl ?_
      refine zi_iconst (v := 1) hO dX12_airline_107 (by decide) ?_
      refine zi_icmp_ne (tgt := 119) hO dX12_airline_108 (by decide) (fun c3 => ?_) (fun c3 => ?_)
      · have h := h.1 c3
        refine zi_iload_n hO dX12_airline_119 2 rfl ?_
        refine zi_iconst (v := 3) hO dX12_airline_120 (by decide) ?_
        refine zi_icmp_ne (tgt := 132) hO dX12_airline_121 (by decide) (fun c4 => ?_) (fun c4 => ?_)
        · have h := h.1 c4
          refine zi_iload_n hO dX12_airline_132 3 rfl ?_
          exact zr_I hO hR rfl dX12_airline_133 h
        · have h := h.2 c4
          refine zi_aload_n hO dX12_airline_124 0 rfl ?_
          refine zi_iload_n hO dX12_airline_125 1 rfl ?_
          obtain ⟨P1, hM1, h⟩ := h
          refine zc_VI (as := [vI x1]) hO hN dX12_airline_126 kX12_292 (by decide) rfl (zI (by decide)) rfl rfl (Nat.le_of_ble_eq_true rfl) rfl rfl hM1 (fun v1 im1 lv1 hp1 => ?_)
          replace h := h v1 im1 lv1 hp1
          refine zi_goto (tgt := 133) hO dX12_airline_129 (by decide) ?_
          exact zr_I hO hR rfl dX12_airline_133 h
      · have h := h.2 c3
        refine zi_aload_n hO dX12_airline_111 0 rfl ?_
        refine zi_iload_n hO dX12_airline_112 1 rfl ?_
        obtain ⟨P2, hM2, h⟩ := h
        refine zc_VI (as := [vI x1]) hO hN dX12_airline_113 kX12_253 (by decide) rfl (zI (by decide)) rfl rfl (Nat.le_of_ble_eq_true rfl) rfl rfl hM2 (fun v2 im2 lv2 hp2 => ?_)
        replace h := h v2 im2 lv2 hp2
        refine zi_goto (tgt := 133) hO dX12_airline_116 (by decide) ?_
        exact zr_I hO hR rfl dX12_airline_133 h
    · have h := h.2 c2
      refine zi_aload_n hO dX12_airline_98 0 rfl ?_
      refine zi_iload_n hO dX12_airline_99 1 rfl ?_
      obtain ⟨P3, hM3, h⟩ := h
      refine zc_VI (as := [vI x1]) hO hN dX12_airline_100 kX12_250 (by decide) rfl (zI (by decide)) rfl rfl (Nat.le_of_ble_eq_true rfl) rfl rfl hM3 (fun v3 im3 lv3 hp3 => ?_)
      replace h := h v3 im3 lv3 hp3
      refine zi_goto (tgt := 133) hO dX12_airline_103 (by decide) ?_
      exact zr_I hO hR rfl dX12_airline_133 h
  · have h := h.2 c1
    refine zi_iload_n hO dX12_airline_62 3 rfl ?_
    refine zi_aload_n hO dX12_airline_63 0 rfl ?_
    refine zi_getR (r' := 50) (i' := 0) hO dX12_airline_64 fX12_56 rfl rfl (zI (by decide)) rfl ?_
    refine zi_iconst (v := 5) hO dX12_airline_67 (by decide) ?_
    refine zi_iload hO dX12_airline_68 4 rfl ?_
    refine zi_imul hO dX12_airline_70 ?_
    obtain ⟨s4, h⟩ := h
    refine zi_iald hO dX12_airline_71 rfl (zI (by decide)) s4 ?_
    refine zi_iload_n hO dX12_airline_72 1 rfl ?_
    refine zi_icmp_ne (tgt := 85) hO dX12_airline_73 (by decide) (fun c5 => ?_) (fun c5 => ?_)
    · have h := h.1 c5
      refine zi_iconst (v := 0) hO dX12_airline_85 (by decide) ?_
      refine zi_iadd hO dX12_airline_86 ?_
      refine zi_istore_n (L' := [(0, vR 43 0), (1, vI x1), (2, vI x2), (3, vI (x3 + 0)), (4, vI x4)]) hO dX12_airline_87 (by decide) rfl rfl ?_
      refine zi_iinc (v' := (x4 + 1)) (L' := [(0, vR 43 0), (1, vI x1), (2, vI x2), (3, vI (x3 + 0)), (4, vI (x4 + 1))]) hO dX12_airline_88 4 rfl rfl (by decide) rfl rfl ?_
      refine zi_goto (tgt := 53) hO dX12_airline_91 (by decide) ?_
      exact h
    · have h := h.2 c5
      refine zi_aload_n hO dX12_airline_76 0 rfl ?_
      refine zi_iload hO dX12_airline_77 4 rfl ?_
      obtain ⟨s6, h⟩ := h
      obtain ⟨s7, h⟩ := h
      refine zc_VI (as := [vI x4]) hO hN dX12_airline_79 kX12_236 (by decide) rfl (zI (by decide)) rfl rfl (Nat.le_of_ble_eq_true rfl) rfl rfl (C_X12_costOf _ _ _ _ s6 s7) (fun v5 im5 lv5 hp5 => ?_)
      rw [hp5.1, hp5.2.1, hp5.2.2]
      refine zi_goto (tgt := 86) hO dX12_airline_82 (by decide) ?_
      refine zi_iadd hO dX12_airline_86 ?_
      refine zi_istore_n (L' := [(0, vR 43 0), (1, vI x1), (2, vI x2), (3, vI (x3 + (((im 50 0 (Int32.toNatClampNeg ((5 * x4) + 3))) * (im 54 0 (Int32.toNatClampNeg x4))) + (10 * (im 53 0 (Int32.toNatClampNeg x4)))))), (4, vI x4)]) hO dX12_airline_87 (by decide) rfl rfl ?_
      refine zi_iinc (v' := (x4 + 1)) (L' := [(0, vR 43 0), (1, vI x1), (2, vI x2), (3, vI (x3 + (((im 50 0 (Int32.toNatClampNeg ((5 * x4) + 3))) * (im 54 0 (Int32.toNatClampNeg x4))) + (10 * (im 53 0 (Int32.toNatClampNeg x4)))))), (4, vI (x4 + 1))]) hO dX12_airline_88 4 rfl rfl (by decide) rfl rfl ?_
      refine zi_goto (tgt := 53) hO dX12_airline_91 (by decide) ?_
      exact h
theorem rX12_kind_0 {x : zX} {w : zWd} {im : zMem} {lv : Int64} {P : Int32 → zMem → Int64 → Prop} {x1 : Int32} (hO : zOK x w zyX12_kind 6) (hR : zRetI x w zyX12_kind P) (hN : zN x 126 126)
 (h : ((¬ (0 ≤ x1 ∧ x1 ≤ ((im 43 0 10) - 1)) → P (-1000001) (zwr im 43 0 0 0) lv) ∧
 (0 ≤ x1 ∧ x1 ≤ ((im 43 0 10) - 1) → (∃ P2 : Int32 → zMem → Int64 → Prop, zSpecI x.2.1 w 5 zyX12_kindOf [vR 43 0, vI x1] (zwr im 43 0 0 0) lv P2 ∧ ∀ (v2 : Int32) (im2 : zMem) (lv2 : Int64), P2 v2 im2 lv2 → P v2 im2 lv2)))) :
 zW x w 0 [(0, vR 43 0), (1, vI x1)] [] im lv := by
  refine zi_aload_n hO dX12_kind_0 0 rfl ?_
  refine zi_iconst (v := 0) hO dX12_kind_1 (by decide) ?_
  refine zi_putI hO dX12_kind_2 gX12_1 rfl rfl (zI (by decide)) ?_
  refine zi_aload_n hO dX12_kind_5 0 rfl ?_
  refine zi_iload_n hO dX12_kind_6 1 rfl ?_
  refine zc_VI (as := [vI x1]) hO hN dX12_kind_7 kX12_233 (by decide) rfl (zI (by decide)) rfl rfl (Nat.le_of_ble_eq_true rfl) rfl rfl (C_X12_isFlight _ _ _ _) (fun v1 im1 lv1 hp1 => ?_)
  rw [hp1.1, hp1.2.1, hp1.2.2]
  refine zi_if_eq (tgt := 21) hO dX12_kind_10 (by decide) (fun c1 => ?_) (fun c1 => ?_)
  · have h := h.1 (vB_0.mp c1)
    refine zi_ldc (v := (-1000001)) hO dX12_kind_21 nX12_23 ?_
    exact zr_I hO hR rfl dX12_kind_23 h
  · have h := h.2 (vB_1.mp (vB_01.resolve_left c1))
    refine zi_aload_n hO dX12_kind_13 0 rfl ?_
    refine zi_iload_n hO dX12_kind_14 1 rfl ?_
    obtain ⟨P2, hM2, h⟩ := h
    refine zc_VI (as := [vI x1]) hO hN dX12_kind_15 kX12_295 (by decide) rfl (zI (by decide)) rfl rfl (Nat.le_of_ble_eq_true rfl) rfl rfl hM2 (fun v2 im2 lv2 hp2 => ?_)
    replace h := h v2 im2 lv2 hp2
    refine zi_goto (tgt := 23) hO dX12_kind_18 (by decide) ?_
    exact zr_I hO hR rfl dX12_kind_23 h
theorem rX12_as_0 {x : zX} {w : zWd} {im : zMem} {lv : Int64} {P : Int32 → zMem → Int64 → Prop} {x1 : Int32} {x2 : Int32} (hO : zOK x w zyX12_as 6) (hR : zRetI x w zyX12_as P) (hN : zN x 126 126)
 (h : ((¬ (0 ≤ x1 ∧ x1 ≤ ((im 43 0 10) - 1)) → P (-1000001) (zwr im 43 0 0 0) lv) ∧
 (0 ≤ x1 ∧ x1 ≤ ((im 43 0 10) - 1) → ((0 ≤ x2 ∧ x2 ≤ 3 → (∃ P3 : Int32 → zMem → Int64 → Prop, zSpecI x.2.1 w 5 zyX12_kindOf [vR 43 0, vI x1] (zwr (zwr im 43 0 0 0) 43 0 1 0) lv P3 ∧ ∀ (v3 : Int32) (im3 : zMem) (lv3 : Int64), P3 v3 im3 lv3 → ((¬ ((x2 : Int32) = 0 ∨ v3 = x2 ∨ ((x2 : Int32) = 1 ∧ v3 = 2)) → P ((-1000010) - 3) (zwr im3 43 0 1 3) lv3) ∧
 ((x2 : Int32) = 0 ∨ v3 = x2 ∨ ((x2 : Int32) = 1 ∧ v3 = 2) → (vp_in ((5 * x1) + 1) 60 ∧ P (im3 50 0 (Int32.toNatClampNeg ((5 * x1) + 1))) im3 lv3))))) ∧
 (¬ (0 ≤ x2 ∧ x2 ≤ 3) → P (-1000001) (zwr im 43 0 0 0) lv))))) :
 zW x w 0 [(0, vR 43 0), (1, vI x1), (2, vI x2)] [] im lv := by
  refine zi_aload_n hO dX12_as_0 0 rfl ?_
  refine zi_iconst (v := 0) hO dX12_as_1 (by decide) ?_
  refine zi_putI hO dX12_as_2 gX12_1 rfl rfl (zI (by decide)) ?_
  refine zi_aload_n hO dX12_as_5 0 rfl ?_
  refine zi_iload_n hO dX12_as_6 1 rfl ?_
  refine zc_VI (as := [vI x1]) hO hN dX12_as_7 kX12_233 (by decide) rfl (zI (by decide)) rfl rfl (Nat.le_of_ble_eq_true rfl) rfl rfl (C_X12_isFlight _ _ _ _) (fun v1 im1 lv1 hp1 => ?_)
  rw [hp1.1, hp1.2.1, hp1.2.2]
  refine zi_if_eq (tgt := 25) hO dX12_as_10 (by decide) (fun c1 => ?_) (fun c1 => ?_)
  · have h := h.1 (vB_0.mp c1)
    refine zi_ldc (v := (-1000001)) hO dX12_as_25 nX12_23 ?_
    exact zr_I hO hR rfl dX12_as_27 h
  · have h := h.2 (vB_1.mp (vB_01.resolve_left c1))
    refine zi_iload_n hO dX12_as_13 2 rfl ?_
    refine zi_i2l hO dX12_as_14 ?_
    refine zi_lconst (v := 0) hO dX12_as_15 (by decide) ?_
    refine zi_ldc2 (v := 3) hO dX12_as_16 nX12_132 ?_
    refine zc_SI (as := [vL (Int32.toInt64 x2), vL (0 : Int64), vL (3 : Int64)]) hO hN dX12_as_19 kX12_13 (by decide) rfl (Nat.le_of_ble_eq_true rfl) rfl rfl (C_X12_in _ _ _ _ (a := x2) (b := 0) (c := 3) rfl (by decide) (by decide)) (fun v2 im2 lv2 hp2 => ?_)
    rw [hp2.1, hp2.2.1, hp2.2.2]
    refine zi_if_ne (tgt := 28) hO dX12_as_22 (by decide) (fun c2 => ?_) (fun c2 => ?_)
    · have h := h.1 (vB_1.mp (vB_01.resolve_left c2))
      refine zi_aload_n hO dX12_as_28 0 rfl ?_
      refine zi_iconst (v := 0) hO dX12_as_29 (by decide) ?_
      refine zi_putI hO dX12_as_30 gX12_7 rfl rfl (zI (by decide)) ?_
      refine zi_aload_n hO dX12_as_33 0 rfl ?_
      refine zi_iload_n hO dX12_as_34 1 rfl ?_
      obtain ⟨P3, hM3, h⟩ := h
      refine zc_VI (as := [vI x1]) hO hN dX12_as_35 kX12_295 (by decide) rfl (zI (by decide)) rfl rfl (Nat.le_of_ble_eq_true rfl) rfl rfl hM3 (fun v3 im3 lv3 hp3 => ?_)
      replace h := h v3 im3 lv3 hp3
      refine zi_iload_n hO dX12_as_38 2 rfl ?_
      refine zc_SI (as := [vI v3, vI x2]) hO hN dX12_as_39 kX12_298 (by decide) rfl (Nat.le_of_ble_eq_true rfl) rfl rfl (C_X12_isOf _ _ _ _) (fun v4 im4 lv4 hp4 => ?_)
      rw [hp4.1, hp4.2.1, hp4.2.2]
      refine zi_if_eq (tgt := 58) hO dX12_as_42 (by decide) (fun c3 => ?_) (fun c3 => ?_)
      · have h := h.1 (vB_0.mp c3)
        refine zi_aload_n hO dX12_as_58 0 rfl ?_
        refine zi_iconst (v := 3) hO dX12_as_59 (by decide) ?_
        refine zc_VI (as := [vI 3]) hO hN dX12_as_60 kX12_24 (by decide) rfl (zI (by decide)) rfl rfl (Nat.le_of_ble_eq_true rfl) rfl rfl (C_X12_found _ _ _ _) (fun v5 im5 lv5 hp5 => ?_)
        rw [hp5.1, hp5.2.1, hp5.2.2]
        exact zr_I hO hR rfl dX12_as_63 h
      · have h := h.2 (vB_1.mp (vB_01.resolve_left c3))
        refine zi_aload_n hO dX12_as_45 0 rfl ?_
        refine zi_getR (r' := 50) (i' := 0) hO dX12_as_46 fX12_56 rfl rfl (zI (by decide)) rfl ?_
        refine zi_iconst (v := 5) hO dX12_as_49 (by decide) ?_
        refine zi_iload_n hO dX12_as_50 1 rfl ?_
        refine zi_imul hO dX12_as_51 ?_
        refine zi_iconst (v := 1) hO dX12_as_52 (by decide) ?_
        refine zi_iadd hO dX12_as_53 ?_
        obtain ⟨s6, h⟩ := h
        refine zi_iald hO dX12_as_54 rfl (zI (by decide)) s6 ?_
        refine zi_goto (tgt := 63) hO dX12_as_55 (by decide) ?_
        exact zr_I hO hR rfl dX12_as_63 h
    · have h := h.2 (vB_0.mp c2)
      refine zi_ldc (v := (-1000001)) hO dX12_as_25 nX12_23 ?_
      exact zr_I hO hR rfl dX12_as_27 h
theorem rX12_count_0 {x : zX} {w : zWd} {im : zMem} {lv : Int64} {P : Int32 → zMem → Int64 → Prop} {x1 : Int32} (hO : zOK x w zyX12_count 6) (hR : zRetI x w zyX12_count P) (hN : zN x 126 126)
 (h : (x1 < 0 ∨ 7 < x1 → P (-1000001) (zwr im 43 0 0 0) lv) ∧ ((x1 = 0 → zW x w 58 [(0, vR 43 0), (1, vI x1), (2, vI 0), (3, vI 0)] [] (zwr im 43 0 0 0) lv) ∧
 (x1 = 1 → P (im 43 0 10) (zwr im 43 0 0 0) lv) ∧
 (x1 = 2 → P (im 43 0 8) (zwr im 43 0 0 0) lv) ∧
 (x1 = 3 → zW x w 101 [(0, vR 43 0), (1, vI x1), (2, vI 0), (3, vI 0)] [] (zwr im 43 0 0 0) lv) ∧
 (x1 = 4 → zW x w 101 [(0, vR 43 0), (1, vI x1), (2, vI 0), (3, vI 0)] [] (zwr im 43 0 0 0) lv) ∧
 (x1 = 5 → zW x w 101 [(0, vR 43 0), (1, vI x1), (2, vI 0), (3, vI 0)] [] (zwr im 43 0 0 0) lv) ∧
 (x1 = 6 → P (im 43 0 17) (zwr im 43 0 0 0) lv) ∧
 (x1 = 7 → (∃ P1 : Int32 → zMem → Int64 → Prop, zSpecI x.2.1 w 2 zyX12_bits [vI (im 43 0 7)] (zwr im 43 0 0 0) lv P1 ∧ ∀ (v1 : Int32) (im1 : zMem) (lv1 : Int64), P1 v1 im1 lv1 → P v1 im1 lv1)))) :
 zW x w 0 [(0, vR 43 0), (1, vI x1)] [] im lv := by
  refine zi_aload_n hO dX12_count_0 0 rfl ?_
  refine zi_iconst (v := 0) hO dX12_count_1 (by decide) ?_
  refine zi_putI hO dX12_count_2 gX12_1 rfl rfl (zI (by decide)) ?_
  refine zi_iconst (v := 0) hO dX12_count_5 (by decide) ?_
  refine zi_istore_n (L' := [(0, vR 43 0), (1, vI x1), (2, vI 0)]) hO dX12_count_6 (by decide) rfl rfl ?_
  refine zi_iload_n hO dX12_count_7 1 rfl ?_
  by_cases hs0 : Int32.toInt x1 < 0 ∨ 7 < Int32.toInt x1
  · have h := h.1 (zsw_out (by decide) (by decide) hs0)
    refine zi_tableOut (tgt := 152) hO dX12_count_8 hs0 (by decide) ?_
    refine zi_ldc (v := (-1000001)) hO dX12_count_152 nX12_23 ?_
    exact zr_I hO hR rfl dX12_count_154 h
  · have h := h.2
    by_cases hs1 : x1 = 0
    · have h := h.1 hs1
      refine zi_tableIn (off := 48) (tgt := 56) hO dX12_count_8 (zsw_lo hs1 (by decide)) (zsw_hi hs1 (by decide)) (zsw_at hs1 rfl) (by decide) ?_
      refine zi_iconst (v := 0) hO dX12_count_56 (by decide) ?_
      refine zi_istore_n (L' := [(0, vR 43 0), (1, vI x1), (2, vI 0), (3, vI 0)]) hO dX12_count_57 (by decide) rfl rfl ?_
      exact h
    by_cases hs2 : x1 = 1
    · have h := h.2.1 hs2
      refine zi_tableIn (off := 81) (tgt := 89) hO dX12_count_8 (zsw_lo hs2 (by decide)) (zsw_hi hs2 (by decide)) (zsw_at hs2 rfl) (by decide) ?_
      refine zi_aload_n hO dX12_count_89 0 rfl ?_
      refine zi_getI hO dX12_count_90 fX12_138 rfl rfl (zI (by decide)) ?_
      exact zr_I hO hR rfl dX12_count_93 h
    by_cases hs3 : x1 = 2
    · have h := h.2.2.1 hs3
      refine zi_tableIn (off := 86) (tgt := 94) hO dX12_count_8 (zsw_lo hs3 (by decide)) (zsw_hi hs3 (by decide)) (zsw_at hs3 rfl) (by decide) ?_
      refine zi_aload_n hO dX12_count_94 0 rfl ?_
      refine zi_getI hO dX12_count_95 fX12_124 rfl rfl (zI (by decide)) ?_
      exact zr_I hO hR rfl dX12_count_98 h
    by_cases hs4 : x1 = 3
    · have h := h.2.2.2.1 hs4
      refine zi_tableIn (off := 91) (tgt := 99) hO dX12_count_8 (zsw_lo hs4 (by decide)) (zsw_hi hs4 (by decide)) (zsw_at hs4 rfl) (by decide) ?_
      refine zi_iconst (v := 0) hO dX12_count_99 (by decide) ?_
      refine zi_istore_n (L' := [(0, vR 43 0), (1, vI x1), (2, vI 0), (3, vI 0)]) hO dX12_count_100 (by decide) rfl rfl ?_
      exact h
    by_cases hs5 : x1 = 4
    · have h := h.2.2.2.2.1 hs5
      refine zi_tableIn (off := 91) (tgt := 99) hO dX12_count_8 (zsw_lo hs5 (by decide)) (zsw_hi hs5 (by decide)) (zsw_at hs5 rfl) (by decide) ?_
      refine zi_iconst (v := 0) hO dX12_count_99 (by decide) ?_
      refine zi_istore_n (L' := [(0, vR 43 0), (1, vI x1), (2, vI 0), (3, vI 0)]) hO dX12_count_100 (by decide) rfl rfl ?_
      exact h
    by_cases hs6 : x1 = 5
    · have h := h.2.2.2.2.2.1 hs6
      refine zi_tableIn (off := 91) (tgt := 99) hO dX12_count_8 (zsw_lo hs6 (by decide)) (zsw_hi hs6 (by decide)) (zsw_at hs6 rfl) (by decide) ?_
      refine zi_iconst (v := 0) hO dX12_count_99 (by decide) ?_
      refine zi_istore_n (L' := [(0, vR 43 0), (1, vI x1), (2, vI 0), (3, vI 0)]) hO dX12_count_100 (by decide) rfl rfl ?_
      exact h
    by_cases hs7 : x1 = 6
    · have h := h.2.2.2.2.2.2.1 hs7
      refine zi_tableIn (off := 131) (tgt := 139) hO dX12_count_8 (zsw_lo hs7 (by decide)) (zsw_hi hs7 (by decide)) (zsw_at hs7 rfl) (by decide) ?_
      refine zi_aload_n hO dX12_count_139 0 rfl ?_
      refine zi_getI hO dX12_count_140 fX12_146 rfl rfl (zI (by decide)) ?_
      exact zr_I hO hR rfl dX12_count_143 h
    by_cases hs8 : x1 = 7
    · have h := h.2.2.2.2.2.2.2 hs8
      refine zi_tableIn (off := 136) (tgt := 144) hO dX12_count_8 (zsw_lo hs8 (by decide)) (zsw_hi hs8 (by decide)) (zsw_at hs8 rfl) (by decide) ?_
      refine zi_aload_n hO dX12_count_144 0 rfl ?_
      refine zi_getI hO dX12_count_145 fX12_50 rfl rfl (zI (by decide)) ?_
      obtain ⟨P1, hM1, h⟩ := h
      refine zc_SI (as := [vI (im 43 0 7)]) hO hN dX12_count_148 kX12_272 (by decide) rfl (Nat.le_of_ble_eq_true rfl) rfl rfl hM1 (fun v1 im1 lv1 hp1 => ?_)
      replace h := h v1 im1 lv1 hp1
      exact zr_I hO hR rfl dX12_count_151 h
    have e1 := zsw_ne (k := 0) hs1 (by decide)
    have e2 := zsw_ne (k := 1) hs2 (by decide)
    have e3 := zsw_ne (k := 2) hs3 (by decide)
    have e4 := zsw_ne (k := 3) hs4 (by decide)
    have e5 := zsw_ne (k := 4) hs5 (by decide)
    have e6 := zsw_ne (k := 5) hs6 (by decide)
    have e7 := zsw_ne (k := 6) hs7 (by decide)
    have e8 := zsw_ne (k := 7) hs8 (by decide)
    exfalso
    omega
theorem rX12_count_58 {x : zX} {w : zWd} {im : zMem} {lv : Int64} {P : Int32 → zMem → Int64 → Prop} {x1 : Int32} {x2 : Int32} {x3 : Int32} (hO : zOK x w zyX12_count 6) (hR : zRetI x w zyX12_count P) (hN : zN x 126 126)
 (h : ((8 ≤ x3 → P x2 im lv) ∧
 (¬ (8 ≤ x3) → (vp_in x3 8 ∧ (((im 44 0 (Int32.toNatClampNeg x3)) < 0 → zW x w 58 [(0, vR 43 0), (1, vI x1), (2, vI (x2 + 0)), (3, vI (x3 + 1))] [] im lv) ∧
 (¬ ((im 44 0 (Int32.toNatClampNeg x3)) < 0) → zW x w 58 [(0, vR 43 0), (1, vI x1), (2, vI (x2 + 1)), (3, vI (x3 + 1))] [] im lv)))))) :
 zW x w 58 [(0, vR 43 0), (1, vI x1), (2, vI x2), (3, vI x3)] [] im lv := by
  refine zi_iload_n hO dX12_count_58 3 rfl ?_
  refine zi_bipush (v := 8) hO dX12_count_59 (by decide) ?_
  refine zi_icmp_ge (tgt := 87) hO dX12_count_61 (by decide) (fun c1 => ?_) (fun c1 => ?_)
  · have h := h.1 c1
    refine zi_iload_n hO dX12_count_87 2 rfl ?_
    exact zr_I hO hR rfl dX12_count_88 h
  · have h := h.2 c1
    refine zi_iload_n hO dX12_count_64 2 rfl ?_
    refine zi_aload_n hO dX12_count_65 0 rfl ?_
    refine zi_getR (r' := 44) (i' := 0) hO dX12_count_66 fX12_28 rfl rfl (zI (by decide)) rfl ?_
    refine zi_iload_n hO dX12_count_69 3 rfl ?_
    obtain ⟨s1, h⟩ := h
    refine zi_iald hO dX12_count_70 rfl (zI (by decide)) s1 ?_
    refine zi_if_lt (tgt := 78) hO dX12_count_71 (by decide) (fun c2 => ?_) (fun c2 => ?_)
    · have h := h.1 c2
      refine zi_iconst (v := 0) hO dX12_count_78 (by decide) ?_
      refine zi_iadd hO dX12_count_79 ?_
      refine zi_istore_n (L' := [(0, vR 43 0), (1, vI x1), (2, vI (x2 + 0)), (3, vI x3)]) hO dX12_count_80 (by decide) rfl rfl ?_
      refine zi_iinc (v' := (x3 + 1)) (L' := [(0, vR 43 0), (1, vI x1), (2, vI (x2 + 0)), (3, vI (x3 + 1))]) hO dX12_count_81 3 rfl rfl (by decide) rfl rfl ?_
      refine zi_goto (tgt := 58) hO dX12_count_84 (by decide) ?_
      exact h
    · have h := h.2 c2
      refine zi_iconst (v := 1) hO dX12_count_74 (by decide) ?_
      refine zi_goto (tgt := 79) hO dX12_count_75 (by decide) ?_
      refine zi_iadd hO dX12_count_79 ?_
      refine zi_istore_n (L' := [(0, vR 43 0), (1, vI x1), (2, vI (x2 + 1)), (3, vI x3)]) hO dX12_count_80 (by decide) rfl rfl ?_
      refine zi_iinc (v' := (x3 + 1)) (L' := [(0, vR 43 0), (1, vI x1), (2, vI (x2 + 1)), (3, vI (x3 + 1))]) hO dX12_count_81 3 rfl rfl (by decide) rfl rfl ?_
      refine zi_goto (tgt := 58) hO dX12_count_84 (by decide) ?_
      exact h
theorem rX12_count_101 {x : zX} {w : zWd} {im : zMem} {lv : Int64} {P : Int32 → zMem → Int64 → Prop} {x1 : Int32} {x2 : Int32} {x3 : Int32} (hO : zOK x w zyX12_count 6) (hR : zRetI x w zyX12_count P) (hN : zN x 126 126)
 (h : (((im 43 0 10) ≤ x3 → P x2 im lv) ∧
 (¬ ((im 43 0 10) ≤ x3) → (∃ P1 : Int32 → zMem → Int64 → Prop, zSpecI x.2.1 w 5 zyX12_kindOf [vR 43 0, vI x3] im lv P1 ∧ ∀ (v1 : Int32) (im1 : zMem) (lv1 : Int64), P1 v1 im1 lv1 → ((¬ (((x1 - 2) : Int32) = 0 ∨ v1 = (x1 - 2) ∨ (((x1 - 2) : Int32) = 1 ∧ v1 = 2)) → zW x w 101 [(0, vR 43 0), (1, vI x1), (2, vI (x2 + 0)), (3, vI (x3 + 1))] [] im1 lv1) ∧
 (((x1 - 2) : Int32) = 0 ∨ v1 = (x1 - 2) ∨ (((x1 - 2) : Int32) = 1 ∧ v1 = 2) → zW x w 101 [(0, vR 43 0), (1, vI x1), (2, vI (x2 + 1)), (3, vI (x3 + 1))] [] im1 lv1)))))) :
 zW x w 101 [(0, vR 43 0), (1, vI x1), (2, vI x2), (3, vI x3)] [] im lv := by
  refine zi_iload_n hO dX12_count_101 3 rfl ?_
  refine zi_aload_n hO dX12_count_102 0 rfl ?_
  refine zi_getI hO dX12_count_103 fX12_138 rfl rfl (zI (by decide)) ?_
  refine zi_icmp_ge (tgt := 137) hO dX12_count_106 (by decide) (fun c1 => ?_) (fun c1 => ?_)
  · have h := h.1 c1
    refine zi_iload_n hO dX12_count_137 2 rfl ?_
    exact zr_I hO hR rfl dX12_count_138 h
  · have h := h.2 c1
    refine zi_iload_n hO dX12_count_109 2 rfl ?_
    refine zi_aload_n hO dX12_count_110 0 rfl ?_
    refine zi_iload_n hO dX12_count_111 3 rfl ?_
    obtain ⟨P1, hM1, h⟩ := h
    refine zc_VI (as := [vI x3]) hO hN dX12_count_112 kX12_295 (by decide) rfl (zI (by decide)) rfl rfl (Nat.le_of_ble_eq_true rfl) rfl rfl hM1 (fun v1 im1 lv1 hp1 => ?_)
    replace h := h v1 im1 lv1 hp1
    refine zi_iload_n hO dX12_count_115 1 rfl ?_
    refine zi_iconst (v := 2) hO dX12_count_116 (by decide) ?_
    refine zi_isub hO dX12_count_117 ?_
    refine zc_SI (as := [vI v1, vI (x1 - 2)]) hO hN dX12_count_118 kX12_298 (by decide) rfl (Nat.le_of_ble_eq_true rfl) rfl rfl (C_X12_isOf _ _ _ _) (fun v2 im2 lv2 hp2 => ?_)
    rw [hp2.1, hp2.2.1, hp2.2.2]
    refine zi_if_eq (tgt := 128) hO dX12_count_121 (by decide) (fun c2 => ?_) (fun c2 => ?_)
    · have h := h.1 (vB_0.mp c2)
      refine zi_iconst (v := 0) hO dX12_count_128 (by decide) ?_
      refine zi_iadd hO dX12_count_129 ?_
      refine zi_istore_n (L' := [(0, vR 43 0), (1, vI x1), (2, vI (x2 + 0)), (3, vI x3)]) hO dX12_count_130 (by decide) rfl rfl ?_
      refine zi_iinc (v' := (x3 + 1)) (L' := [(0, vR 43 0), (1, vI x1), (2, vI (x2 + 0)), (3, vI (x3 + 1))]) hO dX12_count_131 3 rfl rfl (by decide) rfl rfl ?_
      refine zi_goto (tgt := 101) hO dX12_count_134 (by decide) ?_
      exact h
    · have h := h.2 (vB_1.mp (vB_01.resolve_left c2))
      refine zi_iconst (v := 1) hO dX12_count_124 (by decide) ?_
      refine zi_goto (tgt := 129) hO dX12_count_125 (by decide) ?_
      refine zi_iadd hO dX12_count_129 ?_
      refine zi_istore_n (L' := [(0, vR 43 0), (1, vI x1), (2, vI (x2 + 1)), (3, vI x3)]) hO dX12_count_130 (by decide) rfl rfl ?_
      refine zi_iinc (v' := (x3 + 1)) (L' := [(0, vR 43 0), (1, vI x1), (2, vI (x2 + 1)), (3, vI (x3 + 1))]) hO dX12_count_131 3 rfl rfl (by decide) rfl rfl ?_
      refine zi_goto (tgt := 101) hO dX12_count_134 (by decide) ?_
      exact h
theorem rX12_choose_0 {x : zX} {w : zWd} {im : zMem} {lv : Int64} {P : Int32 → zMem → Int64 → Prop} {x1 : Int32} {x2 : Int32} {x3 : Int32} (hO : zOK x w zyX12_choose 4) (hR : zRetI x w zyX12_choose P) (hN : zN x 126 126)
 (h : ((¬ (0 ≤ x1 ∧ x1 ≤ ((im 43 0 10) - 1)) → P (-1000001) (zwr im 43 0 0 0) lv) ∧
 (0 ≤ x1 ∧ x1 ≤ ((im 43 0 10) - 1) → (vp_in ((5 * x1) + 4) 60 ∧ ((¬ (0 ≤ x2 ∧ x2 ≤ ((im 50 0 (Int32.toNatClampNeg ((5 * x1) + 4))) - 1)) → P (-1000001) (zwr im 43 0 0 0) lv) ∧
 (0 ≤ x2 ∧ x2 ≤ ((im 50 0 (Int32.toNatClampNeg ((5 * x1) + 4))) - 1) → ((0 ≤ x3 ∧ x3 ≤ 4 → (vp_in x1 12 ∧ (vp_in ((5 * x1) + 3) 60 ∧ P (((im 50 0 (Int32.toNatClampNeg ((5 * x1) + 3))) * ((zwr (zwr (zwr im 43 0 0 0) 53 0 (Int32.toNatClampNeg x1) x2) 54 0 (Int32.toNatClampNeg x1) x3) 54 0 (Int32.toNatClampNeg x1))) + (10 * ((zwr (zwr im 43 0 0 0) 53 0 (Int32.toNatClampNeg x1) x2) 53 0 (Int32.toNatClampNeg x1)))) (zwr (zwr (zwr im 43 0 0 0) 53 0 (Int32.toNatClampNeg x1) x2) 54 0 (Int32.toNatClampNeg x1) x3) lv))) ∧
 (¬ (0 ≤ x3 ∧ x3 ≤ 4) → P (-1000001) (zwr im 43 0 0 0) lv)))))))) :
 zW x w 0 [(0, vR 43 0), (1, vI x1), (2, vI x2), (3, vI x3)] [] im lv := by
  refine zi_aload_n hO dX12_choose_0 0 rfl ?_
  refine zi_iconst (v := 0) hO dX12_choose_1 (by decide) ?_
  refine zi_putI hO dX12_choose_2 gX12_1 rfl rfl (zI (by decide)) ?_
  refine zi_aload_n hO dX12_choose_5 0 rfl ?_
  refine zi_iload_n hO dX12_choose_6 1 rfl ?_
  refine zc_VI (as := [vI x1]) hO hN dX12_choose_7 kX12_233 (by decide) rfl (zI (by decide)) rfl rfl (Nat.le_of_ble_eq_true rfl) rfl rfl (C_X12_isFlight _ _ _ _) (fun v1 im1 lv1 hp1 => ?_)
  rw [hp1.1, hp1.2.1, hp1.2.2]
  refine zi_if_eq (tgt := 47) hO dX12_choose_10 (by decide) (fun c1 => ?_) (fun c1 => ?_)
  · have h := h.1 (vB_0.mp c1)
    refine zi_ldc (v := (-1000001)) hO dX12_choose_47 nX12_23 ?_
    exact zr_I hO hR rfl dX12_choose_49 h
  · have h := h.2 (vB_1.mp (vB_01.resolve_left c1))
    refine zi_iload_n hO dX12_choose_13 2 rfl ?_
    refine zi_i2l hO dX12_choose_14 ?_
    refine zi_lconst (v := 0) hO dX12_choose_15 (by decide) ?_
    refine zi_aload_n hO dX12_choose_16 0 rfl ?_
    refine zi_getR (r' := 50) (i' := 0) hO dX12_choose_17 fX12_56 rfl rfl (zI (by decide)) rfl ?_
    refine zi_iconst (v := 5) hO dX12_choose_20 (by decide) ?_
    refine zi_iload_n hO dX12_choose_21 1 rfl ?_
    refine zi_imul hO dX12_choose_22 ?_
    refine zi_iconst (v := 4) hO dX12_choose_23 (by decide) ?_
    refine zi_iadd hO dX12_choose_24 ?_
    obtain ⟨s2, h⟩ := h
    refine zi_iald hO dX12_choose_25 rfl (zI (by decide)) s2 ?_
    refine zi_iconst (v := 1) hO dX12_choose_26 (by decide) ?_
    refine zi_isub hO dX12_choose_27 ?_
    refine zi_i2l hO dX12_choose_28 ?_
    refine zc_SI (as := [vL (Int32.toInt64 x2), vL (0 : Int64), vL (Int32.toInt64 ((im 50 0 (Int32.toNatClampNeg ((5 * x1) + 4))) - 1))]) hO hN dX12_choose_29 kX12_13 (by decide) rfl (Nat.le_of_ble_eq_true rfl) rfl rfl (C_X12_in _ _ _ _ (a := x2) (b := 0) (c := ((im 50 0 (Int32.toNatClampNeg ((5 * x1) + 4))) - 1)) rfl (by decide) rfl) (fun v3 im3 lv3 hp3 => ?_)
    rw [hp3.1, hp3.2.1, hp3.2.2]
    refine zi_if_eq (tgt := 47) hO dX12_choose_32 (by decide) (fun c2 => ?_) (fun c2 => ?_)
    · have h := h.1 (vB_0.mp c2)
      refine zi_ldc (v := (-1000001)) hO dX12_choose_47 nX12_23 ?_
      exact zr_I hO hR rfl dX12_choose_49 h
    · have h := h.2 (vB_1.mp (vB_01.resolve_left c2))
      refine zi_iload_n hO dX12_choose_35 3 rfl ?_
      refine zi_i2l hO dX12_choose_36 ?_
      refine zi_lconst (v := 0) hO dX12_choose_37 (by decide) ?_
      refine zi_ldc2 (v := 4) hO dX12_choose_38 nX12_239 ?_
      refine zc_SI (as := [vL (Int32.toInt64 x3), vL (0 : Int64), vL (4 : Int64)]) hO hN dX12_choose_41 kX12_13 (by decide) rfl (Nat.le_of_ble_eq_true rfl) rfl rfl (C_X12_in _ _ _ _ (a := x3) (b := 0) (c := 4) rfl (by decide) (by decide)) (fun v4 im4 lv4 hp4 => ?_)
      rw [hp4.1, hp4.2.1, hp4.2.2]
      refine zi_if_ne (tgt := 50) hO dX12_choose_44 (by decide) (fun c3 => ?_) (fun c3 => ?_)
      · have h := h.1 (vB_1.mp (vB_01.resolve_left c3))
        refine zi_aload_n hO dX12_choose_50 0 rfl ?_
        refine zi_getR (r' := 53) (i' := 0) hO dX12_choose_51 fX12_65 rfl rfl (zI (by decide)) rfl ?_
        refine zi_iload_n hO dX12_choose_54 1 rfl ?_
        refine zi_iload_n hO dX12_choose_55 2 rfl ?_
        obtain ⟨s5, h⟩ := h
        refine zi_iast hO dX12_choose_56 rfl (zI (by decide)) s5 ?_
        refine zi_aload_n hO dX12_choose_57 0 rfl ?_
        refine zi_getR (r' := 54) (i' := 0) hO dX12_choose_58 fX12_68 rfl rfl (zI (by decide)) rfl ?_
        refine zi_iload_n hO dX12_choose_61 1 rfl ?_
        refine zi_iload_n hO dX12_choose_62 3 rfl ?_
        refine zi_iast hO dX12_choose_63 rfl (zI (by decide)) s5 ?_
        refine zi_aload_n hO dX12_choose_64 0 rfl ?_
        refine zi_iload_n hO dX12_choose_65 1 rfl ?_
        obtain ⟨s7, h⟩ := h
        refine zc_VI (as := [vI x1]) hO hN dX12_choose_66 kX12_236 (by decide) rfl (zI (by decide)) rfl rfl (Nat.le_of_ble_eq_true rfl) rfl rfl (C_X12_costOf _ _ _ _ s5 s7) (fun v6 im6 lv6 hp6 => ?_)
        rw [hp6.1, hp6.2.1, hp6.2.2]
        exact zr_I hO hR rfl dX12_choose_69 h
      · have h := h.2 (vB_0.mp c3)
        refine zi_ldc (v := (-1000001)) hO dX12_choose_47 nX12_23 ?_
        exact zr_I hO hR rfl dX12_choose_49 h
def clN (m : zMem) (r t a : Nat) : Nat → Nat
  | 0 => 0
  | f + 1 => clN m r t a f + if own m f = a ∧ room m f (way m f) (dly m f) t = some r then wgt m f else 0
def clm (m : zMem) (r t a : Nat) : Nat := clN m r t a (nfl m)
theorem clN_sum {m : zMem} (hW : WF m) {r t : Nat} : ∀ f, f ≤ nfl m → sum4 (fun a => clN m r t a f) = ldN m r t f := by
  intro f
  induction f with
  | zero => intro _; rfl
  | succ f ih =>
    intro h
    have ih := ih (by omega)
    have h3 := (hW.2.1 f (by omega)).1.2
    unfold sum4 at *
    simp only [clN, ldN] at *
    by_cases hr : room m f (way m f) (dly m f) t = some r
    · rcases (show own m f = 0 ∨ own m f = 1 ∨ own m f = 2 ∨ own m f = 3 by omega) with q | q | q | q <;> simp [q, hr] <;> omega
    · simp [hr]; omega
theorem clm_sum {m : zMem} (hW : WF m) {r t : Nat} : sum4 (clm m r t) = load m r t := clN_sum hW _ (Nat.le_refl _)
theorem clN_le {m : zMem} (hW : WF m) {r t a : Nat} : ∀ f, f ≤ nfl m → clN m r t a f ≤ 9 * f
  | 0, _ => Nat.le_refl _
  | f + 1, h => by
    have := clN_le hW (r := r) (t := t) (a := a) f (by omega)
    have := (hW.2.1 f (by omega)).2.1.2.2
    rw [clN]
    split <;> omega
def blN (m : zMem) (a : Nat) : Nat → Nat
  | 0 => 0
  | k + 1 => blN m a k + if 0 < over m (k / 48) (k % 48) then gsh (over m (k / 48) (k % 48)) (clm m (k / 48) (k % 48)) (load m (k / 48) (k % 48)) a else 0
theorem C_X12_blameOf (l : Launch) (w : zWd) {m im : zMem} (lv : Int64) (hW : WF m) (hM : RM m im) {a : Nat} (ha : a < 4) : zSpecI l w 5 zyX12_blameOf [vR 43 0, vI (nI a)] im lv (fun v im' lv' => v = nI (blN m a 384) ∧ (∀ r, ¬ r = 58 → ¬ r = 59 → im' r = im r) ∧ lv' = lv) := by
  refine ze_I (by decide) (Nat.le_of_ble_eq_true rfl) (fun x hO hR hN => rX12_blameOf_0 hO hR hN ?_)
  have h12 := hW.1.2
  have fr : ∀ {im1 : zMem}, (∀ r, ¬ r = 58 → ¬ r = 59 → im1 r = im r) → RM m im1 := fun h => hM.fr (fun r g1 g2 => h r (by omega) (by omega))
  have key : ∀ n k (im1 : zMem), n + k = 384 → (∀ r, ¬ r = 58 → ¬ r = 59 → im1 r = im r) → zW x w 4 [(0, vR 43 0), (1, vI (nI a)), (2, vI (nI (blN m a k))), (3, vI (nI k))] [] im1 lv := by
    intro n
    induction n with
    | zero =>
      intro k im1 hk h1
      have : k = 384 := by omega
      subst this
      exact rX12_blameOf_4 hO hR hN ⟨fun _ => ⟨rfl, h1, rfl⟩, fun q => absurd (by decide) q⟩
    | succ n ih =>
      intro k im1 hk h1
      have hM1 := fr h1
      have e1 : nI k / 48 = nI (k / 48) := pk_div (d := 48) (by omega) (by omega) (by omega)
      have e2 : nI k - nI k / 48 * 48 = nI (k % 48) := pk_rem (d := 48) (by omega) (by omega) (by omega)
      have hk1 : nI k + 1 = nI (k + 1) := nI_1 k
      have hr8 : k / 48 < 8 := by omega
      have ht48 : k % 48 < 48 := by omega
      have hol : over m (k / 48) (k % 48) ≤ 108 := Nat.le_trans (Nat.sub_le _ _) (load_le hW)
      refine rX12_blameOf_4 hO hR hN ?_
      rw [e2, e1, hk1]
      refine ⟨fun q => ?_, fun _ => ⟨_, C_X12_overOf _ _ _ hW hM1 hr8 ht48, ?_⟩⟩
      · exfalso
        have : nI 384 ≤ nI k := q
        rw [nI_leI (by omega) (by omega)] at this
        omega
      rintro _ im2 lv2 ⟨rfl, rfl, rfl⟩
      have hle : (nI (over m (k / 48) (k % 48)) ≤ 0) ↔ over m (k / 48) (k % 48) ≤ 0 := nI_leI (by omega) (by decide)
      rw [hle]
      refine ⟨fun q => ?_, fun q => ?_⟩
      · have := ih (k + 1) im2 (by omega) h1
        rw [blN, if_neg (by omega)] at this
        exact this
      -- the rows are cleared, then filled, then given
      have key56 : ∀ n2 j (im3 : zMem), n2 + j = nfl m → (∀ r, ¬ r = 58 → ¬ r = 59 → im3 r = im r) → (∀ c, c < 4 → im3 58 0 c = nI (clN m (k / 48) (k % 48) c j)) → zW x w 56 [(0, vR 43 0), (1, vI (nI a)), (2, vI (nI (blN m a k))), (3, vI (nI k)), (4, vI (nI (over m (k / 48) (k % 48)))), (5, vI (nI j))] [] im3 lv2 := by
        intro n2
        induction n2 with
        | zero =>
          intro j im3 hj h3 h4
          have : j = nfl m := by omega
          subst this
          have hM3 := fr h3
          refine rX12_blameOf_56 hO hR hN ?_
          rw [e2, e1, hk1, hM3.2.2.2, hW.1.1]
          refine ⟨fun _ => ⟨_, C_X12_loadOf _ _ _ hW hM3 hr8 ht48, ?_⟩, fun q => absurd (by simp) q⟩
          rintro _ im4 lv4 ⟨rfl, rfl, rfl⟩
          have hll := load_le hW (r := k / 48) (t := k % 48)
          have hl0 : ¬ load m (k / 48) (k % 48) = 0 := by unfold over at q; omega
          refine ⟨_, C_X12_give _ _ _ (c := clm m (k / 48) (k % 48)) (by omega) (by omega) (fun c hc => ⟨h4 c hc, by have := clN_le hW (r := k / 48) (t := k % 48) (a := c) _ (Nat.le_refl _); unfold clm; omega⟩) (fun _ => clm_sum hW) (fun z => absurd z hl0), ?_⟩
          rintro im5 lv5 ⟨⟨g1, g2⟩, rfl⟩
          refine ⟨vp_in_nI (by omega) (by decide), ?_⟩
          have hca : Int32.toNatClampNeg (nI a) = a := nI_clamp (by omega)
          rw [hca, g2 a ha, nI_add]
          have := ih (k + 1) im5 (by omega) (fun r z1 z2 => (g1 r z2).trans (h3 r z1 z2))
          rw [blN, if_pos (by omega)] at this
          exact this
        | succ n2 ih2 =>
          intro j im3 hj h3 h4
          have hj2 : j < nfl m := by omega
          have hM3 := fr h3
          obtain ⟨f0, f1, -, -, f4, f5, f6, -⟩ := hW.2.1 j hj2
          have c0 : Int32.toNatClampNeg (5 * nI j) = 5 * j := by simp (disch := omega) only [zlit, pk_mul, nI_clamp]
          have c1 : Int32.toNatClampNeg (5 * nI j + 1) = 5 * j + 1 := by simp (disch := omega) only [zlit, pk_mul, nI_clamp, nI_add]
          have cj : Int32.toNatClampNeg (nI j) = j := nI_clamp (by omega)
          have b0 : im3 50 0 (5 * j) = nI (own m j) := by rw [hM3.1 50 (by decide) (by decide)]; exact f0.1
          have b1 : im3 53 0 j = nI (way m j) := by rw [hM3.1 53 (by decide) (by decide)]; exact f5.1
          have b2 : im3 54 0 j = nI (dly m j) := by rw [hM3.1 54 (by decide) (by decide)]; exact f6.1
          have b3 : im3 50 0 (5 * j + 1) = nI (wgt m j) := by rw [hM3.1 50 (by decide) (by decide)]; exact f1.1
          have hj1 : nI j + 1 = nI (j + 1) := nI_1 j
          have co : Int32.toNatClampNeg (nI (own m j)) = own m j := nI_clamp (by omega)
          refine rX12_blameOf_56 hO hR hN ?_
          rw [e2, e1, c0, cj, b0, co, b1, b2, hM3.2.2.2, hW.1.1, hj1]
          refine ⟨fun z => ?_, fun _ => ⟨by rw [show (5 : Int32) * nI j = nI (5 * j) from pk_mul 5 j]; exact vp_in_nI (by omega) (by decide), vp_in_nI (by omega) (by decide), vp_in_nI (by omega) (by decide), _, C_X12_roomBy _ _ _ hW hM3 hj2 (by omega) (by omega) (by omega), ?_⟩⟩
          · exfalso
            rw [nI_leI (by omega) (by omega)] at z
            omega
          rintro _ im4 lv4 ⟨rfl, rfl, rfl⟩
          have hsm := zOp_some (o := room m j (way m j) (dly m j) (k % 48)) (r := k / 48) (by omega) (fun r' h' => by have := room_lt hW hj2 (by omega) h'; omega)
          rw [hsm, c1, b3, h4 (own m j) (by omega)]
          have step : ∀ v : Nat, (v = if room m j (way m j) (dly m j) (k % 48) = some (k / 48) then wgt m j else 0) → zW x w 56 [(0, vR 43 0), (1, vI (nI a)), (2, vI (nI (blN m a k))), (3, vI (nI k)), (4, vI (nI (over m (k / 48) (k % 48)))), (5, vI (nI (j + 1)))] [] (zwr im4 58 0 (own m j) (nI (clN m (k / 48) (k % 48) (own m j) j) + nI v)) lv4 := by
            intro v hv
            refine ih2 (j + 1) _ (by omega) (fun r z1 z2 => by rw [zwr_r z1]; exact h3 r z1 z2) (fun c hc => ?_)
            rw [zwr_app, clN]
            by_cases hcj : c = own m j
            · subst hcj
              rw [if_pos ⟨rfl, rfl, rfl⟩, nI_add, hv]
              congr 2
              by_cases hroom : room m j (way m j) (dly m j) (k % 48) = some (k / 48)
              · rw [if_pos hroom, if_pos ⟨rfl, hroom⟩]
              · rw [if_neg hroom, if_neg (fun z => hroom z.2)]
            · rw [if_neg (fun z => hcj z.2.2), if_neg (fun z => hcj z.1.symm)]
              exact h4 c hc
          refine ⟨fun z => step 0 (by rw [if_neg z]), fun z => ⟨by rw [show (5 : Int32) * nI j + 1 = nI (5 * j + 1) from by rw [show (5 : Int32) * nI j = nI (5 * j) from pk_mul 5 j]; exact nI_1 _]; exact vp_in_nI (by omega) (by decide), step (wgt m j) (by rw [if_pos z])⟩⟩
      have key33 : ∀ n2 j (im3 : zMem), n2 + j = 4 → (∀ r, ¬ r = 58 → ¬ r = 59 → im3 r = im r) → (∀ c, c < j → im3 58 0 c = nI 0) → zW x w 33 [(0, vR 43 0), (1, vI (nI a)), (2, vI (nI (blN m a k))), (3, vI (nI k)), (4, vI (nI (over m (k / 48) (k % 48)))), (5, vI (nI j))] [] im3 lv2 := by
        intro n2
        induction n2 with
        | zero =>
          intro j im3 hj h3 h4
          have : j = 4 := by omega
          subst this
          exact rX12_blameOf_33 hO hR hN ⟨fun _ => key56 (nfl m) 0 im3 (by omega) h3 h4, fun q => absurd (by decide) q⟩
        | succ n2 ih2 =>
          intro j im3 hj h3 h4
          refine rX12_blameOf_33 hO hR hN ⟨fun z => ?_, fun _ => ⟨vp_in_nI (by omega) (by decide), ?_⟩⟩
          · exfalso
            have : nI 4 ≤ nI j := z
            rw [nI_leI (by omega) (by omega)] at this
            omega
          have cj : Int32.toNatClampNeg (nI j) = j := nI_clamp (by omega)
          have hj1 : nI j + 1 = nI (j + 1) := nI_1 j
          rw [cj, hj1]
          refine ih2 (j + 1) _ (by omega) (fun r z1 z2 => by rw [zwr_r z1]; exact h3 r z1 z2) (fun c hc => ?_)
          rw [zwr_app]
          by_cases hcj : c = j
          · subst hcj; rw [if_pos ⟨rfl, rfl, rfl⟩]; rfl
          · rw [if_neg (fun z => hcj z.2.2)]; exact h4 c (by omega)
      exact key33 4 0 im2 rfl h1 (fun c hc => absurd hc (by omega))
  exact key 384 0 im rfl (fun _ _ _ => rfl)
def acN (m : zMem) (a : Nat) : Nat → Nat
  | 0 => 0
  | f + 1 => acN m a f + if own m f = a then cost m f else 0
def aAirN (m : zMem) (a k : Nat) : Nat := if k = 0 then flOf m a else if k = 1 then dlOf m (some a) else if k = 2 then shr m a else if k = 3 then blN m a 384 else acN m a (nfl m)
def aAir (m : zMem) (x y : Int32) : Int32 := if (0 ≤ x ∧ x < nI 4) ∧ (0 ≤ y ∧ y < nI 5) then nI (aAirN m (cN x) (cN y)) else -1000001
theorem C_X12_airline (l : Launch) (w : zWd) {m im : zMem} (lv : Int64) (hW : WF m) (hM : RM m im) (h0 : im 43 0 0 = 0) (x1 x2 : Int32) : zSpecI l w 6 zyX12_airline [vR 43 0, vI x1, vI x2] im lv (fun v im' lv' => v = aAir m x1 x2 ∧ (∀ r, ¬ r = 58 → ¬ r = 59 → im' r = im r) ∧ lv' = lv) := by
  refine ze_I (by decide) (Nat.le_of_ble_eq_true rfl) (fun x hO hR hN => rX12_airline_0 hO hR hN ?_)
  rw [zwr_id h0]
  have q3 : (0 ≤ x1 ∧ x1 ≤ 3) ↔ (0 ≤ x1 ∧ x1 < nI 4) := zrl (by decide)
  have q4 : (0 ≤ x2 ∧ x2 ≤ 4) ↔ (0 ≤ x2 ∧ x2 < nI 5) := zrl (by decide)
  rw [q3, q4]
  have h12 := hW.1.2
  have e10 := hM.2.2.2
  have e50 := hM.1 50 (by decide) (by decide)
  have e53 := hM.1 53 (by decide) (by decide)
  have e54 := hM.1 54 (by decide) (by decide)
  refine ⟨fun q => ⟨(if_neg (fun z => q z.1)).symm, fun _ _ _ => rfl, rfl⟩, fun q => ⟨fun q2 => ?_, fun q2 => ⟨(if_neg (fun z => q2 z.2)).symm, fun _ _ _ => rfl, rfl⟩⟩⟩
  have hA : aAir m x1 x2 = nI (aAirN m (cN x1) (cN x2)) := if_pos ⟨q, q2⟩
  obtain ⟨a, ha, rfl⟩ := zrx (by decide) q
  obtain ⟨k, hk, rfl⟩ := zrx (by decide) q2
  rw [cNn (n := a) (by omega), cNn (n := k) (by omega)] at hA
  rw [hA] at hR
  have lk : ∀ j : Nat, j < 10 → ((nI k = nI j) ↔ k = j) := fun j hj => nI_eq (by omega) (by omega)
  have l0 : (nI k = 0) ↔ k = 0 := lk 0 (by decide)
  have l1 : (nI k = 1) ↔ k = 1 := lk 1 (by decide)
  have l2 : (nI k = 2) ↔ k = 2 := lk 2 (by decide)
  have l3 : (nI k = 3) ↔ k = 3 := lk 3 (by decide)
  rw [l2]
  refine ⟨fun k2 => ?_, fun k2 => ⟨_, C_X12_shares _ _ _ hW hM, ?_⟩⟩
  · have key : ∀ n j, n + j = nfl m → zW x w 53 [(0, vR 43 0), (1, vI (nI a)), (2, vI (nI k)), (3, vI (nI (acN m a j))), (4, vI (nI j))] [] im lv := by
      intro n
      induction n with
      | zero =>
        intro j hj
        have : j = nfl m := by omega
        subst this
        refine rX12_airline_53 hO hR hN ?_
        rw [e10, hW.1.1, l0, l1, l3]
        refine ⟨fun _ => ⟨fun k0 => ⟨fun k1 => ⟨fun k3 => ⟨?_, fun _ _ _ => rfl, rfl⟩, fun k3 => ⟨_, C_X12_blameOf _ _ _ hW hM ha, ?_⟩⟩, fun k1 => ⟨_, C_X12_delaysOf _ _ _ hW hM (a := some a) (fun k h => by cases h; exact ha) rfl, ?_⟩⟩, fun k0 => ⟨_, C_X12_flightsOf _ _ _ hW hM ha, ?_⟩⟩, fun q => absurd (by simp) q⟩
        · unfold aAirN; rw [if_neg k0, if_neg k1, if_neg k2, if_neg k3]
        · rintro _ im2 lv2 ⟨rfl, g, rfl⟩
          exact ⟨by unfold aAirN; rw [if_neg k0, if_neg k1, if_neg k2, if_pos k3], g, rfl⟩
        · rintro _ im2 lv2 ⟨rfl, rfl, rfl⟩
          exact ⟨by unfold aAirN; rw [if_neg k0, if_pos k1], fun _ _ _ => rfl, rfl⟩
        · rintro _ im2 lv2 ⟨rfl, rfl, rfl⟩
          exact ⟨by unfold aAirN; rw [if_pos k0], fun _ _ _ => rfl, rfl⟩
      | succ n ih =>
        intro j hj
        have ih := ih (j + 1) (by omega)
        rw [acN] at ih
        obtain ⟨f0, -, -, f3, -, f5, f6, -⟩ := hW.2.1 j (by omega)
        refine rX12_airline_53 hO hR hN ?_
        simp (disch := omega) only [zlit, nI_add, pk_mul, nI_clamp, nI_leI, nI_eq, e10, hW.1.1, e50, e53, e54, f0.1, f3.1, f5.1, f6.1]
        refine ⟨fun q => by omega, fun _ => ⟨vp_in_nI (by omega) (by decide), fun z => ?_, fun z => ⟨vp_in_nI (by omega) (by decide), vp_in_nI (by omega) (by decide), ?_⟩⟩⟩
        · rw [if_neg z] at ih; exact ih
        · rw [if_pos z] at ih; exact ih
    exact key (nfl m) 0 (by omega)
  · rintro im2 lv2 ⟨⟨g1, g2⟩, rfl⟩
    have hca : Int32.toNatClampNeg (nI a) = a := nI_clamp (by omega)
    rw [hca, g2 a ha]
    exact ⟨vp_in_nI (by omega) (by decide), by rw [hA]; unfold aAirN; rw [if_neg (by omega), if_neg (by omega), if_pos k2], g1, rfl⟩
def aKind (m : zMem) (x : Int32) : Int32 := if 0 ≤ x ∧ x < nI (nfl m) then nI (knd m (cN x)) else -1000001
theorem C_X12_kind (l : Launch) (w : zWd) {m im : zMem} (lv : Int64) (hW : WF m) (hM : RM m im) (h0 : im 43 0 0 = 0) (x1 : Int32) : zSpecI l w 6 zyX12_kind [vR 43 0, vI x1] im lv (fun v im' lv' => v = aKind m x1 ∧ im' = im ∧ lv' = lv) := by
  refine ze_I (by decide) (Nat.le_of_ble_eq_true rfl) (fun x hO hR hN => rX12_kind_0 hO hR hN ?_)
  have h12 := hW.1.2
  rw [zwr_id h0, hM.2.2.2, hW.1.1, zrg (by omega)]
  unfold aKind
  refine ⟨fun q => ⟨(if_neg q).symm, rfl, rfl⟩, fun q => ?_⟩
  rw [if_pos q]
  obtain ⟨f, hf, rfl⟩ := zrx (by omega) q
  refine ⟨_, C_X12_kindOf _ _ _ hW hM hf, ?_⟩
  rintro _ _ _ ⟨rfl, rfl, rfl⟩
  rw [cNn (n := f) (by omega)]
  exact ⟨rfl, rfl, rfl⟩
theorem zwr_zwr {im : zMem} {r i k : Nat} {u v : Int32} : zwr (zwr im r i k u) r i k v = zwr im r i k v := by
  funext r' i' k'
  rw [zwr_app, zwr_app, zwr_app]
  split <;> rfl
theorem knd_le {m : zMem} {f : Nat} : knd m f ≤ 3 := by
  unfold knd
  split
  · split <;> omega
  · split <;> omega
/-- a flight of the kind is told k: is it one of the kind of -/
def isK (k c : Nat) : Bool := decide (c = 0 ∨ k = c ∨ (c = 1 ∧ k = 2))
theorem C_X12_as (l : Launch) (w : zWd) {m im : zMem} (lv : Int64) (hW : WF m) (hM : RM m im) (h0 : im 43 0 0 = 0) (x1 x2 : Int32) : zSpecI l w 6 zyX12_as [vR 43 0, vI x1, vI x2] im lv (fun v im' lv' => (if (0 ≤ x1 ∧ x1 < nI (nfl m)) ∧ (0 ≤ x2 ∧ x2 < nI 4) then (if isK (knd m (cN x1)) (cN x2) = true then v = nI (wgt m (cN x1)) ∧ im' = zwr im 43 0 1 0 else v = -1000013 ∧ im' = zwr im 43 0 1 3) else v = -1000001 ∧ im' = im) ∧ lv' = lv) := by
  refine ze_I (by decide) (Nat.le_of_ble_eq_true rfl) (fun x hO hR hN => rX12_as_0 hO hR hN ?_)
  have h12 := hW.1.2
  rw [zwr_id h0, hM.2.2.2, hW.1.1, zrg (by omega)]
  have q3 : (0 ≤ x2 ∧ x2 ≤ 3) ↔ (0 ≤ x2 ∧ x2 < nI 4) := zrl (by decide)
  rw [q3]
  refine ⟨fun q => ⟨by rw [if_neg (fun z => q z.1)]; exact ⟨rfl, rfl⟩, rfl⟩, fun q => ⟨fun q2 => ?_, fun q2 => ⟨by rw [if_neg (fun z => q2 z.2)]; exact ⟨rfl, rfl⟩, rfl⟩⟩⟩
  simp only [if_pos (And.intro q q2)]
  obtain ⟨f, hf, rfl⟩ := zrx (by omega) q
  obtain ⟨k, hk, rfl⟩ := zrx (by decide) q2
  have hM1 : RM m (zwr im 43 0 1 0) := hM.wr (by omega) (by omega)
  refine ⟨_, C_X12_kindOf _ _ _ hW hM1 hf, ?_⟩
  rintro _ im2 lv2 ⟨rfl, rfl, rfl⟩
  have hkd := knd_le (m := m) (f := f)
  obtain ⟨-, f1, -⟩ := hW.2.1 f hf
  have c1 : Int32.toNatClampNeg (5 * nI f + 1) = 5 * f + 1 := by simp (disch := omega) only [zlit, pk_mul, nI_clamp, nI_add]
  have l0 : (nI k = 0) ↔ k = 0 := nI_eq (by omega) (by decide)
  have l1 : (nI k = 1) ↔ k = 1 := nI_eq (by omega) (by decide)
  have l2 : (nI (knd m f) = 2) ↔ knd m f = 2 := nI_eq (by omega) (by decide)
  have l3 : (nI (knd m f) = nI k) ↔ knd m f = k := nI_eq (by omega) (by omega)
  rw [cNn (n := f) (by omega), cNn (n := k) (by omega), l0, l1, l2, l3, c1, zwr_zwr]
  refine ⟨fun z => ⟨?_, rfl⟩, fun z => ⟨by rw [show (5 : Int32) * nI f + 1 = nI (5 * f + 1) from by rw [show (5 : Int32) * nI f = nI (5 * f) from pk_mul 5 f]; exact nI_1 _]; exact vp_in_nI (by omega) (by decide), ?_, rfl⟩⟩
  · rw [if_neg (by simpa [isK] using z)]
    exact ⟨by decide, rfl⟩
  · rw [if_pos (by simpa [isK] using z)]
    exact ⟨by rw [zwr_r (by decide), hM.1 50 (by decide) (by decide)]; exact f1.1, rfl⟩
def shN (m : zMem) : Nat → Nat
  | 0 => 0
  | s + 1 => shN m s + if m 44 0 s < 0 then 0 else 1
def kcN (m : zMem) (c : Nat) : Nat → Nat
  | 0 => 0
  | f + 1 => kcN m c f + if isK (knd m f) c = true then 1 else 0
def aCount (m : zMem) (tp : Int32) (x : Int32) : Int32 := if 0 ≤ x ∧ x < nI 8 then (if cN x = 0 then nI (shN m 8) else if cN x = 1 then nI (nfl m) else if cN x = 2 then nI (nst m) else if cN x ≤ 5 then nI (kcN m (cN x - 2) (nfl m)) else if cN x = 6 then tp else nI (btN (lok m) 12)) else -1000001
theorem C_X12_count (l : Launch) (w : zWd) {m im : zMem} (lv : Int64) (hW : WF m) (hM : RM m im) (h44 : im 44 = m 44) (h0 : im 43 0 0 = 0) (x1 : Int32) : zSpecI l w 6 zyX12_count [vR 43 0, vI x1] im lv (fun v im' lv' => v = aCount m (im 43 0 17) x1 ∧ im' = im ∧ lv' = lv) := by
  refine ze_I (by decide) (Nat.le_of_ble_eq_true rfl) (fun x hO hR hN => rX12_count_0 hO hR hN ?_)
  have h12 := hW.1.2
  rw [zwr_id h0]
  have key58 : ∀ (x1 : Int32), aCount m (im 43 0 17) x1 = nI (shN m 8) → zRetI x w zyX12_count (fun v im' lv' => v = aCount m (im 43 0 17) x1 ∧ im' = im ∧ lv' = lv) → ∀ n j, n + j = 8 → zW x w 58 [(0, vR 43 0), (1, vI x1), (2, vI (nI (shN m j))), (3, vI (nI j))] [] im lv := by
    intro x1 hA hR n
    induction n with
    | zero =>
      intro j hj
      have : j = 8 := by omega
      subst this
      exact rX12_count_58 hO hR hN ⟨fun _ => ⟨hA.symm, rfl, rfl⟩, fun q => absurd (by decide) q⟩
    | succ n ih =>
      intro j hj
      have ih := ih (j + 1) (by omega)
      rw [shN] at ih
      have cj : Int32.toNatClampNeg (nI j) = j := nI_clamp (by omega)
      have hj1 : nI j + 1 = nI (j + 1) := nI_1 j
      refine rX12_count_58 hO hR hN ?_
      rw [cj, hj1, h44]
      refine ⟨fun q => ?_, fun _ => ⟨vp_in_nI (by omega) (by decide), fun z => ?_, fun z => ?_⟩⟩
      · exfalso
        have : nI 8 ≤ nI j := q
        rw [nI_leI (by omega) (by omega)] at this
        omega
      · rw [if_pos z] at ih
        have e : nI (shN m j) + 0 = nI (shN m j + 0) := nI_add _ 0
        rw [e]; exact ih
      · rw [if_neg z] at ih
        have e : nI (shN m j) + 1 = nI (shN m j + 1) := nI_add _ 1
        rw [e]; exact ih
  have key101 : ∀ (c : Nat), 1 ≤ c → c ≤ 3 → aCount m (im 43 0 17) (nI (c + 2)) = nI (kcN m c (nfl m)) → zRetI x w zyX12_count (fun v im' lv' => v = aCount m (im 43 0 17) (nI (c + 2)) ∧ im' = im ∧ lv' = lv) → ∀ n j, n + j = nfl m → zW x w 101 [(0, vR 43 0), (1, vI (nI (c + 2))), (2, vI (nI (kcN m c j))), (3, vI (nI j))] [] im lv := by
    intro c hc1 hc3 hA hR n
    induction n with
    | zero =>
      intro j hj
      have : j = nfl m := by omega
      subst this
      refine rX12_count_101 hO hR hN ?_
      rw [hM.2.2.2, hW.1.1]
      exact ⟨fun _ => ⟨hA.symm, rfl, rfl⟩, fun q => absurd (by simp) q⟩
    | succ n ih =>
      intro j hj
      have ih := ih (j + 1) (by omega)
      rw [kcN] at ih
      have hj1 : nI j + 1 = nI (j + 1) := nI_1 j
      have ec : nI (c + 2) - 2 = nI c := by
        have := pk_sub (a := c + 2) (b := 2) (by omega)
        exact this
      refine rX12_count_101 hO hR hN ?_
      rw [hM.2.2.2, hW.1.1, hj1, ec]
      have hkd := knd_le (m := m) (f := j)
      refine ⟨fun q => ?_, fun _ => ⟨_, C_X12_kindOf _ _ _ hW hM (by omega), ?_⟩⟩
      · exfalso
        rw [nI_leI (by omega) (by omega)] at q
        omega
      rintro _ im2 lv2 ⟨rfl, rfl, rfl⟩
      have l0 : (nI c = 0) ↔ c = 0 := nI_eq (by omega) (by decide)
      have l1 : (nI c = 1) ↔ c = 1 := nI_eq (by omega) (by decide)
      have l2 : (nI (knd m j) = 2) ↔ knd m j = 2 := nI_eq (by omega) (by decide)
      have l3 : (nI (knd m j) = nI c) ↔ knd m j = c := nI_eq (by omega) (by omega)
      rw [l0, l1, l2, l3]
      refine ⟨fun z => ?_, fun z => ?_⟩
      · rw [if_neg (by simpa [isK] using z)] at ih
        have e : nI (kcN m c j) + 0 = nI (kcN m c j + 0) := nI_add _ 0
        rw [e]; exact ih
      · rw [if_pos (by simpa [isK] using z)] at ih
        have e : nI (kcN m c j) + 1 = nI (kcN m c j + 1) := nI_add _ 1
        rw [e]; exact ih
  have hA : ∀ k, k < 8 → aCount m (im 43 0 17) (nI k) = (if k = 0 then nI (shN m 8) else if k = 1 then nI (nfl m) else if k = 2 then nI (nst m) else if k ≤ 5 then nI (kcN m (k - 2) (nfl m)) else if k = 6 then im 43 0 17 else nI (btN (lok m) 12)) := by
    intro k hk
    unfold aCount
    rw [if_pos (zin0 (by decide) hk), cNn (n := k) (by omega)]
  refine ⟨fun q => ⟨?_, rfl, rfl⟩, fun q => ?_, fun q => ?_, fun q => ?_, fun q => ?_, fun q => ?_, fun q => ?_, fun q => ?_, fun q => ?_⟩
  · unfold aCount
    rw [if_neg]
    intro z
    have z1 := z.1
    have z2 := z.2
    rw [Int32.le_iff_toInt_le] at z1
    rw [Int32.lt_iff_toInt_lt, nI_toInt (by decide)] at z2
    rw [Int32.lt_iff_toInt_lt, Int32.lt_iff_toInt_lt] at q
    have e0 : (0 : Int32).toInt = 0 := rfl
    have e7 : (7 : Int32).toInt = 7 := rfl
    omega
  · subst q
    exact key58 0 (by rw [show (0 : Int32) = nI 0 from rfl, hA 0 (by decide)]; rfl) hR 8 0 rfl
  · subst q
    exact ⟨by rw [show (1 : Int32) = nI 1 from rfl, hA 1 (by decide), hM.2.2.2, hW.1.1]; rfl, rfl, rfl⟩
  · subst q
    exact ⟨by rw [show (2 : Int32) = nI 2 from rfl, hA 2 (by decide), hM.2.2.1, hW.2.2.1.1]; rfl, rfl, rfl⟩
  · subst q
    exact key101 1 (by decide) (by decide) (hA 3 (by decide)) hR (nfl m) 0 (by omega)
  · subst q
    exact key101 2 (by decide) (by decide) (hA 4 (by decide)) hR (nfl m) 0 (by omega)
  · subst q
    exact key101 3 (by decide) (by decide) (hA 5 (by decide)) hR (nfl m) 0 (by omega)
  · subst q
    exact ⟨(hA 6 (by decide)).symm, rfl, rfl⟩
  · subst q
    rw [hM.2.1, hW.2.2.2.2.2.2.1]
    refine ⟨_, C_X12_bits _ _ _ (by have := hW.2.2.2.2.2.2.2.2; omega), ?_⟩
    rintro _ im2 lv2 ⟨rfl, rfl, rfl⟩
    exact ⟨(hA 7 (by decide)).symm, rfl, rfl⟩
theorem C_X12_choose (l : Launch) (w : zWd) {m im : zMem} (lv : Int64) (hW : WF m) (hM : RM m im) (h0 : im 43 0 0 = 0) (x1 x2 x3 : Int32) : zSpecI l w 4 zyX12_choose [vR 43 0, vI x1, vI x2, vI x3] im lv (fun v im' lv' => (if (0 ≤ x1 ∧ x1 < nI (nfl m)) ∧ (0 ≤ x2 ∧ x2 < nI (wys m (cN x1))) ∧ (0 ≤ x3 ∧ x3 < nI 5) then v = nI (rat m (cN x1) * cN x3 + 10 * cN x2) ∧ im' = zwr (zwr im 53 0 (cN x1) x2) 54 0 (cN x1) x3 else v = -1000001 ∧ im' = im) ∧ lv' = lv) := by
  refine ze_I (by decide) (Nat.le_of_ble_eq_true rfl) (fun x hO hR hN => rX12_choose_0 hO hR hN ?_)
  rw [zwr_id h0]
  have e10 := hM.2.2.2
  have e50 := hM.1 50 (by decide) (by decide)
  have h12 := hW.1.2
  rw [e10, hW.1.1, zrg (by omega)]
  have q4 : (0 ≤ x3 ∧ x3 ≤ 4) ↔ (0 ≤ x3 ∧ x3 < nI 5) := zrl (by decide)
  rw [q4]
  refine ⟨fun q => ⟨by rw [if_neg (fun z => q z.1)]; exact ⟨rfl, rfl⟩, rfl⟩, fun q => ?_⟩
  obtain ⟨f, hf, rfl⟩ := zrx (by omega) q
  obtain ⟨-, -, -, f3, f4, f5, f6, -⟩ := hW.2.1 f hf
  have e4 : im 50 0 (Int32.toNatClampNeg (5 * nI f + 4)) = nI (wys m f) := by
    simp (disch := omega) only [zlit, nI_add, pk_mul, nI_clamp, e50, f4.1]
  have e3 : im 50 0 (Int32.toNatClampNeg (5 * nI f + 3)) = nI (rat m f) := by
    simp (disch := omega) only [zlit, nI_add, pk_mul, nI_clamp, e50, f3.1]
  have hcf : cN (nI f) = f := nI_clamp (by omega)
  have hcf' : Int32.toNatClampNeg (nI f) = f := nI_clamp (by omega)
  rw [e4, zrg (by omega), e3, hcf]
  refine ⟨by simp (disch := omega) only [zlit, nI_add, pk_mul]; exact vp_in_nI (by omega) (by decide), fun q2 => ⟨by rw [if_neg (fun z => q2 z.2.1)]; exact ⟨rfl, rfl⟩, rfl⟩, fun q2 => ⟨fun q3 => ⟨vp_in_nI (by omega) (by decide), by simp (disch := omega) only [zlit, nI_add, pk_mul]; exact vp_in_nI (by omega) (by decide), ?_, rfl⟩, fun q3 => ⟨by rw [if_neg (fun z => q3 z.2.2)]; exact ⟨rfl, rfl⟩, rfl⟩⟩⟩
  rw [if_pos ⟨q, q2, q3⟩]
  obtain ⟨y, hy, rfl⟩ := zrx (by omega) q2
  obtain ⟨z, hz, rfl⟩ := zrx (by decide) q3
  rw [cNn (n := y) (by omega), cNn (n := z) (by omega), hcf', zwr_eq, zwr_eq]
  refine ⟨?_, rfl⟩
  have e10' : (10 : Int32) = nI 10 := rfl
  rw [e10', pk_mul, pk_mul, nI_add]
