theorem rX12_findSplits_0 {x : zX} {w : zWd} {im : zMem} {lv : Int64} {P : zMem → Int64 → Prop} (hO : zOK x w zyX12_findSplits 4) (hR : zRetV x w zyX12_findSplits P) (hN : zN x 126 126)
 (h : zW x w 2 [(0, vR 43 0), (1, vI 0)] [] im lv) :
 zW x w 0 [(0, vR 43 0)] [] im lv := by
  refine zi_iconst (v := 0) hO dX12_findSplits_0 (by decide) ?_
  refine zi_istore_n (L' := [(0, vR 43 0), (1, vI 0)]) hO dX12_findSplits_1 (by decide) rfl rfl ?_
  exact h
theorem rX12_findSplits_2 {x : zX} {w : zWd} {im : zMem} {lv : Int64} {P : zMem → Int64 → Prop} {x1 : Int32} (hO : zOK x w zyX12_findSplits 4) (hR : zRetV x w zyX12_findSplits P) (hN : zN x 126 126)
 (h : ((48 ≤ x1 → zW x w 146 [(0, vR 43 0), (1, vI 0)] [] im lv) ∧
 (¬ (48 ≤ x1) → zW x w 10 [(0, vR 43 0), (1, vI x1), (2, vI 0)] [] im lv))) :
 zW x w 2 [(0, vR 43 0), (1, vI x1)] [] im lv := by
  refine zi_iload_n hO dX12_findSplits_2 1 rfl ?_
  refine zi_bipush (v := 48) hO dX12_findSplits_3 (by decide) ?_
  refine zi_icmp_ge (tgt := 144) hO dX12_findSplits_5 (by decide) (fun c1 => ?_) (fun c1 => ?_)
  · have h := h.1 c1
    refine zi_iconst (v := 0) hO dX12_findSplits_144 (by decide) ?_
    refine zi_istore_n (L' := [(0, vR 43 0), (1, vI 0)]) hO dX12_findSplits_145 (by decide) rfl rfl ?_
    exact h
  · have h := h.2 c1
    refine zi_iconst (v := 0) hO dX12_findSplits_8 (by decide) ?_
    refine zi_istore_n (L' := [(0, vR 43 0), (1, vI x1), (2, vI 0)]) hO dX12_findSplits_9 (by decide) rfl rfl ?_
    exact h
theorem rX12_findSplits_10 {x : zX} {w : zWd} {im : zMem} {lv : Int64} {P : zMem → Int64 → Prop} {x1 : Int32} {x2 : Int32} (hO : zOK x w zyX12_findSplits 4) (hR : zRetV x w zyX12_findSplits P) (hN : zN x 126 126)
 (h : ((64 ≤ x2 → zW x w 2 [(0, vR 43 0), (1, vI (x1 + 1))] [] im lv) ∧
 (¬ (64 ≤ x2) → zW x w 21 [(0, vR 43 0), (1, vI x1), (2, vI x2), (3, vI 0), (4, vI 0)] [] im lv))) :
 zW x w 10 [(0, vR 43 0), (1, vI x1), (2, vI x2)] [] im lv := by
  refine zi_iload_n hO dX12_findSplits_10 2 rfl ?_
  refine zi_bipush (v := 64) hO dX12_findSplits_11 (by decide) ?_
  refine zi_icmp_ge (tgt := 138) hO dX12_findSplits_13 (by decide) (fun c1 => ?_) (fun c1 => ?_)
  · have h := h.1 c1
    refine zi_iinc (v' := (x1 + 1)) (L' := [(0, vR 43 0), (1, vI (x1 + 1)), (2, vI x2)]) hO dX12_findSplits_138 1 rfl rfl (by decide) rfl rfl ?_
    refine zi_goto (tgt := 2) hO dX12_findSplits_141 (by decide) ?_
    refine zi_pick (L' := [(0, vR 43 0), (1, vI (x1 + 1))]) [0, 1] rfl ?_
    exact h
  · have h := h.2 c1
    refine zi_iconst (v := 0) hO dX12_findSplits_16 (by decide) ?_
    refine zi_istore_n (L' := [(0, vR 43 0), (1, vI x1), (2, vI x2), (3, vI 0)]) hO dX12_findSplits_17 (by decide) rfl rfl ?_
    refine zi_iconst (v := 0) hO dX12_findSplits_18 (by decide) ?_
    refine zi_istore (L' := [(0, vR 43 0), (1, vI x1), (2, vI x2), (3, vI 0), (4, vI 0)]) hO dX12_findSplits_19 (by decide) rfl rfl ?_
    exact h
theorem rX12_findSplits_21 {x : zX} {w : zWd} {im : zMem} {lv : Int64} {P : zMem → Int64 → Prop} {x1 : Int32} {x2 : Int32} {x3 : Int32} {x4 : Int32} (hO : zOK x w zyX12_findSplits 4) (hR : zRetV x w zyX12_findSplits P) (hN : zN x 126 126)
 (h : ((8 ≤ x4 → (∃ P1 : Int32 → zMem → Int64 → Prop, zSpecI x.2.1 w 2 zyX12_bits [vI x2] im lv P1 ∧ ∀ (v1 : Int32) (im1 : zMem) (lv1 : Int64), P1 v1 im1 lv1 → (vp_in x1 48 ∧ ((v1 ≤ (im1 48 0 (Int32.toNatClampNeg x1)) → (vp_in ((64 * x1) + x2) 3072 ∧ zW x w 10 [(0, vR 43 0), (1, vI x1), (2, vI (x2 + 1))] [] (zwr im1 60 0 (Int32.toNatClampNeg ((64 * x1) + x2)) (10 * x3)) lv1)) ∧
 (¬ (v1 ≤ (im1 48 0 (Int32.toNatClampNeg x1))) → (vp_in ((64 * x1) + x2) 3072 ∧ zW x w 10 [(0, vR 43 0), (1, vI x1), (2, vI (x2 + 1))] [] (zwr im1 60 0 (Int32.toNatClampNeg ((64 * x1) + x2)) (-1000000)) lv1)))))) ∧
 (¬ (8 ≤ x4) → (∃ P5 : Int32 → zMem → Int64 → Prop, zSpecI x.2.1 w 3 zyX12_safeOf [vR 43 0, vI x4, vI x1] im lv P5 ∧ ∀ (v5 : Int32) (im5 : zMem) (lv5 : Int64), P5 v5 im5 lv5 → ((6 ≤ x4 → (∃ P6 : Int32 → zMem → Int64 → Prop, zSpecI x.2.1 w 3 zyX12_loadOf [vR 43 0, vI x4, vI x1] im5 lv5 P6 ∧ ∀ (v6 : Int32) (im6 : zMem) (lv6 : Int64), P6 v6 im6 lv6 → (((v6 - (v5 + 0)) ≤ 0 → zW x w 21 [(0, vR 43 0), (1, vI x1), (2, vI x2), (3, vI (x3 + 0)), (4, vI (x4 + 1))] [] im6 lv6) ∧
 (¬ ((v6 - (v5 + 0)) ≤ 0) → zW x w 21 [(0, vR 43 0), (1, vI x1), (2, vI x2), (3, vI (x3 + (v6 - (v5 + 0)))), (4, vI (x4 + 1))] [] im6 lv6)))) ∧
 (¬ (6 ≤ x4) → ((¬ (((x2 >>> (x4 &&& 31)) &&& 1) = 1) → (∃ P7 : Int32 → zMem → Int64 → Prop, zSpecI x.2.1 w 3 zyX12_loadOf [vR 43 0, vI x4, vI x1] im5 lv5 P7 ∧ ∀ (v7 : Int32) (im7 : zMem) (lv7 : Int64), P7 v7 im7 lv7 → (((v7 - (v5 + 0)) ≤ 0 → zW x w 21 [(0, vR 43 0), (1, vI x1), (2, vI x2), (3, vI (x3 + 0)), (4, vI (x4 + 1))] [] im7 lv7) ∧
 (¬ ((v7 - (v5 + 0)) ≤ 0) → zW x w 21 [(0, vR 43 0), (1, vI x1), (2, vI x2), (3, vI (x3 + (v7 - (v5 + 0)))), (4, vI (x4 + 1))] [] im7 lv7)))) ∧
 (((x2 >>> (x4 &&& 31)) &&& 1) = 1 → (∃ P8 : Int32 → zMem → Int64 → Prop, zSpecI x.2.1 w 3 zyX12_loadOf [vR 43 0, vI x4, vI x1] im5 lv5 P8 ∧ ∀ (v8 : Int32) (im8 : zMem) (lv8 : Int64), P8 v8 im8 lv8 → (((v8 - (v5 + (v5 / 2))) ≤ 0 → zW x w 21 [(0, vR 43 0), (1, vI x1), (2, vI x2), (3, vI (x3 + 0)), (4, vI (x4 + 1))] [] im8 lv8) ∧
 (¬ ((v8 - (v5 + (v5 / 2))) ≤ 0) → zW x w 21 [(0, vR 43 0), (1, vI x1), (2, vI x2), (3, vI (x3 + (v8 - (v5 + (v5 / 2))))), (4, vI (x4 + 1))] [] im8 lv8))))))))))) :
 zW x w 21 [(0, vR 43 0), (1, vI x1), (2, vI x2), (3, vI x3), (4, vI x4)] [] im lv := by
  refine zi_iload hO dX12_findSplits_21 4 rfl ?_
  refine zi_bipush (v := 8) hO dX12_findSplits_23 (by decide) ?_
  refine zi_icmp_ge (tgt := 99) hO dX12_findSplits_25 (by decide) (fun c1 => ?_) (fun c1 => ?_)
  · have h := h.1 c1
    refine zi_aload_n hO dX12_findSplits_99 0 rfl ?_
    refine zi_getR (r' := 60) (i' := 0) hO dX12_findSplits_100 fX12_86 rfl rfl (zI (by decide)) rfl ?_
    refine zi_bipush (v := 64) hO dX12_findSplits_103 (by decide) ?_
    refine zi_iload_n hO dX12_findSplits_105 1 rfl ?_
    refine zi_imul hO dX12_findSplits_106 ?_
    refine zi_iload_n hO dX12_findSplits_107 2 rfl ?_
    refine zi_iadd hO dX12_findSplits_108 ?_
    refine zi_iload_n hO dX12_findSplits_109 2 rfl ?_
    obtain ⟨P1, hM1, h⟩ := h
    refine zc_SI (as := [vI x2]) hO hN dX12_findSplits_110 kX12_272 (by decide) rfl (Nat.le_of_ble_eq_true rfl) rfl rfl hM1 (fun v1 im1 lv1 hp1 => ?_)
    replace h := h v1 im1 lv1 hp1
    refine zi_aload_n hO dX12_findSplits_113 0 rfl ?_
    refine zi_getR (r' := 48) (i' := 0) hO dX12_findSplits_114 fX12_47 rfl rfl (zI (by decide)) rfl ?_
    refine zi_iload_n hO dX12_findSplits_117 1 rfl ?_
    obtain ⟨s2, h⟩ := h
    refine zi_iald hO dX12_findSplits_118 rfl (zI (by decide)) s2 ?_
    refine zi_icmp_le (tgt := 127) hO dX12_findSplits_119 (by decide) (fun c2 => ?_) (fun c2 => ?_)
    · have h := h.1 c2
      refine zi_bipush (v := 10) hO dX12_findSplits_127 (by decide) ?_
      refine zi_iload_n hO dX12_findSplits_129 3 rfl ?_
      refine zi_imul hO dX12_findSplits_130 ?_
      obtain ⟨s3, h⟩ := h
      refine zi_iast hO dX12_findSplits_131 rfl (zI (by decide)) s3 ?_
      refine zi_iinc (v' := (x2 + 1)) (L' := [(0, vR 43 0), (1, vI x1), (2, vI (x2 + 1)), (3, vI x3), (4, vI x4)]) hO dX12_findSplits_132 2 rfl rfl (by decide) rfl rfl ?_
      refine zi_goto (tgt := 10) hO dX12_findSplits_135 (by decide) ?_
      refine zi_pick (L' := [(0, vR 43 0), (1, vI x1), (2, vI (x2 + 1))]) [0, 1, 2] rfl ?_
      exact h
    · have h := h.2 c2
      refine zi_ldc (v := (-1000000)) hO dX12_findSplits_122 nX12_131 ?_
      refine zi_goto (tgt := 131) hO dX12_findSplits_124 (by decide) ?_
      obtain ⟨s4, h⟩ := h
      refine zi_iast hO dX12_findSplits_131 rfl (zI (by decide)) s4 ?_
      refine zi_iinc (v' := (x2 + 1)) (L' := [(0, vR 43 0), (1, vI x1), (2, vI (x2 + 1)), (3, vI x3), (4, vI x4)]) hO dX12_findSplits_132 2 rfl rfl (by decide) rfl rfl ?_
      refine zi_goto (tgt := 10) hO dX12_findSplits_135 (by decide) ?_
      refine zi_pick (L' := [(0, vR 43 0), (1, vI x1), (2, vI (x2 + 1))]) [0, 1, 2] rfl ?_
      exact h
  · have h := h.2 c1
    refine zi_aload_n hO dX12_findSplits_28 0 rfl ?_
    refine zi_iload hO dX12_findSplits_29 4 rfl ?_
    refine zi_iload_n hO dX12_findSplits_31 1 rfl ?_
    obtain ⟨P5, hM5, h⟩ := h
    refine zc_VI (as := [vI x4, vI x1]) hO hN dX12_findSplits_32 kX12_134 (by decide) rfl (zI (by decide)) rfl rfl (Nat.le_of_ble_eq_true rfl) rfl rfl hM5 (fun v5 im5 lv5 hp5 => ?_)
    replace h := h v5 im5 lv5 hp5
    refine zi_istore (L' := [(0, vR 43 0), (1, vI x1), (2, vI x2), (3, vI x3), (4, vI x4), (5, vI v5)]) hO dX12_findSplits_35 (by decide) rfl rfl ?_
    refine zi_iload hO dX12_findSplits_37 5 rfl ?_
    refine zi_iload hO dX12_findSplits_39 4 rfl ?_
    refine zi_bipush (v := 6) hO dX12_findSplits_41 (by decide) ?_
    refine zi_icmp_ge (tgt := 63) hO dX12_findSplits_43 (by decide) (fun c3 => ?_) (fun c3 => ?_)
    · have h := h.1 c3
      refine zi_iconst (v := 0) hO dX12_findSplits_63 (by decide) ?_
      refine zi_iadd hO dX12_findSplits_64 ?_
      refine zi_istore (L' := [(0, vR 43 0), (1, vI x1), (2, vI x2), (3, vI x3), (4, vI x4), (5, vI (v5 + 0))]) hO dX12_findSplits_65 (by decide) rfl rfl ?_
      refine zi_aload_n hO dX12_findSplits_67 0 rfl ?_
      refine zi_iload hO dX12_findSplits_68 4 rfl ?_
      refine zi_iload_n hO dX12_findSplits_70 1 rfl ?_
      obtain ⟨P6, hM6, h⟩ := h
      refine zc_VI (as := [vI x4, vI x1]) hO hN dX12_findSplits_71 kX12_244 (by decide) rfl (zI (by decide)) rfl rfl (Nat.le_of_ble_eq_true rfl) rfl rfl hM6 (fun v6 im6 lv6 hp6 => ?_)
      replace h := h v6 im6 lv6 hp6
      refine zi_iload hO dX12_findSplits_74 5 rfl ?_
      refine zi_isub hO dX12_findSplits_76 ?_
      refine zi_istore (L' := [(0, vR 43 0), (1, vI x1), (2, vI x2), (3, vI x3), (4, vI x4), (5, vI (v5 + 0)), (6, vI (v6 - (v5 + 0)))]) hO dX12_findSplits_77 (by decide) rfl rfl ?_
      refine zi_iload_n hO dX12_findSplits_79 3 rfl ?_
      refine zi_iload hO dX12_findSplits_80 6 rfl ?_
      refine zi_if_le (tgt := 90) hO dX12_findSplits_82 (by decide) (fun c4 => ?_) (fun c4 => ?_)
      · have h := h.1 c4
        refine zi_iconst (v := 0) hO dX12_findSplits_90 (by decide) ?_
        refine zi_iadd hO dX12_findSplits_91 ?_
        refine zi_istore_n (L' := [(0, vR 43 0), (1, vI x1), (2, vI x2), (3, vI (x3 + 0)), (4, vI x4), (5, vI (v5 + 0)), (6, vI (v6 - (v5 + 0)))]) hO dX12_findSplits_92 (by decide) rfl rfl ?_
        refine zi_iinc (v' := (x4 + 1)) (L' := [(0, vR 43 0), (1, vI x1), (2, vI x2), (3, vI (x3 + 0)), (4, vI (x4 + 1)), (5, vI (v5 + 0)), (6, vI (v6 - (v5 + 0)))]) hO dX12_findSplits_93 4 rfl rfl (by decide) rfl rfl ?_
        refine zi_goto (tgt := 21) hO dX12_findSplits_96 (by decide) ?_
        refine zi_pick (L' := [(0, vR 43 0), (1, vI x1), (2, vI x2), (3, vI (x3 + 0)), (4, vI (x4 + 1))]) [0, 1, 2, 3, 4] rfl ?_
        exact h
      · have h := h.2 c4
        refine zi_iload hO dX12_findSplits_85 6 rfl ?_
        refine zi_goto (tgt := 91) hO dX12_findSplits_87 (by decide) ?_
        refine zi_iadd hO dX12_findSplits_91 ?_
        refine zi_istore_n (L' := [(0, vR 43 0), (1, vI x1), (2, vI x2), (3, vI (x3 + (v6 - (v5 + 0)))), (4, vI x4), (5, vI (v5 + 0)), (6, vI (v6 - (v5 + 0)))]) hO dX12_findSplits_92 (by decide) rfl rfl ?_
        refine zi_iinc (v' := (x4 + 1)) (L' := [(0, vR 43 0), (1, vI x1), (2, vI x2), (3, vI (x3 + (v6 - (v5 + 0)))), (4, vI (x4 + 1)), (5, vI (v5 + 0)), (6, vI (v6 - (v5 + 0)))]) hO dX12_findSplits_93 4 rfl rfl (by decide) rfl rfl ?_
        refine zi_goto (tgt := 21) hO dX12_findSplits_96 (by decide) ?_
        refine zi_pick (L' := [(0, vR 43 0), (1, vI x1), (2, vI x2), (3, vI (x3 + (v6 - (v5 + 0)))), (4, vI (x4 + 1))]) [0, 1, 2, 3, 4] rfl ?_
        exact h
    · have h := h.2 c3
      refine zi_iload_n hO dX12_findSplits_46 2 rfl ?_
      refine zi_iload hO dX12_findSplits_47 4 rfl ?_
      refine zi_ishr hO dX12_findSplits_49 ?_
      refine zi_iconst (v := 1) hO dX12_findSplits_50 (by decide) ?_
      refine zi_iand hO dX12_findSplits_51 ?_
      refine zi_iconst (v := 1) hO dX12_findSplits_52 (by decide) ?_
      refine zi_icmp_ne (tgt := 63) hO dX12_findSplits_53 (by decide) (fun c5 => ?_) (fun c5 => ?_)
      · have h := h.1 c5
        refine zi_iconst (v := 0) hO dX12_findSplits_63 (by decide) ?_
        refine zi_iadd hO dX12_findSplits_64 ?_
        refine zi_istore (L' := [(0, vR 43 0), (1, vI x1), (2, vI x2), (3, vI x3), (4, vI x4), (5, vI (v5 + 0))]) hO dX12_findSplits_65 (by decide) rfl rfl ?_
        refine zi_aload_n hO dX12_findSplits_67 0 rfl ?_
        refine zi_iload hO dX12_findSplits_68 4 rfl ?_
        refine zi_iload_n hO dX12_findSplits_70 1 rfl ?_
        obtain ⟨P7, hM7, h⟩ := h
        refine zc_VI (as := [vI x4, vI x1]) hO hN dX12_findSplits_71 kX12_244 (by decide) rfl (zI (by decide)) rfl rfl (Nat.le_of_ble_eq_true rfl) rfl rfl hM7 (fun v7 im7 lv7 hp7 => ?_)
        replace h := h v7 im7 lv7 hp7
        refine zi_iload hO dX12_findSplits_74 5 rfl ?_
        refine zi_isub hO dX12_findSplits_76 ?_
        refine zi_istore (L' := [(0, vR 43 0), (1, vI x1), (2, vI x2), (3, vI x3), (4, vI x4), (5, vI (v5 + 0)), (6, vI (v7 - (v5 + 0)))]) hO dX12_findSplits_77 (by decide) rfl rfl ?_
        refine zi_iload_n hO dX12_findSplits_79 3 rfl ?_
        refine zi_iload hO dX12_findSplits_80 6 rfl ?_
        refine zi_if_le (tgt := 90) hO dX12_findSplits_82 (by decide) (fun c6 => ?_) (fun c6 => ?_)
        · have h := h.1 c6
          refine zi_iconst (v := 0) hO dX12_findSplits_90 (by decide) ?_
          refine zi_iadd hO dX12_findSplits_91 ?_
          refine zi_istore_n (L' := [(0, vR 43 0), (1, vI x1), (2, vI x2), (3, vI (x3 + 0)), (4, vI x4), (5, vI (v5 + 0)), (6, vI (v7 - (v5 + 0)))]) hO dX12_findSplits_92 (by decide) rfl rfl ?_
          refine zi_iinc (v' := (x4 + 1)) (L' := [(0, vR 43 0), (1, vI x1), (2, vI x2), (3, vI (x3 + 0)), (4, vI (x4 + 1)), (5, vI (v5 + 0)), (6, vI (v7 - (v5 + 0)))]) hO dX12_findSplits_93 4 rfl rfl (by decide) rfl rfl ?_
          refine zi_goto (tgt := 21) hO dX12_findSplits_96 (by decide) ?_
          refine zi_pick (L' := [(0, vR 43 0), (1, vI x1), (2, vI x2), (3, vI (x3 + 0)), (4, vI (x4 + 1))]) [0, 1, 2, 3, 4] rfl ?_
          exact h
        · have h := h.2 c6
          refine zi_iload hO dX12_findSplits_85 6 rfl ?_
          refine zi_goto (tgt := 91) hO dX12_findSplits_87 (by decide) ?_
          refine zi_iadd hO dX12_findSplits_91 ?_
          refine zi_istore_n (L' := [(0, vR 43 0), (1, vI x1), (2, vI x2), (3, vI (x3 + (v7 - (v5 + 0)))), (4, vI x4), (5, vI (v5 + 0)), (6, vI (v7 - (v5 + 0)))]) hO dX12_findSplits_92 (by decide) rfl rfl ?_
          refine zi_iinc (v' := (x4 + 1)) (L' := [(0, vR 43 0), (1, vI x1), (2, vI x2), (3, vI (x3 + (v7 - (v5 + 0)))), (4, vI (x4 + 1)), (5, vI (v5 + 0)), (6, vI (v7 - (v5 + 0)))]) hO dX12_findSplits_93 4 rfl rfl (by decide) rfl rfl ?_
          refine zi_goto (tgt := 21) hO dX12_findSplits_96 (by decide) ?_
          refine zi_pick (L' := [(0, vR 43 0), (1, vI x1), (2, vI x2), (3, vI (x3 + (v7 - (v5 + 0)))), (4, vI (x4 + 1))]) [0, 1, 2, 3, 4] rfl ?_
          exact h
      · have h := h.2 c5
        refine zi_iload hO dX12_findSplits_56 5 rfl ?_
        refine zi_iconst (v := 2) hO dX12_findSplits_58 (by decide) ?_
        refine zi_idiv hO dX12_findSplits_59 (by decide) ?_
        refine zi_goto (tgt := 64) hO dX12_findSplits_60 (by decide) ?_
        refine zi_iadd hO dX12_findSplits_64 ?_
        refine zi_istore (L' := [(0, vR 43 0), (1, vI x1), (2, vI x2), (3, vI x3), (4, vI x4), (5, vI (v5 + (v5 / 2)))]) hO dX12_findSplits_65 (by decide) rfl rfl ?_
        refine zi_aload_n hO dX12_findSplits_67 0 rfl ?_
        refine zi_iload hO dX12_findSplits_68 4 rfl ?_
        refine zi_iload_n hO dX12_findSplits_70 1 rfl ?_
        obtain ⟨P8, hM8, h⟩ := h
        refine zc_VI (as := [vI x4, vI x1]) hO hN dX12_findSplits_71 kX12_244 (by decide) rfl (zI (by decide)) rfl rfl (Nat.le_of_ble_eq_true rfl) rfl rfl hM8 (fun v8 im8 lv8 hp8 => ?_)
        replace h := h v8 im8 lv8 hp8
        refine zi_iload hO dX12_findSplits_74 5 rfl ?_
        refine zi_isub hO dX12_findSplits_76 ?_
        refine zi_istore (L' := [(0, vR 43 0), (1, vI x1), (2, vI x2), (3, vI x3), (4, vI x4), (5, vI (v5 + (v5 / 2))), (6, vI (v8 - (v5 + (v5 / 2))))]) hO dX12_findSplits_77 (by decide) rfl rfl ?_
        refine zi_iload_n hO dX12_findSplits_79 3 rfl ?_
        refine zi_iload hO dX12_findSplits_80 6 rfl ?_
        refine zi_if_le (tgt := 90) hO dX12_findSplits_82 (by decide) (fun c7 => ?_) (fun c7 => ?_)
        · have h := h.1 c7
          refine zi_iconst (v := 0) hO dX12_findSplits_90 (by decide) ?_
          refine zi_iadd hO dX12_findSplits_91 ?_
          refine zi_istore_n (L' := [(0, vR 43 0), (1, vI x1), (2, vI x2), (3, vI (x3 + 0)), (4, vI x4), (5, vI (v5 + (v5 / 2))), (6, vI (v8 - (v5 + (v5 / 2))))]) hO dX12_findSplits_92 (by decide) rfl rfl ?_
          refine zi_iinc (v' := (x4 + 1)) (L' := [(0, vR 43 0), (1, vI x1), (2, vI x2), (3, vI (x3 + 0)), (4, vI (x4 + 1)), (5, vI (v5 + (v5 / 2))), (6, vI (v8 - (v5 + (v5 / 2))))]) hO dX12_findSplits_93 4 rfl rfl (by decide) rfl rfl ?_
          refine zi_goto (tgt := 21) hO dX12_findSplits_96 (by decide) ?_
          refine zi_pick (L' := [(0, vR 43 0), (1, vI x1), (2, vI x2), (3, vI (x3 + 0)), (4, vI (x4 + 1))]) [0, 1, 2, 3, 4] rfl ?_
          exact h
        · have h := h.2 c7
          refine zi_iload hO dX12_findSplits_85 6 rfl ?_
          refine zi_goto (tgt := 91) hO dX12_findSplits_87 (by decide) ?_
          refine zi_iadd hO dX12_findSplits_91 ?_
          refine zi_istore_n (L' := [(0, vR 43 0), (1, vI x1), (2, vI x2), (3, vI (x3 + (v8 - (v5 + (v5 / 2))))), (4, vI x4), (5, vI (v5 + (v5 / 2))), (6, vI (v8 - (v5 + (v5 / 2))))]) hO dX12_findSplits_92 (by decide) rfl rfl ?_
          refine zi_iinc (v' := (x4 + 1)) (L' := [(0, vR 43 0), (1, vI x1), (2, vI x2), (3, vI (x3 + (v8 - (v5 + (v5 / 2))))), (4, vI (x4 + 1)), (5, vI (v5 + (v5 / 2))), (6, vI (v8 - (v5 + (v5 / 2))))]) hO dX12_findSplits_93 4 rfl rfl (by decide) rfl rfl ?_
          refine zi_goto (tgt := 21) hO dX12_findSplits_96 (by decide) ?_
          refine zi_pick (L' := [(0, vR 43 0), (1, vI x1), (2, vI x2), (3, vI (x3 + (v8 - (v5 + (v5 / 2))))), (4, vI (x4 + 1))]) [0, 1, 2, 3, 4] rfl ?_
          exact h
theorem rX12_findSplits_146 {x : zX} {w : zWd} {im : zMem} {lv : Int64} {P : zMem → Int64 → Prop} {x1 : Int32} (hO : zOK x w zyX12_findSplits 4) (hR : zRetV x w zyX12_findSplits P) (hN : zN x 126 126)
 (h : ((64 ≤ x1 → zW x w 172 [(0, vR 43 0), (1, vI 47)] [] im lv) ∧
 (¬ (64 ≤ x1) → (vp_in (3072 + x1) 3136 ∧ zW x w 146 [(0, vR 43 0), (1, vI (x1 + 1))] [] (zwr im 61 0 (Int32.toNatClampNeg (3072 + x1)) 0) lv)))) :
 zW x w 146 [(0, vR 43 0), (1, vI x1)] [] im lv := by
  refine zi_iload_n hO dX12_findSplits_146 1 rfl ?_
  refine zi_bipush (v := 64) hO dX12_findSplits_147 (by decide) ?_
  refine zi_icmp_ge (tgt := 169) hO dX12_findSplits_149 (by decide) (fun c1 => ?_) (fun c1 => ?_)
  · have h := h.1 c1
    refine zi_bipush (v := 47) hO dX12_findSplits_169 (by decide) ?_
    refine zi_istore_n (L' := [(0, vR 43 0), (1, vI 47)]) hO dX12_findSplits_171 (by decide) rfl rfl ?_
    exact h
  · have h := h.2 c1
    refine zi_aload_n hO dX12_findSplits_152 0 rfl ?_
    refine zi_getR (r' := 61) (i' := 0) hO dX12_findSplits_153 fX12_89 rfl rfl (zI (by decide)) rfl ?_
    refine zi_sipush (v := 3072) hO dX12_findSplits_156 (by decide) ?_
    refine zi_iload_n hO dX12_findSplits_159 1 rfl ?_
    refine zi_iadd hO dX12_findSplits_160 ?_
    refine zi_iconst (v := 0) hO dX12_findSplits_161 (by decide) ?_
    obtain ⟨s1, h⟩ := h
    refine zi_iast hO dX12_findSplits_162 rfl (zI (by decide)) s1 ?_
    refine zi_iinc (v' := (x1 + 1)) (L' := [(0, vR 43 0), (1, vI (x1 + 1))]) hO dX12_findSplits_163 1 rfl rfl (by decide) rfl rfl ?_
    refine zi_goto (tgt := 146) hO dX12_findSplits_166 (by decide) ?_
    exact h
theorem rX12_findSplits_172 {x : zX} {w : zWd} {im : zMem} {lv : Int64} {P : zMem → Int64 → Prop} {x1 : Int32} (hO : zOK x w zyX12_findSplits 4) (hR : zRetV x w zyX12_findSplits P) (hN : zN x 126 126)
 (h : ((x1 < 0 → zW x w 310 [(0, vR 43 0), (1, vI 0), (2, vI 0)] [] im lv) ∧
 (¬ (x1 < 0) → zW x w 178 [(0, vR 43 0), (1, vI x1), (2, vI 0)] [] im lv))) :
 zW x w 172 [(0, vR 43 0), (1, vI x1)] [] im lv := by
  refine zi_iload_n hO dX12_findSplits_172 1 rfl ?_
  refine zi_if_lt (tgt := 306) hO dX12_findSplits_173 (by decide) (fun c1 => ?_) (fun c1 => ?_)
  · have h := h.1 c1
    refine zi_iconst (v := 0) hO dX12_findSplits_306 (by decide) ?_
    refine zi_istore_n (L' := [(0, vR 43 0), (1, vI 0)]) hO dX12_findSplits_307 (by decide) rfl rfl ?_
    refine zi_iconst (v := 0) hO dX12_findSplits_308 (by decide) ?_
    refine zi_istore_n (L' := [(0, vR 43 0), (1, vI 0), (2, vI 0)]) hO dX12_findSplits_309 (by decide) rfl rfl ?_
    exact h
  · have h := h.2 c1
    refine zi_iconst (v := 0) hO dX12_findSplits_176 (by decide) ?_
    refine zi_istore_n (L' := [(0, vR 43 0), (1, vI x1), (2, vI 0)]) hO dX12_findSplits_177 (by decide) rfl rfl ?_
    exact h
theorem rX12_findSplits_178 {x : zX} {w : zWd} {im : zMem} {lv : Int64} {P : zMem → Int64 → Prop} {x1 : Int32} {x2 : Int32} (hO : zOK x w zyX12_findSplits 4) (hR : zRetV x w zyX12_findSplits P) (hN : zN x 126 126)
 (h : ((64 ≤ x2 → zW x w 172 [(0, vR 43 0), (1, vI (x1 + (-1)))] [] im lv) ∧
 (¬ (64 ≤ x2) → zW x w 190 [(0, vR 43 0), (1, vI x1), (2, vI x2), (3, vI (-1000000)), (4, vI 0)] [] im lv))) :
 zW x w 178 [(0, vR 43 0), (1, vI x1), (2, vI x2)] [] im lv := by
  refine zi_iload_n hO dX12_findSplits_178 2 rfl ?_
  refine zi_bipush (v := 64) hO dX12_findSplits_179 (by decide) ?_
  refine zi_icmp_ge (tgt := 300) hO dX12_findSplits_181 (by decide) (fun c1 => ?_) (fun c1 => ?_)
  · have h := h.1 c1
    refine zi_iinc (v' := (x1 + (-1))) (L' := [(0, vR 43 0), (1, vI (x1 + (-1))), (2, vI x2)]) hO dX12_findSplits_300 1 rfl rfl (by decide) rfl rfl ?_
    refine zi_goto (tgt := 172) hO dX12_findSplits_303 (by decide) ?_
    refine zi_pick (L' := [(0, vR 43 0), (1, vI (x1 + (-1)))]) [0, 1] rfl ?_
    exact h
  · have h := h.2 c1
    refine zi_ldc (v := (-1000000)) hO dX12_findSplits_184 nX12_131 ?_
    refine zi_istore_n (L' := [(0, vR 43 0), (1, vI x1), (2, vI x2), (3, vI (-1000000))]) hO dX12_findSplits_186 (by decide) rfl rfl ?_
    refine zi_iconst (v := 0) hO dX12_findSplits_187 (by decide) ?_
    refine zi_istore (L' := [(0, vR 43 0), (1, vI x1), (2, vI x2), (3, vI (-1000000)), (4, vI 0)]) hO dX12_findSplits_188 (by decide) rfl rfl ?_
    exact h
theorem rX12_findSplits_190 {x : zX} {w : zWd} {im : zMem} {lv : Int64} {P : zMem → Int64 → Prop} {x1 : Int32} {x2 : Int32} {x3 : Int32} {x4 : Int32} (hO : zOK x w zyX12_findSplits 4) (hR : zRetV x w zyX12_findSplits P) (hN : zN x 126 126)
 (h : ((64 ≤ x4 → (vp_in ((64 * x1) + x2) 3136 ∧ zW x w 178 [(0, vR 43 0), (1, vI x1), (2, vI (x2 + 1))] [] (zwr im 61 0 (Int32.toNatClampNeg ((64 * x1) + x2)) x3) lv)) ∧
 (¬ (64 ≤ x4) → (vp_in ((64 * x1) + x4) 3072 ∧ ((¬ ((im 60 0 (Int32.toNatClampNeg ((64 * x1) + x4))) = (-1000000)) → (∃ P3 : Int32 → zMem → Int64 → Prop, zSpecI x.2.1 w 2 zyX12_bits [vI (x2 ^^^ x4)] im lv P3 ∧ ∀ (v3 : Int32) (im3 : zMem) (lv3 : Int64), P3 v3 im3 lv3 → (vp_in ((64 * (x1 + 1)) + x4) 3136 ∧ (((((im 60 0 (Int32.toNatClampNeg ((64 * x1) + x4))) + v3) + (im3 61 0 (Int32.toNatClampNeg ((64 * (x1 + 1)) + x4)))) = (-1000000) → zW x w 190 [(0, vR 43 0), (1, vI x1), (2, vI x2), (3, vI x3), (4, vI (x4 + 1))] [] im3 lv3) ∧
 (¬ ((((im 60 0 (Int32.toNatClampNeg ((64 * x1) + x4))) + v3) + (im3 61 0 (Int32.toNatClampNeg ((64 * (x1 + 1)) + x4)))) = (-1000000)) → ((x3 = (-1000000) → zW x w 190 [(0, vR 43 0), (1, vI x1), (2, vI x2), (3, vI (((im 60 0 (Int32.toNatClampNeg ((64 * x1) + x4))) + v3) + (im3 61 0 (Int32.toNatClampNeg ((64 * (x1 + 1)) + x4))))), (4, vI (x4 + 1))] [] im3 lv3) ∧
 (¬ (x3 = (-1000000)) → ((x3 ≤ (((im 60 0 (Int32.toNatClampNeg ((64 * x1) + x4))) + v3) + (im3 61 0 (Int32.toNatClampNeg ((64 * (x1 + 1)) + x4)))) → zW x w 190 [(0, vR 43 0), (1, vI x1), (2, vI x2), (3, vI x3), (4, vI (x4 + 1))] [] im3 lv3) ∧
 (¬ (x3 ≤ (((im 60 0 (Int32.toNatClampNeg ((64 * x1) + x4))) + v3) + (im3 61 0 (Int32.toNatClampNeg ((64 * (x1 + 1)) + x4))))) → zW x w 190 [(0, vR 43 0), (1, vI x1), (2, vI x2), (3, vI (((im 60 0 (Int32.toNatClampNeg ((64 * x1) + x4))) + v3) + (im3 61 0 (Int32.toNatClampNeg ((64 * (x1 + 1)) + x4))))), (4, vI (x4 + 1))] [] im3 lv3))))))))) ∧
 ((im 60 0 (Int32.toNatClampNeg ((64 * x1) + x4))) = (-1000000) → zW x w 190 [(0, vR 43 0), (1, vI x1), (2, vI x2), (3, vI x3), (4, vI (x4 + 1))] [] im lv)))))) :
 zW x w 190 [(0, vR 43 0), (1, vI x1), (2, vI x2), (3, vI x3), (4, vI x4)] [] im lv := by
  refine zi_iload hO dX12_findSplits_190 4 rfl ?_
  refine zi_bipush (v := 64) hO dX12_findSplits_192 (by decide) ?_
  refine zi_icmp_ge (tgt := 282) hO dX12_findSplits_194 (by decide) (fun c1 => ?_) (fun c1 => ?_)
  · have h := h.1 c1
    refine zi_aload_n hO dX12_findSplits_282 0 rfl ?_
    refine zi_getR (r' := 61) (i' := 0) hO dX12_findSplits_283 fX12_89 rfl rfl (zI (by decide)) rfl ?_
    refine zi_bipush (v := 64) hO dX12_findSplits_286 (by decide) ?_
    refine zi_iload_n hO dX12_findSplits_288 1 rfl ?_
    refine zi_imul hO dX12_findSplits_289 ?_
    refine zi_iload_n hO dX12_findSplits_290 2 rfl ?_
    refine zi_iadd hO dX12_findSplits_291 ?_
    refine zi_iload_n hO dX12_findSplits_292 3 rfl ?_
    obtain ⟨s1, h⟩ := h
    refine zi_iast hO dX12_findSplits_293 rfl (zI (by decide)) s1 ?_
    refine zi_iinc (v' := (x2 + 1)) (L' := [(0, vR 43 0), (1, vI x1), (2, vI (x2 + 1)), (3, vI x3), (4, vI x4)]) hO dX12_findSplits_294 2 rfl rfl (by decide) rfl rfl ?_
    refine zi_goto (tgt := 178) hO dX12_findSplits_297 (by decide) ?_
    refine zi_pick (L' := [(0, vR 43 0), (1, vI x1), (2, vI (x2 + 1))]) [0, 1, 2] rfl ?_
    exact h
  · have h := h.2 c1
    refine zi_aload_n hO dX12_findSplits_197 0 rfl ?_
    refine zi_getR (r' := 60) (i' := 0) hO dX12_findSplits_198 fX12_86 rfl rfl (zI (by decide)) rfl ?_
    refine zi_bipush (v := 64) hO dX12_findSplits_201 (by decide) ?_
    refine zi_iload_n hO dX12_findSplits_203 1 rfl ?_
    refine zi_imul hO dX12_findSplits_204 ?_
    refine zi_iload hO dX12_findSplits_205 4 rfl ?_
    refine zi_iadd hO dX12_findSplits_207 ?_
    obtain ⟨s2, h⟩ := h
    refine zi_iald hO dX12_findSplits_208 rfl (zI (by decide)) s2 ?_
    refine zi_istore (L' := [(0, vR 43 0), (1, vI x1), (2, vI x2), (3, vI x3), (4, vI x4), (5, vI (im 60 0 (Int32.toNatClampNeg ((64 * x1) + x4))))]) hO dX12_findSplits_209 (by decide) rfl rfl ?_
    refine zi_iload hO dX12_findSplits_211 5 rfl ?_
    refine zi_ldc (v := (-1000000)) hO dX12_findSplits_213 nX12_131 ?_
    refine zi_icmp_ne (tgt := 223) hO dX12_findSplits_215 (by decide) (fun c2 => ?_) (fun c2 => ?_)
    · have h := h.1 c2
      refine zi_iload hO dX12_findSplits_223 5 rfl ?_
      refine zi_iload_n hO dX12_findSplits_225 2 rfl ?_
      refine zi_iload hO dX12_findSplits_226 4 rfl ?_
      refine zi_ixor hO dX12_findSplits_228 ?_
      obtain ⟨P3, hM3, h⟩ := h
      refine zc_SI (as := [vI (x2 ^^^ x4)]) hO hN dX12_findSplits_229 kX12_272 (by decide) rfl (Nat.le_of_ble_eq_true rfl) rfl rfl hM3 (fun v3 im3 lv3 hp3 => ?_)
      replace h := h v3 im3 lv3 hp3
      refine zi_iadd hO dX12_findSplits_232 ?_
      refine zi_aload_n hO dX12_findSplits_233 0 rfl ?_
      refine zi_getR (r' := 61) (i' := 0) hO dX12_findSplits_234 fX12_89 rfl rfl (zI (by decide)) rfl ?_
      refine zi_bipush (v := 64) hO dX12_findSplits_237 (by decide) ?_
      refine zi_iload_n hO dX12_findSplits_239 1 rfl ?_
      refine zi_iconst (v := 1) hO dX12_findSplits_240 (by decide) ?_
      refine zi_iadd hO dX12_findSplits_241 ?_
      refine zi_imul hO dX12_findSplits_242 ?_
      refine zi_iload hO dX12_findSplits_243 4 rfl ?_
      refine zi_iadd hO dX12_findSplits_245 ?_
      obtain ⟨s4, h⟩ := h
      refine zi_iald hO dX12_findSplits_246 rfl (zI (by decide)) s4 ?_
      refine zi_iadd hO dX12_findSplits_247 ?_
      refine zi_istore (L' := [(0, vR 43 0), (1, vI x1), (2, vI x2), (3, vI x3), (4, vI x4), (5, vI (im 60 0 (Int32.toNatClampNeg ((64 * x1) + x4)))), (6, vI (((im 60 0 (Int32.toNatClampNeg ((64 * x1) + x4))) + v3) + (im3 61 0 (Int32.toNatClampNeg ((64 * (x1 + 1)) + x4)))))]) hO dX12_findSplits_248 (by decide) rfl rfl ?_
      refine zi_iload hO dX12_findSplits_250 6 rfl ?_
      refine zi_ldc (v := (-1000000)) hO dX12_findSplits_252 nX12_131 ?_
      refine zi_icmp_eq (tgt := 274) hO dX12_findSplits_254 (by decide) (fun c3 => ?_) (fun c3 => ?_)
      · have h := h.1 c3
        refine zi_iload_n hO dX12_findSplits_274 3 rfl ?_
        refine zi_istore_n (L' := [(0, vR 43 0), (1, vI x1), (2, vI x2), (3, vI x3), (4, vI x4), (5, vI (im 60 0 (Int32.toNatClampNeg ((64 * x1) + x4)))), (6, vI (((im 60 0 (Int32.toNatClampNeg ((64 * x1) + x4))) + v3) + (im3 61 0 (Int32.toNatClampNeg ((64 * (x1 + 1)) + x4)))))]) hO dX12_findSplits_275 (by decide) rfl rfl ?_
        refine zi_iinc (v' := (x4 + 1)) (L' := [(0, vR 43 0), (1, vI x1), (2, vI x2), (3, vI x3), (4, vI (x4 + 1)), (5, vI (im 60 0 (Int32.toNatClampNeg ((64 * x1) + x4)))), (6, vI (((im 60 0 (Int32.toNatClampNeg ((64 * x1) + x4))) + v3) + (im3 61 0 (Int32.toNatClampNeg ((64 * (x1 + 1)) + x4)))))]) hO dX12_findSplits_276 4 rfl rfl (by decide) rfl rfl ?_
        refine zi_goto (tgt := 190) hO dX12_findSplits_279 (by decide) ?_
        refine zi_pick (L' := [(0, vR 43 0), (1, vI x1), (2, vI x2), (3, vI x3), (4, vI (x4 + 1))]) [0, 1, 2, 3, 4] rfl ?_
        exact h
      · have h := h.2 c3
        refine zi_iload_n hO dX12_findSplits_257 3 rfl ?_
        refine zi_ldc (v := (-1000000)) hO dX12_findSplits_258 nX12_131 ?_
        refine zi_icmp_eq (tgt := 269) hO dX12_findSplits_260 (by decide) (fun c4 => ?_) (fun c4 => ?_)
        · have h := h.1 c4
          refine zi_iload hO dX12_findSplits_269 6 rfl ?_
          refine zi_goto (tgt := 275) hO dX12_findSplits_271 (by decide) ?_
          refine zi_istore_n (L' := [(0, vR 43 0), (1, vI x1), (2, vI x2), (3, vI (((im 60 0 (Int32.toNatClampNeg ((64 * x1) + x4))) + v3) + (im3 61 0 (Int32.toNatClampNeg ((64 * (x1 + 1)) + x4))))), (4, vI x4), (5, vI (im 60 0 (Int32.toNatClampNeg ((64 * x1) + x4)))), (6, vI (((im 60 0 (Int32.toNatClampNeg ((64 * x1) + x4))) + v3) + (im3 61 0 (Int32.toNatClampNeg ((64 * (x1 + 1)) + x4)))))]) hO dX12_findSplits_275 (by decide) rfl rfl ?_
          refine zi_iinc (v' := (x4 + 1)) (L' := [(0, vR 43 0), (1, vI x1), (2, vI x2), (3, vI (((im 60 0 (Int32.toNatClampNeg ((64 * x1) + x4))) + v3) + (im3 61 0 (Int32.toNatClampNeg ((64 * (x1 + 1)) + x4))))), (4, vI (x4 + 1)), (5, vI (im 60 0 (Int32.toNatClampNeg ((64 * x1) + x4)))), (6, vI (((im 60 0 (Int32.toNatClampNeg ((64 * x1) + x4))) + v3) + (im3 61 0 (Int32.toNatClampNeg ((64 * (x1 + 1)) + x4)))))]) hO dX12_findSplits_276 4 rfl rfl (by decide) rfl rfl ?_
          refine zi_goto (tgt := 190) hO dX12_findSplits_279 (by decide) ?_
          refine zi_pick (L' := [(0, vR 43 0), (1, vI x1), (2, vI x2), (3, vI (((im 60 0 (Int32.toNatClampNeg ((64 * x1) + x4))) + v3) + (im3 61 0 (Int32.toNatClampNeg ((64 * (x1 + 1)) + x4))))), (4, vI (x4 + 1))]) [0, 1, 2, 3, 4] rfl ?_
          exact h
        · have h := h.2 c4
          refine zi_iload hO dX12_findSplits_263 6 rfl ?_
          refine zi_iload_n hO dX12_findSplits_265 3 rfl ?_
          refine zi_icmp_ge (tgt := 274) hO dX12_findSplits_266 (by decide) (fun c5 => ?_) (fun c5 => ?_)
          · have h := h.1 c5
            refine zi_iload_n hO dX12_findSplits_274 3 rfl ?_
            refine zi_istore_n (L' := [(0, vR 43 0), (1, vI x1), (2, vI x2), (3, vI x3), (4, vI x4), (5, vI (im 60 0 (Int32.toNatClampNeg ((64 * x1) + x4)))), (6, vI (((im 60 0 (Int32.toNatClampNeg ((64 * x1) + x4))) + v3) + (im3 61 0 (Int32.toNatClampNeg ((64 * (x1 + 1)) + x4)))))]) hO dX12_findSplits_275 (by decide) rfl rfl ?_
            refine zi_iinc (v' := (x4 + 1)) (L' := [(0, vR 43 0), (1, vI x1), (2, vI x2), (3, vI x3), (4, vI (x4 + 1)), (5, vI (im 60 0 (Int32.toNatClampNeg ((64 * x1) + x4)))), (6, vI (((im 60 0 (Int32.toNatClampNeg ((64 * x1) + x4))) + v3) + (im3 61 0 (Int32.toNatClampNeg ((64 * (x1 + 1)) + x4)))))]) hO dX12_findSplits_276 4 rfl rfl (by decide) rfl rfl ?_
            refine zi_goto (tgt := 190) hO dX12_findSplits_279 (by decide) ?_
            refine zi_pick (L' := [(0, vR 43 0), (1, vI x1), (2, vI x2), (3, vI x3), (4, vI (x4 + 1))]) [0, 1, 2, 3, 4] rfl ?_
            exact h
          · have h := h.2 c5
            refine zi_iload hO dX12_findSplits_269 6 rfl ?_
            refine zi_goto (tgt := 275) hO dX12_findSplits_271 (by decide) ?_
            refine zi_istore_n (L' := [(0, vR 43 0), (1, vI x1), (2, vI x2), (3, vI (((im 60 0 (Int32.toNatClampNeg ((64 * x1) + x4))) + v3) + (im3 61 0 (Int32.toNatClampNeg ((64 * (x1 + 1)) + x4))))), (4, vI x4), (5, vI (im 60 0 (Int32.toNatClampNeg ((64 * x1) + x4)))), (6, vI (((im 60 0 (Int32.toNatClampNeg ((64 * x1) + x4))) + v3) + (im3 61 0 (Int32.toNatClampNeg ((64 * (x1 + 1)) + x4)))))]) hO dX12_findSplits_275 (by decide) rfl rfl ?_
            refine zi_iinc (v' := (x4 + 1)) (L' := [(0, vR 43 0), (1, vI x1), (2, vI x2), (3, vI (((im 60 0 (Int32.toNatClampNeg ((64 * x1) + x4))) + v3) + (im3 61 0 (Int32.toNatClampNeg ((64 * (x1 + 1)) + x4))))), (4, vI (x4 + 1)), (5, vI (im 60 0 (Int32.toNatClampNeg ((64 * x1) + x4)))), (6, vI (((im 60 0 (Int32.toNatClampNeg ((64 * x1) + x4))) + v3) + (im3 61 0 (Int32.toNatClampNeg ((64 * (x1 + 1)) + x4)))))]) hO dX12_findSplits_276 4 rfl rfl (by decide) rfl rfl ?_
            refine zi_goto (tgt := 190) hO dX12_findSplits_279 (by decide) ?_
            refine zi_pick (L' := [(0, vR 43 0), (1, vI x1), (2, vI x2), (3, vI (((im 60 0 (Int32.toNatClampNeg ((64 * x1) + x4))) + v3) + (im3 61 0 (Int32.toNatClampNeg ((64 * (x1 + 1)) + x4))))), (4, vI (x4 + 1))]) [0, 1, 2, 3, 4] rfl ?_
            exact h
    · have h := h.2 c2
      refine zi_ldc (v := (-1000000)) hO dX12_findSplits_218 nX12_131 ?_
      refine zi_goto (tgt := 248) hO dX12_findSplits_220 (by decide) ?_
      refine zi_istore (L' := [(0, vR 43 0), (1, vI x1), (2, vI x2), (3, vI x3), (4, vI x4), (5, vI (im 60 0 (Int32.toNatClampNeg ((64 * x1) + x4)))), (6, vI (-1000000))]) hO dX12_findSplits_248 (by decide) rfl rfl ?_
      refine zi_iload hO dX12_findSplits_250 6 rfl ?_
      refine zi_ldc (v := (-1000000)) hO dX12_findSplits_252 nX12_131 ?_
      refine zi_icmp_eq (tgt := 274) hO dX12_findSplits_254 (by decide) (fun _ => ?_) (fun c6 => absurd c6 (by decide))
      refine zi_iload_n hO dX12_findSplits_274 3 rfl ?_
      refine zi_istore_n (L' := [(0, vR 43 0), (1, vI x1), (2, vI x2), (3, vI x3), (4, vI x4), (5, vI (im 60 0 (Int32.toNatClampNeg ((64 * x1) + x4)))), (6, vI (-1000000))]) hO dX12_findSplits_275 (by decide) rfl rfl ?_
      refine zi_iinc (v' := (x4 + 1)) (L' := [(0, vR 43 0), (1, vI x1), (2, vI x2), (3, vI x3), (4, vI (x4 + 1)), (5, vI (im 60 0 (Int32.toNatClampNeg ((64 * x1) + x4)))), (6, vI (-1000000))]) hO dX12_findSplits_276 4 rfl rfl (by decide) rfl rfl ?_
      refine zi_goto (tgt := 190) hO dX12_findSplits_279 (by decide) ?_
      refine zi_pick (L' := [(0, vR 43 0), (1, vI x1), (2, vI x2), (3, vI x3), (4, vI (x4 + 1))]) [0, 1, 2, 3, 4] rfl ?_
      exact h
theorem rX12_findSplits_310 {x : zX} {w : zWd} {im : zMem} {lv : Int64} {P : zMem → Int64 → Prop} {x1 : Int32} {x2 : Int32} (hO : zOK x w zyX12_findSplits 4) (hR : zRetV x w zyX12_findSplits P) (hN : zN x 126 126)
 (h : ((48 ≤ x2 → P im lv) ∧
 (¬ (48 ≤ x2) → zW x w 323 [(0, vR 43 0), (1, vI x1), (2, vI x2), (3, vI (-1000000)), (4, vI 63)] [] im lv))) :
 zW x w 310 [(0, vR 43 0), (1, vI x1), (2, vI x2)] [] im lv := by
  refine zi_iload_n hO dX12_findSplits_310 2 rfl ?_
  refine zi_bipush (v := 48) hO dX12_findSplits_311 (by decide) ?_
  refine zi_icmp_ge (tgt := 416) hO dX12_findSplits_313 (by decide) (fun c1 => ?_) (fun c1 => ?_)
  · have h := h.1 c1
    exact zr_V hO hR rfl dX12_findSplits_416 h
  · have h := h.2 c1
    refine zi_ldc (v := (-1000000)) hO dX12_findSplits_316 nX12_131 ?_
    refine zi_istore_n (L' := [(0, vR 43 0), (1, vI x1), (2, vI x2), (3, vI (-1000000))]) hO dX12_findSplits_318 (by decide) rfl rfl ?_
    refine zi_bipush (v := 63) hO dX12_findSplits_319 (by decide) ?_
    refine zi_istore (L' := [(0, vR 43 0), (1, vI x1), (2, vI x2), (3, vI (-1000000)), (4, vI 63)]) hO dX12_findSplits_321 (by decide) rfl rfl ?_
    exact h
theorem rX12_findSplits_323 {x : zX} {w : zWd} {im : zMem} {lv : Int64} {P : zMem → Int64 → Prop} {x1 : Int32} {x2 : Int32} {x3 : Int32} {x4 : Int32} (hO : zOK x w zyX12_findSplits 4) (hR : zRetV x w zyX12_findSplits P) (hN : zN x 126 126)
 (h : ((x4 < 0 → (vp_in x2 48 ∧ zW x w 310 [(0, vR 43 0), (1, vI x3), (2, vI (x2 + 1))] [] (zwr im 62 0 (Int32.toNatClampNeg x2) x3) lv)) ∧
 (¬ (x4 < 0) → (vp_in ((64 * x2) + x4) 3072 ∧ (((im 60 0 (Int32.toNatClampNeg ((64 * x2) + x4))) = (-1000000) → zW x w 323 [(0, vR 43 0), (1, vI x1), (2, vI x2), (3, vI x3), (4, vI (x4 + (-1)))] [] im lv) ∧
 (¬ ((im 60 0 (Int32.toNatClampNeg ((64 * x2) + x4))) = (-1000000)) → (∃ P3 : Int32 → zMem → Int64 → Prop, zSpecI x.2.1 w 2 zyX12_bits [vI (x1 ^^^ x4)] im lv P3 ∧ ∀ (v3 : Int32) (im3 : zMem) (lv3 : Int64), P3 v3 im3 lv3 → (vp_in ((64 * (x2 + 1)) + x4) 3136 ∧ (vp_in ((64 * x2) + x1) 3136 ∧ ((¬ ((((im 60 0 (Int32.toNatClampNeg ((64 * x2) + x4))) + v3) + (im3 61 0 (Int32.toNatClampNeg ((64 * (x2 + 1)) + x4)))) = (im3 61 0 (Int32.toNatClampNeg ((64 * x2) + x1)))) → zW x w 323 [(0, vR 43 0), (1, vI x1), (2, vI x2), (3, vI x3), (4, vI (x4 + (-1)))] [] im3 lv3) ∧
 ((((im 60 0 (Int32.toNatClampNeg ((64 * x2) + x4))) + v3) + (im3 61 0 (Int32.toNatClampNeg ((64 * (x2 + 1)) + x4)))) = (im3 61 0 (Int32.toNatClampNeg ((64 * x2) + x1))) → zW x w 323 [(0, vR 43 0), (1, vI x1), (2, vI x2), (3, vI x4), (4, vI (x4 + (-1)))] [] im3 lv3))))))))))) :
 zW x w 323 [(0, vR 43 0), (1, vI x1), (2, vI x2), (3, vI x3), (4, vI x4)] [] im lv := by
  refine zi_iload hO dX12_findSplits_323 4 rfl ?_
  refine zi_if_lt (tgt := 401) hO dX12_findSplits_325 (by decide) (fun c1 => ?_) (fun c1 => ?_)
  · have h := h.1 c1
    refine zi_aload_n hO dX12_findSplits_401 0 rfl ?_
    refine zi_getR (r' := 62) (i' := 0) hO dX12_findSplits_402 fX12_92 rfl rfl (zI (by decide)) rfl ?_
    refine zi_iload_n hO dX12_findSplits_405 2 rfl ?_
    refine zi_iload_n hO dX12_findSplits_406 3 rfl ?_
    obtain ⟨s1, h⟩ := h
    refine zi_iast hO dX12_findSplits_407 rfl (zI (by decide)) s1 ?_
    refine zi_iload_n hO dX12_findSplits_408 3 rfl ?_
    refine zi_istore_n (L' := [(0, vR 43 0), (1, vI x3), (2, vI x2), (3, vI x3), (4, vI x4)]) hO dX12_findSplits_409 (by decide) rfl rfl ?_
    refine zi_iinc (v' := (x2 + 1)) (L' := [(0, vR 43 0), (1, vI x3), (2, vI (x2 + 1)), (3, vI x3), (4, vI x4)]) hO dX12_findSplits_410 2 rfl rfl (by decide) rfl rfl ?_
    refine zi_goto (tgt := 310) hO dX12_findSplits_413 (by decide) ?_
    refine zi_pick (L' := [(0, vR 43 0), (1, vI x3), (2, vI (x2 + 1))]) [0, 1, 2] rfl ?_
    exact h
  · have h := h.2 c1
    refine zi_aload_n hO dX12_findSplits_328 0 rfl ?_
    refine zi_getR (r' := 60) (i' := 0) hO dX12_findSplits_329 fX12_86 rfl rfl (zI (by decide)) rfl ?_
    refine zi_bipush (v := 64) hO dX12_findSplits_332 (by decide) ?_
    refine zi_iload_n hO dX12_findSplits_334 2 rfl ?_
    refine zi_imul hO dX12_findSplits_335 ?_
    refine zi_iload hO dX12_findSplits_336 4 rfl ?_
    refine zi_iadd hO dX12_findSplits_338 ?_
    obtain ⟨s2, h⟩ := h
    refine zi_iald hO dX12_findSplits_339 rfl (zI (by decide)) s2 ?_
    refine zi_istore (L' := [(0, vR 43 0), (1, vI x1), (2, vI x2), (3, vI x3), (4, vI x4), (5, vI (im 60 0 (Int32.toNatClampNeg ((64 * x2) + x4))))]) hO dX12_findSplits_340 (by decide) rfl rfl ?_
    refine zi_iload hO dX12_findSplits_342 5 rfl ?_
    refine zi_ldc (v := (-1000000)) hO dX12_findSplits_344 nX12_131 ?_
    refine zi_icmp_eq (tgt := 393) hO dX12_findSplits_346 (by decide) (fun c2 => ?_) (fun c2 => ?_)
    · have h := h.1 c2
      refine zi_iload_n hO dX12_findSplits_393 3 rfl ?_
      refine zi_istore_n (L' := [(0, vR 43 0), (1, vI x1), (2, vI x2), (3, vI x3), (4, vI x4), (5, vI (im 60 0 (Int32.toNatClampNeg ((64 * x2) + x4))))]) hO dX12_findSplits_394 (by decide) rfl rfl ?_
      refine zi_iinc (v' := (x4 + (-1))) (L' := [(0, vR 43 0), (1, vI x1), (2, vI x2), (3, vI x3), (4, vI (x4 + (-1))), (5, vI (im 60 0 (Int32.toNatClampNeg ((64 * x2) + x4))))]) hO dX12_findSplits_395 4 rfl rfl (by decide) rfl rfl ?_
      refine zi_goto (tgt := 323) hO dX12_findSplits_398 (by decide) ?_
      refine zi_pick (L' := [(0, vR 43 0), (1, vI x1), (2, vI x2), (3, vI x3), (4, vI (x4 + (-1)))]) [0, 1, 2, 3, 4] rfl ?_
      exact h
    · have h := h.2 c2
      refine zi_iload hO dX12_findSplits_349 5 rfl ?_
      refine zi_iload_n hO dX12_findSplits_351 1 rfl ?_
      refine zi_iload hO dX12_findSplits_352 4 rfl ?_
      refine zi_ixor hO dX12_findSplits_354 ?_
      obtain ⟨P3, hM3, h⟩ := h
      refine zc_SI (as := [vI (x1 ^^^ x4)]) hO hN dX12_findSplits_355 kX12_272 (by decide) rfl (Nat.le_of_ble_eq_true rfl) rfl rfl hM3 (fun v3 im3 lv3 hp3 => ?_)
      replace h := h v3 im3 lv3 hp3
      refine zi_iadd hO dX12_findSplits_358 ?_
      refine zi_aload_n hO dX12_findSplits_359 0 rfl ?_
      refine zi_getR (r' := 61) (i' := 0) hO dX12_findSplits_360 fX12_89 rfl rfl (zI (by decide)) rfl ?_
      refine zi_bipush (v := 64) hO dX12_findSplits_363 (by decide) ?_
      refine zi_iload_n hO dX12_findSplits_365 2 rfl ?_
      refine zi_iconst (v := 1) hO dX12_findSplits_366 (by decide) ?_
      refine zi_iadd hO dX12_findSplits_367 ?_
      refine zi_imul hO dX12_findSplits_368 ?_
      refine zi_iload hO dX12_findSplits_369 4 rfl ?_
      refine zi_iadd hO dX12_findSplits_371 ?_
      obtain ⟨s4, h⟩ := h
      refine zi_iald hO dX12_findSplits_372 rfl (zI (by decide)) s4 ?_
      refine zi_iadd hO dX12_findSplits_373 ?_
      refine zi_aload_n hO dX12_findSplits_374 0 rfl ?_
      refine zi_getR (r' := 61) (i' := 0) hO dX12_findSplits_375 fX12_89 rfl rfl (zI (by decide)) rfl ?_
      refine zi_bipush (v := 64) hO dX12_findSplits_378 (by decide) ?_
      refine zi_iload_n hO dX12_findSplits_380 2 rfl ?_
      refine zi_imul hO dX12_findSplits_381 ?_
      refine zi_iload_n hO dX12_findSplits_382 1 rfl ?_
      refine zi_iadd hO dX12_findSplits_383 ?_
      obtain ⟨s5, h⟩ := h
      refine zi_iald hO dX12_findSplits_384 rfl (zI (by decide)) s5 ?_
      refine zi_icmp_ne (tgt := 393) hO dX12_findSplits_385 (by decide) (fun c3 => ?_) (fun c3 => ?_)
      · have h := h.1 c3
        refine zi_iload_n hO dX12_findSplits_393 3 rfl ?_
        refine zi_istore_n (L' := [(0, vR 43 0), (1, vI x1), (2, vI x2), (3, vI x3), (4, vI x4), (5, vI (im 60 0 (Int32.toNatClampNeg ((64 * x2) + x4))))]) hO dX12_findSplits_394 (by decide) rfl rfl ?_
        refine zi_iinc (v' := (x4 + (-1))) (L' := [(0, vR 43 0), (1, vI x1), (2, vI x2), (3, vI x3), (4, vI (x4 + (-1))), (5, vI (im 60 0 (Int32.toNatClampNeg ((64 * x2) + x4))))]) hO dX12_findSplits_395 4 rfl rfl (by decide) rfl rfl ?_
        refine zi_goto (tgt := 323) hO dX12_findSplits_398 (by decide) ?_
        refine zi_pick (L' := [(0, vR 43 0), (1, vI x1), (2, vI x2), (3, vI x3), (4, vI (x4 + (-1)))]) [0, 1, 2, 3, 4] rfl ?_
        exact h
      · have h := h.2 c3
        refine zi_iload hO dX12_findSplits_388 4 rfl ?_
        refine zi_goto (tgt := 394) hO dX12_findSplits_390 (by decide) ?_
        refine zi_istore_n (L' := [(0, vR 43 0), (1, vI x1), (2, vI x2), (3, vI x4), (4, vI x4), (5, vI (im 60 0 (Int32.toNatClampNeg ((64 * x2) + x4))))]) hO dX12_findSplits_394 (by decide) rfl rfl ?_
        refine zi_iinc (v' := (x4 + (-1))) (L' := [(0, vR 43 0), (1, vI x1), (2, vI x2), (3, vI x4), (4, vI (x4 + (-1))), (5, vI (im 60 0 (Int32.toNatClampNeg ((64 * x2) + x4))))]) hO dX12_findSplits_395 4 rfl rfl (by decide) rfl rfl ?_
        refine zi_goto (tgt := 323) hO dX12_findSplits_398 (by decide) ?_
        refine zi_pick (L' := [(0, vR 43 0), (1, vI x1), (2, vI x2), (3, vI x4), (4, vI (x4 + (-1)))]) [0, 1, 2, 3, 4] rfl ?_
        exact h
theorem rX12_split_0 {x : zX} {w : zWd} {im : zMem} {lv : Int64} {P : Int32 → zMem → Int64 → Prop} {x1 : Int32} (hO : zOK x w zyX12_split 5) (hR : zRetI x w zyX12_split P) (hN : zN x 126 126)
 (h : ((x1 = (-1000000) → (∃ P1 : zMem → Int64 → Prop, zSpecV x.2.1 w 4 zyX12_findSplits [vR 43 0] (zwr im 43 0 0 0) lv P1 ∧ ∀ (im1 : zMem) (lv1 : Int64), P1 im1 lv1 → (vp_in 0 3136 ∧ P (im1 61 0 (Int32.toNatClampNeg 0)) im1 lv1))) ∧
 (¬ (x1 = (-1000000)) → ((0 ≤ x1 ∧ x1 ≤ 47 → (∃ P4 : zMem → Int64 → Prop, zSpecV x.2.1 w 4 zyX12_findSplits [vR 43 0] (zwr im 43 0 0 0) lv P4 ∧ ∀ (im4 : zMem) (lv4 : Int64), P4 im4 lv4 → (vp_in x1 48 ∧ P (im4 62 0 (Int32.toNatClampNeg x1)) im4 lv4))) ∧
 (¬ (0 ≤ x1 ∧ x1 ≤ 47) → P (-1000001) (zwr im 43 0 0 0) lv))))) :
 zW x w 0 [(0, vR 43 0), (1, vI x1)] [] im lv := by
  refine zi_aload_n hO dX12_split_0 0 rfl ?_
  refine zi_iconst (v := 0) hO dX12_split_1 (by decide) ?_
  refine zi_putI hO dX12_split_2 gX12_1 rfl rfl (zI (by decide)) ?_
  refine zi_iload_n hO dX12_split_5 1 rfl ?_
  refine zi_ldc (v := (-1000000)) hO dX12_split_6 nX12_131 ?_
  refine zi_icmp_eq (tgt := 21) hO dX12_split_8 (by decide) (fun c1 => ?_) (fun c1 => ?_)
  · have h := h.1 c1
    refine zi_aload_n hO dX12_split_21 0 rfl ?_
    obtain ⟨P1, hM1, h⟩ := h
    refine zc_VV (as := []) hO hN dX12_split_22 kX12_275 (by decide) rfl (zI (by decide)) rfl rfl (Nat.le_of_ble_eq_true rfl) rfl rfl hM1 (fun im1 lv1 hp1 => ?_)
    replace h := h im1 lv1 hp1
    refine zi_iload_n hO dX12_split_25 1 rfl ?_
    refine zi_ldc (v := (-1000000)) hO dX12_split_26 nX12_131 ?_
    refine zi_icmp_ne (tgt := 40) hO dX12_split_28 (by decide) (fun c2 => absurd c1 c2) (fun _ => ?_)
    refine zi_aload_n hO dX12_split_31 0 rfl ?_
    refine zi_getR (r' := 61) (i' := 0) hO dX12_split_32 fX12_89 rfl rfl (zI (by decide)) rfl ?_
    refine zi_iconst (v := 0) hO dX12_split_35 (by decide) ?_
    obtain ⟨s2, h⟩ := h
    refine zi_iald hO dX12_split_36 rfl (zI (by decide)) s2 ?_
    refine zi_goto (tgt := 46) hO dX12_split_37 (by decide) ?_
    exact zr_I hO hR rfl dX12_split_46 h
  · have h := h.2 c1
    refine zi_iload_n hO dX12_split_11 1 rfl ?_
    refine zc_SI (as := [vI x1]) hO hN dX12_split_12 kX12_115 (by decide) rfl (Nat.le_of_ble_eq_true rfl) rfl rfl (C_X12_isSlot _ _ _ _) (fun v3 im3 lv3 hp3 => ?_)
    rw [hp3.1, hp3.2.1, hp3.2.2]
    refine zi_if_ne (tgt := 21) hO dX12_split_15 (by decide) (fun c3 => ?_) (fun c3 => ?_)
    · have h := h.1 (vB_1.mp (vB_01.resolve_left c3))
      refine zi_aload_n hO dX12_split_21 0 rfl ?_
      obtain ⟨P4, hM4, h⟩ := h
      refine zc_VV (as := []) hO hN dX12_split_22 kX12_275 (by decide) rfl (zI (by decide)) rfl rfl (Nat.le_of_ble_eq_true rfl) rfl rfl hM4 (fun im4 lv4 hp4 => ?_)
      replace h := h im4 lv4 hp4
      refine zi_iload_n hO dX12_split_25 1 rfl ?_
      refine zi_ldc (v := (-1000000)) hO dX12_split_26 nX12_131 ?_
      refine zi_icmp_ne (tgt := 40) hO dX12_split_28 (by decide) (fun _ => ?_) (fun c4 => absurd c4 c1)
      refine zi_aload_n hO dX12_split_40 0 rfl ?_
      refine zi_getR (r' := 62) (i' := 0) hO dX12_split_41 fX12_92 rfl rfl (zI (by decide)) rfl ?_
      refine zi_iload_n hO dX12_split_44 1 rfl ?_
      obtain ⟨s5, h⟩ := h
      refine zi_iald hO dX12_split_45 rfl (zI (by decide)) s5 ?_
      exact zr_I hO hR rfl dX12_split_46 h
    · have h := h.2 (vB_0.mp c3)
      refine zi_ldc (v := (-1000001)) hO dX12_split_18 nX12_23 ?_
      exact zr_I hO hR rfl dX12_split_20 h
theorem zxor (a b : Nat) : nI a ^^^ nI b = nI (a ^^^ b) := by
  apply Int32.toBitVec_inj.1
  show BitVec.ofNat 32 a ^^^ BitVec.ofNat 32 b = BitVec.ofNat 32 (a ^^^ b)
  apply BitVec.eq_of_getLsbD_eq
  intro i hi
  simp [BitVec.getLsbD_xor, BitVec.getLsbD_ofNat, hi, Nat.testBit_xor]
theorem zOb {b : Nat} (hb : b < 2 ^ 31) : ¬ nI b = -1000000 := by
  intro q
  have h2 : (nI b).toInt = (-1000000 : Int32).toInt := by rw [q]
  rw [nI_toInt hb] at h2
  have h3 : (-1000000 : Int32).toInt = -1000000 := by decide
  omega
theorem zdif {L S : Nat} (hL : L < 2 ^ 30) (hS : S < 2 ^ 30) : (nI L - nI S ≤ 0) ↔ L ≤ S := by
  rw [Int32.le_iff_toInt_le, pk_sub_toInt hL hS]
  have : (0 : Int32).toInt = 0 := rfl
  omega
def spO (m : zMem) (t s r : Nat) : Nat := load m r t - (safe m r t + if r < 6 ∧ s / 2 ^ r % 2 = 1 then safe m r t / 2 else 0)
def spN (m : zMem) (t s : Nat) : Nat → Nat
  | 0 => 0
  | r + 1 => spN m t s r + spO m t s r
def hsO (m : zMem) (t s : Nat) : Option Nat := if btN s 12 ≤ stf m t then some (10 * spN m t s 8) else none
def minS (f : Nat → Option Nat) : Nat → Option Nat
  | 0 => none
  | s + 1 => match f s with
    | none => minS f s
    | some v => match minS f s with
      | none => some v
      | some u => if u ≤ v then some u else some v
def lsJ (m : zMem) : Nat → Nat → Nat
  | 0, _ => 0
  | j + 1, a => (minS (fun s => (hsO m (47 - j) s).map (fun h => h + btN (a ^^^ s) 12 + lsJ m j s)) 64).getD 0
theorem spN_le {m : zMem} (hW : WF m) {t s : Nat} : ∀ r, spN m t s r ≤ 108 * r
  | 0 => Nat.le_refl _
  | r + 1 => by
    have := spN_le hW (t := t) (s := s) r
    have : spO m t s r ≤ 108 := Nat.le_trans (Nat.sub_le _ _) (load_le hW)
    rw [spN]
    omega
theorem hsO_le {m : zMem} (hW : WF m) {t s h : Nat} (e : hsO m t s = some h) : h ≤ 8640 := by
  unfold hsO at e
  split at e
  · cases e
    have := spN_le hW (t := t) (s := s) 8
    omega
  · cases e
theorem btN_le {s : Nat} : ∀ k, btN s k ≤ k
  | 0 => Nat.le_refl _
  | k + 1 => by
    have := btN_le (s := s) k
    rw [btN]
    omega
theorem minS_some {f : Nat → Option Nat} {N : Nat} (hf : ∀ s v, f s = some v → v ≤ N) : ∀ {k v : Nat}, minS f k = some v → v ≤ N ∧ ∃ s, s < k ∧ f s = some v
  | 0, v, h => by cases h
  | k + 1, v, h => by
    rw [minS] at h
    cases hk : f k with
    | none =>
      rw [hk] at h
      obtain ⟨h1, s, h2, h3⟩ := minS_some hf h
      exact ⟨h1, s, by omega, h3⟩
    | some u =>
      rw [hk] at h
      dsimp only at h
      cases hm : minS f k with
      | none =>
        rw [hm] at h
        cases h
        exact ⟨hf k _ hk, k, by omega, hk⟩
      | some q =>
        rw [hm] at h
        dsimp only at h
        split at h
        · cases h
          obtain ⟨h1, s, h2, h3⟩ := minS_some hf hm
          exact ⟨h1, s, by omega, h3⟩
        · cases h
          exact ⟨hf k _ hk, k, by omega, hk⟩
theorem minS_le {f : Nat → Option Nat} : ∀ {k s v : Nat}, s < k → f s = some v → ∃ u, minS f k = some u ∧ u ≤ v
  | 0, s, v, h, _ => by omega
  | k + 1, s, v, h, e => by
    rw [minS]
    by_cases hs : s = k
    · subst hs
      rw [e]
      dsimp only
      cases hm : minS f s with
      | none => exact ⟨v, rfl, Nat.le_refl _⟩
      | some q =>
        dsimp only
        by_cases hq : q ≤ v
        · exact ⟨q, if_pos hq, hq⟩
        · exact ⟨v, if_neg hq, Nat.le_refl _⟩
    · obtain ⟨u, h1, h2⟩ := minS_le (k := k) (show s < k by omega) e
      rw [h1]
      cases hk : f k with
      | none => exact ⟨u, rfl, h2⟩
      | some q =>
        dsimp only
        by_cases hq : u ≤ q
        · exact ⟨u, if_pos hq, h2⟩
        · exact ⟨q, if_neg hq, by omega⟩
theorem hsO_0 {m : zMem} {t : Nat} : ∃ h, hsO m t 0 = some h := by
  refine ⟨_, if_pos ?_⟩
  have : btN 0 12 = 0 := by decide +kernel
  omega
theorem lsJ_min {m : zMem} {j a : Nat} : minS (fun s => (hsO m (47 - j) s).map (fun h => h + btN (a ^^^ s) 12 + lsJ m j s)) 64 = some (lsJ m (j + 1) a) := by
  obtain ⟨h, hh⟩ := hsO_0 (m := m) (t := 47 - j)
  obtain ⟨u, h1, -⟩ := minS_le (f := fun s => (hsO m (47 - j) s).map (fun h => h + btN (a ^^^ s) 12 + lsJ m j s)) (k := 64) (s := 0) (by decide) (by rw [hh]; rfl)
  rw [lsJ, h1]
  rfl
theorem lsJ_le {m : zMem} (hW : WF m) : ∀ j a, lsJ m j a ≤ 8652 * j
  | 0, _ => Nat.le_refl _
  | j + 1, a => by
    refine (minS_some (N := 8652 * (j + 1)) (fun s v hv => ?_) lsJ_min).1
    cases hs : hsO m (47 - j) s with
    | none => rw [hs] at hv; cases hv
    | some h =>
      rw [hs] at hv
      cases hv
      have := hsO_le hW hs
      have := btN_le (s := a ^^^ s) 12
      have := lsJ_le hW j s
      dsimp only
      omega
def isB (m : zMem) (t a s : Nat) : Bool := match hsO m t s with
  | none => false
  | some h => decide (h + btN (a ^^^ s) 12 + lsJ m (47 - t) s = lsJ m (48 - t) a)
def lf (P : Nat → Bool) : Nat → Nat → Option Nat
  | 0, _ => none
  | n + 1, k => if P k = true then some k else lf P n (k + 1)
theorem lf_some {P : Nat → Bool} : ∀ {n k s : Nat}, k ≤ s → s < k + n → P s = true → ∃ u, lf P n k = some u
  | 0, k, s, h1, h2, _ => by omega
  | n + 1, k, s, h1, h2, h3 => by
    rw [lf]
    by_cases hk : P k = true
    · exact ⟨k, if_pos hk⟩
    · rw [if_neg hk]
      have : ¬ k = s := fun q => hk (q ▸ h3)
      exact lf_some (show k + 1 ≤ s by omega) (by omega) h3
theorem lf_spec {P : Nat → Bool} : ∀ {n k u : Nat}, lf P n k = some u → k ≤ u ∧ u < k + n ∧ P u = true
  | 0, k, u, h => by cases h
  | n + 1, k, u, h => by
    rw [lf] at h
    by_cases hk : P k = true
    · rw [if_pos hk] at h; cases h; exact ⟨Nat.le_refl _, by omega, hk⟩
    · rw [if_neg hk] at h
      have := lf_spec h
      exact ⟨by omega, by omega, this.2.2⟩
def bstS (m : zMem) (t a : Nat) : Nat := (lf (isB m t a) 64 0).getD 0
theorem bstS_eq {m : zMem} (hW : WF m) {t a : Nat} (ht : t < 48) : lf (isB m t a) 64 0 = some (bstS m t a) := by
  have hm := lsJ_min (m := m) (j := 47 - t) (a := a)
  rw [show 47 - (47 - t) = t by omega, show 47 - t + 1 = 48 - t by omega] at hm
  obtain ⟨-, s, h1, h2⟩ := minS_some (N := 100000000) (fun s v hv => by
    cases hs : hsO m t s with
    | none => rw [hs] at hv; cases hv
    | some h =>
      rw [hs] at hv
      cases hv
      have := hsO_le hW hs
      have := btN_le (s := a ^^^ s) 12
      have := lsJ_le hW (47 - t) s
      dsimp only
      omega) hm
  have hP : isB m t a s = true := by
    unfold isB
    cases hs : hsO m t s with
    | none => rw [hs] at h2; cases h2
    | some h =>
      rw [hs] at h2
      exact decide_eq_true (Option.some.inj h2)
  obtain ⟨u, hu⟩ := lf_some (Nat.zero_le s) (by omega) hP (n := 64)
  unfold bstS
  rw [hu]
  rfl
theorem bstS_lt {m : zMem} (hW : WF m) {t a : Nat} (ht : t < 48) : bstS m t a < 64 := by
  have := lf_spec (bstS_eq hW (a := a) ht)
  omega
def plN (m : zMem) : Nat → Nat
  | 0 => 0
  | t + 1 => bstS m t (plN m t)
theorem plN_lt {m : zMem} (hW : WF m) : ∀ t, t ≤ 48 → plN m t < 64
  | 0, _ => by show 0 < 64; decide
  | t + 1, h => bstS_lt hW (by omega)
theorem xor_lt : ∀ a, a < 64 → ∀ b, b < 64 → a ^^^ b < 64 := by decide +kernel
theorem C_X12_findSplits (l : Launch) (w : zWd) {m im : zMem} (lv : Int64) (hW : WF m) (hM : RM m im) : zSpecV l w 4 zyX12_findSplits [vR 43 0] im lv (fun im' lv' => ((∀ r, ¬ r = 60 → ¬ r = 61 → ¬ r = 62 → im' r = im r) ∧ im' 61 0 0 = nI (lsJ m 48 0) ∧ ∀ t, t < 48 → im' 62 0 t = nI (plN m (t + 1))) ∧ lv' = lv) := by
  refine ze_V (by decide) (Nat.le_of_ble_eq_true rfl) (fun x hO hR hN => rX12_findSplits_0 hO hR hN ?_)
  have fr : ∀ {im1 : zMem}, (∀ r, ¬ r = 60 → ¬ r = 61 → ¬ r = 62 → im1 r = im r) → RM m im1 := fun h => hM.fr (fun r g1 g2 => h r (by omega) (by omega) (by omega))
  have c64 : ∀ {a b : Nat}, a < 64 → b < 64 → Int32.toNatClampNeg (64 * nI a + nI b) = 64 * a + b := fun h1 h2 => by simp (disch := omega) only [zlit, nI_add, pk_mul, nI_clamp]
  have v64 : ∀ {a b N : Nat}, 64 * a + b < N → N < 5000 → vp_in (64 * nI a + nI b) N := fun h1 h2 => by simp (disch := omega) only [zlit, nI_add, pk_mul]; exact vp_in_nI h1 (by omega)
  -- D: the plan
  have keyD : ∀ n t (im1 : zMem), n + t = 48 → (∀ r, ¬ r = 60 → ¬ r = 61 → ¬ r = 62 → im1 r = im r) → (∀ t' s, t' < 48 → s < 64 → im1 60 0 (64 * t' + s) = zOp (hsO m t' s)) → (∀ t' a, t' ≤ 48 → a < 64 → im1 61 0 (64 * t' + a) = nI (lsJ m (48 - t') a)) → (∀ t', t' < t → im1 62 0 t' = nI (plN m (t' + 1))) → zW x w 310 [(0, vR 43 0), (1, vI (nI (plN m t))), (2, vI (nI t))] [] im1 lv := by
    intro n
    induction n with
    | zero =>
      intro t im1 ht h1 h60 h61 h62
      have : t = 48 := by omega
      subst this
      exact rX12_findSplits_310 hO hR hN ⟨fun _ => ⟨⟨h1, h61 0 0 (by decide) (by decide), h62⟩, rfl⟩, fun q => absurd (by decide) q⟩
    | succ n ih =>
      intro t im1 ht h1 h60 h61 h62
      have ht48 : t < 48 := by omega
      have hpl := plN_lt hW t (by omega)
      have ht1 : nI t + 1 = nI (t + 1) := nI_1 t
      have key : ∀ k, k ≤ 64 → ∀ x4 : Int32, x4 = nI k - 1 → zW x w 323 [(0, vR 43 0), (1, vI (nI (plN m t))), (2, vI (nI t)), (3, vI (zOp (lf (isB m t (plN m t)) (64 - k) k))), (4, vI x4)] [] im1 lv := by
        intro k
        induction k with
        | zero =>
          intro _ x4 hx4
          refine rX12_findSplits_323 hO hR hN ?_
          rw [hx4]
          refine ⟨fun _ => ⟨vp_in_nI ht48 (by decide), ?_⟩, fun q => absurd (by decide) q⟩
          have ct : Int32.toNatClampNeg (nI t) = t := nI_clamp (by omega)
          rw [ct, ht1, bstS_eq hW ht48]
          refine ih (t + 1) _ (by omega) (fun r g1 g2 g3 => by rw [zwr_r g3]; exact h1 r g1 g2 g3) (fun t' s g1 g2 => by rw [zwr_r (by decide)]; exact h60 t' s g1 g2) (fun t' a g1 g2 => by rw [zwr_r (by decide)]; exact h61 t' a g1 g2) (fun t' g => ?_)
          rw [zwr_app]
          by_cases htt : t' = t
          · subst htt; rw [if_pos ⟨rfl, rfl, rfl⟩]; rfl
          · rw [if_neg (fun q => htt q.2.2)]; exact h62 t' (by omega)
        | succ k jh =>
          intro hk x4 hx4
          have hx : x4 = nI k := by rw [hx4]; exact nI_pred k
          have jh := jh (by omega) _ rfl
          rw [show 64 - k = (64 - (k + 1)) + 1 by omega, lf] at jh
          refine rX12_findSplits_323 hO hR hN ?_
          have em : nI k + (-1) = nI k - 1 := (Int32.sub_eq_add_neg _ _).symm
          rw [hx, c64 (by omega) (by omega), h60 t k ht48 (by omega), em, ht1, c64 (by omega) (by omega), c64 (by omega) hpl]
          refine ⟨fun q => absurd q (nI_pos (by omega)), fun _ => ⟨v64 (by omega) (by decide), fun q => ?_, fun q => ?_⟩⟩
          · cases hs : hsO m t k with
            | none => rw [if_neg (by unfold isB; rw [hs]; simp)] at jh; exact jh
            | some h =>
              rw [hs] at q
              exact absurd q (zOb (by have := hsO_le hW hs; omega))
          · cases hs : hsO m t k with
            | none => rw [hs] at q; exact absurd rfl q
            | some h =>
              have hh := hsO_le hW hs
              rw [zxor]
              refine ⟨_, C_X12_bits _ _ _ (by have := xor_lt _ hpl k (by omega); omega), ?_⟩
              rintro _ im3 lv3 ⟨rfl, rfl, rfl⟩
              rw [h61 (t + 1) k (by omega) (by omega), h61 t _ (by omega) hpl]
              simp only [zOp]
              have l1 := btN_le (s := plN m t ^^^ k) 12
              have l2 := lsJ_le hW (48 - (t + 1)) k
              have l3 := lsJ_le hW (48 - t) (plN m t)
              rw [nI_add, nI_add, nI_eq (by omega) (by omega)]
              have e47 : 48 - (t + 1) = 47 - t := by omega
              refine ⟨v64 (by omega) (by decide), v64 (by omega) (by decide), fun z => ?_, fun z => ?_⟩
              · rw [if_neg (by unfold isB; rw [hs]; rw [e47] at z; simpa using z)] at jh; exact jh
              · rw [if_pos (by unfold isB; rw [hs]; rw [e47] at z; simpa using z)] at jh; exact jh
      refine rX12_findSplits_310 hO hR hN ⟨fun q => ?_, fun _ => key 64 (Nat.le_refl _) 63 rfl⟩
      exfalso
      have : nI 48 ≤ nI t := q
      rw [nI_leI (by omega) (by omega)] at this
      omega
  -- C: the least harm from a slot on
  have keyC : ∀ n (im1 : zMem), n ≤ 48 → (∀ r, ¬ r = 60 → ¬ r = 61 → ¬ r = 62 → im1 r = im r) → (∀ t' s, t' < 48 → s < 64 → im1 60 0 (64 * t' + s) = zOp (hsO m t' s)) → (∀ t' a, n ≤ t' → t' ≤ 48 → a < 64 → im1 61 0 (64 * t' + a) = nI (lsJ m (48 - t') a)) → ∀ x1 : Int32, x1 = nI n - 1 → zW x w 172 [(0, vR 43 0), (1, vI x1)] [] im1 lv := by
    intro n
    induction n with
    | zero =>
      intro im1 _ h1 h60 h61 x1 hx1
      refine rX12_findSplits_172 hO hR hN ?_
      rw [hx1]
      exact ⟨fun _ => keyD 48 0 im1 rfl h1 h60 (fun t' a g => h61 t' a (Nat.zero_le _) g) (fun t' g => absurd g (by omega)), fun q => absurd (by decide) q⟩
    | succ n ih =>
      intro im1 hn h1 h60 h61 x1 hx1
      have hx : x1 = nI n := by rw [hx1]; exact nI_pred n
      have hn1 : nI n + 1 = nI (n + 1) := nI_1 n
      have key178 : ∀ k a (im2 : zMem), k + a = 64 → (∀ r, ¬ r = 60 → ¬ r = 61 → ¬ r = 62 → im2 r = im r) → (∀ t' s, t' < 48 → s < 64 → im2 60 0 (64 * t' + s) = zOp (hsO m t' s)) → (∀ t' a, n + 1 ≤ t' → t' ≤ 48 → a < 64 → im2 61 0 (64 * t' + a) = nI (lsJ m (48 - t') a)) → (∀ a', a' < a → im2 61 0 (64 * n + a') = nI (lsJ m (48 - n) a')) → zW x w 178 [(0, vR 43 0), (1, vI (nI n)), (2, vI (nI a))] [] im2 lv := by
        intro k
        induction k with
        | zero =>
          intro a im2 ha g1 g60 g61 g2
          have : a = 64 := by omega
          subst this
          refine rX12_findSplits_178 hO hR hN ⟨fun _ => ?_, fun q => absurd (by decide) q⟩
          refine ih im2 (by omega) g1 g60 (fun t' a z1 z2 z3 => ?_) _ (Int32.sub_eq_add_neg _ _).symm
          by_cases htn : t' = n
          · subst htn; exact g2 a z3
          · exact g61 t' a (by omega) z2 z3
        | succ k jh =>
          intro a im2 ha g1 g60 g61 g2
          have ha1 : nI a + 1 = nI (a + 1) := nI_1 a
          have key190 : ∀ j s, j + s = 64 → zW x w 190 [(0, vR 43 0), (1, vI (nI n)), (2, vI (nI a)), (3, vI (zOp (minS (fun s => (hsO m n s).map (fun h => h + btN (a ^^^ s) 12 + lsJ m (47 - n) s)) s))), (4, vI (nI s))] [] im2 lv := by
            intro j
            induction j with
            | zero =>
              intro s hs
              have : s = 64 := by omega
              subst this
              refine rX12_findSplits_190 hO hR hN ⟨fun _ => ⟨v64 (by omega) (by decide), ?_⟩, fun q => absurd (by decide) q⟩
              have hm := lsJ_min (m := m) (j := 47 - n) (a := a)
              rw [show 47 - (47 - n) = n by omega, show 47 - n + 1 = 48 - n by omega] at hm
              rw [c64 (by omega) (by omega), ha1, hm]
              refine jh (a + 1) _ (by omega) (fun r z1 z2 z3 => by rw [zwr_r z2]; exact g1 r z1 z2 z3) (fun t' s z1 z2 => by rw [zwr_r (by decide)]; exact g60 t' s z1 z2) (fun t' a' z1 z2 z3 => by rw [zwr_app, if_neg (by omega)]; exact g61 t' a' z1 z2 z3) (fun a' z => ?_)
              rw [zwr_app]
              by_cases haa : a' = a
              · subst haa; rw [if_pos ⟨rfl, rfl, rfl⟩]; rfl
              · rw [if_neg (by omega)]; exact g2 a' (by omega)
            | succ j kh =>
              intro s hs
              have kh := kh (s + 1) (by omega)
              rw [minS] at kh
              have hs1 : nI s + 1 = nI (s + 1) := nI_1 s
              refine rX12_findSplits_190 hO hR hN ?_
              rw [hn1, c64 (a := n) (b := s) (by omega) (by omega), g60 n s (by omega) (by omega), hs1, zxor]
              refine ⟨fun q => ?_, fun _ => ⟨v64 (by omega) (by decide), fun q => ?_, fun q => ?_⟩⟩
              · exfalso
                have : nI 64 ≤ nI s := q
                rw [nI_leI (by omega) (by omega)] at this
                omega
              · cases hh : hsO m n s with
                | none => rw [hh] at q; exact absurd rfl q
                | some h =>
                  have l0 := hsO_le hW hh
                  refine ⟨_, C_X12_bits _ _ _ (by have := xor_lt a (by omega) s (by omega); omega), ?_⟩
                  rintro _ im3 lv3 ⟨rfl, rfl, rfl⟩
                  rw [c64 (a := n + 1) (b := s) (by omega) (by omega), g61 (n + 1) s (by omega) (by omega) (by omega)]
                  simp only [zOp]
                  have l1 := btN_le (s := a ^^^ s) 12
                  have l2 := lsJ_le hW (48 - (n + 1)) s
                  rw [nI_add, nI_add]
                  have e47 : 48 - (n + 1) = 47 - n := by omega
                  rw [e47] at l2 ⊢
                  rw [hh] at kh
                  simp only [Option.map_some] at kh
                  refine ⟨v64 (by omega) (by decide), fun z => absurd z (zOb (by omega)), fun _ => ?_⟩
                  cases hmm : minS (fun s => (hsO m n s).map (fun h => h + btN (a ^^^ s) 12 + lsJ m (47 - n) s)) s with
                  | none =>
                    rw [hmm] at kh
                    exact ⟨fun _ => kh, fun z => absurd rfl z⟩
                  | some u =>
                    rw [hmm] at kh
                    have lu := (minS_some (N := 1000000) (fun s v hv => by
                      cases hs' : hsO m n s with
                      | none => rw [hs'] at hv; cases hv
                      | some h' =>
                        rw [hs'] at hv
                        cases hv
                        have := hsO_le hW hs'
                        have := btN_le (s := a ^^^ s) 12
                        have := lsJ_le hW (47 - n) s
                        dsimp only
                        omega) hmm).1
                    refine ⟨fun z => absurd z (zOb (by omega)), fun _ => ?_⟩
                    rw [nI_leI (by omega) (by omega)]
                    refine ⟨fun z => ?_, fun z => ?_⟩
                    · dsimp only at kh; rw [if_pos z] at kh; exact kh
                    · dsimp only at kh; rw [if_neg z] at kh; exact kh
              · cases hh : hsO m n s with
                | none => rw [hh] at kh; exact kh
                | some h =>
                  rw [hh] at q
                  exact absurd q (zOb (by have := hsO_le hW hh; omega))
          refine rX12_findSplits_178 hO hR hN ⟨fun q => ?_, fun _ => key190 64 0 rfl⟩
          exfalso
          have : nI 64 ≤ nI a := q
          rw [nI_leI (by omega) (by omega)] at this
          omega
      refine rX12_findSplits_172 hO hR hN ?_
      rw [hx]
      exact ⟨fun q => absurd q (nI_pos (by omega)), fun _ => key178 64 0 im1 rfl h1 h60 h61 (fun a' z => absurd z (by omega))⟩
  -- B: nothing behind the last slot
  have keyB : ∀ n k (im1 : zMem), n + k = 64 → (∀ r, ¬ r = 60 → ¬ r = 61 → ¬ r = 62 → im1 r = im r) → (∀ t' s, t' < 48 → s < 64 → im1 60 0 (64 * t' + s) = zOp (hsO m t' s)) → (∀ a, a < k → im1 61 0 (3072 + a) = nI 0) → zW x w 146 [(0, vR 43 0), (1, vI (nI k))] [] im1 lv := by
    intro n
    induction n with
    | zero =>
      intro k im1 hk h1 h60 h61
      have : k = 64 := by omega
      subst this
      refine rX12_findSplits_146 hO hR hN ⟨fun _ => keyC 48 im1 (Nat.le_refl _) h1 h60 (fun t' a z1 z2 z3 => ?_) _ rfl, fun q => absurd (by decide) q⟩
      have : t' = 48 := by omega
      subst this
      exact h61 a z3
    | succ n ih =>
      intro k im1 hk h1 h60 h61
      refine rX12_findSplits_146 hO hR hN ?_
      have ck : Int32.toNatClampNeg (3072 + nI k) = 3072 + k := by simp (disch := omega) only [zlit, nI_add, nI_clamp]
      have vk : vp_in (3072 + nI k) 3136 := by simp (disch := omega) only [zlit, nI_add]; exact vp_in_nI (by omega) (by decide)
      have hk1 : nI k + 1 = nI (k + 1) := nI_1 k
      rw [ck, hk1]
      refine ⟨fun q => ?_, fun _ => ⟨vk, ih (k + 1) _ (by omega) (fun r z1 z2 z3 => by rw [zwr_r z2]; exact h1 r z1 z2 z3) (fun t' s z1 z2 => by rw [zwr_r (by decide)]; exact h60 t' s z1 z2) (fun a z => ?_)⟩⟩
      · exfalso
        have : nI 64 ≤ nI k := q
        rw [nI_leI (by omega) (by omega)] at this
        omega
      rw [zwr_app]
      by_cases hak : a = k
      · subst hak; rw [if_pos ⟨rfl, rfl, rfl⟩]; rfl
      · rw [if_neg (by omega)]; exact h61 a (by omega)
  -- A: the harm of a set in a slot
  have keyA : ∀ n t (im1 : zMem), n + t = 48 → (∀ r, ¬ r = 60 → ¬ r = 61 → ¬ r = 62 → im1 r = im r) → (∀ t' s, t' < t → s < 64 → im1 60 0 (64 * t' + s) = zOp (hsO m t' s)) → zW x w 2 [(0, vR 43 0), (1, vI (nI t))] [] im1 lv := by
    intro n
    induction n with
    | zero =>
      intro t im1 ht h1 h60
      have : t = 48 := by omega
      subst this
      exact rX12_findSplits_2 hO hR hN ⟨fun _ => keyB 64 0 im1 rfl h1 h60 (fun a z => absurd z (by omega)), fun q => absurd (by decide) q⟩
    | succ n ih =>
      intro t im1 ht h1 h60
      have ht48 : t < 48 := by omega
      have ht1 : nI t + 1 = nI (t + 1) := nI_1 t
      have key10 : ∀ k s (im2 : zMem), k + s = 64 → (∀ r, ¬ r = 60 → ¬ r = 61 → ¬ r = 62 → im2 r = im r) → (∀ t' s, t' < t → s < 64 → im2 60 0 (64 * t' + s) = zOp (hsO m t' s)) → (∀ s', s' < s → im2 60 0 (64 * t + s') = zOp (hsO m t s')) → zW x w 10 [(0, vR 43 0), (1, vI (nI t)), (2, vI (nI s))] [] im2 lv := by
        intro k
        induction k with
        | zero =>
          intro s im2 hs g1 g60 g2
          have : s = 64 := by omega
          subst this
          refine rX12_findSplits_10 hO hR hN ⟨fun _ => ?_, fun q => absurd (by decide) q⟩
          rw [ht1]
          refine ih (t + 1) im2 (by omega) g1 (fun t' s' z1 z2 => ?_)
          by_cases htt : t' = t
          · subst htt; exact g2 s' z2
          · exact g60 t' s' (by omega) z2
        | succ k jh =>
          intro s im2 hs g1 g60 g2
          have hM2 := fr g1
          have hs1 : nI s + 1 = nI (s + 1) := nI_1 s
          have key21 : ∀ j r, j + r = 8 → zW x w 21 [(0, vR 43 0), (1, vI (nI t)), (2, vI (nI s)), (3, vI (nI (spN m t s r))), (4, vI (nI r))] [] im2 lv := by
            intro j
            induction j with
            | zero =>
              intro r hr
              have : r = 8 := by omega
              subst this
              refine rX12_findSplits_21 hO hR hN ⟨fun _ => ⟨_, C_X12_bits _ _ _ (by omega), ?_⟩, fun q => absurd (by decide) q⟩
              rintro _ im3 lv3 ⟨rfl, rfl, rfl⟩
              have ct : Int32.toNatClampNeg (nI t) = t := nI_clamp (by omega)
              obtain ⟨t1, t2⟩ := hW.2.2.2.2.2.1 t ht48
              have lb := btN_le (s := s) 12
              have e48 : im3 48 0 t = nI (stf m t) := by rw [hM2.1 48 (by decide) (by decide)]; exact t1
              rw [ct, e48, nI_leI (by omega) (by omega), c64 (by omega) (by omega), hs1]
              have step : ∀ v : Int32, v = zOp (hsO m t s) → zW x w 10 [(0, vR 43 0), (1, vI (nI t)), (2, vI (nI (s + 1)))] [] (zwr im3 60 0 (64 * t + s) v) lv3 := by
                intro v hv
                refine jh (s + 1) _ (by omega) (fun r z1 z2 z3 => by rw [zwr_r z1]; exact g1 r z1 z2 z3) (fun t' s' z1 z2 => by rw [zwr_app, if_neg (by omega)]; exact g60 t' s' z1 z2) (fun s' z => ?_)
                rw [zwr_app]
                by_cases hss : s' = s
                · subst hss; rw [if_pos ⟨rfl, rfl, rfl⟩]; exact hv
                · rw [if_neg (by omega)]; exact g2 s' (by omega)
              refine ⟨vp_in_nI ht48 (by decide), fun q => ⟨v64 (by omega) (by decide), step _ ?_⟩, fun q => ⟨v64 (by omega) (by decide), step _ ?_⟩⟩
              · unfold hsO
                rw [if_pos q]
                exact pk_mul 10 _
              · unfold hsO
                rw [if_neg q]
                rfl
            | succ j kh =>
              intro r hr
              have kh := kh (r + 1) (by omega)
              rw [spN] at kh
              have hr1 : nI r + 1 = nI (r + 1) := nI_1 r
              refine rX12_findSplits_21 hO hR hN ?_
              rw [zbit (by omega) (by omega), hr1]
              have e6 : ((6 : Int32) ≤ nI r) ↔ 6 ≤ r := nI_leI (a := 6) (by omega) (by omega)
              have eb : (nI (s / 2 ^ r % 2) = 1) ↔ s / 2 ^ r % 2 = 1 := nI_eq (b := 1) (by omega) (by omega)
              rw [e6, eb]
              have hl := load_le hW (r := r) (t := t)
              have hsf := safe_le hW (r := r) (t := t) (by omega) ht48
              refine ⟨fun q => ?_, fun _ => ⟨_, C_X12_safeOf _ _ _ hW hM2 (by omega) ht48, ?_⟩⟩
              · exfalso
                have : nI 8 ≤ nI r := q
                rw [nI_leI (by omega) (by omega)] at this
                omega
              rintro _ im3 lv3 ⟨rfl, rfl, rfl⟩
              have fin : ∀ S : Nat, S ≤ 200 → spO m t s r = load m r t - S → ((nI (load m r t) - nI S ≤ 0 → zW x w 21 [(0, vR 43 0), (1, vI (nI t)), (2, vI (nI s)), (3, vI (nI (spN m t s r) + 0)), (4, vI (nI (r + 1)))] [] im3 lv3) ∧ (¬ (nI (load m r t) - nI S ≤ 0) → zW x w 21 [(0, vR 43 0), (1, vI (nI t)), (2, vI (nI s)), (3, vI (nI (spN m t s r) + (nI (load m r t) - nI S))), (4, vI (nI (r + 1)))] [] im3 lv3)) := by
                intro S hS e
                rw [zdif (by omega) (by omega)]
                refine ⟨fun z => ?_, fun z => ?_⟩
                · have e0 : nI (spN m t s r) + 0 = nI (spN m t s r + spO m t s r) := by
                    rw [e, Nat.sub_eq_zero_of_le z]
                    exact nI_add _ 0
                  rw [e0]
                  exact kh
                · rw [pk_sub (by omega), nI_add, ← e]
                  exact kh
              have s0 : nI (safe m r t) + 0 = nI (safe m r t) := nI_add _ 0
              have s2 : nI (safe m r t) + nI (safe m r t) / 2 = nI (safe m r t + safe m r t / 2) := by
                rw [show nI (safe m r t) / 2 = nI (safe m r t / 2) from pk_div (d := 2) (by omega) (by omega) (by omega), nI_add]
              rw [s0, s2]
              refine ⟨fun q => ⟨_, C_X12_loadOf _ _ _ hW hM2 (by omega) ht48, ?_⟩, fun q => ⟨fun q2 => ⟨_, C_X12_loadOf _ _ _ hW hM2 (by omega) ht48, ?_⟩, fun q2 => ⟨_, C_X12_loadOf _ _ _ hW hM2 (by omega) ht48, ?_⟩⟩⟩
              · rintro _ im4 lv4 ⟨rfl, e4, e5⟩
                rw [e4, e5]
                exact fin _ (by omega) (by unfold spO; rw [if_neg (by omega)]; rfl)
              · rintro _ im4 lv4 ⟨rfl, e4, e5⟩
                rw [e4, e5]
                exact fin _ (by omega) (by unfold spO; rw [if_neg (fun z => q2 z.2)]; rfl)
              · rintro _ im4 lv4 ⟨rfl, e4, e5⟩
                rw [e4, e5]
                exact fin _ (by omega) (by unfold spO; rw [if_pos ⟨by omega, q2⟩])
          refine rX12_findSplits_10 hO hR hN ⟨fun q => ?_, fun _ => key21 8 0 rfl⟩
          exfalso
          have : nI 64 ≤ nI s := q
          rw [nI_leI (by omega) (by omega)] at this
          omega
      refine rX12_findSplits_2 hO hR hN ⟨fun q => ?_, fun _ => key10 64 0 im1 rfl h1 h60 (fun s' z => absurd z (by omega))⟩
      exfalso
      have : nI 48 ≤ nI t := q
      rw [nI_leI (by omega) (by omega)] at this
      omega
  exact keyA 48 0 im rfl (fun _ _ _ _ => rfl) (fun t' s z => absurd z (by omega))
def aSplit (m : zMem) (x : Int32) : Int32 := if x = -1000000 then nI (lsJ m 48 0) else if 0 ≤ x ∧ x < nI 48 then nI (plN m (cN x + 1)) else -1000001
theorem C_X12_split (l : Launch) (w : zWd) {m im : zMem} (lv : Int64) (hW : WF m) (hM : RM m im) (h0 : im 43 0 0 = 0) (x1 : Int32) : zSpecI l w 5 zyX12_split [vR 43 0, vI x1] im lv (fun v im' lv' => v = aSplit m x1 ∧ (∀ r, ¬ r = 60 → ¬ r = 61 → ¬ r = 62 → im' r = im r) ∧ lv' = lv) := by
  refine ze_I (by decide) (Nat.le_of_ble_eq_true rfl) (fun x hO hR hN => rX12_split_0 hO hR hN ?_)
  have q47 : (0 ≤ x1 ∧ x1 ≤ 47) ↔ (0 ≤ x1 ∧ x1 < nI 48) := zrl (by decide)
  rw [zwr_id h0, q47]
  unfold aSplit
  refine ⟨fun q => ⟨_, C_X12_findSplits _ _ _ hW hM, ?_⟩, fun q => ⟨fun q2 => ⟨_, C_X12_findSplits _ _ _ hW hM, ?_⟩, fun q2 => ⟨?_, fun _ _ _ _ => rfl, rfl⟩⟩⟩
  · rintro im1 lv1 ⟨⟨g1, g2, g3⟩, rfl⟩
    refine ⟨vp_in_nI (n := 0) (by decide) (by decide), ?_, g1, rfl⟩
    rw [if_pos q]
    exact g2
  · rintro im1 lv1 ⟨⟨g1, g2, g3⟩, rfl⟩
    obtain ⟨t, ht, rfl⟩ := zrx (by decide) q2
    have ct : Int32.toNatClampNeg (nI t) = t := nI_clamp (by omega)
    refine ⟨vp_in_nI ht (by decide), ?_, g1, rfl⟩
    rw [if_neg q, if_pos q2, ct, g3 t ht, cNn (n := t) (by omega)]
  · rw [if_neg q, if_neg q2]
