theorem rX12_readWay_0 {x : zX} {w : zWd} {im : zMem} {lv : Int64} {P : zMem → Int64 → Prop} {x1 : Int32} (hO : zOK x w zyX12_readWay 6) (hR : zRetV x w zyX12_readWay P) (hN : zN x 126 126)
 (h : zW x w 4 [(0, vR 43 0), (1, vI x1), (2, vI 0), (3, vI 1)] [] im lv) :
 zW x w 0 [(0, vR 43 0), (1, vI x1)] [] im lv := by
  refine zi_iconst (v := 0) hO dX12_readWay_0 (by decide) ?_
  refine zi_istore_n (L' := [(0, vR 43 0), (1, vI x1), (2, vI 0)]) hO dX12_readWay_1 (by decide) rfl rfl ?_
  refine zi_iconst (v := 1) hO dX12_readWay_2 (by decide) ?_
  refine zi_istore_n (L' := [(0, vR 43 0), (1, vI x1), (2, vI 0), (3, vI 1)]) hO dX12_readWay_3 (by decide) rfl rfl ?_
  exact h
theorem rX12_readWay_4 {x : zX} {w : zWd} {im : zMem} {lv : Int64} {P : zMem → Int64 → Prop} {x1 : Int32} {x2 : Int32} {x3 : Int32} (hO : zOK x w zyX12_readWay 6) (hR : zRetV x w zyX12_readWay P) (hN : zN x 126 126)
 (h : ((x3 = 0 → P im lv) ∧
 (¬ (x3 = 0) → ((¬ ((im 43 0 24) = 0) → P im lv) ∧
 ((im 43 0 24) = 0 → (∃ P1 : Int32 → zMem → Int64 → Prop, zSpecI x.2.1 w 5 zyX12_numberIn [vR 43 0, vI 0, vI 7] im lv P1 ∧ ∀ (v1 : Int32) (im1 : zMem) (lv1 : Int64), P1 v1 im1 lv1 → (vp_in (((15 * (im 43 0 26)) + (5 * x1)) + x2) 180 ∧ (∃ P3 : Int32 → zMem → Int64 → Prop, zSpecI x.2.1 w 5 zyX12_numberIn [vR 43 0, vI 1, vI 4] (zwr im1 51 0 (Int32.toNatClampNeg (((15 * (im 43 0 26)) + (5 * x1)) + x2)) v1) lv1 P3 ∧ ∀ (v3 : Int32) (im3 : zMem) (lv3 : Int64), P3 v3 im3 lv3 → ((¬ ((im3 43 0 24) = 0) → zW x w 4 [(0, vR 43 0), (1, vI x1), (2, vI (x2 + 1)), (3, vI 0)] [] (zwr im3 52 0 (Int32.toNatClampNeg (((15 * (im 43 0 26)) + (5 * x1)) + x2)) v3) lv3) ∧
 ((im3 43 0 24) = 0 → (∃ P4 : Int32 → zMem → Int64 → Prop, zSpecI x.2.1 w 2 zyX12_is [vR 43 0, vI 44] (zwr im3 52 0 (Int32.toNatClampNeg (((15 * (im 43 0 26)) + (5 * x1)) + x2)) v3) lv3 P4 ∧ ∀ (v4 : Int32) (im4 : zMem) (lv4 : Int64), P4 v4 im4 lv4 → ((v4 = 0 → zW x w 4 [(0, vR 43 0), (1, vI x1), (2, vI (x2 + 1)), (3, vI 0)] [] im4 lv4) ∧
 (¬ (v4 = 0) → ((¬ ((x2 + 1) = 5) → (∃ P5 : zMem → Int64 → Prop, zSpecV x.2.1 w 3 zyX12_step [vR 43 0] im4 lv4 P5 ∧ ∀ (im5 : zMem) (lv5 : Int64), P5 im5 lv5 → zW x w 4 [(0, vR 43 0), (1, vI x1), (2, vI (x2 + 1)), (3, vI 1)] [] im5 lv5)) ∧
 ((x2 + 1) = 5 → (∃ P6 : zMem → Int64 → Prop, zSpecV x.2.1 w 2 zyX12_bad [vR 43 0, vI 3] im4 lv4 P6 ∧ ∀ (im6 : zMem) (lv6 : Int64), P6 im6 lv6 → zW x w 4 [(0, vR 43 0), (1, vI x1), (2, vI (x2 + 1)), (3, vI 1)] [] im6 lv6)))))))))))))))) :
 zW x w 4 [(0, vR 43 0), (1, vI x1), (2, vI x2), (3, vI x3)] [] im lv := by
  refine zi_iload_n hO dX12_readWay_4 3 rfl ?_
  refine zi_if_eq (tgt := 110) hO dX12_readWay_5 (by decide) (fun c1 => ?_) (fun c1 => ?_)
  · have h := h.1 c1
    exact zr_V hO hR rfl dX12_readWay_110 h
  · have h := h.2 c1
    refine zi_aload_n hO dX12_readWay_8 0 rfl ?_
    refine zi_getI hO dX12_readWay_9 fX12_176 rfl rfl (zI (by decide)) ?_
    refine zi_if_ne (tgt := 110) hO dX12_readWay_12 (by decide) (fun c2 => ?_) (fun c2 => ?_)
    · have h := h.1 c2
      exact zr_V hO hR rfl dX12_readWay_110 h
    · have h := h.2 c2
      refine zi_bipush (v := 15) hO dX12_readWay_15 (by decide) ?_
      refine zi_aload_n hO dX12_readWay_17 0 rfl ?_
      refine zi_getI hO dX12_readWay_18 fX12_193 rfl rfl (zI (by decide)) ?_
      refine zi_imul hO dX12_readWay_21 ?_
      refine zi_iconst (v := 5) hO dX12_readWay_22 (by decide) ?_
      refine zi_iload_n hO dX12_readWay_23 1 rfl ?_
      refine zi_imul hO dX12_readWay_24 ?_
      refine zi_iadd hO dX12_readWay_25 ?_
      refine zi_iload_n hO dX12_readWay_26 2 rfl ?_
      refine zi_iadd hO dX12_readWay_27 ?_
      refine zi_istore (L' := [(0, vR 43 0), (1, vI x1), (2, vI x2), (3, vI x3), (4, vI (((15 * (im 43 0 26)) + (5 * x1)) + x2))]) hO dX12_readWay_28 (by decide) rfl rfl ?_
      refine zi_aload_n hO dX12_readWay_30 0 rfl ?_
      refine zi_getR (r' := 51) (i' := 0) hO dX12_readWay_31 fX12_59 rfl rfl (zI (by decide)) rfl ?_
      refine zi_iload hO dX12_readWay_34 4 rfl ?_
      refine zi_aload_n hO dX12_readWay_36 0 rfl ?_
      refine zi_iconst (v := 0) hO dX12_readWay_37 (by decide) ?_
      refine zi_bipush (v := 7) hO dX12_readWay_38 (by decide) ?_
      obtain ⟨P1, hM1, h⟩ := h
      refine zc_VI (as := [vI 0, vI 7]) hO hN dX12_readWay_40 kX12_196 (by decide) rfl (zI (by decide)) rfl rfl (Nat.le_of_ble_eq_true rfl) rfl rfl hM1 (fun v1 im1 lv1 hp1 => ?_)
      replace h := h v1 im1 lv1 hp1
      obtain ⟨s2, h⟩ := h
      refine zi_iast hO dX12_readWay_43 rfl (zI (by decide)) s2 ?_
      refine zi_aload_n hO dX12_readWay_44 0 rfl ?_
      refine zi_getR (r' := 52) (i' := 0) hO dX12_readWay_45 fX12_62 rfl rfl (zI (by decide)) rfl ?_
      refine zi_iload hO dX12_readWay_48 4 rfl ?_
      refine zi_aload_n hO dX12_readWay_50 0 rfl ?_
      refine zi_iconst (v := 1) hO dX12_readWay_51 (by decide) ?_
      refine zi_iconst (v := 4) hO dX12_readWay_52 (by decide) ?_
      obtain ⟨P3, hM3, h⟩ := h
      refine zc_VI (as := [vI 1, vI 4]) hO hN dX12_readWay_53 kX12_196 (by decide) rfl (zI (by decide)) rfl rfl (Nat.le_of_ble_eq_true rfl) rfl rfl hM3 (fun v3 im3 lv3 hp3 => ?_)
      replace h := h v3 im3 lv3 hp3
      refine zi_iast hO dX12_readWay_56 rfl (zI (by decide)) s2 ?_
      refine zi_iinc (v' := (x2 + 1)) (L' := [(0, vR 43 0), (1, vI x1), (2, vI (x2 + 1)), (3, vI x3), (4, vI (((15 * (im 43 0 26)) + (5 * x1)) + x2))]) hO dX12_readWay_57 2 rfl rfl (by decide) rfl rfl ?_
      refine zi_aload_n hO dX12_readWay_60 0 rfl ?_
      refine zi_getI hO dX12_readWay_61 fX12_176 rfl rfl (zI (by decide)) ?_
      refine zi_if_ne (tgt := 80) hO dX12_readWay_64 (by decide) (fun c3 => ?_) (fun c3 => ?_)
      · have h := h.1 c3
        refine zi_iconst (v := 0) hO dX12_readWay_80 (by decide) ?_
        refine zi_istore_n (L' := [(0, vR 43 0), (1, vI x1), (2, vI (x2 + 1)), (3, vI 0), (4, vI (((15 * (im 43 0 26)) + (5 * x1)) + x2))]) hO dX12_readWay_81 (by decide) rfl rfl ?_
        refine zi_iload_n hO dX12_readWay_82 3 rfl ?_
        refine zi_if_eq (tgt := 99) hO dX12_readWay_83 (by decide) (fun _ => ?_) (fun c4 => absurd c4 (by decide))
        refine zi_iload_n hO dX12_readWay_99 3 rfl ?_
        refine zi_if_eq (tgt := 107) hO dX12_readWay_100 (by decide) (fun _ => ?_) (fun c5 => absurd c5 (by decide))
        refine zi_goto (tgt := 4) hO dX12_readWay_107 (by decide) ?_
        refine zi_pick (L' := [(0, vR 43 0), (1, vI x1), (2, vI (x2 + 1)), (3, vI 0)]) [0, 1, 2, 3] rfl ?_
        exact h
      · have h := h.2 c3
        refine zi_aload_n hO dX12_readWay_67 0 rfl ?_
        refine zi_bipush (v := 44) hO dX12_readWay_68 (by decide) ?_
        obtain ⟨P4, hM4, h⟩ := h
        refine zc_VI (as := [vI 44]) hO hN dX12_readWay_70 kX12_199 (by decide) rfl (zI (by decide)) rfl rfl (Nat.le_of_ble_eq_true rfl) rfl rfl hM4 (fun v4 im4 lv4 hp4 => ?_)
        replace h := h v4 im4 lv4 hp4
        refine zi_if_eq (tgt := 80) hO dX12_readWay_73 (by decide) (fun c6 => ?_) (fun c6 => ?_)
        · have h := h.1 c6
          refine zi_iconst (v := 0) hO dX12_readWay_80 (by decide) ?_
          refine zi_istore_n (L' := [(0, vR 43 0), (1, vI x1), (2, vI (x2 + 1)), (3, vI 0), (4, vI (((15 * (im 43 0 26)) + (5 * x1)) + x2))]) hO dX12_readWay_81 (by decide) rfl rfl ?_
          refine zi_iload_n hO dX12_readWay_82 3 rfl ?_
          refine zi_if_eq (tgt := 99) hO dX12_readWay_83 (by decide) (fun _ => ?_) (fun c7 => absurd c7 (by decide))
          refine zi_iload_n hO dX12_readWay_99 3 rfl ?_
          refine zi_if_eq (tgt := 107) hO dX12_readWay_100 (by decide) (fun _ => ?_) (fun c8 => absurd c8 (by decide))
          refine zi_goto (tgt := 4) hO dX12_readWay_107 (by decide) ?_
          refine zi_pick (L' := [(0, vR 43 0), (1, vI x1), (2, vI (x2 + 1)), (3, vI 0)]) [0, 1, 2, 3] rfl ?_
          exact h
        · have h := h.2 c6
          refine zi_iconst (v := 1) hO dX12_readWay_76 (by decide) ?_
          refine zi_goto (tgt := 81) hO dX12_readWay_77 (by decide) ?_
          refine zi_istore_n (L' := [(0, vR 43 0), (1, vI x1), (2, vI (x2 + 1)), (3, vI 1), (4, vI (((15 * (im 43 0 26)) + (5 * x1)) + x2))]) hO dX12_readWay_81 (by decide) rfl rfl ?_
          refine zi_iload_n hO dX12_readWay_82 3 rfl ?_
          refine zi_if_eq (tgt := 99) hO dX12_readWay_83 (by decide) (fun c9 => absurd c9 (by decide)) (fun _ => ?_)
          refine zi_iload_n hO dX12_readWay_86 2 rfl ?_
          refine zi_iconst (v := 5) hO dX12_readWay_87 (by decide) ?_
          refine zi_icmp_ne (tgt := 99) hO dX12_readWay_88 (by decide) (fun c10 => ?_) (fun c10 => ?_)
          · have h := h.1 c10
            refine zi_iload_n hO dX12_readWay_99 3 rfl ?_
            refine zi_if_eq (tgt := 107) hO dX12_readWay_100 (by decide) (fun c11 => absurd c11 (by decide)) (fun _ => ?_)
            refine zi_aload_n hO dX12_readWay_103 0 rfl ?_
            obtain ⟨P5, hM5, h⟩ := h
            refine zc_VV (as := []) hO hN dX12_readWay_104 kX12_186 (by decide) rfl (zI (by decide)) rfl rfl (Nat.le_of_ble_eq_true rfl) rfl rfl hM5 (fun im5 lv5 hp5 => ?_)
            replace h := h im5 lv5 hp5
            refine zi_goto (tgt := 4) hO dX12_readWay_107 (by decide) ?_
            refine zi_pick (L' := [(0, vR 43 0), (1, vI x1), (2, vI (x2 + 1)), (3, vI 1)]) [0, 1, 2, 3] rfl ?_
            exact h
          · have h := h.2 c10
            refine zi_aload_n hO dX12_readWay_91 0 rfl ?_
            refine zi_iconst (v := 3) hO dX12_readWay_92 (by decide) ?_
            obtain ⟨P6, hM6, h⟩ := h
            refine zc_VV (as := [vI 3]) hO hN dX12_readWay_93 kX12_182 (by decide) rfl (zI (by decide)) rfl rfl (Nat.le_of_ble_eq_true rfl) rfl rfl hM6 (fun im6 lv6 hp6 => ?_)
            replace h := h im6 lv6 hp6
            refine zi_goto (tgt := 107) hO dX12_readWay_96 (by decide) ?_
            refine zi_goto (tgt := 4) hO dX12_readWay_107 (by decide) ?_
            refine zi_pick (L' := [(0, vR 43 0), (1, vI x1), (2, vI (x2 + 1)), (3, vI 1)]) [0, 1, 2, 3] rfl ?_
            exact h
theorem rX12_readStorm_0 {x : zX} {w : zWd} {im : zMem} {lv : Int64} {P : zMem → Int64 → Prop} (hO : zOK x w zyX12_readStorm 6) (hR : zRetV x w zyX12_readStorm P) (hN : zN x 126 126)
 (h : (∃ P1 : Int32 → zMem → Int64 → Prop, zSpecI x.2.1 w 5 zyX12_numberIn [vR 43 0, vI 1, vI 3] im lv P1 ∧ ∀ (v1 : Int32) (im1 : zMem) (lv1 : Int64), P1 v1 im1 lv1 → (vp_in (5 * (im 43 0 27)) 100 ∧ (∃ P3 : Int32 → zMem → Int64 → Prop, zSpecI x.2.1 w 5 zyX12_numberIn [vR 43 0, vI 0, vI 7] (zwr im1 49 0 (Int32.toNatClampNeg (5 * (im 43 0 27))) v1) lv1 P3 ∧ ∀ (v3 : Int32) (im3 : zMem) (lv3 : Int64), P3 v3 im3 lv3 → (vp_in ((5 * (im 43 0 27)) + 1) 100 ∧ (∃ P5 : Int32 → zMem → Int64 → Prop, zSpecI x.2.1 w 5 zyX12_numberIn [vR 43 0, vI 0, vI 47] (zwr im3 49 0 (Int32.toNatClampNeg ((5 * (im 43 0 27)) + 1)) v3) lv3 P5 ∧ ∀ (v5 : Int32) (im5 : zMem) (lv5 : Int64), P5 v5 im5 lv5 → (vp_in ((5 * (im 43 0 27)) + 2) 100 ∧ (∃ P7 : Int32 → zMem → Int64 → Prop, zSpecI x.2.1 w 5 zyX12_numberIn [vR 43 0, vI (((zwr im5 49 0 (Int32.toNatClampNeg ((5 * (im 43 0 27)) + 2)) v5) 49 0 (Int32.toNatClampNeg ((5 * (im 43 0 27)) + 2))) + 1), vI 48] (zwr im5 49 0 (Int32.toNatClampNeg ((5 * (im 43 0 27)) + 2)) v5) lv5 P7 ∧ ∀ (v7 : Int32) (im7 : zMem) (lv7 : Int64), P7 v7 im7 lv7 → (vp_in ((5 * (im 43 0 27)) + 3) 100 ∧ (∃ P9 : Int32 → zMem → Int64 → Prop, zSpecI x.2.1 w 5 zyX12_numberIn [vR 43 0, vI 0, vI 99] (zwr im7 49 0 (Int32.toNatClampNeg ((5 * (im 43 0 27)) + 3)) v7) lv7 P9 ∧ ∀ (v9 : Int32) (im9 : zMem) (lv9 : Int64), P9 v9 im9 lv9 → (vp_in ((5 * (im 43 0 27)) + 4) 100 ∧ P (zwr (zwr im9 49 0 (Int32.toNatClampNeg ((5 * (im 43 0 27)) + 4)) v9) 43 0 27 ((im9 43 0 27) + 1)) lv9))))))))))) :
 zW x w 0 [(0, vR 43 0)] [] im lv := by
  refine zi_iconst (v := 5) hO dX12_readStorm_0 (by decide) ?_
  refine zi_aload_n hO dX12_readStorm_1 0 rfl ?_
  refine zi_getI hO dX12_readStorm_2 fX12_211 rfl rfl (zI (by decide)) ?_
  refine zi_imul hO dX12_readStorm_5 ?_
  refine zi_istore_n (L' := [(0, vR 43 0), (1, vI (5 * (im 43 0 27)))]) hO dX12_readStorm_6 (by decide) rfl rfl ?_
  refine zi_aload_n hO dX12_readStorm_7 0 rfl ?_
  refine zi_getR (r' := 49) (i' := 0) hO dX12_readStorm_8 fX12_53 rfl rfl (zI (by decide)) rfl ?_
  refine zi_iload_n hO dX12_readStorm_11 1 rfl ?_
  refine zi_aload_n hO dX12_readStorm_12 0 rfl ?_
  refine zi_iconst (v := 1) hO dX12_readStorm_13 (by decide) ?_
  refine zi_iconst (v := 3) hO dX12_readStorm_14 (by decide) ?_
  obtain ⟨P1, hM1, h⟩ := h
  refine zc_VI (as := [vI 1, vI 3]) hO hN dX12_readStorm_15 kX12_196 (by decide) rfl (zI (by decide)) rfl rfl (Nat.le_of_ble_eq_true rfl) rfl rfl hM1 (fun v1 im1 lv1 hp1 => ?_)
  replace h := h v1 im1 lv1 hp1
  obtain ⟨s2, h⟩ := h
  refine zi_iast hO dX12_readStorm_18 rfl (zI (by decide)) s2 ?_
  refine zi_aload_n hO dX12_readStorm_19 0 rfl ?_
  refine zi_getR (r' := 49) (i' := 0) hO dX12_readStorm_20 fX12_53 rfl rfl (zI (by decide)) rfl ?_
  refine zi_iload_n hO dX12_readStorm_23 1 rfl ?_
  refine zi_iconst (v := 1) hO dX12_readStorm_24 (by decide) ?_
  refine zi_iadd hO dX12_readStorm_25 ?_
  refine zi_aload_n hO dX12_readStorm_26 0 rfl ?_
  refine zi_iconst (v := 0) hO dX12_readStorm_27 (by decide) ?_
  refine zi_bipush (v := 7) hO dX12_readStorm_28 (by decide) ?_
  obtain ⟨P3, hM3, h⟩ := h
  refine zc_VI (as := [vI 0, vI 7]) hO hN dX12_readStorm_30 kX12_196 (by decide) rfl (zI (by decide)) rfl rfl (Nat.le_of_ble_eq_true rfl) rfl rfl hM3 (fun v3 im3 lv3 hp3 => ?_)
  replace h := h v3 im3 lv3 hp3
  obtain ⟨s4, h⟩ := h
  refine zi_iast hO dX12_readStorm_33 rfl (zI (by decide)) s4 ?_
  refine zi_aload_n hO dX12_readStorm_34 0 rfl ?_
  refine zi_getR (r' := 49) (i' := 0) hO dX12_readStorm_35 fX12_53 rfl rfl (zI (by decide)) rfl ?_
  refine zi_iload_n hO dX12_readStorm_38 1 rfl ?_
  refine zi_iconst (v := 2) hO dX12_readStorm_39 (by decide) ?_
  refine zi_iadd hO dX12_readStorm_40 ?_
  refine zi_aload_n hO dX12_readStorm_41 0 rfl ?_
  refine zi_iconst (v := 0) hO dX12_readStorm_42 (by decide) ?_
  refine zi_bipush (v := 47) hO dX12_readStorm_43 (by decide) ?_
  obtain ⟨P5, hM5, h⟩ := h
  refine zc_VI (as := [vI 0, vI 47]) hO hN dX12_readStorm_45 kX12_196 (by decide) rfl (zI (by decide)) rfl rfl (Nat.le_of_ble_eq_true rfl) rfl rfl hM5 (fun v5 im5 lv5 hp5 => ?_)
  replace h := h v5 im5 lv5 hp5
  obtain ⟨s6, h⟩ := h
  refine zi_iast hO dX12_readStorm_48 rfl (zI (by decide)) s6 ?_
  refine zi_aload_n hO dX12_readStorm_49 0 rfl ?_
  refine zi_getR (r' := 49) (i' := 0) hO dX12_readStorm_50 fX12_53 rfl rfl (zI (by decide)) rfl ?_
  refine zi_iload_n hO dX12_readStorm_53 1 rfl ?_
  refine zi_iconst (v := 3) hO dX12_readStorm_54 (by decide) ?_
  refine zi_iadd hO dX12_readStorm_55 ?_
  refine zi_aload_n hO dX12_readStorm_56 0 rfl ?_
  refine zi_aload_n hO dX12_readStorm_57 0 rfl ?_
  refine zi_getR (r' := 49) (i' := 0) hO dX12_readStorm_58 fX12_53 rfl rfl (zI (by decide)) rfl ?_
  refine zi_iload_n hO dX12_readStorm_61 1 rfl ?_
  refine zi_iconst (v := 2) hO dX12_readStorm_62 (by decide) ?_
  refine zi_iadd hO dX12_readStorm_63 ?_
  refine zi_iald hO dX12_readStorm_64 rfl (zI (by decide)) s6 ?_
  refine zi_iconst (v := 1) hO dX12_readStorm_65 (by decide) ?_
  refine zi_iadd hO dX12_readStorm_66 ?_
  refine zi_bipush (v := 48) hO dX12_readStorm_67 (by decide) ?_
  obtain ⟨P7, hM7, h⟩ := h
  refine zc_VI (as := [vI (((zwr im5 49 0 (Int32.toNatClampNeg ((5 * (im 43 0 27)) + 2)) v5) 49 0 (Int32.toNatClampNeg ((5 * (im 43 0 27)) + 2))) + 1), vI 48]) hO hN dX12_readStorm_69 kX12_196 (by decide) rfl (zI (by decide)) rfl rfl (Nat.le_of_ble_eq_true rfl) rfl rfl hM7 (fun v7 im7 lv7 hp7 => ?_)
  replace h := h v7 im7 lv7 hp7
  obtain ⟨s8, h⟩ := h
  refine zi_iast hO dX12_readStorm_72 rfl (zI (by decide)) s8 ?_
  refine zi_aload_n hO dX12_readStorm_73 0 rfl ?_
  refine zi_getR (r' := 49) (i' := 0) hO dX12_readStorm_74 fX12_53 rfl rfl (zI (by decide)) rfl ?_
  refine zi_iload_n hO dX12_readStorm_77 1 rfl ?_
  refine zi_iconst (v := 4) hO dX12_readStorm_78 (by decide) ?_
  refine zi_iadd hO dX12_readStorm_79 ?_
  refine zi_aload_n hO dX12_readStorm_80 0 rfl ?_
  refine zi_iconst (v := 0) hO dX12_readStorm_81 (by decide) ?_
  refine zi_bipush (v := 99) hO dX12_readStorm_82 (by decide) ?_
  obtain ⟨P9, hM9, h⟩ := h
  refine zc_VI (as := [vI 0, vI 99]) hO hN dX12_readStorm_84 kX12_196 (by decide) rfl (zI (by decide)) rfl rfl (Nat.le_of_ble_eq_true rfl) rfl rfl hM9 (fun v9 im9 lv9 hp9 => ?_)
  replace h := h v9 im9 lv9 hp9
  obtain ⟨s10, h⟩ := h
  refine zi_iast hO dX12_readStorm_87 rfl (zI (by decide)) s10 ?_
  refine zi_aload_n hO dX12_readStorm_88 0 rfl ?_
  refine zi_dup hO dX12_readStorm_89 rfl ?_
  refine zi_getI hO dX12_readStorm_90 fX12_211 rfl rfl (zI (by decide)) ?_
  refine zi_iconst (v := 1) hO dX12_readStorm_93 (by decide) ?_
  refine zi_iadd hO dX12_readStorm_94 ?_
  refine zi_putI hO dX12_readStorm_95 gX12_211 rfl rfl (zI (by decide)) ?_
  exact zr_V hO hR rfl dX12_readStorm_98 h
theorem rX12_readFlight_0 {x : zX} {w : zWd} {im : zMem} {lv : Int64} {P : zMem → Int64 → Prop} (hO : zOK x w zyX12_readFlight 7) (hR : zRetV x w zyX12_readFlight P) (hN : zN x 126 126)
 (h : (∃ P1 : Int32 → zMem → Int64 → Prop, zSpecI x.2.1 w 5 zyX12_numberIn [vR 43 0, vI 0, vI 3] im lv P1 ∧ ∀ (v1 : Int32) (im1 : zMem) (lv1 : Int64), P1 v1 im1 lv1 → (vp_in (5 * (im 43 0 26)) 60 ∧ (∃ P3 : Int32 → zMem → Int64 → Prop, zSpecI x.2.1 w 5 zyX12_numberIn [vR 43 0, vI 1, vI 9] (zwr im1 50 0 (Int32.toNatClampNeg (5 * (im 43 0 26))) v1) lv1 P3 ∧ ∀ (v3 : Int32) (im3 : zMem) (lv3 : Int64), P3 v3 im3 lv3 → (vp_in ((5 * (im 43 0 26)) + 1) 60 ∧ (∃ P5 : Int32 → zMem → Int64 → Prop, zSpecI x.2.1 w 5 zyX12_numberIn [vR 43 0, vI 0, vI 40] (zwr im3 50 0 (Int32.toNatClampNeg ((5 * (im 43 0 26)) + 1)) v3) lv3 P5 ∧ ∀ (v5 : Int32) (im5 : zMem) (lv5 : Int64), P5 v5 im5 lv5 → (vp_in ((5 * (im 43 0 26)) + 2) 60 ∧ (∃ P7 : Int32 → zMem → Int64 → Prop, zSpecI x.2.1 w 5 zyX12_numberIn [vR 43 0, vI 0, vI 99] (zwr im5 50 0 (Int32.toNatClampNeg ((5 * (im 43 0 26)) + 2)) v5) lv5 P7 ∧ ∀ (v7 : Int32) (im7 : zMem) (lv7 : Int64), P7 v7 im7 lv7 → (vp_in ((5 * (im 43 0 26)) + 3) 60 ∧ zW x w 66 [(0, vR 43 0), (1, vI (5 * (im 43 0 26))), (2, vI 0)] [] (zwr im7 50 0 (Int32.toNatClampNeg ((5 * (im 43 0 26)) + 3)) v7) lv7))))))))) :
 zW x w 0 [(0, vR 43 0)] [] im lv := by
  refine zi_iconst (v := 5) hO dX12_readFlight_0 (by decide) ?_
  refine zi_aload_n hO dX12_readFlight_1 0 rfl ?_
  refine zi_getI hO dX12_readFlight_2 fX12_193 rfl rfl (zI (by decide)) ?_
  refine zi_imul hO dX12_readFlight_5 ?_
  refine zi_istore_n (L' := [(0, vR 43 0), (1, vI (5 * (im 43 0 26)))]) hO dX12_readFlight_6 (by decide) rfl rfl ?_
  refine zi_aload_n hO dX12_readFlight_7 0 rfl ?_
  refine zi_getR (r' := 50) (i' := 0) hO dX12_readFlight_8 fX12_56 rfl rfl (zI (by decide)) rfl ?_
  refine zi_iload_n hO dX12_readFlight_11 1 rfl ?_
  refine zi_aload_n hO dX12_readFlight_12 0 rfl ?_
  refine zi_iconst (v := 0) hO dX12_readFlight_13 (by decide) ?_
  refine zi_iconst (v := 3) hO dX12_readFlight_14 (by decide) ?_
  obtain ⟨P1, hM1, h⟩ := h
  refine zc_VI (as := [vI 0, vI 3]) hO hN dX12_readFlight_15 kX12_196 (by decide) rfl (zI (by decide)) rfl rfl (Nat.le_of_ble_eq_true rfl) rfl rfl hM1 (fun v1 im1 lv1 hp1 => ?_)
  replace h := h v1 im1 lv1 hp1
  obtain ⟨s2, h⟩ := h
  refine zi_iast hO dX12_readFlight_18 rfl (zI (by decide)) s2 ?_
  refine zi_aload_n hO dX12_readFlight_19 0 rfl ?_
  refine zi_getR (r' := 50) (i' := 0) hO dX12_readFlight_20 fX12_56 rfl rfl (zI (by decide)) rfl ?_
  refine zi_iload_n hO dX12_readFlight_23 1 rfl ?_
  refine zi_iconst (v := 1) hO dX12_readFlight_24 (by decide) ?_
  refine zi_iadd hO dX12_readFlight_25 ?_
  refine zi_aload_n hO dX12_readFlight_26 0 rfl ?_
  refine zi_iconst (v := 1) hO dX12_readFlight_27 (by decide) ?_
  refine zi_bipush (v := 9) hO dX12_readFlight_28 (by decide) ?_
  obtain ⟨P3, hM3, h⟩ := h
  refine zc_VI (as := [vI 1, vI 9]) hO hN dX12_readFlight_30 kX12_196 (by decide) rfl (zI (by decide)) rfl rfl (Nat.le_of_ble_eq_true rfl) rfl rfl hM3 (fun v3 im3 lv3 hp3 => ?_)
  replace h := h v3 im3 lv3 hp3
  obtain ⟨s4, h⟩ := h
  refine zi_iast hO dX12_readFlight_33 rfl (zI (by decide)) s4 ?_
  refine zi_aload_n hO dX12_readFlight_34 0 rfl ?_
  refine zi_getR (r' := 50) (i' := 0) hO dX12_readFlight_35 fX12_56 rfl rfl (zI (by decide)) rfl ?_
  refine zi_iload_n hO dX12_readFlight_38 1 rfl ?_
  refine zi_iconst (v := 2) hO dX12_readFlight_39 (by decide) ?_
  refine zi_iadd hO dX12_readFlight_40 ?_
  refine zi_aload_n hO dX12_readFlight_41 0 rfl ?_
  refine zi_iconst (v := 0) hO dX12_readFlight_42 (by decide) ?_
  refine zi_bipush (v := 40) hO dX12_readFlight_43 (by decide) ?_
  obtain ⟨P5, hM5, h⟩ := h
  refine zc_VI (as := [vI 0, vI 40]) hO hN dX12_readFlight_45 kX12_196 (by decide) rfl (zI (by decide)) rfl rfl (Nat.le_of_ble_eq_true rfl) rfl rfl hM5 (fun v5 im5 lv5 hp5 => ?_)
  replace h := h v5 im5 lv5 hp5
  obtain ⟨s6, h⟩ := h
  refine zi_iast hO dX12_readFlight_48 rfl (zI (by decide)) s6 ?_
  refine zi_aload_n hO dX12_readFlight_49 0 rfl ?_
  refine zi_getR (r' := 50) (i' := 0) hO dX12_readFlight_50 fX12_56 rfl rfl (zI (by decide)) rfl ?_
  refine zi_iload_n hO dX12_readFlight_53 1 rfl ?_
  refine zi_iconst (v := 3) hO dX12_readFlight_54 (by decide) ?_
  refine zi_iadd hO dX12_readFlight_55 ?_
  refine zi_aload_n hO dX12_readFlight_56 0 rfl ?_
  refine zi_iconst (v := 0) hO dX12_readFlight_57 (by decide) ?_
  refine zi_bipush (v := 99) hO dX12_readFlight_58 (by decide) ?_
  obtain ⟨P7, hM7, h⟩ := h
  refine zc_VI (as := [vI 0, vI 99]) hO hN dX12_readFlight_60 kX12_196 (by decide) rfl (zI (by decide)) rfl rfl (Nat.le_of_ble_eq_true rfl) rfl rfl hM7 (fun v7 im7 lv7 hp7 => ?_)
  replace h := h v7 im7 lv7 hp7
  obtain ⟨s8, h⟩ := h
  refine zi_iast hO dX12_readFlight_63 rfl (zI (by decide)) s8 ?_
  refine zi_iconst (v := 0) hO dX12_readFlight_64 (by decide) ?_
  refine zi_istore_n (L' := [(0, vR 43 0), (1, vI (5 * (im 43 0 26))), (2, vI 0)]) hO dX12_readFlight_65 (by decide) rfl rfl ?_
  exact h
theorem rX12_readFlight_66 {x : zX} {w : zWd} {im : zMem} {lv : Int64} {P : zMem → Int64 → Prop} {x1 : Int32} {x2 : Int32} (hO : zOK x w zyX12_readFlight 7) (hR : zRetV x w zyX12_readFlight P) (hN : zN x 126 126)
 (h : ((15 ≤ x2 → zW x w 95 [(0, vR 43 0), (1, vI x1), (2, vI 0)] [] im lv) ∧
 (¬ (15 ≤ x2) → (vp_in ((15 * (im 43 0 26)) + x2) 180 ∧ zW x w 66 [(0, vR 43 0), (1, vI x1), (2, vI (x2 + 1))] [] (zwr im 52 0 (Int32.toNatClampNeg ((15 * (im 43 0 26)) + x2)) 0) lv)))) :
 zW x w 66 [(0, vR 43 0), (1, vI x1), (2, vI x2)] [] im lv := by
  refine zi_iload_n hO dX12_readFlight_66 2 rfl ?_
  refine zi_bipush (v := 15) hO dX12_readFlight_67 (by decide) ?_
  refine zi_icmp_ge (tgt := 93) hO dX12_readFlight_69 (by decide) (fun c1 => ?_) (fun c1 => ?_)
  · have h := h.1 c1
    refine zi_iconst (v := 0) hO dX12_readFlight_93 (by decide) ?_
    refine zi_istore_n (L' := [(0, vR 43 0), (1, vI x1), (2, vI 0)]) hO dX12_readFlight_94 (by decide) rfl rfl ?_
    exact h
  · have h := h.2 c1
    refine zi_aload_n hO dX12_readFlight_72 0 rfl ?_
    refine zi_getR (r' := 52) (i' := 0) hO dX12_readFlight_73 fX12_62 rfl rfl (zI (by decide)) rfl ?_
    refine zi_bipush (v := 15) hO dX12_readFlight_76 (by decide) ?_
    refine zi_aload_n hO dX12_readFlight_78 0 rfl ?_
    refine zi_getI hO dX12_readFlight_79 fX12_193 rfl rfl (zI (by decide)) ?_
    refine zi_imul hO dX12_readFlight_82 ?_
    refine zi_iload_n hO dX12_readFlight_83 2 rfl ?_
    refine zi_iadd hO dX12_readFlight_84 ?_
    refine zi_iconst (v := 0) hO dX12_readFlight_85 (by decide) ?_
    obtain ⟨s1, h⟩ := h
    refine zi_iast hO dX12_readFlight_86 rfl (zI (by decide)) s1 ?_
    refine zi_iinc (v' := (x2 + 1)) (L' := [(0, vR 43 0), (1, vI x1), (2, vI (x2 + 1))]) hO dX12_readFlight_87 2 rfl rfl (by decide) rfl rfl ?_
    refine zi_goto (tgt := 66) hO dX12_readFlight_90 (by decide) ?_
    exact h
theorem rX12_readFlight_95 {x : zX} {w : zWd} {im : zMem} {lv : Int64} {P : zMem → Int64 → Prop} {x1 : Int32} {x2 : Int32} (hO : zOK x w zyX12_readFlight 7) (hR : zRetV x w zyX12_readFlight P) (hN : zN x 126 126)
 (h : ((¬ ((im 43 0 24) = 0) → (vp_in (x1 + 4) 60 ∧ (vp_in (im 43 0 26) 12 ∧ P (zwr (zwr (zwr (zwr im 50 0 (Int32.toNatClampNeg (x1 + 4)) x2) 53 0 (Int32.toNatClampNeg (im 43 0 26)) 0) 54 0 (Int32.toNatClampNeg (im 43 0 26)) 0) 43 0 26 ((im 43 0 26) + 1)) lv))) ∧
 ((im 43 0 24) = 0 → ((x2 = 0 → (∃ P3 : Int64 → zMem → Int64 → Prop, zSpecL x.2.1 w 2 zyX12_word [vR 43 0] im lv P3 ∧ ∀ (v3 : Int64) (im3 : zMem) (lv3 : Int64), P3 v3 im3 lv3 → ((¬ ((lg_cmp v3 (7823737 : Int64)) = 0) → (∃ P4 : zMem → Int64 → Prop, zSpecV x.2.1 w 4 zyX12_need [vR 43 0, vI 0] im3 lv3 P4 ∧ ∀ (im4 : zMem) (lv4 : Int64), P4 im4 lv4 → (∃ P5 : zMem → Int64 → Prop, zSpecV x.2.1 w 6 zyX12_readWay [vR 43 0, vI x2] im4 lv4 P5 ∧ ∀ (im5 : zMem) (lv5 : Int64), P5 im5 lv5 → zW x w 95 [(0, vR 43 0), (1, vI x1), (2, vI (x2 + 1))] [] im5 lv5))) ∧
 ((lg_cmp v3 (7823737 : Int64)) = 0 → (∃ P6 : zMem → Int64 → Prop, zSpecV x.2.1 w 4 zyX12_need [vR 43 0, vI 1] im3 lv3 P6 ∧ ∀ (im6 : zMem) (lv6 : Int64), P6 im6 lv6 → (∃ P7 : zMem → Int64 → Prop, zSpecV x.2.1 w 6 zyX12_readWay [vR 43 0, vI x2] im6 lv6 P7 ∧ ∀ (im7 : zMem) (lv7 : Int64), P7 im7 lv7 → zW x w 95 [(0, vR 43 0), (1, vI x1), (2, vI (x2 + 1))] [] im7 lv7)))))) ∧
 (¬ (x2 = 0) → (∃ P8 : Int64 → zMem → Int64 → Prop, zSpecL x.2.1 w 2 zyX12_word [vR 43 0] im lv P8 ∧ ∀ (v8 : Int64) (im8 : zMem) (lv8 : Int64), P8 v8 im8 lv8 → ((¬ ((lg_cmp v8 (7823737 : Int64)) = 0) → (vp_in (x1 + 4) 60 ∧ (vp_in (im8 43 0 26) 12 ∧ P (zwr (zwr (zwr (zwr im8 50 0 (Int32.toNatClampNeg (x1 + 4)) x2) 53 0 (Int32.toNatClampNeg (im8 43 0 26)) 0) 54 0 (Int32.toNatClampNeg (im8 43 0 26)) 0) 43 0 26 ((im8 43 0 26) + 1)) lv8))) ∧
 ((lg_cmp v8 (7823737 : Int64)) = 0 → ((¬ (x2 = 3) → (∃ P11 : Int64 → zMem → Int64 → Prop, zSpecL x.2.1 w 2 zyX12_word [vR 43 0] im8 lv8 P11 ∧ ∀ (v11 : Int64) (im11 : zMem) (lv11 : Int64), P11 v11 im11 lv11 → ((¬ ((lg_cmp v11 (7823737 : Int64)) = 0) → (∃ P12 : zMem → Int64 → Prop, zSpecV x.2.1 w 4 zyX12_need [vR 43 0, vI 0] im11 lv11 P12 ∧ ∀ (im12 : zMem) (lv12 : Int64), P12 im12 lv12 → (∃ P13 : zMem → Int64 → Prop, zSpecV x.2.1 w 6 zyX12_readWay [vR 43 0, vI x2] im12 lv12 P13 ∧ ∀ (im13 : zMem) (lv13 : Int64), P13 im13 lv13 → zW x w 95 [(0, vR 43 0), (1, vI x1), (2, vI (x2 + 1))] [] im13 lv13))) ∧
 ((lg_cmp v11 (7823737 : Int64)) = 0 → (∃ P14 : zMem → Int64 → Prop, zSpecV x.2.1 w 4 zyX12_need [vR 43 0, vI 1] im11 lv11 P14 ∧ ∀ (im14 : zMem) (lv14 : Int64), P14 im14 lv14 → (∃ P15 : zMem → Int64 → Prop, zSpecV x.2.1 w 6 zyX12_readWay [vR 43 0, vI x2] im14 lv14 P15 ∧ ∀ (im15 : zMem) (lv15 : Int64), P15 im15 lv15 → zW x w 95 [(0, vR 43 0), (1, vI x1), (2, vI (x2 + 1))] [] im15 lv15)))))) ∧
 (x2 = 3 → (∃ P16 : zMem → Int64 → Prop, zSpecV x.2.1 w 2 zyX12_bad [vR 43 0, vI 3] im8 lv8 P16 ∧ ∀ (im16 : zMem) (lv16 : Int64), P16 im16 lv16 → zW x w 95 [(0, vR 43 0), (1, vI x1), (2, vI x2)] [] im16 lv16))))))))))) :
 zW x w 95 [(0, vR 43 0), (1, vI x1), (2, vI x2)] [] im lv := by
  refine zi_aload_n hO dX12_readFlight_95 0 rfl ?_
  refine zi_getI hO dX12_readFlight_96 fX12_176 rfl rfl (zI (by decide)) ?_
  refine zi_if_ne (tgt := 161) hO dX12_readFlight_99 (by decide) (fun c1 => ?_) (fun c1 => ?_)
  · have h := h.1 c1
    refine zi_aload_n hO dX12_readFlight_161 0 rfl ?_
    refine zi_getR (r' := 50) (i' := 0) hO dX12_readFlight_162 fX12_56 rfl rfl (zI (by decide)) rfl ?_
    refine zi_iload_n hO dX12_readFlight_165 1 rfl ?_
    refine zi_iconst (v := 4) hO dX12_readFlight_166 (by decide) ?_
    refine zi_iadd hO dX12_readFlight_167 ?_
    refine zi_iload_n hO dX12_readFlight_168 2 rfl ?_
    obtain ⟨s1, h⟩ := h
    refine zi_iast hO dX12_readFlight_169 rfl (zI (by decide)) s1 ?_
    refine zi_aload_n hO dX12_readFlight_170 0 rfl ?_
    refine zi_getR (r' := 53) (i' := 0) hO dX12_readFlight_171 fX12_65 rfl rfl (zI (by decide)) rfl ?_
    refine zi_aload_n hO dX12_readFlight_174 0 rfl ?_
    refine zi_getI hO dX12_readFlight_175 fX12_193 rfl rfl (zI (by decide)) ?_
    refine zi_iconst (v := 0) hO dX12_readFlight_178 (by decide) ?_
    obtain ⟨s2, h⟩ := h
    refine zi_iast hO dX12_readFlight_179 rfl (zI (by decide)) s2 ?_
    refine zi_aload_n hO dX12_readFlight_180 0 rfl ?_
    refine zi_getR (r' := 54) (i' := 0) hO dX12_readFlight_181 fX12_68 rfl rfl (zI (by decide)) rfl ?_
    refine zi_aload_n hO dX12_readFlight_184 0 rfl ?_
    refine zi_getI hO dX12_readFlight_185 fX12_193 rfl rfl (zI (by decide)) ?_
    refine zi_iconst (v := 0) hO dX12_readFlight_188 (by decide) ?_
    refine zi_iast hO dX12_readFlight_189 rfl (zI (by decide)) s2 ?_
    refine zi_aload_n hO dX12_readFlight_190 0 rfl ?_
    refine zi_dup hO dX12_readFlight_191 rfl ?_
    refine zi_getI hO dX12_readFlight_192 fX12_193 rfl rfl (zI (by decide)) ?_
    refine zi_iconst (v := 1) hO dX12_readFlight_195 (by decide) ?_
    refine zi_iadd hO dX12_readFlight_196 ?_
    refine zi_putI hO dX12_readFlight_197 gX12_193 rfl rfl (zI (by decide)) ?_
    exact zr_V hO hR rfl dX12_readFlight_200 h
  · have h := h.2 c1
    refine zi_iload_n hO dX12_readFlight_102 2 rfl ?_
    refine zi_if_eq (tgt := 117) hO dX12_readFlight_103 (by decide) (fun c2 => ?_) (fun c2 => ?_)
    · have h := h.1 c2
      refine zi_iload_n hO dX12_readFlight_117 2 rfl ?_
      refine zi_iconst (v := 3) hO dX12_readFlight_118 (by decide) ?_
      refine zi_icmp_ne (tgt := 130) hO dX12_readFlight_119 (by decide) (fun _ => ?_) (fun c3 => absurd c3 (fun z => absurd (c2.symm.trans z) (by decide)))
      refine zi_aload_n hO dX12_readFlight_130 0 rfl ?_
      refine zi_aload_n hO dX12_readFlight_131 0 rfl ?_
      obtain ⟨P3, hM3, h⟩ := h
      refine zc_VL (as := []) hO hN dX12_readFlight_132 kX12_202 (by decide) rfl (zI (by decide)) rfl rfl (Nat.le_of_ble_eq_true rfl) rfl rfl hM3 (fun v3 im3 lv3 hp3 => ?_)
      replace h := h v3 im3 lv3 hp3
      refine zi_ldc2 (v := 7823737) hO dX12_readFlight_135 nX12_206 ?_
      refine zi_lcmp hO dX12_readFlight_138 ?_
      refine zi_if_ne (tgt := 146) hO dX12_readFlight_139 (by decide) (fun c4 => ?_) (fun c4 => ?_)
      · have h := h.1 c4
        refine zi_iconst (v := 0) hO dX12_readFlight_146 (by decide) ?_
        obtain ⟨P4, hM4, h⟩ := h
        refine zc_VV (as := [vI 0]) hO hN dX12_readFlight_147 kX12_189 (by decide) rfl (zI (by decide)) rfl rfl (Nat.le_of_ble_eq_true rfl) rfl rfl hM4 (fun im4 lv4 hp4 => ?_)
        replace h := h im4 lv4 hp4
        refine zi_aload_n hO dX12_readFlight_150 0 rfl ?_
        refine zi_iload_n hO dX12_readFlight_151 2 rfl ?_
        obtain ⟨P5, hM5, h⟩ := h
        refine zc_VV (as := [vI x2]) hO hN dX12_readFlight_152 kX12_208 (by decide) rfl (zI (by decide)) rfl rfl (Nat.le_of_ble_eq_true rfl) rfl rfl hM5 (fun im5 lv5 hp5 => ?_)
        replace h := h im5 lv5 hp5
        refine zi_iinc (v' := (x2 + 1)) (L' := [(0, vR 43 0), (1, vI x1), (2, vI (x2 + 1))]) hO dX12_readFlight_155 2 rfl rfl (by decide) rfl rfl ?_
        refine zi_goto (tgt := 95) hO dX12_readFlight_158 (by decide) ?_
        exact h
      · have h := h.2 c4
        refine zi_iconst (v := 1) hO dX12_readFlight_142 (by decide) ?_
        refine zi_goto (tgt := 147) hO dX12_readFlight_143 (by decide) ?_
        obtain ⟨P6, hM6, h⟩ := h
        refine zc_VV (as := [vI 1]) hO hN dX12_readFlight_147 kX12_189 (by decide) rfl (zI (by decide)) rfl rfl (Nat.le_of_ble_eq_true rfl) rfl rfl hM6 (fun im6 lv6 hp6 => ?_)
        replace h := h im6 lv6 hp6
        refine zi_aload_n hO dX12_readFlight_150 0 rfl ?_
        refine zi_iload_n hO dX12_readFlight_151 2 rfl ?_
        obtain ⟨P7, hM7, h⟩ := h
        refine zc_VV (as := [vI x2]) hO hN dX12_readFlight_152 kX12_208 (by decide) rfl (zI (by decide)) rfl rfl (Nat.le_of_ble_eq_true rfl) rfl rfl hM7 (fun im7 lv7 hp7 => ?_)
        replace h := h im7 lv7 hp7
        refine zi_iinc (v' := (x2 + 1)) (L' := [(0, vR 43 0), (1, vI x1), (2, vI (x2 + 1))]) hO dX12_readFlight_155 2 rfl rfl (by decide) rfl rfl ?_
        refine zi_goto (tgt := 95) hO dX12_readFlight_158 (by decide) ?_
        exact h
    · have h := h.2 c2
      refine zi_aload_n hO dX12_readFlight_106 0 rfl ?_
      obtain ⟨P8, hM8, h⟩ := h
      refine zc_VL (as := []) hO hN dX12_readFlight_107 kX12_202 (by decide) rfl (zI (by decide)) rfl rfl (Nat.le_of_ble_eq_true rfl) rfl rfl hM8 (fun v8 im8 lv8 hp8 => ?_)
      replace h := h v8 im8 lv8 hp8
      refine zi_ldc2 (v := 7823737) hO dX12_readFlight_110 nX12_206 ?_
      refine zi_lcmp hO dX12_readFlight_113 ?_
      refine zi_if_ne (tgt := 161) hO dX12_readFlight_114 (by decide) (fun c5 => ?_) (fun c5 => ?_)
      · have h := h.1 c5
        refine zi_aload_n hO dX12_readFlight_161 0 rfl ?_
        refine zi_getR (r' := 50) (i' := 0) hO dX12_readFlight_162 fX12_56 rfl rfl (zI (by decide)) rfl ?_
        refine zi_iload_n hO dX12_readFlight_165 1 rfl ?_
        refine zi_iconst (v := 4) hO dX12_readFlight_166 (by decide) ?_
        refine zi_iadd hO dX12_readFlight_167 ?_
        refine zi_iload_n hO dX12_readFlight_168 2 rfl ?_
        obtain ⟨s9, h⟩ := h
        refine zi_iast hO dX12_readFlight_169 rfl (zI (by decide)) s9 ?_
        refine zi_aload_n hO dX12_readFlight_170 0 rfl ?_
        refine zi_getR (r' := 53) (i' := 0) hO dX12_readFlight_171 fX12_65 rfl rfl (zI (by decide)) rfl ?_
        refine zi_aload_n hO dX12_readFlight_174 0 rfl ?_
        refine zi_getI hO dX12_readFlight_175 fX12_193 rfl rfl (zI (by decide)) ?_
        refine zi_iconst (v := 0) hO dX12_readFlight_178 (by decide) ?_
        obtain ⟨s10, h⟩ := h
        refine zi_iast hO dX12_readFlight_179 rfl (zI (by decide)) s10 ?_
        refine zi_aload_n hO dX12_readFlight_180 0 rfl ?_
        refine zi_getR (r' := 54) (i' := 0) hO dX12_readFlight_181 fX12_68 rfl rfl (zI (by decide)) rfl ?_
        refine zi_aload_n hO dX12_readFlight_184 0 rfl ?_
        refine zi_getI hO dX12_readFlight_185 fX12_193 rfl rfl (zI (by decide)) ?_
        refine zi_iconst (v := 0) hO dX12_readFlight_188 (by decide) ?_
        refine zi_iast hO dX12_readFlight_189 rfl (zI (by decide)) s10 ?_
        refine zi_aload_n hO dX12_readFlight_190 0 rfl ?_
        refine zi_dup hO dX12_readFlight_191 rfl ?_
        refine zi_getI hO dX12_readFlight_192 fX12_193 rfl rfl (zI (by decide)) ?_
        refine zi_iconst (v := 1) hO dX12_readFlight_195 (by decide) ?_
        refine zi_iadd hO dX12_readFlight_196 ?_
        refine zi_putI hO dX12_readFlight_197 gX12_193 rfl rfl (zI (by decide)) ?_
        exact zr_V hO hR rfl dX12_readFlight_200 h
      · have h := h.2 c5
        refine zi_iload_n hO dX12_readFlight_117 2 rfl ?_
        refine zi_iconst (v := 3) hO dX12_readFlight_118 (by decide) ?_
        refine zi_icmp_ne (tgt := 130) hO dX12_readFlight_119 (by decide) (fun c6 => ?_) (fun c6 => ?_)
        · have h := h.1 c6
          refine zi_aload_n hO dX12_readFlight_130 0 rfl ?_
          refine zi_aload_n hO dX12_readFlight_131 0 rfl ?_
          obtain ⟨P11, hM11, h⟩ := h
          refine zc_VL (as := []) hO hN dX12_readFlight_132 kX12_202 (by decide) rfl (zI (by decide)) rfl rfl (Nat.le_of_ble_eq_true rfl) rfl rfl hM11 (fun v11 im11 lv11 hp11 => ?_)
          replace h := h v11 im11 lv11 hp11
          refine zi_ldc2 (v := 7823737) hO dX12_readFlight_135 nX12_206 ?_
          refine zi_lcmp hO dX12_readFlight_138 ?_
          refine zi_if_ne (tgt := 146) hO dX12_readFlight_139 (by decide) (fun c7 => ?_) (fun c7 => ?_)
          · have h := h.1 c7
            refine zi_iconst (v := 0) hO dX12_readFlight_146 (by decide) ?_
            obtain ⟨P12, hM12, h⟩ := h
            refine zc_VV (as := [vI 0]) hO hN dX12_readFlight_147 kX12_189 (by decide) rfl (zI (by decide)) rfl rfl (Nat.le_of_ble_eq_true rfl) rfl rfl hM12 (fun im12 lv12 hp12 => ?_)
            replace h := h im12 lv12 hp12
            refine zi_aload_n hO dX12_readFlight_150 0 rfl ?_
            refine zi_iload_n hO dX12_readFlight_151 2 rfl ?_
            obtain ⟨P13, hM13, h⟩ := h
            refine zc_VV (as := [vI x2]) hO hN dX12_readFlight_152 kX12_208 (by decide) rfl (zI (by decide)) rfl rfl (Nat.le_of_ble_eq_true rfl) rfl rfl hM13 (fun im13 lv13 hp13 => ?_)
            replace h := h im13 lv13 hp13
            refine zi_iinc (v' := (x2 + 1)) (L' := [(0, vR 43 0), (1, vI x1), (2, vI (x2 + 1))]) hO dX12_readFlight_155 2 rfl rfl (by decide) rfl rfl ?_
            refine zi_goto (tgt := 95) hO dX12_readFlight_158 (by decide) ?_
            exact h
          · have h := h.2 c7
            refine zi_iconst (v := 1) hO dX12_readFlight_142 (by decide) ?_
            refine zi_goto (tgt := 147) hO dX12_readFlight_143 (by decide) ?_
            obtain ⟨P14, hM14, h⟩ := h
            refine zc_VV (as := [vI 1]) hO hN dX12_readFlight_147 kX12_189 (by decide) rfl (zI (by decide)) rfl rfl (Nat.le_of_ble_eq_true rfl) rfl rfl hM14 (fun im14 lv14 hp14 => ?_)
            replace h := h im14 lv14 hp14
            refine zi_aload_n hO dX12_readFlight_150 0 rfl ?_
            refine zi_iload_n hO dX12_readFlight_151 2 rfl ?_
            obtain ⟨P15, hM15, h⟩ := h
            refine zc_VV (as := [vI x2]) hO hN dX12_readFlight_152 kX12_208 (by decide) rfl (zI (by decide)) rfl rfl (Nat.le_of_ble_eq_true rfl) rfl rfl hM15 (fun im15 lv15 hp15 => ?_)
            replace h := h im15 lv15 hp15
            refine zi_iinc (v' := (x2 + 1)) (L' := [(0, vR 43 0), (1, vI x1), (2, vI (x2 + 1))]) hO dX12_readFlight_155 2 rfl rfl (by decide) rfl rfl ?_
            refine zi_goto (tgt := 95) hO dX12_readFlight_158 (by decide) ?_
            exact h
        · have h := h.2 c6
          refine zi_aload_n hO dX12_readFlight_122 0 rfl ?_
          refine zi_iconst (v := 3) hO dX12_readFlight_123 (by decide) ?_
          obtain ⟨P16, hM16, h⟩ := h
          refine zc_VV (as := [vI 3]) hO hN dX12_readFlight_124 kX12_182 (by decide) rfl (zI (by decide)) rfl rfl (Nat.le_of_ble_eq_true rfl) rfl rfl hM16 (fun im16 lv16 hp16 => ?_)
          replace h := h im16 lv16 hp16
          refine zi_goto (tgt := 95) hO dX12_readFlight_127 (by decide) ?_
          exact h
/-- the cells that a way of a flight is read to -/
def Swy (B : Nat) : Nat → Nat → Nat → Prop := fun r _ k => (r = 43 ∧ 20 ≤ k ∧ k ≤ 25) ∨ ((r = 51 ∨ r = 52) ∧ B ≤ k ∧ k < B + 5)
def lgR (im im' : zMem) (B : Nat) (g : List (Nat × Nat)) : Prop := (∀ j, j < g.length → im' 51 0 (B + j) = nI (g.getD j (0, 0)).1 ∧ im' 52 0 (B + j) = nI (g.getD j (0, 0)).2) ∧ ∀ j, g.length ≤ j → j < 5 → im' 52 0 (B + j) = im 52 0 (B + j)
theorem gP_l {l k : List (Nat × Nat)} {i : Nat} (h : i < l.length) : (l ++ k).getD i (0, 0) = l.getD i (0, 0) := by
  rw [List.getD_eq_getElem?_getD, List.getD_eq_getElem?_getD, List.getElem?_append_left h]
theorem gP_m {l k : List (Nat × Nat)} {a : Nat × Nat} : (l ++ a :: k).getD l.length (0, 0) = a := by
  rw [List.getD_eq_getElem?_getD, List.getElem?_append_right (Nat.le_refl _), Nat.sub_self]
  rfl
theorem C_X12_readWay (l : Launch) (w : zWd) {m im : zMem} (lv : Int64) (hT : WT m) {s : Nat × Nat} (hS : RS m im s) {nf wy : Nat} (hnf : nf < 12) (hwy : wy < 3) (h26 : im 43 0 26 = nI nf) : zSpecV l w 6 zyX12_readWay [vR 43 0, vI (nI wy)] im lv (fun im' lv' => ((¬ s.2 = 0 ∧ im' = im) ∨ (s.2 = 0 ∧ Fr (Swy (15 * nf + 5 * wy)) im im' ∧ RS m im' (lgS m 5 s.1).1 ∧ ((lgS m 5 s.1).1.2 = 0 → lgR im im' (15 * nf + 5 * wy) (lgS m 5 s.1).2))) ∧ lv' = lv) := by
  refine ze_V (by decide) (Nat.le_of_ble_eq_true rfl) (fun x hO hR hN => rX12_readWay_0 hO hR hN ?_)
  obtain ⟨a0, ft⟩ := s
  have h4 : ft ≤ 4 := hS.2.2.2.2.2
  have f0 : ∀ {im' : zMem} {a ft : Nat}, RS m im' (a, ft) → (im' 43 0 24 = 0 ↔ ft = 0) := fun {im' a ft} h => by
    have h1 : im' 43 0 24 = nI ft := h.2.2.1
    have h2 : ft ≤ 4 := h.2.2.2.2.2
    rw [h1]; exact nI_eq (b := 0) (by omega) (by decide)
  by_cases hft : ft = 0
  rotate_left
  · refine rX12_readWay_4 hO hR hN ⟨fun z => absurd z (by decide), fun _ => ?_⟩
    rw [f0 hS]
    exact ⟨fun _ => ⟨Or.inl ⟨hft, rfl⟩, rfl⟩, fun z => absurd z hft⟩
  subst hft
  generalize hB : 15 * nf + 5 * wy = B at *
  have hB5 : B + 5 ≤ 180 := by omega
  generalize hQ : lgS m 5 a0 = Q at *
  -- the ways out
  have out : ∀ (im1 : zMem), Fr (Swy B) im im1 → RS m im1 Q.1 → (Q.1.2 = 0 → lgR im im1 B Q.2) → (((¬ (a0, 0).2 = 0 ∧ im1 = im) ∨ ((a0, 0).2 = 0 ∧ Fr (Swy B) im im1 ∧ RS m im1 Q.1 ∧ (Q.1.2 = 0 → lgR im im1 B Q.2))) ∧ lv = lv) := by
    intro im1 h1 h2 h3
    exact ⟨Or.inr ⟨rfl, h1, h2, h3⟩, rfl⟩
  have stop : ∀ (im1 : zMem) (x2 : Int32), Fr (Swy B) im im1 → RS m im1 Q.1 → (Q.1.2 = 0 → lgR im im1 B Q.2) → zW x w 4 [(0, vR 43 0), (1, vI (nI wy)), (2, vI x2), (3, vI 0)] [] im1 lv := fun im1 x2 h1 h2 h3 => rX12_readWay_4 hO hR hN ⟨fun _ => out im1 h1 h2 h3, fun z => absurd rfl z⟩
  have stop1 : ∀ (im1 : zMem) (x2 : Int32) (a : Nat), Fr (Swy B) im im1 → RS m im1 (a, 3) → Q.1 = (a, 3) → zW x w 4 [(0, vR 43 0), (1, vI (nI wy)), (2, vI x2), (3, vI 1)] [] im1 lv := fun im1 x2 a h1 h2 h3 => rX12_readWay_4 hO hR hN ⟨fun z => absurd z (by decide), fun _ => ⟨fun _ => out im1 h1 (h3 ▸ h2) (fun z => absurd z (by rw [h3]; simp)), fun z => absurd ((f0 h2).mp z) (by decide)⟩⟩
  have body : ∀ k n a (im1 : zMem) (pf : List (Nat × Nat)), n + (k + 1) = 5 → pf.length = n → Fr (Swy B) im im1 → RS m im1 (a, 0) → Q = ((lgS m (k + 1) a).1, pf ++ (lgS m (k + 1) a).2) → lgR im im1 B pf →
      (∀ a' v (im2 : zMem), ¬ k = 0 → Fr (Swy B) im im2 → RS m im2 (a', 0) → Q = ((lgS m k a').1, (pf ++ [v]) ++ (lgS m k a').2) → lgR im im2 B (pf ++ [v]) → zW x w 4 [(0, vR 43 0), (1, vI (nI wy)), (2, vI (nI (n + 1))), (3, vI 1)] [] im2 lv) → zW x w 4 [(0, vR 43 0), (1, vI (nI wy)), (2, vI (nI n)), (3, vI 1)] [] im1 lv := by
    intro k n a im1 pf hn hpf g1 g2 g3 g4 cont
    have e26 : im1 43 0 26 = nI nf := by rw [g1 43 0 26 (by unfold Swy; omega)]; exact h26
    have eI : (15 : Int32) * nI nf + 5 * nI wy + nI n = nI (B + n) := by
      rw [show (15 : Int32) * nI nf = nI (15 * nf) from pk_mul 15 nf, show (5 : Int32) * nI wy = nI (5 * wy) from pk_mul 5 wy, nI_add, nI_add, hB]
    have cI : Int32.toNatClampNeg (nI (B + n)) = B + n := nI_clamp (by omega)
    refine rX12_readWay_4 hO hR hN ⟨fun z => absurd z (by decide), fun _ => ⟨fun z => absurd ((f0 g2).mpr rfl) z, fun _ => ?_⟩⟩
    rw [e26, eI, cI, nI_1]
    refine ⟨_, C_X12_numberIn _ _ _ hT g2 (lo := 0) (hi := 7) (fun _ => ⟨rfl, rfl, by decide, by decide⟩), ?_⟩
    rintro v1 im2 lv2 ⟨⟨d1, d2, d3⟩, rfl⟩
    have w1 : Fr (Swy B) im (zwr im2 51 0 (B + n) v1) := (g1.trans (Fr.mono d1 (fun r i k z => Or.inl z))).wr (Or.inr ⟨Or.inl rfl, by omega, by omega⟩)
    have d2' : RS m (zwr im2 51 0 (B + n) v1) (nmS m 0 7 (a, 0)) := d2.wr (by decide) (by omega)
    generalize hs1 : nmS m 0 7 (a, 0) = s1 at *
    refine ⟨vp_in_nI (by omega) (by decide), _, C_X12_numberIn _ _ _ hT d2' (lo := 1) (hi := 4) (fun _ => ⟨rfl, rfl, by decide, by decide⟩), ?_⟩
    rintro v3 im3 lv3 ⟨⟨e1, e2, e3⟩, rfl⟩
    have w2 : Fr (Swy B) im (zwr im3 52 0 (B + n) v3) := (w1.trans (Fr.mono e1 (fun r i k z => Or.inl z))).wr (Or.inr ⟨Or.inr rfl, by omega, by omega⟩)
    have e2' : RS m (zwr im3 52 0 (B + n) v3) (nmS m 1 4 s1) := e2.wr (by decide) (by omega)
    have hlg : lgS m (k + 1) a = if (nmS m 1 4 s1).2 = 0 ∧ kd m (nmS m 1 4 s1).1 = 3 then (if k = 0 then (((nmS m 1 4 s1).1, 3), [(nv m a, nv m s1.1)]) else ((lgS m k (nx m (nmS m 1 4 s1).1)).1, (nv m a, nv m s1.1) :: (lgS m k (nx m (nmS m 1 4 s1).1)).2)) else (nmS m 1 4 s1, [(nv m a, nv m s1.1)]) := by
      rw [lgS, hs1]
    have hval : (nmS m 1 4 s1).2 = 0 → lgR im (zwr im3 52 0 (B + n) v3) B (pf ++ [(nv m a, nv m s1.1)]) := by
      intro z
      obtain ⟨y1, y2, y3, y4, y5⟩ := nmS_0 z
      have hv3 := e3 z
      have hv1 := d3 y1
      have e51 : im3 51 = (zwr im2 51 0 (B + n) v1) 51 := Fr.row e1 (fun i k z => absurd z.1 (by decide))
      have e52 : im3 52 = im2 52 := by rw [Fr.row e1 (r := 52) (fun i k z => absurd z.1 (by decide)), zwr_r (by decide)]
      have f51 : im2 51 = im1 51 := Fr.row d1 (fun i k z => absurd z.1 (by decide))
      have f52 : im2 52 = im1 52 := Fr.row d1 (fun i k z => absurd z.1 (by decide))
      refine ⟨fun j hj => ?_, fun j hj hj5 => ?_⟩
      · rw [List.length_append, List.length_singleton] at hj
        by_cases hjn : j = n
        · subst hjn
          have hg : (pf ++ [(nv m a, nv m s1.1)]).getD j (0, 0) = (nv m a, nv m s1.1) := by rw [← hpf]; exact gP_m
          rw [hg, zwr_r (by decide), e51, zwr_eq, zwr_eq]
          exact ⟨hv1, hv3⟩
        · rw [gP_l (by omega), zwr_r (by decide), e51, zwr_app, if_neg (by omega), zwr_app, if_neg (by omega), e52, f51, f52]
          exact g4.1 j (by omega)
      · rw [List.length_append, List.length_singleton] at hj
        rw [zwr_app, if_neg (by omega), e52, f52]
        exact g4.2 j (by omega) hj5
    generalize hs2 : nmS m 1 4 s1 = s2 at *
    obtain ⟨a2, ft2⟩ := s2
    have f3 : im3 43 0 24 = 0 ↔ ft2 = 0 := f0 e2
    rw [f3]
    refine ⟨fun z => ?_, fun z => ?_⟩
    · have hq : Q = ((a2, ft2), pf ++ [(nv m a, nv m s1.1)]) := by
        rw [g3, hlg, if_neg (fun y => z y.1)]
      exact stop _ _ w2 (by rw [hq]; exact e2') (fun y => absurd y (by rw [hq]; exact z))
    · subst z
      have hval := hval rfl
      refine ⟨_, C_X12_is _ _ _ hT e2' (c := 44) (k := 3) (Or.inl ⟨rfl, rfl⟩) rfl, ?_⟩
      rintro _ im4 lv4 ⟨rfl, rfl, rfl⟩
      rw [vB_0]
      refine ⟨fun z => ?_, fun z => ?_⟩
      · have hq : Q = ((a2, 0), pf ++ [(nv m a, nv m s1.1)]) := by
          rw [g3, hlg, if_neg (fun y => z y.2)]
        exact stop _ _ w2 (by rw [hq]; exact e2') (fun y => by rw [hq]; exact hval)
      · have z : kd m a2 = 3 := Classical.not_not.mp z
        have e5 : nI (n + 1) = 5 ↔ n + 1 = 5 := nI_eq (b := 5) (by omega) (by decide)
        rw [e5]
        refine ⟨fun y => ?_, fun y => ?_⟩
        · obtain ⟨P1, p1, p2⟩ := stepR x.2.1 w lv4 hT e2'
          refine ⟨P1, p1, fun im5 lv5 h => ?_⟩
          obtain ⟨⟨k1, k2⟩, rfl⟩ := p2 im5 lv5 h
          refine cont (nx m a2) (nv m a, nv m s1.1) im5 (by omega) (w2.trans (Fr.mono k1 (fun r i k z => Or.inl z))) k2 ?_ ?_
          · rw [g3, hlg, if_pos ⟨rfl, z⟩, if_neg (by omega), List.append_assoc]
            rfl
          · have r51 : im5 51 = (zwr im3 52 0 (B + n) v3) 51 := Fr.row k1 (fun i k z => absurd z.1 (by decide))
            have r52 : im5 52 = (zwr im3 52 0 (B + n) v3) 52 := Fr.row k1 (fun i k z => absurd z.1 (by decide))
            unfold lgR
            rw [r51, r52]
            exact hval
        · refine ⟨_, C_X12_bad _ _ _ e2' (k := 3) (by decide) (by decide) rfl, ?_⟩
          rintro im6 lv6 ⟨⟨k1, k2⟩, rfl⟩
          have hk2 : RS m im6 (a2, 3) := k2
          refine stop1 im6 _ a2 (w2.trans (Fr.mono k1 (fun r i k z => Or.inl z))) hk2 ?_
          rw [g3, hlg, if_pos ⟨rfl, z⟩, if_pos (by omega)]
  have key : ∀ k n a (im1 : zMem) (pf : List (Nat × Nat)), n + (k + 1) = 5 → pf.length = n → Fr (Swy B) im im1 → RS m im1 (a, 0) → Q = ((lgS m (k + 1) a).1, pf ++ (lgS m (k + 1) a).2) → lgR im im1 B pf → zW x w 4 [(0, vR 43 0), (1, vI (nI wy)), (2, vI (nI n)), (3, vI 1)] [] im1 lv := by
    intro k
    induction k with
    | zero =>
      intro n a im1 pf hn hpf g1 g2 g3 g4
      exact body 0 n a im1 pf hn hpf g1 g2 g3 g4 (fun _ _ _ z => absurd rfl z)
    | succ k ih =>
      intro n a im1 pf hn hpf g1 g2 g3 g4
      exact body (k + 1) n a im1 pf hn hpf g1 g2 g3 g4 (fun a' v im2 _ c1 c2 c3 c4 => ih (n + 1) a' im2 (pf ++ [v]) (by omega) (by rw [List.length_append, hpf]; rfl) c1 c2 c3 c4)
  have := key 4 0 a0 im [] rfl rfl Fr.refl hS (by rw [← hQ]; rfl) ⟨fun j hj => absurd hj (Nat.not_lt_zero _), fun _ _ _ => rfl⟩
  exact this
def Ssm (ns : Nat) : Nat → Nat → Nat → Prop := fun r _ k => (r = 43 ∧ ((20 ≤ k ∧ k ≤ 25) ∨ k = 27)) ∨ (r = 49 ∧ 5 * ns ≤ k ∧ k < 5 * ns + 5)
def smR (im : zMem) (k : Nat) (d : Nat × Nat × Nat × Nat × Nat) : Prop := im 49 0 (5 * k) = nI d.1 ∧ im 49 0 (5 * k + 1) = nI d.2.1 ∧ im 49 0 (5 * k + 2) = nI d.2.2.1 ∧ im 49 0 (5 * k + 3) = nI d.2.2.2.1 ∧ im 49 0 (5 * k + 4) = nI d.2.2.2.2
theorem zck {im im' : zMem} (h : f43 20 25 im im') {r i k : Nat} (hr : ¬ r = 43) : im' r i k = im r i k := h r i k (fun z => hr z.1)
theorem C_X12_readStorm (l : Launch) (w : zWd) {m im : zMem} (lv : Int64) (hT : WT m) {a ns : Nat} (hS : RS m im (a, 0)) (hns : ns < 20) (h27 : im 43 0 27 = nI ns) : zSpecV l w 6 zyX12_readStorm [vR 43 0] im lv (fun im' lv' => (Fr (Ssm ns) im im' ∧ RS m im' (smS m a).1 ∧ im' 43 0 27 = nI (ns + 1) ∧ ((smS m a).1.2 = 0 → smR im' ns (smS m a).2)) ∧ lv' = lv) := by
  refine ze_V (by decide) (Nat.le_of_ble_eq_true rfl) (fun x hO hR hN => rX12_readStorm_0 hO hR hN ?_)
  have i0 : (5 : Int32) * nI ns = nI (5 * ns) := pk_mul 5 ns
  have i1 : nI (5 * ns) + 1 = nI (5 * ns + 1) := nI_add _ 1
  have i2 : nI (5 * ns) + 2 = nI (5 * ns + 2) := nI_add _ 2
  have i3 : nI (5 * ns) + 3 = nI (5 * ns + 3) := nI_add _ 3
  have i4 : nI (5 * ns) + 4 = nI (5 * ns + 4) := nI_add _ 4
  rw [h27, i0, i1, i2, i3, i4, nI_clamp (show 5 * ns < 2 ^ 31 by omega), nI_clamp (show 5 * ns + 1 < 2 ^ 31 by omega), nI_clamp (show 5 * ns + 2 < 2 ^ 31 by omega), nI_clamp (show 5 * ns + 3 < 2 ^ 31 by omega), nI_clamp (show 5 * ns + 4 < 2 ^ 31 by omega)]
  have mo : ∀ {A B : zMem}, f43 20 25 A B → Fr (Ssm ns) A B := fun h => Fr.mono h (fun r i k z => Or.inl ⟨z.1, Or.inl z.2⟩)
  refine ⟨_, C_X12_numberIn _ _ _ hT hS (lo := 1) (hi := 3) (fun _ => ⟨rfl, rfl, by decide, by decide⟩), ?_⟩
  rintro v1 im1 lv1 ⟨⟨a1, b1, c1⟩, rfl⟩
  have B1 := b1.wr (r := 49) (k := 5 * ns) (v := v1) (by decide) (by omega)
  have A1 : Fr (Ssm ns) im (zwr im1 49 0 (5 * ns) v1) := (mo a1).wr (Or.inr ⟨rfl, by omega, by omega⟩)
  refine ⟨vp_in_nI (by omega) (by decide), _, C_X12_numberIn _ _ _ hT B1 (lo := 0) (hi := 7) (fun _ => ⟨rfl, rfl, by decide, by decide⟩), ?_⟩
  rintro v2 im2 lv2 ⟨⟨a2, b2, c2⟩, rfl⟩
  have B2 := b2.wr (r := 49) (k := 5 * ns + 1) (v := v2) (by decide) (by omega)
  have A2 : Fr (Ssm ns) im (zwr im2 49 0 (5 * ns + 1) v2) := (A1.trans (mo a2)).wr (Or.inr ⟨rfl, by omega, by omega⟩)
  refine ⟨vp_in_nI (by omega) (by decide), _, C_X12_numberIn _ _ _ hT B2 (lo := 0) (hi := 47) (fun _ => ⟨rfl, rfl, by decide, by decide⟩), ?_⟩
  rintro v3 im3 lv3 ⟨⟨a3, b3, c3⟩, rfl⟩
  have B3 := b3.wr (r := 49) (k := 5 * ns + 2) (v := v3) (by decide) (by omega)
  have A3 : Fr (Ssm ns) im (zwr im3 49 0 (5 * ns + 2) v3) := (A2.trans (mo a3)).wr (Or.inr ⟨rfl, by omega, by omega⟩)
  have q1 : smS m a = (nmS m 0 99 (nmS m (nv m (nmS m 0 7 (nmS m 1 3 (a, 0))).1 + 1) 48 (nmS m 0 47 (nmS m 0 7 (nmS m 1 3 (a, 0))))), (nv m a, nv m (nmS m 1 3 (a, 0)).1, nv m (nmS m 0 7 (nmS m 1 3 (a, 0))).1, nv m (nmS m 0 47 (nmS m 0 7 (nmS m 1 3 (a, 0)))).1, nv m (nmS m (nv m (nmS m 0 7 (nmS m 1 3 (a, 0))).1 + 1) 48 (nmS m 0 47 (nmS m 0 7 (nmS m 1 3 (a, 0))))).1)) := rfl
  rw [q1]
  generalize hs1 : nmS m 1 3 (a, 0) = s1 at *
  generalize hs2 : nmS m 0 7 s1 = s2 at *
  generalize hs3 : nmS m 0 47 s2 = s3 at *
  rw [zwr_eq]
  have hlo : s3.2 = 0 → v3 + 1 = nI (nv m s2.1 + 1) ∧ (48 : Int32) = nI 48 ∧ nv m s2.1 + 1 < 1000 ∧ 48 < 1000 := by
    intro z
    have z' := z
    rw [← hs3] at z'
    obtain ⟨-, -, -, y, -⟩ := nmS_0 z'
    rw [c3 z, nI_1]
    exact ⟨rfl, rfl, by omega, by decide⟩
  refine ⟨vp_in_nI (by omega) (by decide), _, C_X12_numberIn _ _ _ hT B3 (lo := nv m s2.1 + 1) (hi := 48) hlo, ?_⟩
  rintro v4 im4 lv4 ⟨⟨a4, b4, c4⟩, rfl⟩
  have B4 := b4.wr (r := 49) (k := 5 * ns + 3) (v := v4) (by decide) (by omega)
  have A4 : Fr (Ssm ns) im (zwr im4 49 0 (5 * ns + 3) v4) := (A3.trans (mo a4)).wr (Or.inr ⟨rfl, by omega, by omega⟩)
  generalize hs4 : nmS m (nv m s2.1 + 1) 48 s3 = s4 at *
  refine ⟨vp_in_nI (by omega) (by decide), _, C_X12_numberIn _ _ _ hT B4 (lo := 0) (hi := 99) (fun _ => ⟨rfl, rfl, by decide, by decide⟩), ?_⟩
  rintro v5 im5 lv5 ⟨⟨a5, b5, c5⟩, rfl⟩
  generalize hs5 : nmS m 0 99 s4 = s5 at *
  have B5 := (b5.wr (r := 49) (k := 5 * ns + 4) (v := v5) (by decide) (by omega)).wr (r := 43) (k := 27) (v := im5 43 0 27 + 1) (by decide) (by omega)
  have A5 : Fr (Ssm ns) im (zwr im5 49 0 (5 * ns + 4) v5) := (A4.trans (mo a5)).wr (Or.inr ⟨rfl, by omega, by omega⟩)
  have e27 : im5 43 0 27 = nI ns := by
    have k1 := a1 43 0 27 (by omega)
    have k2 := a2 43 0 27 (by omega)
    have k3 := a3 43 0 27 (by omega)
    have k4 := a4 43 0 27 (by omega)
    have k5 := a5 43 0 27 (by omega)
    rw [zwr_r (by decide)] at k2 k3 k4 k5
    rw [k5, k4, k3, k2, k1, h27]
  refine ⟨vp_in_nI (by omega) (by decide), ⟨A5.wr (Or.inl ⟨rfl, Or.inr rfl⟩), B5, ?_, fun z => ?_⟩, rfl⟩
  · rw [zwr_eq, e27, nI_1]
  · have z5 : (nmS m 0 99 s4).2 = 0 := by rw [hs5]; exact z
    have z4 : (nmS m (nv m s2.1 + 1) 48 s3).2 = 0 := by rw [hs4]; exact (nmS_0 z5).1
    have z3 : (nmS m 0 47 s2).2 = 0 := by rw [hs3]; exact (nmS_0 z4).1
    have z2 : (nmS m 0 7 s1).2 = 0 := by rw [hs2]; exact (nmS_0 z3).1
    have z1 : (nmS m 1 3 (a, 0)).2 = 0 := by rw [hs1]; exact (nmS_0 z2).1
    rw [hs5] at z5
    rw [hs4] at z4
    rw [hs3] at z3
    rw [hs2] at z2
    rw [hs1] at z1
    unfold smR
    rw [zwr_r (by decide)]
    have k2 : ∀ k, im2 49 0 k = (zwr im1 49 0 (5 * ns) v1) 49 0 k := fun k => zck a2 (by decide)
    have k3 : ∀ k, im3 49 0 k = (zwr im2 49 0 (5 * ns + 1) v2) 49 0 k := fun k => zck a3 (by decide)
    have k4 : ∀ k, im4 49 0 k = (zwr im3 49 0 (5 * ns + 2) v3) 49 0 k := fun k => zck a4 (by decide)
    have k5 : ∀ k, im5 49 0 k = (zwr im4 49 0 (5 * ns + 3) v4) 49 0 k := fun k => zck a5 (by decide)
    refine ⟨?_, ?_, ?_, ?_, ?_⟩
    · rw [zwr_k (by omega), k5, zwr_k (by omega), k4, zwr_k (by omega), k3, zwr_k (by omega), k2, zwr_eq]; exact c1 z1
    · rw [zwr_k (by omega), k5, zwr_k (by omega), k4, zwr_k (by omega), k3, zwr_eq]; exact c2 z2
    · rw [zwr_k (by omega), k5, zwr_k (by omega), k4, zwr_eq]; exact c3 z3
    · rw [zwr_k (by omega), k5, zwr_eq]; exact c4 z4
    · rw [zwr_eq]; exact c5 z5
