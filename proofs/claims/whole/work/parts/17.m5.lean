theorem zrg {x : Int32} {N : Nat} (hN : N < 2 ^ 30) : (0 ≤ x ∧ x ≤ nI N - 1) ↔ (0 ≤ x ∧ x < nI N) := by
  have h1 := pk_sub_toInt (a := N) (b := 1) hN (by decide)
  have e : (nI N - 1).toInt = (N : Int) - 1 := h1
  rw [Int32.le_iff_toInt_le, Int32.le_iff_toInt_le, Int32.lt_iff_toInt_lt, e, nI_toInt (by omega)]
  omega
theorem zrl {x : Int32} {k : Nat} (hk : k < 2 ^ 30) : (0 ≤ x ∧ x ≤ nI k) ↔ (0 ≤ x ∧ x < nI (k + 1)) := by
  rw [Int32.le_iff_toInt_le, Int32.le_iff_toInt_le, Int32.lt_iff_toInt_lt, nI_toInt (by omega), nI_toInt (by omega)]
  omega
theorem zrx {x : Int32} {N : Nat} (hN : N < 2 ^ 31) (h : 0 ≤ x ∧ x < nI N) : ∃ f, f < N ∧ x = nI f := by
  obtain ⟨j, hj, rfl⟩ := nI_of (x := x) (by rw [Int32.lt_iff_toInt_lt]; have := h.1; rw [Int32.le_iff_toInt_le] at this; omega)
  exact ⟨j, (nI_ltI hj hN).mp h.2, rfl⟩
theorem zin0 {f N : Nat} (hN : N < 2 ^ 31) (h : f < N) : 0 ≤ nI f ∧ nI f < nI N := ⟨nI_pos' (by omega), nI_lt h hN⟩
theorem RM.fr {m im im' : zMem} (h : RM m im) (hf : ∀ r, 43 ≤ r → r ≤ 54 → im' r = im r) : RM m im' := by
  obtain ⟨a, b, c, d⟩ := h
  exact ⟨fun r h1 h2 => (hf r (by omega) (by omega)).trans (a r h1 h2), by rw [hf 43 (by decide) (by decide)]; exact b, by rw [hf 43 (by decide) (by decide)]; exact c, by rw [hf 43 (by decide) (by decide)]; exact d⟩
theorem cNn {n : Nat} (h : n < 2 ^ 31) : cN (nI n) = n := nI_clamp h
def cost (m : zMem) (f : Nat) : Nat := rat m f * dly m f + 10 * way m f
theorem cost_le {m : zMem} (hW : WF m) {f : Nat} (hf : f < nfl m) : cost m f ≤ 416 := by
  obtain ⟨-, -, -, f3, f4, f5, f6, -⟩ := hW.2.1 f hf
  have : rat m f * dly m f ≤ 99 * 4 := Nat.mul_le_mul f3.2 f6.2
  unfold cost
  omega
def tld (m : zMem) (f k : Nat) : Nat := if k = 0 then own m f else if k = 1 then wgt m f else if k = 2 then sta m f else if k = 3 then rat m f else if k = 4 then wys m f else if k = 5 then way m f else if k = 6 then dly m f else cost m f
def aTold (m : zMem) (x y : Int32) : Int32 := if (0 ≤ x ∧ x < nI (nfl m)) ∧ (0 ≤ y ∧ y < nI 8) then nI (tld m (cN x) (cN y)) else -1000001
theorem rX12_told_0 {x : zX} {w : zWd} {im : zMem} {lv : Int64} {P : Int32 → zMem → Int64 → Prop} {x1 : Int32} {x2 : Int32} (hO : zOK x w zyX12_told 4) (hR : zRetI x w zyX12_told P) (hN : zN x 126 126)
 (h : ((¬ (0 ≤ x1 ∧ x1 ≤ ((im 43 0 10) - 1)) → P (-1000001) (zwr im 43 0 0 0) lv) ∧
 (0 ≤ x1 ∧ x1 ≤ ((im 43 0 10) - 1) → ((0 ≤ x2 ∧ x2 ≤ 7 → ((5 ≤ x2 → ((¬ (x2 = 5) → ((¬ (x2 = 6) → (vp_in x1 12 ∧ (vp_in ((5 * x1) + 3) 60 ∧ P (((im 50 0 (Int32.toNatClampNeg ((5 * x1) + 3))) * (im 54 0 (Int32.toNatClampNeg x1))) + (10 * (im 53 0 (Int32.toNatClampNeg x1)))) (zwr im 43 0 0 0) lv))) ∧
 (x2 = 6 → (vp_in x1 12 ∧ P (im 54 0 (Int32.toNatClampNeg x1)) (zwr im 43 0 0 0) lv)))) ∧
 (x2 = 5 → (vp_in x1 12 ∧ P (im 53 0 (Int32.toNatClampNeg x1)) (zwr im 43 0 0 0) lv)))) ∧
 (¬ (5 ≤ x2) → (vp_in ((5 * x1) + x2) 60 ∧ P (im 50 0 (Int32.toNatClampNeg ((5 * x1) + x2))) (zwr im 43 0 0 0) lv)))) ∧
 (¬ (0 ≤ x2 ∧ x2 ≤ 7) → P (-1000001) (zwr im 43 0 0 0) lv))))) :
 zW x w 0 [(0, vR 43 0), (1, vI x1), (2, vI x2)] [] im lv := by
  refine zi_aload_n hO dX12_told_0 0 rfl ?_
  refine zi_iconst (v := 0) hO dX12_told_1 (by decide) ?_
  refine zi_putI hO dX12_told_2 gX12_1 rfl rfl (zI (by decide)) ?_
  refine zi_aload_n hO dX12_told_5 0 rfl ?_
  refine zi_iload_n hO dX12_told_6 1 rfl ?_
  refine zc_VI (as := [vI x1]) hO hN dX12_told_7 kX12_233 (by decide) rfl (zI (by decide)) rfl rfl (Nat.le_of_ble_eq_true rfl) rfl rfl (C_X12_isFlight _ _ _ _) (fun v1 im1 lv1 hp1 => ?_)
  rw [hp1.1, hp1.2.1, hp1.2.2]
  refine zi_if_eq (tgt := 25) hO dX12_told_10 (by decide) (fun c1 => ?_) (fun c1 => ?_)
  · have h := h.1 (vB_0.mp c1)
    refine zi_ldc (v := (-1000001)) hO dX12_told_25 nX12_23 ?_
    exact zr_I hO hR rfl dX12_told_27 h
  · have h := h.2 (vB_1.mp (vB_01.resolve_left c1))
    refine zi_iload_n hO dX12_told_13 2 rfl ?_
    refine zi_i2l hO dX12_told_14 ?_
    refine zi_lconst (v := 0) hO dX12_told_15 (by decide) ?_
    refine zi_ldc2 (v := 7) hO dX12_told_16 nX12_11 ?_
    refine zc_SI (as := [vL (Int32.toInt64 x2), vL (0 : Int64), vL (7 : Int64)]) hO hN dX12_told_19 kX12_13 (by decide) rfl (Nat.le_of_ble_eq_true rfl) rfl rfl (C_X12_in _ _ _ _ (a := x2) (b := 0) (c := 7) rfl (by decide) (by decide)) (fun v2 im2 lv2 hp2 => ?_)
    rw [hp2.1, hp2.2.1, hp2.2.2]
    refine zi_if_ne (tgt := 28) hO dX12_told_22 (by decide) (fun c2 => ?_) (fun c2 => ?_)
    · have h := h.1 (vB_1.mp (vB_01.resolve_left c2))
      refine zi_iload_n hO dX12_told_28 2 rfl ?_
      refine zi_iconst (v := 5) hO dX12_told_29 (by decide) ?_
      refine zi_icmp_ge (tgt := 46) hO dX12_told_30 (by decide) (fun c3 => ?_) (fun c3 => ?_)
      · have h := h.1 c3
        refine zi_iload_n hO dX12_told_46 2 rfl ?_
        refine zi_iconst (v := 5) hO dX12_told_47 (by decide) ?_
        refine zi_icmp_ne (tgt := 60) hO dX12_told_48 (by decide) (fun c4 => ?_) (fun c4 => ?_)
        · have h := h.1 c4
          refine zi_iload_n hO dX12_told_60 2 rfl ?_
          refine zi_bipush (v := 6) hO dX12_told_61 (by decide) ?_
          refine zi_icmp_ne (tgt := 75) hO dX12_told_63 (by decide) (fun c5 => ?_) (fun c5 => ?_)
          · have h := h.1 c5
            refine zi_aload_n hO dX12_told_75 0 rfl ?_
            refine zi_iload_n hO dX12_told_76 1 rfl ?_
            obtain ⟨s4, h⟩ := h
            obtain ⟨s5, h⟩ := h
            refine zc_VI (as := [vI x1]) hO hN dX12_told_77 kX12_236 (by decide) rfl (zI (by decide)) rfl rfl (Nat.le_of_ble_eq_true rfl) rfl rfl (C_X12_costOf _ _ _ _ s4 s5) (fun v3 im3 lv3 hp3 => ?_)
            rw [hp3.1, hp3.2.1, hp3.2.2]
            exact zr_I hO hR rfl dX12_told_80 h
          · have h := h.2 c5
            refine zi_aload_n hO dX12_told_66 0 rfl ?_
            refine zi_getR (r' := 54) (i' := 0) hO dX12_told_67 fX12_68 rfl rfl (zI (by decide)) rfl ?_
            refine zi_iload_n hO dX12_told_70 1 rfl ?_
            obtain ⟨s6, h⟩ := h
            refine zi_iald hO dX12_told_71 rfl (zI (by decide)) s6 ?_
            refine zi_goto (tgt := 80) hO dX12_told_72 (by decide) ?_
            exact zr_I hO hR rfl dX12_told_80 h
        · have h := h.2 c4
          refine zi_aload_n hO dX12_told_51 0 rfl ?_
          refine zi_getR (r' := 53) (i' := 0) hO dX12_told_52 fX12_65 rfl rfl (zI (by decide)) rfl ?_
          refine zi_iload_n hO dX12_told_55 1 rfl ?_
          obtain ⟨s7, h⟩ := h
          refine zi_iald hO dX12_told_56 rfl (zI (by decide)) s7 ?_
          refine zi_goto (tgt := 80) hO dX12_told_57 (by decide) ?_
          exact zr_I hO hR rfl dX12_told_80 h
      · have h := h.2 c3
        refine zi_aload_n hO dX12_told_33 0 rfl ?_
        refine zi_getR (r' := 50) (i' := 0) hO dX12_told_34 fX12_56 rfl rfl (zI (by decide)) rfl ?_
        refine zi_iconst (v := 5) hO dX12_told_37 (by decide) ?_
        refine zi_iload_n hO dX12_told_38 1 rfl ?_
        refine zi_imul hO dX12_told_39 ?_
        refine zi_iload_n hO dX12_told_40 2 rfl ?_
        refine zi_iadd hO dX12_told_41 ?_
        obtain ⟨s8, h⟩ := h
        refine zi_iald hO dX12_told_42 rfl (zI (by decide)) s8 ?_
        refine zi_goto (tgt := 80) hO dX12_told_43 (by decide) ?_
        exact zr_I hO hR rfl dX12_told_80 h
    · have h := h.2 (vB_0.mp c2)
      refine zi_ldc (v := (-1000001)) hO dX12_told_25 nX12_23 ?_
      exact zr_I hO hR rfl dX12_told_27 h
theorem rX12_leg_0 {x : zX} {w : zWd} {im : zMem} {lv : Int64} {P : Int32 → zMem → Int64 → Prop} {x1 : Int32} {x2 : Int32} {x3 : Int32} {x4 : Int32} (hO : zOK x w zyX12_leg 4) (hR : zRetI x w zyX12_leg P) (hN : zN x 126 126)
 (h : ((¬ (0 ≤ x1 ∧ x1 ≤ ((im 43 0 10) - 1)) → P (-1000001) (zwr im 43 0 0 0) lv) ∧
 (0 ≤ x1 ∧ x1 ≤ ((im 43 0 10) - 1) → (vp_in ((5 * x1) + 4) 60 ∧ ((¬ (0 ≤ x2 ∧ x2 ≤ ((im 50 0 (Int32.toNatClampNeg ((5 * x1) + 4))) - 1)) → P (-1000001) (zwr im 43 0 0 0) lv) ∧
 (0 ≤ x2 ∧ x2 ≤ ((im 50 0 (Int32.toNatClampNeg ((5 * x1) + 4))) - 1) → ((0 ≤ x4 ∧ x4 ≤ 1 → ((¬ (0 ≤ x3 ∧ x3 ≤ 4) → P (-1000000) (zwr im 43 0 0 0) lv) ∧
 (0 ≤ x3 ∧ x3 ≤ 4 → (vp_in (((15 * x1) + (5 * x2)) + x3) 180 ∧ ((¬ ((im 52 0 (Int32.toNatClampNeg (((15 * x1) + (5 * x2)) + x3))) = 0) → ((¬ (x4 = 0) → P (im 52 0 (Int32.toNatClampNeg (((15 * x1) + (5 * x2)) + x3))) (zwr im 43 0 0 0) lv) ∧
 (x4 = 0 → P (im 51 0 (Int32.toNatClampNeg (((15 * x1) + (5 * x2)) + x3))) (zwr im 43 0 0 0) lv))) ∧
 ((im 52 0 (Int32.toNatClampNeg (((15 * x1) + (5 * x2)) + x3))) = 0 → P (-1000000) (zwr im 43 0 0 0) lv)))))) ∧
 (¬ (0 ≤ x4 ∧ x4 ≤ 1) → P (-1000001) (zwr im 43 0 0 0) lv)))))))) :
 zW x w 0 [(0, vR 43 0), (1, vI x1), (2, vI x2), (3, vI x3), (4, vI x4)] [] im lv := by
  refine zi_aload_n hO dX12_leg_0 0 rfl ?_
  refine zi_iconst (v := 0) hO dX12_leg_1 (by decide) ?_
  refine zi_putI hO dX12_leg_2 gX12_1 rfl rfl (zI (by decide)) ?_
  refine zi_aload_n hO dX12_leg_5 0 rfl ?_
  refine zi_iload_n hO dX12_leg_6 1 rfl ?_
  refine zc_VI (as := [vI x1]) hO hN dX12_leg_7 kX12_233 (by decide) rfl (zI (by decide)) rfl rfl (Nat.le_of_ble_eq_true rfl) rfl rfl (C_X12_isFlight _ _ _ _) (fun v1 im1 lv1 hp1 => ?_)
  rw [hp1.1, hp1.2.1, hp1.2.2]
  refine zi_if_eq (tgt := 46) hO dX12_leg_10 (by decide) (fun c1 => ?_) (fun c1 => ?_)
  · have h := h.1 (vB_0.mp c1)
    refine zi_ldc (v := (-1000001)) hO dX12_leg_46 nX12_23 ?_
    exact zr_I hO hR rfl dX12_leg_48 h
  · have h := h.2 (vB_1.mp (vB_01.resolve_left c1))
    refine zi_iload_n hO dX12_leg_13 2 rfl ?_
    refine zi_i2l hO dX12_leg_14 ?_
    refine zi_lconst (v := 0) hO dX12_leg_15 (by decide) ?_
    refine zi_aload_n hO dX12_leg_16 0 rfl ?_
    refine zi_getR (r' := 50) (i' := 0) hO dX12_leg_17 fX12_56 rfl rfl (zI (by decide)) rfl ?_
    refine zi_iconst (v := 5) hO dX12_leg_20 (by decide) ?_
    refine zi_iload_n hO dX12_leg_21 1 rfl ?_
    refine zi_imul hO dX12_leg_22 ?_
    refine zi_iconst (v := 4) hO dX12_leg_23 (by decide) ?_
    refine zi_iadd hO dX12_leg_24 ?_
    obtain ⟨s2, h⟩ := h
    refine zi_iald hO dX12_leg_25 rfl (zI (by decide)) s2 ?_
    refine zi_iconst (v := 1) hO dX12_leg_26 (by decide) ?_
    refine zi_isub hO dX12_leg_27 ?_
    refine zi_i2l hO dX12_leg_28 ?_
    refine zc_SI (as := [vL (Int32.toInt64 x2), vL (0 : Int64), vL (Int32.toInt64 ((im 50 0 (Int32.toNatClampNeg ((5 * x1) + 4))) - 1))]) hO hN dX12_leg_29 kX12_13 (by decide) rfl (Nat.le_of_ble_eq_true rfl) rfl rfl (C_X12_in _ _ _ _ (a := x2) (b := 0) (c := ((im 50 0 (Int32.toNatClampNeg ((5 * x1) + 4))) - 1)) rfl (by decide) rfl) (fun v3 im3 lv3 hp3 => ?_)
    rw [hp3.1, hp3.2.1, hp3.2.2]
    refine zi_if_eq (tgt := 46) hO dX12_leg_32 (by decide) (fun c2 => ?_) (fun c2 => ?_)
    · have h := h.1 (vB_0.mp c2)
      refine zi_ldc (v := (-1000001)) hO dX12_leg_46 nX12_23 ?_
      exact zr_I hO hR rfl dX12_leg_48 h
    · have h := h.2 (vB_1.mp (vB_01.resolve_left c2))
      refine zi_iload hO dX12_leg_35 4 rfl ?_
      refine zi_i2l hO dX12_leg_37 ?_
      refine zi_lconst (v := 0) hO dX12_leg_38 (by decide) ?_
      refine zi_lconst (v := 1) hO dX12_leg_39 (by decide) ?_
      refine zc_SI (as := [vL (Int32.toInt64 x4), vL (0 : Int64), vL (1 : Int64)]) hO hN dX12_leg_40 kX12_13 (by decide) rfl (Nat.le_of_ble_eq_true rfl) rfl rfl (C_X12_in _ _ _ _ (a := x4) (b := 0) (c := 1) rfl (by decide) (by decide)) (fun v4 im4 lv4 hp4 => ?_)
      rw [hp4.1, hp4.2.1, hp4.2.2]
      refine zi_if_ne (tgt := 49) hO dX12_leg_43 (by decide) (fun c3 => ?_) (fun c3 => ?_)
      · have h := h.1 (vB_1.mp (vB_01.resolve_left c3))
        refine zi_iload_n hO dX12_leg_49 3 rfl ?_
        refine zi_i2l hO dX12_leg_50 ?_
        refine zi_lconst (v := 0) hO dX12_leg_51 (by decide) ?_
        refine zi_ldc2 (v := 4) hO dX12_leg_52 nX12_239 ?_
        refine zc_SI (as := [vL (Int32.toInt64 x3), vL (0 : Int64), vL (4 : Int64)]) hO hN dX12_leg_55 kX12_13 (by decide) rfl (Nat.le_of_ble_eq_true rfl) rfl rfl (C_X12_in _ _ _ _ (a := x3) (b := 0) (c := 4) rfl (by decide) (by decide)) (fun v5 im5 lv5 hp5 => ?_)
        rw [hp5.1, hp5.2.1, hp5.2.2]
        refine zi_if_eq (tgt := 79) hO dX12_leg_58 (by decide) (fun c4 => ?_) (fun c4 => ?_)
        · have h := h.1 (vB_0.mp c4)
          refine zi_ldc (v := (-1000000)) hO dX12_leg_79 nX12_131 ?_
          exact zr_I hO hR rfl dX12_leg_81 h
        · have h := h.2 (vB_1.mp (vB_01.resolve_left c4))
          refine zi_aload_n hO dX12_leg_61 0 rfl ?_
          refine zi_getR (r' := 52) (i' := 0) hO dX12_leg_62 fX12_62 rfl rfl (zI (by decide)) rfl ?_
          refine zi_bipush (v := 15) hO dX12_leg_65 (by decide) ?_
          refine zi_iload_n hO dX12_leg_67 1 rfl ?_
          refine zi_imul hO dX12_leg_68 ?_
          refine zi_iconst (v := 5) hO dX12_leg_69 (by decide) ?_
          refine zi_iload_n hO dX12_leg_70 2 rfl ?_
          refine zi_imul hO dX12_leg_71 ?_
          refine zi_iadd hO dX12_leg_72 ?_
          refine zi_iload_n hO dX12_leg_73 3 rfl ?_
          refine zi_iadd hO dX12_leg_74 ?_
          obtain ⟨s6, h⟩ := h
          refine zi_iald hO dX12_leg_75 rfl (zI (by decide)) s6 ?_
          refine zi_if_ne (tgt := 82) hO dX12_leg_76 (by decide) (fun c5 => ?_) (fun c5 => ?_)
          · have h := h.1 c5
            refine zi_iload hO dX12_leg_82 4 rfl ?_
            refine zi_if_ne (tgt := 105) hO dX12_leg_84 (by decide) (fun c6 => ?_) (fun c6 => ?_)
            · have h := h.1 c6
              refine zi_aload_n hO dX12_leg_105 0 rfl ?_
              refine zi_getR (r' := 52) (i' := 0) hO dX12_leg_106 fX12_62 rfl rfl (zI (by decide)) rfl ?_
              refine zi_bipush (v := 15) hO dX12_leg_109 (by decide) ?_
              refine zi_iload_n hO dX12_leg_111 1 rfl ?_
              refine zi_imul hO dX12_leg_112 ?_
              refine zi_iconst (v := 5) hO dX12_leg_113 (by decide) ?_
              refine zi_iload_n hO dX12_leg_114 2 rfl ?_
              refine zi_imul hO dX12_leg_115 ?_
              refine zi_iadd hO dX12_leg_116 ?_
              refine zi_iload_n hO dX12_leg_117 3 rfl ?_
              refine zi_iadd hO dX12_leg_118 ?_
              refine zi_iald hO dX12_leg_119 rfl (zI (by decide)) s6 ?_
              exact zr_I hO hR rfl dX12_leg_120 h
            · have h := h.2 c6
              refine zi_aload_n hO dX12_leg_87 0 rfl ?_
              refine zi_getR (r' := 51) (i' := 0) hO dX12_leg_88 fX12_59 rfl rfl (zI (by decide)) rfl ?_
              refine zi_bipush (v := 15) hO dX12_leg_91 (by decide) ?_
              refine zi_iload_n hO dX12_leg_93 1 rfl ?_
              refine zi_imul hO dX12_leg_94 ?_
              refine zi_iconst (v := 5) hO dX12_leg_95 (by decide) ?_
              refine zi_iload_n hO dX12_leg_96 2 rfl ?_
              refine zi_imul hO dX12_leg_97 ?_
              refine zi_iadd hO dX12_leg_98 ?_
              refine zi_iload_n hO dX12_leg_99 3 rfl ?_
              refine zi_iadd hO dX12_leg_100 ?_
              refine zi_iald hO dX12_leg_101 rfl (zI (by decide)) s6 ?_
              refine zi_goto (tgt := 120) hO dX12_leg_102 (by decide) ?_
              exact zr_I hO hR rfl dX12_leg_120 h
          · have h := h.2 c5
            refine zi_ldc (v := (-1000000)) hO dX12_leg_79 nX12_131 ?_
            exact zr_I hO hR rfl dX12_leg_81 h
      · have h := h.2 (vB_0.mp c3)
        refine zi_ldc (v := (-1000001)) hO dX12_leg_46 nX12_23 ?_
        exact zr_I hO hR rfl dX12_leg_48 h
theorem rX12_at_0 {x : zX} {w : zWd} {im : zMem} {lv : Int64} {P : Int32 → zMem → Int64 → Prop} {x1 : Int32} {x2 : Int32} (hO : zOK x w zyX12_at 4) (hR : zRetI x w zyX12_at P) (hN : zN x 126 126)
 (h : ((¬ (0 ≤ x1 ∧ x1 ≤ ((im 43 0 10) - 1)) → P (-1000001) (zwr im 43 0 0 0) lv) ∧
 (0 ≤ x1 ∧ x1 ≤ ((im 43 0 10) - 1) → ((0 ≤ x2 ∧ x2 ≤ 47 → (vp_in x1 12 ∧ (∃ P4 : Int32 → zMem → Int64 → Prop, zSpecI x.2.1 w 2 zyX12_roomBy [vR 43 0, vI x1, vI (im 53 0 (Int32.toNatClampNeg x1)), vI (im 54 0 (Int32.toNatClampNeg x1)), vI x2] (zwr im 43 0 0 0) lv P4 ∧ ∀ (v4 : Int32) (im4 : zMem) (lv4 : Int64), P4 v4 im4 lv4 → P v4 im4 lv4))) ∧
 (¬ (0 ≤ x2 ∧ x2 ≤ 47) → P (-1000001) (zwr im 43 0 0 0) lv))))) :
 zW x w 0 [(0, vR 43 0), (1, vI x1), (2, vI x2)] [] im lv := by
  refine zi_aload_n hO dX12_at_0 0 rfl ?_
  refine zi_iconst (v := 0) hO dX12_at_1 (by decide) ?_
  refine zi_putI hO dX12_at_2 gX12_1 rfl rfl (zI (by decide)) ?_
  refine zi_aload_n hO dX12_at_5 0 rfl ?_
  refine zi_iload_n hO dX12_at_6 1 rfl ?_
  refine zc_VI (as := [vI x1]) hO hN dX12_at_7 kX12_233 (by decide) rfl (zI (by decide)) rfl rfl (Nat.le_of_ble_eq_true rfl) rfl rfl (C_X12_isFlight _ _ _ _) (fun v1 im1 lv1 hp1 => ?_)
  rw [hp1.1, hp1.2.1, hp1.2.2]
  refine zi_if_eq (tgt := 20) hO dX12_at_10 (by decide) (fun c1 => ?_) (fun c1 => ?_)
  · have h := h.1 (vB_0.mp c1)
    refine zi_ldc (v := (-1000001)) hO dX12_at_20 nX12_23 ?_
    refine zi_goto (tgt := 43) hO dX12_at_22 (by decide) ?_
    exact zr_I hO hR rfl dX12_at_43 h
  · have h := h.2 (vB_1.mp (vB_01.resolve_left c1))
    refine zi_iload_n hO dX12_at_13 2 rfl ?_
    refine zc_SI (as := [vI x2]) hO hN dX12_at_14 kX12_115 (by decide) rfl (Nat.le_of_ble_eq_true rfl) rfl rfl (C_X12_isSlot _ _ _ _) (fun v2 im2 lv2 hp2 => ?_)
    rw [hp2.1, hp2.2.1, hp2.2.2]
    refine zi_if_ne (tgt := 25) hO dX12_at_17 (by decide) (fun c2 => ?_) (fun c2 => ?_)
    · have h := h.1 (vB_1.mp (vB_01.resolve_left c2))
      refine zi_aload_n hO dX12_at_25 0 rfl ?_
      refine zi_iload_n hO dX12_at_26 1 rfl ?_
      refine zi_aload_n hO dX12_at_27 0 rfl ?_
      refine zi_getR (r' := 53) (i' := 0) hO dX12_at_28 fX12_65 rfl rfl (zI (by decide)) rfl ?_
      refine zi_iload_n hO dX12_at_31 1 rfl ?_
      obtain ⟨s3, h⟩ := h
      refine zi_iald hO dX12_at_32 rfl (zI (by decide)) s3 ?_
      refine zi_aload_n hO dX12_at_33 0 rfl ?_
      refine zi_getR (r' := 54) (i' := 0) hO dX12_at_34 fX12_68 rfl rfl (zI (by decide)) rfl ?_
      refine zi_iload_n hO dX12_at_37 1 rfl ?_
      refine zi_iald hO dX12_at_38 rfl (zI (by decide)) s3 ?_
      refine zi_iload_n hO dX12_at_39 2 rfl ?_
      obtain ⟨P4, hM4, h⟩ := h
      refine zc_VI (as := [vI x1, vI (im 53 0 (Int32.toNatClampNeg x1)), vI (im 54 0 (Int32.toNatClampNeg x1)), vI x2]) hO hN dX12_at_40 kX12_241 (by decide) rfl (zI (by decide)) rfl rfl (Nat.le_of_ble_eq_true rfl) rfl rfl hM4 (fun v4 im4 lv4 hp4 => ?_)
      replace h := h v4 im4 lv4 hp4
      exact zr_I hO hR rfl dX12_at_43 h
    · have h := h.2 (vB_0.mp c2)
      refine zi_ldc (v := (-1000001)) hO dX12_at_20 nX12_23 ?_
      refine zi_goto (tgt := 43) hO dX12_at_22 (by decide) ?_
      exact zr_I hO hR rfl dX12_at_43 h
theorem rX12_load_0 {x : zX} {w : zWd} {im : zMem} {lv : Int64} {P : Int32 → zMem → Int64 → Prop} {x1 : Int32} {x2 : Int32} {x3 : Int32} (hO : zOK x w zyX12_load 5) (hR : zRetI x w zyX12_load P) (hN : zN x 126 126)
 (h : ((¬ (0 ≤ x1 ∧ x1 ≤ 7) → P (-1000001) (zwr im 43 0 0 0) lv) ∧
 (0 ≤ x1 ∧ x1 ≤ 7 → ((¬ (0 ≤ x2 ∧ x2 ≤ 47) → P (-1000001) (zwr im 43 0 0 0) lv) ∧
 (0 ≤ x2 ∧ x2 ≤ 47 → ((0 ≤ x3 ∧ x3 ≤ 1 → ((¬ (x3 = 0) → (∃ P4 : Int32 → zMem → Int64 → Prop, zSpecI x.2.1 w 4 zyX12_overOf [vR 43 0, vI x1, vI x2] (zwr im 43 0 0 0) lv P4 ∧ ∀ (v4 : Int32) (im4 : zMem) (lv4 : Int64), P4 v4 im4 lv4 → P v4 im4 lv4)) ∧
 (x3 = 0 → (∃ P5 : Int32 → zMem → Int64 → Prop, zSpecI x.2.1 w 3 zyX12_loadOf [vR 43 0, vI x1, vI x2] (zwr im 43 0 0 0) lv P5 ∧ ∀ (v5 : Int32) (im5 : zMem) (lv5 : Int64), P5 v5 im5 lv5 → P v5 im5 lv5)))) ∧
 (¬ (0 ≤ x3 ∧ x3 ≤ 1) → P (-1000001) (zwr im 43 0 0 0) lv))))))) :
 zW x w 0 [(0, vR 43 0), (1, vI x1), (2, vI x2), (3, vI x3)] [] im lv := by
  refine zi_aload_n hO dX12_load_0 0 rfl ?_
  refine zi_iconst (v := 0) hO dX12_load_1 (by decide) ?_
  refine zi_putI hO dX12_load_2 gX12_1 rfl rfl (zI (by decide)) ?_
  refine zi_iload_n hO dX12_load_5 1 rfl ?_
  refine zc_SI (as := [vI x1]) hO hN dX12_load_6 kX12_112 (by decide) rfl (Nat.le_of_ble_eq_true rfl) rfl rfl (C_X12_isRoom _ _ _ _) (fun v1 im1 lv1 hp1 => ?_)
  rw [hp1.1, hp1.2.1, hp1.2.2]
  refine zi_if_eq (tgt := 29) hO dX12_load_9 (by decide) (fun c1 => ?_) (fun c1 => ?_)
  · have h := h.1 (vB_0.mp c1)
    refine zi_ldc (v := (-1000001)) hO dX12_load_29 nX12_23 ?_
    refine zi_goto (tgt := 53) hO dX12_load_31 (by decide) ?_
    exact zr_I hO hR rfl dX12_load_53 h
  · have h := h.2 (vB_1.mp (vB_01.resolve_left c1))
    refine zi_iload_n hO dX12_load_12 2 rfl ?_
    refine zc_SI (as := [vI x2]) hO hN dX12_load_13 kX12_115 (by decide) rfl (Nat.le_of_ble_eq_true rfl) rfl rfl (C_X12_isSlot _ _ _ _) (fun v2 im2 lv2 hp2 => ?_)
    rw [hp2.1, hp2.2.1, hp2.2.2]
    refine zi_if_eq (tgt := 29) hO dX12_load_16 (by decide) (fun c2 => ?_) (fun c2 => ?_)
    · have h := h.1 (vB_0.mp c2)
      refine zi_ldc (v := (-1000001)) hO dX12_load_29 nX12_23 ?_
      refine zi_goto (tgt := 53) hO dX12_load_31 (by decide) ?_
      exact zr_I hO hR rfl dX12_load_53 h
    · have h := h.2 (vB_1.mp (vB_01.resolve_left c2))
      refine zi_iload_n hO dX12_load_19 3 rfl ?_
      refine zi_i2l hO dX12_load_20 ?_
      refine zi_lconst (v := 0) hO dX12_load_21 (by decide) ?_
      refine zi_lconst (v := 1) hO dX12_load_22 (by decide) ?_
      refine zc_SI (as := [vL (Int32.toInt64 x3), vL (0 : Int64), vL (1 : Int64)]) hO hN dX12_load_23 kX12_13 (by decide) rfl (Nat.le_of_ble_eq_true rfl) rfl rfl (C_X12_in _ _ _ _ (a := x3) (b := 0) (c := 1) rfl (by decide) (by decide)) (fun v3 im3 lv3 hp3 => ?_)
      rw [hp3.1, hp3.2.1, hp3.2.2]
      refine zi_if_ne (tgt := 34) hO dX12_load_26 (by decide) (fun c3 => ?_) (fun c3 => ?_)
      · have h := h.1 (vB_1.mp (vB_01.resolve_left c3))
        refine zi_iload_n hO dX12_load_34 3 rfl ?_
        refine zi_if_ne (tgt := 47) hO dX12_load_35 (by decide) (fun c4 => ?_) (fun c4 => ?_)
        · have h := h.1 c4
          refine zi_aload_n hO dX12_load_47 0 rfl ?_
          refine zi_iload_n hO dX12_load_48 1 rfl ?_
          refine zi_iload_n hO dX12_load_49 2 rfl ?_
          obtain ⟨P4, hM4, h⟩ := h
          refine zc_VI (as := [vI x1, vI x2]) hO hN dX12_load_50 kX12_247 (by decide) rfl (zI (by decide)) rfl rfl (Nat.le_of_ble_eq_true rfl) rfl rfl hM4 (fun v4 im4 lv4 hp4 => ?_)
          replace h := h v4 im4 lv4 hp4
          exact zr_I hO hR rfl dX12_load_53 h
        · have h := h.2 c4
          refine zi_aload_n hO dX12_load_38 0 rfl ?_
          refine zi_iload_n hO dX12_load_39 1 rfl ?_
          refine zi_iload_n hO dX12_load_40 2 rfl ?_
          obtain ⟨P5, hM5, h⟩ := h
          refine zc_VI (as := [vI x1, vI x2]) hO hN dX12_load_41 kX12_244 (by decide) rfl (zI (by decide)) rfl rfl (Nat.le_of_ble_eq_true rfl) rfl rfl hM5 (fun v5 im5 lv5 hp5 => ?_)
          replace h := h v5 im5 lv5 hp5
          refine zi_goto (tgt := 53) hO dX12_load_44 (by decide) ?_
          exact zr_I hO hR rfl dX12_load_53 h
      · have h := h.2 (vB_0.mp c3)
        refine zi_ldc (v := (-1000001)) hO dX12_load_29 nX12_23 ?_
        refine zi_goto (tgt := 53) hO dX12_load_31 (by decide) ?_
        exact zr_I hO hR rfl dX12_load_53 h
theorem rX12_known_0 {x : zX} {w : zWd} {im : zMem} {lv : Int64} {P : Int32 → zMem → Int64 → Prop} {x1 : Int32} {x2 : Int32} {x3 : Int32} (hO : zOK x w zyX12_known 4) (hR : zRetI x w zyX12_known P) (hN : zN x 126 126)
 (h : ((¬ (0 ≤ x1 ∧ x1 ≤ 7) → P (-1000001) (zwr im 43 0 0 0) lv) ∧
 (0 ≤ x1 ∧ x1 ≤ 7 → ((¬ (0 ≤ x2 ∧ x2 ≤ 47) → P (-1000001) (zwr im 43 0 0 0) lv) ∧
 (0 ≤ x2 ∧ x2 ≤ 47 → ((0 ≤ x3 → zW x w 32 [(0, vR 43 0), (1, vI x1), (2, vI x2), (3, vI x3), (4, vI 0), (5, vI 0)] [] (zwr im 43 0 0 0) lv) ∧
 (¬ (0 ≤ x3) → P (-1000001) (zwr im 43 0 0 0) lv))))))) :
 zW x w 0 [(0, vR 43 0), (1, vI x1), (2, vI x2), (3, vI x3)] [] im lv := by
  refine zi_aload_n hO dX12_known_0 0 rfl ?_
  refine zi_iconst (v := 0) hO dX12_known_1 (by decide) ?_
  refine zi_putI hO dX12_known_2 gX12_1 rfl rfl (zI (by decide)) ?_
  refine zi_iload_n hO dX12_known_5 1 rfl ?_
  refine zc_SI (as := [vI x1]) hO hN dX12_known_6 kX12_112 (by decide) rfl (Nat.le_of_ble_eq_true rfl) rfl rfl (C_X12_isRoom _ _ _ _) (fun v1 im1 lv1 hp1 => ?_)
  rw [hp1.1, hp1.2.1, hp1.2.2]
  refine zi_if_eq (tgt := 23) hO dX12_known_9 (by decide) (fun c1 => ?_) (fun c1 => ?_)
  · have h := h.1 (vB_0.mp c1)
    refine zi_ldc (v := (-1000001)) hO dX12_known_23 nX12_23 ?_
    exact zr_I hO hR rfl dX12_known_25 h
  · have h := h.2 (vB_1.mp (vB_01.resolve_left c1))
    refine zi_iload_n hO dX12_known_12 2 rfl ?_
    refine zc_SI (as := [vI x2]) hO hN dX12_known_13 kX12_115 (by decide) rfl (Nat.le_of_ble_eq_true rfl) rfl rfl (C_X12_isSlot _ _ _ _) (fun v2 im2 lv2 hp2 => ?_)
    rw [hp2.1, hp2.2.1, hp2.2.2]
    refine zi_if_eq (tgt := 23) hO dX12_known_16 (by decide) (fun c2 => ?_) (fun c2 => ?_)
    · have h := h.1 (vB_0.mp c2)
      refine zi_ldc (v := (-1000001)) hO dX12_known_23 nX12_23 ?_
      exact zr_I hO hR rfl dX12_known_25 h
    · have h := h.2 (vB_1.mp (vB_01.resolve_left c2))
      refine zi_iload_n hO dX12_known_19 3 rfl ?_
      refine zi_if_ge (tgt := 26) hO dX12_known_20 (by decide) (fun c3 => ?_) (fun c3 => ?_)
      · have h := h.1 c3
        refine zi_iconst (v := 0) hO dX12_known_26 (by decide) ?_
        refine zi_istore (L' := [(0, vR 43 0), (1, vI x1), (2, vI x2), (3, vI x3), (4, vI 0)]) hO dX12_known_27 (by decide) rfl rfl ?_
        refine zi_iconst (v := 0) hO dX12_known_29 (by decide) ?_
        refine zi_istore (L' := [(0, vR 43 0), (1, vI x1), (2, vI x2), (3, vI x3), (4, vI 0), (5, vI 0)]) hO dX12_known_30 (by decide) rfl rfl ?_
        exact h
      · have h := h.2 c3
        refine zi_ldc (v := (-1000001)) hO dX12_known_23 nX12_23 ?_
        exact zr_I hO hR rfl dX12_known_25 h
theorem rX12_known_32 {x : zX} {w : zWd} {im : zMem} {lv : Int64} {P : Int32 → zMem → Int64 → Prop} {x1 : Int32} {x2 : Int32} {x3 : Int32} {x4 : Int32} {x5 : Int32} (hO : zOK x w zyX12_known 4) (hR : zRetI x w zyX12_known P) (hN : zN x 126 126)
 (h : (((im 43 0 10) ≤ x5 → P x4 im lv) ∧
 (¬ ((im 43 0 10) ≤ x5) → ((x3 < x5 → P x4 im lv) ∧
 (¬ (x3 < x5) → (∃ P1 : Int32 → zMem → Int64 → Prop, zSpecI x.2.1 w 2 zyX12_roomBy [vR 43 0, vI x5, vI 0, vI 0, vI x2] im lv P1 ∧ ∀ (v1 : Int32) (im1 : zMem) (lv1 : Int64), P1 v1 im1 lv1 → ((¬ (v1 = x1) → zW x w 32 [(0, vR 43 0), (1, vI x1), (2, vI x2), (3, vI x3), (4, vI (x4 + 0)), (5, vI (x5 + 1))] [] im1 lv1) ∧
 (v1 = x1 → (vp_in ((5 * x5) + 1) 60 ∧ zW x w 32 [(0, vR 43 0), (1, vI x1), (2, vI x2), (3, vI x3), (4, vI (x4 + (im1 50 0 (Int32.toNatClampNeg ((5 * x5) + 1))))), (5, vI (x5 + 1))] [] im1 lv1))))))))) :
 zW x w 32 [(0, vR 43 0), (1, vI x1), (2, vI x2), (3, vI x3), (4, vI x4), (5, vI x5)] [] im lv := by
  refine zi_iload hO dX12_known_32 5 rfl ?_
  refine zi_aload_n hO dX12_known_34 0 rfl ?_
  refine zi_getI hO dX12_known_35 fX12_138 rfl rfl (zI (by decide)) ?_
  refine zi_icmp_ge (tgt := 86) hO dX12_known_38 (by decide) (fun c1 => ?_) (fun c1 => ?_)
  · have h := h.1 c1
    refine zi_iload hO dX12_known_86 4 rfl ?_
    exact zr_I hO hR rfl dX12_known_88 h
  · have h := h.2 c1
    refine zi_iload hO dX12_known_41 5 rfl ?_
    refine zi_iload_n hO dX12_known_43 3 rfl ?_
    refine zi_icmp_gt (tgt := 86) hO dX12_known_44 (by decide) (fun c2 => ?_) (fun c2 => ?_)
    · have h := h.1 c2
      refine zi_iload hO dX12_known_86 4 rfl ?_
      exact zr_I hO hR rfl dX12_known_88 h
    · have h := h.2 c2
      refine zi_iload hO dX12_known_47 4 rfl ?_
      refine zi_aload_n hO dX12_known_49 0 rfl ?_
      refine zi_iload hO dX12_known_50 5 rfl ?_
      refine zi_iconst (v := 0) hO dX12_known_52 (by decide) ?_
      refine zi_iconst (v := 0) hO dX12_known_53 (by decide) ?_
      refine zi_iload_n hO dX12_known_54 2 rfl ?_
      obtain ⟨P1, hM1, h⟩ := h
      refine zc_VI (as := [vI x5, vI 0, vI 0, vI x2]) hO hN dX12_known_55 kX12_241 (by decide) rfl (zI (by decide)) rfl rfl (Nat.le_of_ble_eq_true rfl) rfl rfl hM1 (fun v1 im1 lv1 hp1 => ?_)
      replace h := h v1 im1 lv1 hp1
      refine zi_iload_n hO dX12_known_58 1 rfl ?_
      refine zi_icmp_ne (tgt := 76) hO dX12_known_59 (by decide) (fun c3 => ?_) (fun c3 => ?_)
      · have h := h.1 c3
        refine zi_iconst (v := 0) hO dX12_known_76 (by decide) ?_
        refine zi_iadd hO dX12_known_77 ?_
        refine zi_istore (L' := [(0, vR 43 0), (1, vI x1), (2, vI x2), (3, vI x3), (4, vI (x4 + 0)), (5, vI x5)]) hO dX12_known_78 (by decide) rfl rfl ?_
        refine zi_iinc (v' := (x5 + 1)) (L' := [(0, vR 43 0), (1, vI x1), (2, vI x2), (3, vI x3), (4, vI (x4 + 0)), (5, vI (x5 + 1))]) hO dX12_known_80 5 rfl rfl (by decide) rfl rfl ?_
        refine zi_goto (tgt := 32) hO dX12_known_83 (by decide) ?_
        exact h
      · have h := h.2 c3
        refine zi_aload_n hO dX12_known_62 0 rfl ?_
        refine zi_getR (r' := 50) (i' := 0) hO dX12_known_63 fX12_56 rfl rfl (zI (by decide)) rfl ?_
        refine zi_iconst (v := 5) hO dX12_known_66 (by decide) ?_
        refine zi_iload hO dX12_known_67 5 rfl ?_
        refine zi_imul hO dX12_known_69 ?_
        refine zi_iconst (v := 1) hO dX12_known_70 (by decide) ?_
        refine zi_iadd hO dX12_known_71 ?_
        obtain ⟨s2, h⟩ := h
        refine zi_iald hO dX12_known_72 rfl (zI (by decide)) s2 ?_
        refine zi_goto (tgt := 77) hO dX12_known_73 (by decide) ?_
        refine zi_iadd hO dX12_known_77 ?_
        refine zi_istore (L' := [(0, vR 43 0), (1, vI x1), (2, vI x2), (3, vI x3), (4, vI (x4 + (im1 50 0 (Int32.toNatClampNeg ((5 * x5) + 1))))), (5, vI x5)]) hO dX12_known_78 (by decide) rfl rfl ?_
        refine zi_iinc (v' := (x5 + 1)) (L' := [(0, vR 43 0), (1, vI x1), (2, vI x2), (3, vI x3), (4, vI (x4 + (im1 50 0 (Int32.toNatClampNeg ((5 * x5) + 1))))), (5, vI (x5 + 1))]) hO dX12_known_80 5 rfl rfl (by decide) rfl rfl ?_
        refine zi_goto (tgt := 32) hO dX12_known_83 (by decide) ?_
        exact h
theorem rX12_look_0 {x : zX} {w : zWd} {im : zMem} {lv : Int64} {P : Int32 → zMem → Int64 → Prop} {x1 : Int32} (hO : zOK x w zyX12_look 3) (hR : zRetI x w zyX12_look P) (hN : zN x 126 126)
 (h : ((1 ≤ x1 ∧ x1 ≤ 15 → P (im 43 0 7) (zwr (zwr im 43 0 0 0) 43 0 7 x1) lv) ∧
 (¬ (1 ≤ x1 ∧ x1 ≤ 15) → P (-1000001) (zwr im 43 0 0 0) lv))) :
 zW x w 0 [(0, vR 43 0), (1, vI x1)] [] im lv := by
  refine zi_aload_n hO dX12_look_0 0 rfl ?_
  refine zi_iconst (v := 0) hO dX12_look_1 (by decide) ?_
  refine zi_putI hO dX12_look_2 gX12_1 rfl rfl (zI (by decide)) ?_
  refine zi_iload_n hO dX12_look_5 1 rfl ?_
  refine zi_i2l hO dX12_look_6 ?_
  refine zi_lconst (v := 1) hO dX12_look_7 (by decide) ?_
  refine zi_ldc2 (v := 15) hO dX12_look_8 nX12_122 ?_
  refine zc_SI (as := [vL (Int32.toInt64 x1), vL (1 : Int64), vL (15 : Int64)]) hO hN dX12_look_11 kX12_13 (by decide) rfl (Nat.le_of_ble_eq_true rfl) rfl rfl (C_X12_in _ _ _ _ (a := x1) (b := 1) (c := 15) rfl (by decide) (by decide)) (fun v1 im1 lv1 hp1 => ?_)
  rw [hp1.1, hp1.2.1, hp1.2.2]
  refine zi_if_ne (tgt := 20) hO dX12_look_14 (by decide) (fun c1 => ?_) (fun c1 => ?_)
  · have h := h.1 (vB_1.mp (vB_01.resolve_left c1))
    refine zi_aload_n hO dX12_look_20 0 rfl ?_
    refine zi_getI hO dX12_look_21 fX12_50 rfl rfl (zI (by decide)) ?_
    refine zi_istore_n (L' := [(0, vR 43 0), (1, vI x1), (2, vI (im 43 0 7))]) hO dX12_look_24 (by decide) rfl rfl ?_
    refine zi_aload_n hO dX12_look_25 0 rfl ?_
    refine zi_iload_n hO dX12_look_26 1 rfl ?_
    refine zi_putI hO dX12_look_27 gX12_50 rfl rfl (zI (by decide)) ?_
    refine zi_iload_n hO dX12_look_30 2 rfl ?_
    exact zr_I hO hR rfl dX12_look_31 h
  · have h := h.2 (vB_0.mp c1)
    refine zi_ldc (v := (-1000001)) hO dX12_look_17 nX12_23 ?_
    exact zr_I hO hR rfl dX12_look_19 h
theorem rX12_safe_0 {x : zX} {w : zWd} {im : zMem} {lv : Int64} {P : Int32 → zMem → Int64 → Prop} {x1 : Int32} {x2 : Int32} {x3 : Int32} (hO : zOK x w zyX12_safe 4) (hR : zRetI x w zyX12_safe P) (hN : zN x 126 126)
 (h : ((¬ (0 ≤ x1 ∧ x1 ≤ 7) → P (-1000001) (zwr im 43 0 0 0) lv) ∧
 (0 ≤ x1 ∧ x1 ≤ 7 → ((¬ (0 ≤ x2 ∧ x2 ≤ 47) → P (-1000001) (zwr im 43 0 0 0) lv) ∧
 (0 ≤ x2 ∧ x2 ≤ 47 → ((x3 = (-1000000) → (∃ P3 : Int32 → zMem → Int64 → Prop, zSpecI x.2.1 w 3 zyX12_safeOf [vR 43 0, vI x1, vI x2] (zwr im 43 0 0 0) lv P3 ∧ ∀ (v3 : Int32) (im3 : zMem) (lv3 : Int64), P3 v3 im3 lv3 → P v3 im3 lv3)) ∧
 (¬ (x3 = (-1000000)) → ((0 ≤ x3 ∧ x3 ≤ 3 → (∃ P5 : Int32 → zMem → Int64 → Prop, zSpecI x.2.1 w 2 zyX12_bearsIn [vR 43 0, vI x1, vI x2, vI x3] (zwr im 43 0 0 0) lv P5 ∧ ∀ (v5 : Int32) (im5 : zMem) (lv5 : Int64), P5 v5 im5 lv5 → P v5 im5 lv5)) ∧
 (¬ (0 ≤ x3 ∧ x3 ≤ 3) → P (-1000001) (zwr im 43 0 0 0) lv))))))))) :
 zW x w 0 [(0, vR 43 0), (1, vI x1), (2, vI x2), (3, vI x3)] [] im lv := by
  refine zi_aload_n hO dX12_safe_0 0 rfl ?_
  refine zi_iconst (v := 0) hO dX12_safe_1 (by decide) ?_
  refine zi_putI hO dX12_safe_2 gX12_1 rfl rfl (zI (by decide)) ?_
  refine zi_iload_n hO dX12_safe_5 1 rfl ?_
  refine zc_SI (as := [vI x1]) hO hN dX12_safe_6 kX12_112 (by decide) rfl (Nat.le_of_ble_eq_true rfl) rfl rfl (C_X12_isRoom _ _ _ _) (fun v1 im1 lv1 hp1 => ?_)
  rw [hp1.1, hp1.2.1, hp1.2.2]
  refine zi_if_eq (tgt := 37) hO dX12_safe_9 (by decide) (fun c1 => ?_) (fun c1 => ?_)
  · have h := h.1 (vB_0.mp c1)
    refine zi_ldc (v := (-1000001)) hO dX12_safe_37 nX12_23 ?_
    exact zr_I hO hR rfl dX12_safe_39 h
  · have h := h.2 (vB_1.mp (vB_01.resolve_left c1))
    refine zi_iload_n hO dX12_safe_12 2 rfl ?_
    refine zc_SI (as := [vI x2]) hO hN dX12_safe_13 kX12_115 (by decide) rfl (Nat.le_of_ble_eq_true rfl) rfl rfl (C_X12_isSlot _ _ _ _) (fun v2 im2 lv2 hp2 => ?_)
    rw [hp2.1, hp2.2.1, hp2.2.2]
    refine zi_if_eq (tgt := 37) hO dX12_safe_16 (by decide) (fun c2 => ?_) (fun c2 => ?_)
    · have h := h.1 (vB_0.mp c2)
      refine zi_ldc (v := (-1000001)) hO dX12_safe_37 nX12_23 ?_
      exact zr_I hO hR rfl dX12_safe_39 h
    · have h := h.2 (vB_1.mp (vB_01.resolve_left c2))
      refine zi_iload_n hO dX12_safe_19 3 rfl ?_
      refine zi_ldc (v := (-1000000)) hO dX12_safe_20 nX12_131 ?_
      refine zi_icmp_eq (tgt := 40) hO dX12_safe_22 (by decide) (fun c3 => ?_) (fun c3 => ?_)
      · have h := h.1 c3
        refine zi_iload_n hO dX12_safe_40 3 rfl ?_
        refine zi_ldc (v := (-1000000)) hO dX12_safe_41 nX12_131 ?_
        refine zi_icmp_ne (tgt := 55) hO dX12_safe_43 (by decide) (fun c4 => absurd c3 c4) (fun _ => ?_)
        refine zi_aload_n hO dX12_safe_46 0 rfl ?_
        refine zi_iload_n hO dX12_safe_47 1 rfl ?_
        refine zi_iload_n hO dX12_safe_48 2 rfl ?_
        obtain ⟨P3, hM3, h⟩ := h
        refine zc_VI (as := [vI x1, vI x2]) hO hN dX12_safe_49 kX12_134 (by decide) rfl (zI (by decide)) rfl rfl (Nat.le_of_ble_eq_true rfl) rfl rfl hM3 (fun v3 im3 lv3 hp3 => ?_)
        replace h := h v3 im3 lv3 hp3
        refine zi_goto (tgt := 62) hO dX12_safe_52 (by decide) ?_
        exact zr_I hO hR rfl dX12_safe_62 h
      · have h := h.2 c3
        refine zi_iload_n hO dX12_safe_25 3 rfl ?_
        refine zi_i2l hO dX12_safe_26 ?_
        refine zi_lconst (v := 0) hO dX12_safe_27 (by decide) ?_
        refine zi_ldc2 (v := 3) hO dX12_safe_28 nX12_132 ?_
        refine zc_SI (as := [vL (Int32.toInt64 x3), vL (0 : Int64), vL (3 : Int64)]) hO hN dX12_safe_31 kX12_13 (by decide) rfl (Nat.le_of_ble_eq_true rfl) rfl rfl (C_X12_in _ _ _ _ (a := x3) (b := 0) (c := 3) rfl (by decide) (by decide)) (fun v4 im4 lv4 hp4 => ?_)
        rw [hp4.1, hp4.2.1, hp4.2.2]
        refine zi_if_ne (tgt := 40) hO dX12_safe_34 (by decide) (fun c5 => ?_) (fun c5 => ?_)
        · have h := h.1 (vB_1.mp (vB_01.resolve_left c5))
          refine zi_iload_n hO dX12_safe_40 3 rfl ?_
          refine zi_ldc (v := (-1000000)) hO dX12_safe_41 nX12_131 ?_
          refine zi_icmp_ne (tgt := 55) hO dX12_safe_43 (by decide) (fun _ => ?_) (fun c6 => absurd c6 c3)
          refine zi_aload_n hO dX12_safe_55 0 rfl ?_
          refine zi_iload_n hO dX12_safe_56 1 rfl ?_
          refine zi_iload_n hO dX12_safe_57 2 rfl ?_
          refine zi_iload_n hO dX12_safe_58 3 rfl ?_
          obtain ⟨P5, hM5, h⟩ := h
          refine zc_VI (as := [vI x1, vI x2, vI x3]) hO hN dX12_safe_59 kX12_127 (by decide) rfl (zI (by decide)) rfl rfl (Nat.le_of_ble_eq_true rfl) rfl rfl hM5 (fun v5 im5 lv5 hp5 => ?_)
          replace h := h v5 im5 lv5 hp5
          exact zr_I hO hR rfl dX12_safe_62 h
        · have h := h.2 (vB_0.mp c5)
          refine zi_ldc (v := (-1000001)) hO dX12_safe_37 nX12_23 ?_
          exact zr_I hO hR rfl dX12_safe_39 h
theorem rX12_fault_0 {x : zX} {w : zWd} {im : zMem} {lv : Int64} {P : Int32 → zMem → Int64 → Prop} (hO : zOK x w zyX12_fault 2) (hR : zRetI x w zyX12_fault P) (hN : zN x 126 126)
 (h : P (im 43 0 18) (zwr im 43 0 0 0) lv) :
 zW x w 0 [(0, vR 43 0)] [] im lv := by
  refine zi_aload_n hO dX12_fault_0 0 rfl ?_
  refine zi_iconst (v := 0) hO dX12_fault_1 (by decide) ?_
  refine zi_putI hO dX12_fault_2 gX12_1 rfl rfl (zI (by decide)) ?_
  refine zi_aload_n hO dX12_fault_5 0 rfl ?_
  refine zi_getI hO dX12_fault_6 fX12_229 rfl rfl (zI (by decide)) ?_
  exact zr_I hO hR rfl dX12_fault_9 h
theorem rX12_status_0 {x : zX} {w : zWd} {im : zMem} {lv : Int64} {P : Int32 → zMem → Int64 → Prop} (hO : zOK x w zyX12_status 2) (hR : zRetI x w zyX12_status P) (hN : zN x 126 126)
 (h : P (im 43 0 1) (zwr im 43 0 0 0) lv) :
 zW x w 0 [(0, vR 43 0)] [] im lv := by
  refine zi_aload_n hO dX12_status_0 0 rfl ?_
  refine zi_iconst (v := 0) hO dX12_status_1 (by decide) ?_
  refine zi_putI hO dX12_status_2 gX12_1 rfl rfl (zI (by decide)) ?_
  refine zi_aload_n hO dX12_status_5 0 rfl ?_
  refine zi_getI hO dX12_status_6 fX12_7 rfl rfl (zI (by decide)) ?_
  exact zr_I hO hR rfl dX12_status_9 h
theorem rX12_trace_0 {x : zX} {w : zWd} {im : zMem} {lv : Int64} {P : Int32 → zMem → Int64 → Prop} {x1 : Int32} (hO : zOK x w zyX12_trace 3) (hR : zRetI x w zyX12_trace P) (hN : zN x 126 126)
 (h : ((¬ (0 ≤ x1 ∧ x1 ≤ ((im 43 0 41) - 1)) → P (-1000000) (zwr im 43 0 0 0) lv) ∧
 (0 ≤ x1 ∧ x1 ≤ ((im 43 0 41) - 1) → (vp_in x1 16 ∧ P (im 67 0 (Int32.toNatClampNeg x1)) (zwr im 43 0 0 0) lv)))) :
 zW x w 0 [(0, vR 43 0), (1, vI x1)] [] im lv := by
  refine zi_aload_n hO dX12_trace_0 0 rfl ?_
  refine zi_iconst (v := 0) hO dX12_trace_1 (by decide) ?_
  refine zi_putI hO dX12_trace_2 gX12_1 rfl rfl (zI (by decide)) ?_
  refine zi_iload_n hO dX12_trace_5 1 rfl ?_
  refine zi_i2l hO dX12_trace_6 ?_
  refine zi_lconst (v := 0) hO dX12_trace_7 (by decide) ?_
  refine zi_aload_n hO dX12_trace_8 0 rfl ?_
  refine zi_getI hO dX12_trace_9 fX12_301 rfl rfl (zI (by decide)) ?_
  refine zi_iconst (v := 1) hO dX12_trace_12 (by decide) ?_
  refine zi_isub hO dX12_trace_13 ?_
  refine zi_i2l hO dX12_trace_14 ?_
  refine zc_SI (as := [vL (Int32.toInt64 x1), vL (0 : Int64), vL (Int32.toInt64 ((im 43 0 41) - 1))]) hO hN dX12_trace_15 kX12_13 (by decide) rfl (Nat.le_of_ble_eq_true rfl) rfl rfl (C_X12_in _ _ _ _ (a := x1) (b := 0) (c := ((im 43 0 41) - 1)) rfl (by decide) rfl) (fun v1 im1 lv1 hp1 => ?_)
  rw [hp1.1, hp1.2.1, hp1.2.2]
  refine zi_if_eq (tgt := 30) hO dX12_trace_18 (by decide) (fun c1 => ?_) (fun c1 => ?_)
  · have h := h.1 (vB_0.mp c1)
    refine zi_ldc (v := (-1000000)) hO dX12_trace_30 nX12_131 ?_
    exact zr_I hO hR rfl dX12_trace_32 h
  · have h := h.2 (vB_1.mp (vB_01.resolve_left c1))
    refine zi_aload_n hO dX12_trace_21 0 rfl ?_
    refine zi_getR (r' := 67) (i' := 0) hO dX12_trace_22 fX12_107 rfl rfl (zI (by decide)) rfl ?_
    refine zi_iload_n hO dX12_trace_25 1 rfl ?_
    obtain ⟨s2, h⟩ := h
    refine zi_iald hO dX12_trace_26 rfl (zI (by decide)) s2 ?_
    refine zi_goto (tgt := 32) hO dX12_trace_27 (by decide) ?_
    exact zr_I hO hR rfl dX12_trace_32 h
theorem C_X12_told (l : Launch) (w : zWd) {m im : zMem} (lv : Int64) (hW : WF m) (hM : RM m im) (h0 : im 43 0 0 = 0) (x1 x2 : Int32) : zSpecI l w 4 zyX12_told [vR 43 0, vI x1, vI x2] im lv (fun v im' lv' => v = aTold m x1 x2 ∧ im' = im ∧ lv' = lv) := by
  refine ze_I (by decide) (Nat.le_of_ble_eq_true rfl) (fun x hO hR hN => rX12_told_0 hO hR hN ?_)
  rw [zwr_id h0]
  have e10 := hM.2.2.2
  have e50 := hM.1 50 (by decide) (by decide)
  have e53 := hM.1 53 (by decide) (by decide)
  have e54 := hM.1 54 (by decide) (by decide)
  have h12 := hW.1.2
  rw [e10, hW.1.1, zrg (by omega)]
  have q7 : (0 ≤ x2 ∧ x2 ≤ 7) ↔ (0 ≤ x2 ∧ x2 < nI 8) := zrl (by decide)
  rw [q7]
  unfold aTold
  refine ⟨fun q => ⟨(if_neg (fun z => q z.1)).symm, rfl, rfl⟩, fun q => ⟨fun q2 => ?_, fun q2 => ⟨(if_neg (fun z => q2 z.2)).symm, rfl, rfl⟩⟩⟩
  rw [if_pos ⟨q, q2⟩]
  obtain ⟨f, hf, rfl⟩ := zrx (by omega) q
  obtain ⟨k, hk, rfl⟩ := zrx (by decide) q2
  obtain ⟨f0, f1, f2, f3, f4, f5, f6, -⟩ := hW.2.1 f hf
  have v1 : vp_in (nI f) 12 := vp_in_nI (by omega) (by decide)
  have v2 : vp_in (nI (5 * f + 3)) 60 := vp_in_nI (by omega) (by decide)
  simp (disch := omega) only [zlit, nI_add, pk_mul, nI_clamp, nI_leI, nI_eq, e50, e53, e54, f3.1, f5.1, f6.1, and_true, tld]
  rcases (show k = 0 ∨ k = 1 ∨ k = 2 ∨ k = 3 ∨ k = 4 ∨ k = 5 ∨ k = 6 ∨ k = 7 by omega) with rfl | rfl | rfl | rfl | rfl | rfl | rfl | rfl
  · simp [f0.1, v1, v2]; exact vp_in_nI (by omega) (by decide)
  · simp [f1.1, v1, v2]; exact vp_in_nI (by omega) (by decide)
  · simp [f2.1, v1, v2]; exact vp_in_nI (by omega) (by decide)
  · simp [f3.1, v1, v2]
  · simp [f4.1, v1, v2]; exact vp_in_nI (by omega) (by decide)
  · simp [v1, v2]
  · simp [v1, v2]
  · simp [v1, v2, cost]
def aLeg (m : zMem) (x y i z : Int32) : Int32 := if (0 ≤ x ∧ x < nI (nfl m)) ∧ (0 ≤ y ∧ y < nI (wys m (cN x))) ∧ (0 ≤ z ∧ z < nI 2) then (if (0 ≤ i ∧ i < nI 5) ∧ 1 ≤ lsl m (cN x) (cN y) (cN i) then (if z = 0 then nI (lrm m (cN x) (cN y) (cN i)) else nI (lsl m (cN x) (cN y) (cN i))) else -1000000) else -1000001
theorem C_X12_leg (l : Launch) (w : zWd) {m im : zMem} (lv : Int64) (hW : WF m) (hM : RM m im) (h0 : im 43 0 0 = 0) (x1 x2 x3 x4 : Int32) : zSpecI l w 4 zyX12_leg [vR 43 0, vI x1, vI x2, vI x3, vI x4] im lv (fun v im' lv' => v = aLeg m x1 x2 x3 x4 ∧ im' = im ∧ lv' = lv) := by
  refine ze_I (by decide) (Nat.le_of_ble_eq_true rfl) (fun x hO hR hN => rX12_leg_0 hO hR hN ?_)
  rw [zwr_id h0]
  have e10 := hM.2.2.2
  have e50 := hM.1 50 (by decide) (by decide)
  have e51 := hM.1 51 (by decide) (by decide)
  have e52 := hM.1 52 (by decide) (by decide)
  have h12 := hW.1.2
  rw [e10, hW.1.1, zrg (by omega)]
  have q1 : (0 ≤ x4 ∧ x4 ≤ 1) ↔ (0 ≤ x4 ∧ x4 < nI 2) := zrl (by decide)
  have q4 : (0 ≤ x3 ∧ x3 ≤ 4) ↔ (0 ≤ x3 ∧ x3 < nI 5) := zrl (by decide)
  rw [q1, q4]
  refine ⟨fun q => ⟨(if_neg (fun z => q z.1)).symm, rfl, rfl⟩, fun q => ?_⟩
  obtain ⟨f, hf, rfl⟩ := zrx (by omega) q
  obtain ⟨f0, f1, f2, f3, f4, f5, f6, f7⟩ := hW.2.1 f hf
  have e4 : im 50 0 (Int32.toNatClampNeg (5 * nI f + 4)) = nI (wys m f) := by
    simp (disch := omega) only [zlit, nI_add, pk_mul, nI_clamp, e50, f4.1]
  have hcf : cN (nI f) = f := nI_clamp (by omega)
  rw [e4, zrg (by omega)]
  refine ⟨by simp (disch := omega) only [zlit, nI_add, pk_mul]; exact vp_in_nI (by omega) (by decide), fun q2 => ⟨(if_neg (fun z => q2 (by rw [hcf] at z; exact z.2.1))).symm, rfl, rfl⟩, fun q2 => ⟨fun q3 => ?_, fun q3 => ⟨(if_neg (fun z => q3 z.2.2)).symm, rfl, rfl⟩⟩⟩
  obtain ⟨y, hy, rfl⟩ := zrx (by omega) q2
  have hcy : cN (nI y) = y := nI_clamp (by omega)
  have hA : aLeg m (nI f) (nI y) x3 x4 = (if (0 ≤ x3 ∧ x3 < nI 5) ∧ 1 ≤ lsl m f y (cN x3) then (if x4 = 0 then nI (lrm m f y (cN x3)) else nI (lsl m f y (cN x3))) else -1000000) := by
    unfold aLeg
    rw [hcf, hcy, if_pos ⟨q, q2, q3⟩]
  refine ⟨fun q5 => ⟨by rw [hA, if_neg (fun z => q5 z.1)], rfl, rfl⟩, fun q5 => ?_⟩
  obtain ⟨k, hk, rfl⟩ := zrx (by decide) q5
  have hck : cN (nI k) = k := nI_clamp (by omega)
  rw [hck] at hA
  obtain ⟨g1, g2, g3⟩ := f7 y k (by omega) hk
  have hi : Int32.toNatClampNeg (15 * nI f + 5 * nI y + nI k) = 15 * f + 5 * y + k := by simp (disch := omega) only [zlit, nI_add, pk_mul, nI_clamp]
  rw [hi, e52, g1]
  have hz : (nI (lsl m f y k) = 0) ↔ lsl m f y k = 0 := nI_eq (by omega) (by decide)
  rw [hz]
  refine ⟨by simp (disch := omega) only [zlit, nI_add, pk_mul]; exact vp_in_nI (by omega) (by decide), fun q6 => ⟨fun q7 => ⟨?_, rfl, rfl⟩, fun q7 => ⟨?_, rfl, rfl⟩⟩, fun q6 => ⟨?_, rfl, rfl⟩⟩
  · rw [hA, if_pos ⟨q5, by omega⟩, if_neg q7]
  · rw [hA, if_pos ⟨q5, by omega⟩, if_pos q7, e51, (g3 (by omega)).1]
  · rw [hA, if_neg (fun z => by have := z.2; omega)]
def aAt (m : zMem) (x y : Int32) : Int32 := if (0 ≤ x ∧ x < nI (nfl m)) ∧ (0 ≤ y ∧ y < nI 48) then zOp (room m (cN x) (way m (cN x)) (dly m (cN x)) (cN y)) else -1000001
theorem C_X12_at (l : Launch) (w : zWd) {m im : zMem} (lv : Int64) (hW : WF m) (hM : RM m im) (h0 : im 43 0 0 = 0) (x1 x2 : Int32) : zSpecI l w 4 zyX12_at [vR 43 0, vI x1, vI x2] im lv (fun v im' lv' => v = aAt m x1 x2 ∧ im' = im ∧ lv' = lv) := by
  refine ze_I (by decide) (Nat.le_of_ble_eq_true rfl) (fun x hO hR hN => rX12_at_0 hO hR hN ?_)
  rw [zwr_id h0]
  have e10 := hM.2.2.2
  have e53 := hM.1 53 (by decide) (by decide)
  have e54 := hM.1 54 (by decide) (by decide)
  have h12 := hW.1.2
  rw [e10, hW.1.1, zrg (by omega)]
  have q47 : (0 ≤ x2 ∧ x2 ≤ 47) ↔ (0 ≤ x2 ∧ x2 < nI 48) := zrl (by decide)
  rw [q47]
  unfold aAt
  refine ⟨fun q => ⟨(if_neg (fun z => q z.1)).symm, rfl, rfl⟩, fun q => ⟨fun q2 => ?_, fun q2 => ⟨(if_neg (fun z => q2 z.2)).symm, rfl, rfl⟩⟩⟩
  rw [if_pos ⟨q, q2⟩]
  obtain ⟨f, hf, rfl⟩ := zrx (by omega) q
  obtain ⟨t, ht, rfl⟩ := zrx (by decide) q2
  obtain ⟨-, -, -, -, f4, f5, f6, -⟩ := hW.2.1 f hf
  simp (disch := omega) only [nI_clamp, e53, e54, f5.1, f6.1]
  refine ⟨vp_in_nI (by omega) (by decide), _, C_X12_roomBy _ _ _ hW hM hf (by omega) (by omega) (by omega), ?_⟩
  rintro _ _ _ ⟨rfl, rfl, rfl⟩
  exact ⟨rfl, rfl, rfl⟩
def aLoad (m : zMem) (x y z : Int32) : Int32 := if (0 ≤ x ∧ x < nI 8) ∧ (0 ≤ y ∧ y < nI 48) ∧ (0 ≤ z ∧ z < nI 2) then (if z = 0 then nI (load m (cN x) (cN y)) else nI (over m (cN x) (cN y))) else -1000001
theorem C_X12_load (l : Launch) (w : zWd) {m im : zMem} (lv : Int64) (hW : WF m) (hM : RM m im) (h0 : im 43 0 0 = 0) (x1 x2 x3 : Int32) : zSpecI l w 5 zyX12_load [vR 43 0, vI x1, vI x2, vI x3] im lv (fun v im' lv' => v = aLoad m x1 x2 x3 ∧ im' = im ∧ lv' = lv) := by
  refine ze_I (by decide) (Nat.le_of_ble_eq_true rfl) (fun x hO hR hN => rX12_load_0 hO hR hN ?_)
  rw [zwr_id h0]
  have q7 : (0 ≤ x1 ∧ x1 ≤ 7) ↔ (0 ≤ x1 ∧ x1 < nI 8) := zrl (by decide)
  have q47 : (0 ≤ x2 ∧ x2 ≤ 47) ↔ (0 ≤ x2 ∧ x2 < nI 48) := zrl (by decide)
  have q1 : (0 ≤ x3 ∧ x3 ≤ 1) ↔ (0 ≤ x3 ∧ x3 < nI 2) := zrl (by decide)
  rw [q7, q47, q1]
  unfold aLoad
  refine ⟨fun q => ⟨(if_neg (fun z => q z.1)).symm, rfl, rfl⟩, fun q => ⟨fun q2 => ⟨(if_neg (fun z => q2 z.2.1)).symm, rfl, rfl⟩, fun q2 => ⟨fun q3 => ?_, fun q3 => ⟨(if_neg (fun z => q3 z.2.2)).symm, rfl, rfl⟩⟩⟩⟩
  rw [if_pos ⟨q, q2, q3⟩]
  obtain ⟨r, hr, rfl⟩ := zrx (by decide) q
  obtain ⟨t, ht, rfl⟩ := zrx (by decide) q2
  refine ⟨fun q4 => ⟨_, C_X12_overOf _ _ _ hW hM hr ht, ?_⟩, fun q4 => ⟨_, C_X12_loadOf _ _ _ hW hM hr ht, ?_⟩⟩
  · rintro _ _ _ ⟨rfl, rfl, rfl⟩
    rw [if_neg q4, cNn (n := r) (by omega), cNn (n := t) (by omega)]
    exact ⟨rfl, rfl, rfl⟩
  · rintro _ _ _ ⟨rfl, rfl, rfl⟩
    rw [if_pos q4, cNn (n := r) (by omega), cNn (n := t) (by omega)]
    exact ⟨rfl, rfl, rfl⟩
def knN (m : zMem) (r t : Nat) : Nat → Nat
  | 0 => 0
  | f + 1 => knN m r t f + if room m f 0 0 t = some r then wgt m f else 0
def aKnown (m : zMem) (x y z : Int32) : Int32 := if (0 ≤ x ∧ x < nI 8) ∧ (0 ≤ y ∧ y < nI 48) ∧ 0 ≤ z then nI (knN m (cN x) (cN y) (min (nfl m) (cN z + 1))) else -1000001
theorem C_X12_known (l : Launch) (w : zWd) {m im : zMem} (lv : Int64) (hW : WF m) (hM : RM m im) (h0 : im 43 0 0 = 0) (x1 x2 x3 : Int32) : zSpecI l w 4 zyX12_known [vR 43 0, vI x1, vI x2, vI x3] im lv (fun v im' lv' => v = aKnown m x1 x2 x3 ∧ im' = im ∧ lv' = lv) := by
  refine ze_I (by decide) (Nat.le_of_ble_eq_true rfl) (fun x hO hR hN => rX12_known_0 hO hR hN ?_)
  rw [zwr_id h0]
  have q7 : (0 ≤ x1 ∧ x1 ≤ 7) ↔ (0 ≤ x1 ∧ x1 < nI 8) := zrl (by decide)
  have q47 : (0 ≤ x2 ∧ x2 ≤ 47) ↔ (0 ≤ x2 ∧ x2 < nI 48) := zrl (by decide)
  rw [q7, q47]
  unfold aKnown
  refine ⟨fun q => ⟨(if_neg (fun z => q z.1)).symm, rfl, rfl⟩, fun q => ⟨fun q2 => ⟨(if_neg (fun z => q2 z.2.1)).symm, rfl, rfl⟩, fun q2 => ⟨fun q3 => ?_, fun q3 => ⟨(if_neg (fun z => q3 z.2.2)).symm, rfl, rfl⟩⟩⟩⟩
  unfold aKnown at hR
  rw [if_pos ⟨q, q2, q3⟩] at hR
  obtain ⟨r, hr, rfl⟩ := zrx (by decide) q
  obtain ⟨t, ht, rfl⟩ := zrx (by decide) q2
  obtain ⟨z, hz, rfl⟩ := nI_of (x := x3) (by rw [Int32.lt_iff_toInt_lt]; rw [Int32.le_iff_toInt_le] at q3; omega)
  have e10 := hM.2.2.2
  have e50 := hM.1 50 (by decide) (by decide)
  have h12 := hW.1.2
  have key : ∀ n k, n + k = min (nfl m) (z + 1) → zW x w 32 [(0, vR 43 0), (1, vI (nI r)), (2, vI (nI t)), (3, vI (nI z)), (4, vI (nI (knN m r t k))), (5, vI (nI k))] [] im lv := by
    intro n
    induction n with
    | zero =>
      intro k hk
      have hk : k = min (nfl m) (z + 1) := by omega
      refine rX12_known_32 hO hR hN ?_
      rw [e10, hW.1.1]
      have hfin : nI (knN m r t k) = nI (knN m (cN (nI r)) (cN (nI t)) (min (nfl m) (cN (nI z) + 1))) := by
        rw [cNn (n := r) (by omega), cNn (n := t) (by omega), cNn (n := z) (by omega), hk]
      simp (disch := omega) only [nI_leI, nI_ltI]
      refine ⟨fun _ => ⟨hfin, trivial, trivial⟩, fun q => ⟨fun _ => ⟨hfin, trivial, trivial⟩, fun q4 => by omega⟩⟩
    | succ n ih =>
      intro k hk
      have hk2 : k < nfl m := by omega
      obtain ⟨-, f1, -, -, f4, -, -, -⟩ := hW.2.1 k hk2
      have ih := ih (k + 1) (by omega)
      rw [knN] at ih
      refine rX12_known_32 hO hR hN ?_
      rw [e10, hW.1.1]
      simp (disch := omega) only [zlit, nI_add, pk_mul, nI_clamp, nI_leI, nI_ltI, e50, f1.1]
      refine ⟨fun q => by omega, fun _ => ⟨fun q => by omega, fun _ => ⟨_, C_X12_roomBy _ _ _ hW hM hk2 (by omega) (by omega) (by omega), ?_⟩⟩⟩
      rintro _ _ _ ⟨rfl, rfl, rfl⟩
      rw [zOp_some (by omega) (fun r' h' => by have := room_lt hW hk2 (by omega) h'; omega)]
      refine ⟨fun q => ?_, fun q => ⟨vp_in_nI (by omega) (by decide), ?_⟩⟩
      · rw [if_neg q] at ih; exact ih
      · rw [if_pos q] at ih
        simp (disch := omega) only [e50, f1.1, nI_add]
        exact ih
  exact key (min (nfl m) (z + 1)) 0 rfl
theorem C_X12_look (l : Launch) (w : zWd) {im : zMem} (lv : Int64) (h0 : im 43 0 0 = 0) (x1 : Int32) : zSpecI l w 3 zyX12_look [vR 43 0, vI x1] im lv (fun v im' lv' => (if 1 ≤ x1 ∧ x1 ≤ 15 then v = im 43 0 7 ∧ im' = zwr im 43 0 7 x1 else v = -1000001 ∧ im' = im) ∧ lv' = lv) := by
  refine ze_I (by decide) (Nat.le_of_ble_eq_true rfl) (fun x hO hR hN => rX12_look_0 hO hR hN ?_)
  rw [zwr_id h0]
  exact ⟨fun q => by rw [if_pos q]; exact ⟨⟨rfl, rfl⟩, rfl⟩, fun q => by rw [if_neg q]; exact ⟨⟨rfl, rfl⟩, rfl⟩⟩
def aSafe (m : zMem) (x y z : Int32) : Int32 := if (0 ≤ x ∧ x < nI 8) ∧ (0 ≤ y ∧ y < nI 48) ∧ (z = -1000000 ∨ (0 ≤ z ∧ z < nI 4)) then (if z = -1000000 then nI (safe m (cN x) (cN y)) else nI (bearsW m (cN x) (cN y) (cN z))) else -1000001
theorem C_X12_safe (l : Launch) (w : zWd) {m im : zMem} (lv : Int64) (hW : WF m) (hM : RM m im) (h0 : im 43 0 0 = 0) (x1 x2 x3 : Int32) : zSpecI l w 4 zyX12_safe [vR 43 0, vI x1, vI x2, vI x3] im lv (fun v im' lv' => v = aSafe m x1 x2 x3 ∧ im' = im ∧ lv' = lv) := by
  refine ze_I (by decide) (Nat.le_of_ble_eq_true rfl) (fun x hO hR hN => rX12_safe_0 hO hR hN ?_)
  rw [zwr_id h0]
  have q7 : (0 ≤ x1 ∧ x1 ≤ 7) ↔ (0 ≤ x1 ∧ x1 < nI 8) := zrl (by decide)
  have q47 : (0 ≤ x2 ∧ x2 ≤ 47) ↔ (0 ≤ x2 ∧ x2 < nI 48) := zrl (by decide)
  have q3' : (0 ≤ x3 ∧ x3 ≤ 3) ↔ (0 ≤ x3 ∧ x3 < nI 4) := zrl (by decide)
  rw [q7, q47, q3']
  unfold aSafe
  refine ⟨fun q => ⟨(if_neg (fun z => q z.1)).symm, rfl, rfl⟩, fun q => ⟨fun q2 => ⟨(if_neg (fun z => q2 z.2.1)).symm, rfl, rfl⟩, fun q2 => ?_⟩⟩
  obtain ⟨r, hr, rfl⟩ := zrx (by decide) q
  obtain ⟨t, ht, rfl⟩ := zrx (by decide) q2
  refine ⟨fun q3 => ⟨_, C_X12_safeOf _ _ _ hW hM hr ht, ?_⟩, fun q3 => ⟨fun q4 => ?_, fun q4 => ⟨(if_neg (fun z => z.2.2.elim q3 q4)).symm, rfl, rfl⟩⟩⟩
  · rintro _ _ _ ⟨rfl, rfl, rfl⟩
    rw [if_pos ⟨q, q2, Or.inl q3⟩, if_pos q3, cNn (n := r) (by omega), cNn (n := t) (by omega)]
    exact ⟨rfl, rfl, rfl⟩
  · obtain ⟨d, hd, rfl⟩ := zrx (by decide) q4
    refine ⟨_, C_X12_bearsIn _ _ _ hW hM hr ht (by omega), ?_⟩
    rintro _ _ _ ⟨rfl, rfl, rfl⟩
    rw [if_pos ⟨q, q2, Or.inr q4⟩, if_neg q3, cNn (n := r) (by omega), cNn (n := t) (by omega), cNn (n := d) (by omega)]
    exact ⟨rfl, rfl, rfl⟩
theorem C_X12_fault (l : Launch) (w : zWd) {im : zMem} (lv : Int64) (h0 : im 43 0 0 = 0) : zSpecI l w 2 zyX12_fault [vR 43 0] im lv (fun v im' lv' => v = im 43 0 18 ∧ im' = im ∧ lv' = lv) :=
  ze_I (by decide) (Nat.le_of_ble_eq_true rfl) (fun x hO hR hN => rX12_fault_0 hO hR hN (by rw [zwr_id h0]; exact ⟨rfl, rfl, rfl⟩))
theorem C_X12_status (l : Launch) (w : zWd) {im : zMem} (lv : Int64) (h0 : im 43 0 0 = 0) : zSpecI l w 2 zyX12_status [vR 43 0] im lv (fun v im' lv' => v = im 43 0 1 ∧ im' = im ∧ lv' = lv) :=
  ze_I (by decide) (Nat.le_of_ble_eq_true rfl) (fun x hO hR hN => rX12_status_0 hO hR hN (by rw [zwr_id h0]; exact ⟨rfl, rfl, rfl⟩))
def aTrace (n : Nat) (tr : Nat → Int32) (x : Int32) : Int32 := if 0 ≤ x ∧ x < nI n then tr (cN x) else -1000000
theorem C_X12_trace (l : Launch) (w : zWd) {im : zMem} (lv : Int64) (h0 : im 43 0 0 = 0) {n : Nat} (hn : im 43 0 41 = nI n) (hn16 : n ≤ 16) (x1 : Int32) : zSpecI l w 3 zyX12_trace [vR 43 0, vI x1] im lv (fun v im' lv' => v = aTrace n (im 67 0) x1 ∧ im' = im ∧ lv' = lv) := by
  refine ze_I (by decide) (Nat.le_of_ble_eq_true rfl) (fun x hO hR hN => rX12_trace_0 hO hR hN ?_)
  rw [zwr_id h0, hn, zrg (by omega)]
  unfold aTrace
  refine ⟨fun q => ⟨(if_neg q).symm, rfl, rfl⟩, fun q => ⟨?_, (if_pos q).symm, rfl, rfl⟩⟩
  obtain ⟨k, hk, rfl⟩ := zrx (by omega) q
  exact vp_in_nI (by omega) (by decide)
