theorem zsm : ∀ n, n < 32 → ((nI n &&& 31).toBitVec.smod 32).toNat = n := by decide +kernel
theorem zbit {L w : Nat} (hL : L < 2 ^ 31) (hw : w < 32) : (nI L >>> (nI w &&& 31)) &&& 1 = nI (L / 2 ^ w % 2) := by
  rw [pk_shrN hL _ w (zsm w hw), pk_andN (Nat.lt_of_le_of_lt (Nat.div_le_self _ _) (by omega)) 1 rfl]
theorem rX12_safeOf_0 {x : zX} {w : zWd} {im : zMem} {lv : Int64} {P : Int32 → zMem → Int64 → Prop} {x1 : Int32} {x2 : Int32} (hO : zOK x w zyX12_safeOf 3) (hR : zRetI x w zyX12_safeOf P) (hN : zN x 126 126)
 (h : zW x w 7 [(0, vR 43 0), (1, vI x1), (2, vI x2), (3, vI 1000), (4, vI 0)] [] im lv) :
 zW x w 0 [(0, vR 43 0), (1, vI x1), (2, vI x2)] [] im lv := by
  refine zi_sipush (v := 1000) hO dX12_safeOf_0 (by decide) ?_
  refine zi_istore_n (L' := [(0, vR 43 0), (1, vI x1), (2, vI x2), (3, vI 1000)]) hO dX12_safeOf_3 (by decide) rfl rfl ?_
  refine zi_iconst (v := 0) hO dX12_safeOf_4 (by decide) ?_
  refine zi_istore (L' := [(0, vR 43 0), (1, vI x1), (2, vI x2), (3, vI 1000), (4, vI 0)]) hO dX12_safeOf_5 (by decide) rfl rfl ?_
  exact h
theorem rX12_safeOf_7 {x : zX} {w : zWd} {im : zMem} {lv : Int64} {P : Int32 → zMem → Int64 → Prop} {x1 : Int32} {x2 : Int32} {x3 : Int32} {x4 : Int32} (hO : zOK x w zyX12_safeOf 3) (hR : zRetI x w zyX12_safeOf P) (hN : zN x 126 126)
 (h : ((4 ≤ x4 → P x3 im lv) ∧
 (¬ (4 ≤ x4) → ((¬ ((((im 43 0 7) >>> (x4 &&& 31)) &&& 1) = 1) → ((x3 ≤ 1000 → zW x w 7 [(0, vR 43 0), (1, vI x1), (2, vI x2), (3, vI x3), (4, vI (x4 + 1))] [] im lv) ∧
 (¬ (x3 ≤ 1000) → zW x w 7 [(0, vR 43 0), (1, vI x1), (2, vI x2), (3, vI 1000), (4, vI (x4 + 1))] [] im lv))) ∧
 ((((im 43 0 7) >>> (x4 &&& 31)) &&& 1) = 1 → (∃ P1 : Int32 → zMem → Int64 → Prop, zSpecI x.2.1 w 2 zyX12_bearsIn [vR 43 0, vI x1, vI x2, vI x4] im lv P1 ∧ ∀ (v1 : Int32) (im1 : zMem) (lv1 : Int64), P1 v1 im1 lv1 → ((x3 ≤ v1 → zW x w 7 [(0, vR 43 0), (1, vI x1), (2, vI x2), (3, vI x3), (4, vI (x4 + 1))] [] im1 lv1) ∧
 (¬ (x3 ≤ v1) → zW x w 7 [(0, vR 43 0), (1, vI x1), (2, vI x2), (3, vI v1), (4, vI (x4 + 1))] [] im1 lv1)))))))) :
 zW x w 7 [(0, vR 43 0), (1, vI x1), (2, vI x2), (3, vI x3), (4, vI x4)] [] im lv := by
  refine zi_iload hO dX12_safeOf_7 4 rfl ?_
  refine zi_iconst (v := 4) hO dX12_safeOf_9 (by decide) ?_
  refine zi_icmp_ge (tgt := 61) hO dX12_safeOf_10 (by decide) (fun c1 => ?_) (fun c1 => ?_)
  · have h := h.1 c1
    refine zi_iload_n hO dX12_safeOf_61 3 rfl ?_
    exact zr_I hO hR rfl dX12_safeOf_62 h
  · have h := h.2 c1
    refine zi_aload_n hO dX12_safeOf_13 0 rfl ?_
    refine zi_getI hO dX12_safeOf_14 fX12_50 rfl rfl (zI (by decide)) ?_
    refine zi_iload hO dX12_safeOf_17 4 rfl ?_
    refine zi_ishr hO dX12_safeOf_19 ?_
    refine zi_iconst (v := 1) hO dX12_safeOf_20 (by decide) ?_
    refine zi_iand hO dX12_safeOf_21 ?_
    refine zi_iconst (v := 1) hO dX12_safeOf_22 (by decide) ?_
    refine zi_icmp_ne (tgt := 37) hO dX12_safeOf_23 (by decide) (fun c2 => ?_) (fun c2 => ?_)
    · have h := h.1 c2
      refine zi_sipush (v := 1000) hO dX12_safeOf_37 (by decide) ?_
      refine zi_istore (L' := [(0, vR 43 0), (1, vI x1), (2, vI x2), (3, vI x3), (4, vI x4), (5, vI 1000)]) hO dX12_safeOf_40 (by decide) rfl rfl ?_
      refine zi_iload hO dX12_safeOf_42 5 rfl ?_
      refine zi_iload_n hO dX12_safeOf_44 3 rfl ?_
      refine zi_icmp_ge (tgt := 53) hO dX12_safeOf_45 (by decide) (fun c3 => ?_) (fun c3 => ?_)
      · have h := h.1 c3
        refine zi_iload_n hO dX12_safeOf_53 3 rfl ?_
        refine zi_istore_n (L' := [(0, vR 43 0), (1, vI x1), (2, vI x2), (3, vI x3), (4, vI x4), (5, vI 1000)]) hO dX12_safeOf_54 (by decide) rfl rfl ?_
        refine zi_iinc (v' := (x4 + 1)) (L' := [(0, vR 43 0), (1, vI x1), (2, vI x2), (3, vI x3), (4, vI (x4 + 1)), (5, vI 1000)]) hO dX12_safeOf_55 4 rfl rfl (by decide) rfl rfl ?_
        refine zi_goto (tgt := 7) hO dX12_safeOf_58 (by decide) ?_
        refine zi_pick (L' := [(0, vR 43 0), (1, vI x1), (2, vI x2), (3, vI x3), (4, vI (x4 + 1))]) [0, 1, 2, 3, 4] rfl ?_
        exact h
      · have h := h.2 c3
        refine zi_iload hO dX12_safeOf_48 5 rfl ?_
        refine zi_goto (tgt := 54) hO dX12_safeOf_50 (by decide) ?_
        refine zi_istore_n (L' := [(0, vR 43 0), (1, vI x1), (2, vI x2), (3, vI 1000), (4, vI x4), (5, vI 1000)]) hO dX12_safeOf_54 (by decide) rfl rfl ?_
        refine zi_iinc (v' := (x4 + 1)) (L' := [(0, vR 43 0), (1, vI x1), (2, vI x2), (3, vI 1000), (4, vI (x4 + 1)), (5, vI 1000)]) hO dX12_safeOf_55 4 rfl rfl (by decide) rfl rfl ?_
        refine zi_goto (tgt := 7) hO dX12_safeOf_58 (by decide) ?_
        refine zi_pick (L' := [(0, vR 43 0), (1, vI x1), (2, vI x2), (3, vI 1000), (4, vI (x4 + 1))]) [0, 1, 2, 3, 4] rfl ?_
        exact h
    · have h := h.2 c2
      refine zi_aload_n hO dX12_safeOf_26 0 rfl ?_
      refine zi_iload_n hO dX12_safeOf_27 1 rfl ?_
      refine zi_iload_n hO dX12_safeOf_28 2 rfl ?_
      refine zi_iload hO dX12_safeOf_29 4 rfl ?_
      obtain ⟨P1, hM1, h⟩ := h
      refine zc_VI (as := [vI x1, vI x2, vI x4]) hO hN dX12_safeOf_31 kX12_127 (by decide) rfl (zI (by decide)) rfl rfl (Nat.le_of_ble_eq_true rfl) rfl rfl hM1 (fun v1 im1 lv1 hp1 => ?_)
      replace h := h v1 im1 lv1 hp1
      refine zi_goto (tgt := 40) hO dX12_safeOf_34 (by decide) ?_
      refine zi_istore (L' := [(0, vR 43 0), (1, vI x1), (2, vI x2), (3, vI x3), (4, vI x4), (5, vI v1)]) hO dX12_safeOf_40 (by decide) rfl rfl ?_
      refine zi_iload hO dX12_safeOf_42 5 rfl ?_
      refine zi_iload_n hO dX12_safeOf_44 3 rfl ?_
      refine zi_icmp_ge (tgt := 53) hO dX12_safeOf_45 (by decide) (fun c4 => ?_) (fun c4 => ?_)
      · have h := h.1 c4
        refine zi_iload_n hO dX12_safeOf_53 3 rfl ?_
        refine zi_istore_n (L' := [(0, vR 43 0), (1, vI x1), (2, vI x2), (3, vI x3), (4, vI x4), (5, vI v1)]) hO dX12_safeOf_54 (by decide) rfl rfl ?_
        refine zi_iinc (v' := (x4 + 1)) (L' := [(0, vR 43 0), (1, vI x1), (2, vI x2), (3, vI x3), (4, vI (x4 + 1)), (5, vI v1)]) hO dX12_safeOf_55 4 rfl rfl (by decide) rfl rfl ?_
        refine zi_goto (tgt := 7) hO dX12_safeOf_58 (by decide) ?_
        refine zi_pick (L' := [(0, vR 43 0), (1, vI x1), (2, vI x2), (3, vI x3), (4, vI (x4 + 1))]) [0, 1, 2, 3, 4] rfl ?_
        exact h
      · have h := h.2 c4
        refine zi_iload hO dX12_safeOf_48 5 rfl ?_
        refine zi_goto (tgt := 54) hO dX12_safeOf_50 (by decide) ?_
        refine zi_istore_n (L' := [(0, vR 43 0), (1, vI x1), (2, vI x2), (3, vI v1), (4, vI x4), (5, vI v1)]) hO dX12_safeOf_54 (by decide) rfl rfl ?_
        refine zi_iinc (v' := (x4 + 1)) (L' := [(0, vR 43 0), (1, vI x1), (2, vI x2), (3, vI v1), (4, vI (x4 + 1)), (5, vI v1)]) hO dX12_safeOf_55 4 rfl rfl (by decide) rfl rfl ?_
        refine zi_goto (tgt := 7) hO dX12_safeOf_58 (by decide) ?_
        refine zi_pick (L' := [(0, vR 43 0), (1, vI x1), (2, vI x2), (3, vI v1), (4, vI (x4 + 1))]) [0, 1, 2, 3, 4] rfl ?_
        exact h
theorem rX12_loadOf_0 {x : zX} {w : zWd} {im : zMem} {lv : Int64} {P : Int32 → zMem → Int64 → Prop} {x1 : Int32} {x2 : Int32} (hO : zOK x w zyX12_loadOf 3) (hR : zRetI x w zyX12_loadOf P) (hN : zN x 126 126)
 (h : zW x w 5 [(0, vR 43 0), (1, vI x1), (2, vI x2), (3, vI 0), (4, vI 0)] [] im lv) :
 zW x w 0 [(0, vR 43 0), (1, vI x1), (2, vI x2)] [] im lv := by
  refine zi_iconst (v := 0) hO dX12_loadOf_0 (by decide) ?_
  refine zi_istore_n (L' := [(0, vR 43 0), (1, vI x1), (2, vI x2), (3, vI 0)]) hO dX12_loadOf_1 (by decide) rfl rfl ?_
  refine zi_iconst (v := 0) hO dX12_loadOf_2 (by decide) ?_
  refine zi_istore (L' := [(0, vR 43 0), (1, vI x1), (2, vI x2), (3, vI 0), (4, vI 0)]) hO dX12_loadOf_3 (by decide) rfl rfl ?_
  exact h
theorem rX12_loadOf_5 {x : zX} {w : zWd} {im : zMem} {lv : Int64} {P : Int32 → zMem → Int64 → Prop} {x1 : Int32} {x2 : Int32} {x3 : Int32} {x4 : Int32} (hO : zOK x w zyX12_loadOf 3) (hR : zRetI x w zyX12_loadOf P) (hN : zN x 126 126)
 (h : (((im 43 0 10) ≤ x4 → P x3 im lv) ∧
 (¬ ((im 43 0 10) ≤ x4) → (vp_in x4 12 ∧ (∃ P2 : Int32 → zMem → Int64 → Prop, zSpecI x.2.1 w 2 zyX12_roomBy [vR 43 0, vI x4, vI (im 53 0 (Int32.toNatClampNeg x4)), vI (im 54 0 (Int32.toNatClampNeg x4)), vI x2] im lv P2 ∧ ∀ (v2 : Int32) (im2 : zMem) (lv2 : Int64), P2 v2 im2 lv2 → ((¬ (v2 = x1) → zW x w 5 [(0, vR 43 0), (1, vI x1), (2, vI x2), (3, vI (x3 + 0)), (4, vI (x4 + 1))] [] im2 lv2) ∧
 (v2 = x1 → (vp_in ((5 * x4) + 1) 60 ∧ zW x w 5 [(0, vR 43 0), (1, vI x1), (2, vI x2), (3, vI (x3 + (im2 50 0 (Int32.toNatClampNeg ((5 * x4) + 1))))), (4, vI (x4 + 1))] [] im2 lv2)))))))) :
 zW x w 5 [(0, vR 43 0), (1, vI x1), (2, vI x2), (3, vI x3), (4, vI x4)] [] im lv := by
  refine zi_iload hO dX12_loadOf_5 4 rfl ?_
  refine zi_aload_n hO dX12_loadOf_7 0 rfl ?_
  refine zi_getI hO dX12_loadOf_8 fX12_138 rfl rfl (zI (by decide)) ?_
  refine zi_icmp_ge (tgt := 63) hO dX12_loadOf_11 (by decide) (fun c1 => ?_) (fun c1 => ?_)
  · have h := h.1 c1
    refine zi_iload_n hO dX12_loadOf_63 3 rfl ?_
    exact zr_I hO hR rfl dX12_loadOf_64 h
  · have h := h.2 c1
    refine zi_iload_n hO dX12_loadOf_14 3 rfl ?_
    refine zi_aload_n hO dX12_loadOf_15 0 rfl ?_
    refine zi_iload hO dX12_loadOf_16 4 rfl ?_
    refine zi_aload_n hO dX12_loadOf_18 0 rfl ?_
    refine zi_getR (r' := 53) (i' := 0) hO dX12_loadOf_19 fX12_65 rfl rfl (zI (by decide)) rfl ?_
    refine zi_iload hO dX12_loadOf_22 4 rfl ?_
    obtain ⟨s1, h⟩ := h
    refine zi_iald hO dX12_loadOf_24 rfl (zI (by decide)) s1 ?_
    refine zi_aload_n hO dX12_loadOf_25 0 rfl ?_
    refine zi_getR (r' := 54) (i' := 0) hO dX12_loadOf_26 fX12_68 rfl rfl (zI (by decide)) rfl ?_
    refine zi_iload hO dX12_loadOf_29 4 rfl ?_
    refine zi_iald hO dX12_loadOf_31 rfl (zI (by decide)) s1 ?_
    refine zi_iload_n hO dX12_loadOf_32 2 rfl ?_
    obtain ⟨P2, hM2, h⟩ := h
    refine zc_VI (as := [vI x4, vI (im 53 0 (Int32.toNatClampNeg x4)), vI (im 54 0 (Int32.toNatClampNeg x4)), vI x2]) hO hN dX12_loadOf_33 kX12_241 (by decide) rfl (zI (by decide)) rfl rfl (Nat.le_of_ble_eq_true rfl) rfl rfl hM2 (fun v2 im2 lv2 hp2 => ?_)
    replace h := h v2 im2 lv2 hp2
    refine zi_iload_n hO dX12_loadOf_36 1 rfl ?_
    refine zi_icmp_ne (tgt := 54) hO dX12_loadOf_37 (by decide) (fun c2 => ?_) (fun c2 => ?_)
    · have h := h.1 c2
      refine zi_iconst (v := 0) hO dX12_loadOf_54 (by decide) ?_
      refine zi_iadd hO dX12_loadOf_55 ?_
      refine zi_istore_n (L' := [(0, vR 43 0), (1, vI x1), (2, vI x2), (3, vI (x3 + 0)), (4, vI x4)]) hO dX12_loadOf_56 (by decide) rfl rfl ?_
      refine zi_iinc (v' := (x4 + 1)) (L' := [(0, vR 43 0), (1, vI x1), (2, vI x2), (3, vI (x3 + 0)), (4, vI (x4 + 1))]) hO dX12_loadOf_57 4 rfl rfl (by decide) rfl rfl ?_
      refine zi_goto (tgt := 5) hO dX12_loadOf_60 (by decide) ?_
      exact h
    · have h := h.2 c2
      refine zi_aload_n hO dX12_loadOf_40 0 rfl ?_
      refine zi_getR (r' := 50) (i' := 0) hO dX12_loadOf_41 fX12_56 rfl rfl (zI (by decide)) rfl ?_
      refine zi_iconst (v := 5) hO dX12_loadOf_44 (by decide) ?_
      refine zi_iload hO dX12_loadOf_45 4 rfl ?_
      refine zi_imul hO dX12_loadOf_47 ?_
      refine zi_iconst (v := 1) hO dX12_loadOf_48 (by decide) ?_
      refine zi_iadd hO dX12_loadOf_49 ?_
      obtain ⟨s3, h⟩ := h
      refine zi_iald hO dX12_loadOf_50 rfl (zI (by decide)) s3 ?_
      refine zi_goto (tgt := 55) hO dX12_loadOf_51 (by decide) ?_
      refine zi_iadd hO dX12_loadOf_55 ?_
      refine zi_istore_n (L' := [(0, vR 43 0), (1, vI x1), (2, vI x2), (3, vI (x3 + (im2 50 0 (Int32.toNatClampNeg ((5 * x4) + 1))))), (4, vI x4)]) hO dX12_loadOf_56 (by decide) rfl rfl ?_
      refine zi_iinc (v' := (x4 + 1)) (L' := [(0, vR 43 0), (1, vI x1), (2, vI x2), (3, vI (x3 + (im2 50 0 (Int32.toNatClampNeg ((5 * x4) + 1))))), (4, vI (x4 + 1))]) hO dX12_loadOf_57 4 rfl rfl (by decide) rfl rfl ?_
      refine zi_goto (tgt := 5) hO dX12_loadOf_60 (by decide) ?_
      exact h
theorem rX12_overOf_0 {x : zX} {w : zWd} {im : zMem} {lv : Int64} {P : Int32 → zMem → Int64 → Prop} {x1 : Int32} {x2 : Int32} (hO : zOK x w zyX12_overOf 4) (hR : zRetI x w zyX12_overOf P) (hN : zN x 126 126)
 (h : (∃ P1 : Int32 → zMem → Int64 → Prop, zSpecI x.2.1 w 3 zyX12_loadOf [vR 43 0, vI x1, vI x2] im lv P1 ∧ ∀ (v1 : Int32) (im1 : zMem) (lv1 : Int64), P1 v1 im1 lv1 → (∃ P2 : Int32 → zMem → Int64 → Prop, zSpecI x.2.1 w 3 zyX12_safeOf [vR 43 0, vI x1, vI x2] im1 lv1 P2 ∧ ∀ (v2 : Int32) (im2 : zMem) (lv2 : Int64), P2 v2 im2 lv2 → ((0 ≤ (v1 - v2) → P (v1 - v2) im2 lv2) ∧
 (¬ (0 ≤ (v1 - v2)) → P 0 im2 lv2))))) :
 zW x w 0 [(0, vR 43 0), (1, vI x1), (2, vI x2)] [] im lv := by
  refine zi_aload_n hO dX12_overOf_0 0 rfl ?_
  refine zi_iload_n hO dX12_overOf_1 1 rfl ?_
  refine zi_iload_n hO dX12_overOf_2 2 rfl ?_
  obtain ⟨P1, hM1, h⟩ := h
  refine zc_VI (as := [vI x1, vI x2]) hO hN dX12_overOf_3 kX12_244 (by decide) rfl (zI (by decide)) rfl rfl (Nat.le_of_ble_eq_true rfl) rfl rfl hM1 (fun v1 im1 lv1 hp1 => ?_)
  replace h := h v1 im1 lv1 hp1
  refine zi_aload_n hO dX12_overOf_6 0 rfl ?_
  refine zi_iload_n hO dX12_overOf_7 1 rfl ?_
  refine zi_iload_n hO dX12_overOf_8 2 rfl ?_
  obtain ⟨P2, hM2, h⟩ := h
  refine zc_VI (as := [vI x1, vI x2]) hO hN dX12_overOf_9 kX12_134 (by decide) rfl (zI (by decide)) rfl rfl (Nat.le_of_ble_eq_true rfl) rfl rfl hM2 (fun v2 im2 lv2 hp2 => ?_)
  replace h := h v2 im2 lv2 hp2
  refine zi_isub hO dX12_overOf_12 ?_
  refine zi_istore_n (L' := [(0, vR 43 0), (1, vI x1), (2, vI x2), (3, vI (v1 - v2))]) hO dX12_overOf_13 (by decide) rfl rfl ?_
  refine zi_iload_n hO dX12_overOf_14 3 rfl ?_
  refine zi_if_ge (tgt := 22) hO dX12_overOf_15 (by decide) (fun c1 => ?_) (fun c1 => ?_)
  · have h := h.1 c1
    refine zi_iload_n hO dX12_overOf_22 3 rfl ?_
    exact zr_I hO hR rfl dX12_overOf_23 h
  · have h := h.2 c1
    refine zi_iconst (v := 0) hO dX12_overOf_18 (by decide) ?_
    refine zi_goto (tgt := 23) hO dX12_overOf_19 (by decide) ?_
    exact zr_I hO hR rfl dX12_overOf_23 h
theorem rX12_overAll_0 {x : zX} {w : zWd} {im : zMem} {lv : Int64} {P : Int32 → zMem → Int64 → Prop} (hO : zOK x w zyX12_overAll 5) (hR : zRetI x w zyX12_overAll P) (hN : zN x 126 126)
 (h : zW x w 4 [(0, vR 43 0), (1, vI 0), (2, vI 0)] [] im lv) :
 zW x w 0 [(0, vR 43 0)] [] im lv := by
  refine zi_iconst (v := 0) hO dX12_overAll_0 (by decide) ?_
  refine zi_istore_n (L' := [(0, vR 43 0), (1, vI 0)]) hO dX12_overAll_1 (by decide) rfl rfl ?_
  refine zi_iconst (v := 0) hO dX12_overAll_2 (by decide) ?_
  refine zi_istore_n (L' := [(0, vR 43 0), (1, vI 0), (2, vI 0)]) hO dX12_overAll_3 (by decide) rfl rfl ?_
  exact h
theorem rX12_overAll_4 {x : zX} {w : zWd} {im : zMem} {lv : Int64} {P : Int32 → zMem → Int64 → Prop} {x1 : Int32} {x2 : Int32} (hO : zOK x w zyX12_overAll 5) (hR : zRetI x w zyX12_overAll P) (hN : zN x 126 126)
 (h : ((384 ≤ x2 → P x1 im lv) ∧
 (¬ (384 ≤ x2) → (∃ P1 : Int32 → zMem → Int64 → Prop, zSpecI x.2.1 w 4 zyX12_overOf [vR 43 0, vI (x2 / 48), vI (x2 - x2 / 48 * 48)] im lv P1 ∧ ∀ (v1 : Int32) (im1 : zMem) (lv1 : Int64), P1 v1 im1 lv1 → zW x w 4 [(0, vR 43 0), (1, vI (x1 + v1)), (2, vI (x2 + 1))] [] im1 lv1)))) :
 zW x w 4 [(0, vR 43 0), (1, vI x1), (2, vI x2)] [] im lv := by
  refine zi_iload_n hO dX12_overAll_4 2 rfl ?_
  refine zi_sipush (v := 384) hO dX12_overAll_5 (by decide) ?_
  refine zi_icmp_ge (tgt := 32) hO dX12_overAll_8 (by decide) (fun c1 => ?_) (fun c1 => ?_)
  · have h := h.1 c1
    refine zi_iload_n hO dX12_overAll_32 1 rfl ?_
    exact zr_I hO hR rfl dX12_overAll_33 h
  · have h := h.2 c1
    refine zi_iload_n hO dX12_overAll_11 1 rfl ?_
    refine zi_aload_n hO dX12_overAll_12 0 rfl ?_
    refine zi_iload_n hO dX12_overAll_13 2 rfl ?_
    refine zi_bipush (v := 48) hO dX12_overAll_14 (by decide) ?_
    refine zi_idiv hO dX12_overAll_16 (by decide) ?_
    refine zi_iload_n hO dX12_overAll_17 2 rfl ?_
    refine zi_bipush (v := 48) hO dX12_overAll_18 (by decide) ?_
    refine zi_irem hO dX12_overAll_20 (by decide) ?_
    obtain ⟨P1, hM1, h⟩ := h
    refine zc_VI (as := [vI (x2 / 48), vI (x2 - x2 / 48 * 48)]) hO hN dX12_overAll_21 kX12_247 (by decide) rfl (zI (by decide)) rfl rfl (Nat.le_of_ble_eq_true rfl) rfl rfl hM1 (fun v1 im1 lv1 hp1 => ?_)
    replace h := h v1 im1 lv1 hp1
    refine zi_iadd hO dX12_overAll_24 ?_
    refine zi_istore_n (L' := [(0, vR 43 0), (1, vI (x1 + v1)), (2, vI x2)]) hO dX12_overAll_25 (by decide) rfl rfl ?_
    refine zi_iinc (v' := (x2 + 1)) (L' := [(0, vR 43 0), (1, vI (x1 + v1)), (2, vI (x2 + 1))]) hO dX12_overAll_26 2 rfl rfl (by decide) rfl rfl ?_
    refine zi_goto (tgt := 4) hO dX12_overAll_29 (by decide) ?_
    exact h
theorem rX12_flightsOf_0 {x : zX} {w : zWd} {im : zMem} {lv : Int64} {P : Int32 → zMem → Int64 → Prop} {x1 : Int32} (hO : zOK x w zyX12_flightsOf 2) (hR : zRetI x w zyX12_flightsOf P) (hN : zN x 126 126)
 (h : zW x w 4 [(0, vR 43 0), (1, vI x1), (2, vI 0), (3, vI 0)] [] im lv) :
 zW x w 0 [(0, vR 43 0), (1, vI x1)] [] im lv := by
  refine zi_iconst (v := 0) hO dX12_flightsOf_0 (by decide) ?_
  refine zi_istore_n (L' := [(0, vR 43 0), (1, vI x1), (2, vI 0)]) hO dX12_flightsOf_1 (by decide) rfl rfl ?_
  refine zi_iconst (v := 0) hO dX12_flightsOf_2 (by decide) ?_
  refine zi_istore_n (L' := [(0, vR 43 0), (1, vI x1), (2, vI 0), (3, vI 0)]) hO dX12_flightsOf_3 (by decide) rfl rfl ?_
  exact h
theorem rX12_flightsOf_4 {x : zX} {w : zWd} {im : zMem} {lv : Int64} {P : Int32 → zMem → Int64 → Prop} {x1 : Int32} {x2 : Int32} {x3 : Int32} (hO : zOK x w zyX12_flightsOf 2) (hR : zRetI x w zyX12_flightsOf P) (hN : zN x 126 126)
 (h : (((im 43 0 10) ≤ x3 → P x2 im lv) ∧
 (¬ ((im 43 0 10) ≤ x3) → (vp_in (5 * x3) 60 ∧ ((¬ ((im 50 0 (Int32.toNatClampNeg (5 * x3))) = x1) → zW x w 4 [(0, vR 43 0), (1, vI x1), (2, vI (x2 + 0)), (3, vI (x3 + 1))] [] im lv) ∧
 ((im 50 0 (Int32.toNatClampNeg (5 * x3))) = x1 → zW x w 4 [(0, vR 43 0), (1, vI x1), (2, vI (x2 + 1)), (3, vI (x3 + 1))] [] im lv)))))) :
 zW x w 4 [(0, vR 43 0), (1, vI x1), (2, vI x2), (3, vI x3)] [] im lv := by
  refine zi_iload_n hO dX12_flightsOf_4 3 rfl ?_
  refine zi_aload_n hO dX12_flightsOf_5 0 rfl ?_
  refine zi_getI hO dX12_flightsOf_6 fX12_138 rfl rfl (zI (by decide)) ?_
  refine zi_icmp_ge (tgt := 38) hO dX12_flightsOf_9 (by decide) (fun c1 => ?_) (fun c1 => ?_)
  · have h := h.1 c1
    refine zi_iload_n hO dX12_flightsOf_38 2 rfl ?_
    exact zr_I hO hR rfl dX12_flightsOf_39 h
  · have h := h.2 c1
    refine zi_iload_n hO dX12_flightsOf_12 2 rfl ?_
    refine zi_aload_n hO dX12_flightsOf_13 0 rfl ?_
    refine zi_getR (r' := 50) (i' := 0) hO dX12_flightsOf_14 fX12_56 rfl rfl (zI (by decide)) rfl ?_
    refine zi_iconst (v := 5) hO dX12_flightsOf_17 (by decide) ?_
    refine zi_iload_n hO dX12_flightsOf_18 3 rfl ?_
    refine zi_imul hO dX12_flightsOf_19 ?_
    obtain ⟨s1, h⟩ := h
    refine zi_iald hO dX12_flightsOf_20 rfl (zI (by decide)) s1 ?_
    refine zi_iload_n hO dX12_flightsOf_21 1 rfl ?_
    refine zi_icmp_ne (tgt := 29) hO dX12_flightsOf_22 (by decide) (fun c2 => ?_) (fun c2 => ?_)
    · have h := h.1 c2
      refine zi_iconst (v := 0) hO dX12_flightsOf_29 (by decide) ?_
      refine zi_iadd hO dX12_flightsOf_30 ?_
      refine zi_istore_n (L' := [(0, vR 43 0), (1, vI x1), (2, vI (x2 + 0)), (3, vI x3)]) hO dX12_flightsOf_31 (by decide) rfl rfl ?_
      refine zi_iinc (v' := (x3 + 1)) (L' := [(0, vR 43 0), (1, vI x1), (2, vI (x2 + 0)), (3, vI (x3 + 1))]) hO dX12_flightsOf_32 3 rfl rfl (by decide) rfl rfl ?_
      refine zi_goto (tgt := 4) hO dX12_flightsOf_35 (by decide) ?_
      exact h
    · have h := h.2 c2
      refine zi_iconst (v := 1) hO dX12_flightsOf_25 (by decide) ?_
      refine zi_goto (tgt := 30) hO dX12_flightsOf_26 (by decide) ?_
      refine zi_iadd hO dX12_flightsOf_30 ?_
      refine zi_istore_n (L' := [(0, vR 43 0), (1, vI x1), (2, vI (x2 + 1)), (3, vI x3)]) hO dX12_flightsOf_31 (by decide) rfl rfl ?_
      refine zi_iinc (v' := (x3 + 1)) (L' := [(0, vR 43 0), (1, vI x1), (2, vI (x2 + 1)), (3, vI (x3 + 1))]) hO dX12_flightsOf_32 3 rfl rfl (by decide) rfl rfl ?_
      refine zi_goto (tgt := 4) hO dX12_flightsOf_35 (by decide) ?_
      exact h
theorem rX12_delaysOf_0 {x : zX} {w : zWd} {im : zMem} {lv : Int64} {P : Int32 → zMem → Int64 → Prop} {x1 : Int32} (hO : zOK x w zyX12_delaysOf 2) (hR : zRetI x w zyX12_delaysOf P) (hN : zN x 126 126)
 (h : zW x w 4 [(0, vR 43 0), (1, vI x1), (2, vI 0), (3, vI 0)] [] im lv) :
 zW x w 0 [(0, vR 43 0), (1, vI x1)] [] im lv := by
  refine zi_iconst (v := 0) hO dX12_delaysOf_0 (by decide) ?_
  refine zi_istore_n (L' := [(0, vR 43 0), (1, vI x1), (2, vI 0)]) hO dX12_delaysOf_1 (by decide) rfl rfl ?_
  refine zi_iconst (v := 0) hO dX12_delaysOf_2 (by decide) ?_
  refine zi_istore_n (L' := [(0, vR 43 0), (1, vI x1), (2, vI 0), (3, vI 0)]) hO dX12_delaysOf_3 (by decide) rfl rfl ?_
  exact h
theorem rX12_delaysOf_4 {x : zX} {w : zWd} {im : zMem} {lv : Int64} {P : Int32 → zMem → Int64 → Prop} {x1 : Int32} {x2 : Int32} {x3 : Int32} (hO : zOK x w zyX12_delaysOf 2) (hR : zRetI x w zyX12_delaysOf P) (hN : zN x 126 126)
 (h : (((im 43 0 10) ≤ x3 → P x2 im lv) ∧
 (¬ ((im 43 0 10) ≤ x3) → ((x1 < 0 → (vp_in x3 12 ∧ zW x w 4 [(0, vR 43 0), (1, vI x1), (2, vI (x2 + (im 54 0 (Int32.toNatClampNeg x3)))), (3, vI (x3 + 1))] [] im lv)) ∧
 (¬ (x1 < 0) → (vp_in (5 * x3) 60 ∧ ((¬ ((im 50 0 (Int32.toNatClampNeg (5 * x3))) = x1) → zW x w 4 [(0, vR 43 0), (1, vI x1), (2, vI (x2 + 0)), (3, vI (x3 + 1))] [] im lv) ∧
 ((im 50 0 (Int32.toNatClampNeg (5 * x3))) = x1 → (vp_in x3 12 ∧ zW x w 4 [(0, vR 43 0), (1, vI x1), (2, vI (x2 + (im 54 0 (Int32.toNatClampNeg x3)))), (3, vI (x3 + 1))] [] im lv))))))))) :
 zW x w 4 [(0, vR 43 0), (1, vI x1), (2, vI x2), (3, vI x3)] [] im lv := by
  refine zi_iload_n hO dX12_delaysOf_4 3 rfl ?_
  refine zi_aload_n hO dX12_delaysOf_5 0 rfl ?_
  refine zi_getI hO dX12_delaysOf_6 fX12_138 rfl rfl (zI (by decide)) ?_
  refine zi_icmp_ge (tgt := 47) hO dX12_delaysOf_9 (by decide) (fun c1 => ?_) (fun c1 => ?_)
  · have h := h.1 c1
    refine zi_iload_n hO dX12_delaysOf_47 2 rfl ?_
    exact zr_I hO hR rfl dX12_delaysOf_48 h
  · have h := h.2 c1
    refine zi_iload_n hO dX12_delaysOf_12 2 rfl ?_
    refine zi_iload_n hO dX12_delaysOf_13 1 rfl ?_
    refine zi_if_lt (tgt := 29) hO dX12_delaysOf_14 (by decide) (fun c2 => ?_) (fun c2 => ?_)
    · have h := h.1 c2
      refine zi_aload_n hO dX12_delaysOf_29 0 rfl ?_
      refine zi_getR (r' := 54) (i' := 0) hO dX12_delaysOf_30 fX12_68 rfl rfl (zI (by decide)) rfl ?_
      refine zi_iload_n hO dX12_delaysOf_33 3 rfl ?_
      obtain ⟨s1, h⟩ := h
      refine zi_iald hO dX12_delaysOf_34 rfl (zI (by decide)) s1 ?_
      refine zi_goto (tgt := 39) hO dX12_delaysOf_35 (by decide) ?_
      refine zi_iadd hO dX12_delaysOf_39 ?_
      refine zi_istore_n (L' := [(0, vR 43 0), (1, vI x1), (2, vI (x2 + (im 54 0 (Int32.toNatClampNeg x3)))), (3, vI x3)]) hO dX12_delaysOf_40 (by decide) rfl rfl ?_
      refine zi_iinc (v' := (x3 + 1)) (L' := [(0, vR 43 0), (1, vI x1), (2, vI (x2 + (im 54 0 (Int32.toNatClampNeg x3)))), (3, vI (x3 + 1))]) hO dX12_delaysOf_41 3 rfl rfl (by decide) rfl rfl ?_
      refine zi_goto (tgt := 4) hO dX12_delaysOf_44 (by decide) ?_
      exact h
    · have h := h.2 c2
      refine zi_aload_n hO dX12_delaysOf_17 0 rfl ?_
      refine zi_getR (r' := 50) (i' := 0) hO dX12_delaysOf_18 fX12_56 rfl rfl (zI (by decide)) rfl ?_
      refine zi_iconst (v := 5) hO dX12_delaysOf_21 (by decide) ?_
      refine zi_iload_n hO dX12_delaysOf_22 3 rfl ?_
      refine zi_imul hO dX12_delaysOf_23 ?_
      obtain ⟨s2, h⟩ := h
      refine zi_iald hO dX12_delaysOf_24 rfl (zI (by decide)) s2 ?_
      refine zi_iload_n hO dX12_delaysOf_25 1 rfl ?_
      refine zi_icmp_ne (tgt := 38) hO dX12_delaysOf_26 (by decide) (fun c3 => ?_) (fun c3 => ?_)
      · have h := h.1 c3
        refine zi_iconst (v := 0) hO dX12_delaysOf_38 (by decide) ?_
        refine zi_iadd hO dX12_delaysOf_39 ?_
        refine zi_istore_n (L' := [(0, vR 43 0), (1, vI x1), (2, vI (x2 + 0)), (3, vI x3)]) hO dX12_delaysOf_40 (by decide) rfl rfl ?_
        refine zi_iinc (v' := (x3 + 1)) (L' := [(0, vR 43 0), (1, vI x1), (2, vI (x2 + 0)), (3, vI (x3 + 1))]) hO dX12_delaysOf_41 3 rfl rfl (by decide) rfl rfl ?_
        refine zi_goto (tgt := 4) hO dX12_delaysOf_44 (by decide) ?_
        exact h
      · have h := h.2 c3
        refine zi_aload_n hO dX12_delaysOf_29 0 rfl ?_
        refine zi_getR (r' := 54) (i' := 0) hO dX12_delaysOf_30 fX12_68 rfl rfl (zI (by decide)) rfl ?_
        refine zi_iload_n hO dX12_delaysOf_33 3 rfl ?_
        obtain ⟨s3, h⟩ := h
        refine zi_iald hO dX12_delaysOf_34 rfl (zI (by decide)) s3 ?_
        refine zi_goto (tgt := 39) hO dX12_delaysOf_35 (by decide) ?_
        refine zi_iadd hO dX12_delaysOf_39 ?_
        refine zi_istore_n (L' := [(0, vR 43 0), (1, vI x1), (2, vI (x2 + (im 54 0 (Int32.toNatClampNeg x3)))), (3, vI x3)]) hO dX12_delaysOf_40 (by decide) rfl rfl ?_
        refine zi_iinc (v' := (x3 + 1)) (L' := [(0, vR 43 0), (1, vI x1), (2, vI (x2 + (im 54 0 (Int32.toNatClampNeg x3)))), (3, vI (x3 + 1))]) hO dX12_delaysOf_41 3 rfl rfl (by decide) rfl rfl ?_
        refine zi_goto (tgt := 4) hO dX12_delaysOf_44 (by decide) ?_
        exact h
theorem rX12_bits_0 {x : zX} {w : zWd} {im : zMem} {lv : Int64} {P : Int32 → zMem → Int64 → Prop} {x0 : Int32} (hO : zOK x w zyX12_bits 2) (hR : zRetI x w zyX12_bits P) (hN : zN x 126 126)
 (h : zW x w 4 [(0, vI x0), (1, vI 0), (2, vI 0)] [] im lv) :
 zW x w 0 [(0, vI x0)] [] im lv := by
  refine zi_iconst (v := 0) hO dX12_bits_0 (by decide) ?_
  refine zi_istore_n (L' := [(0, vI x0), (1, vI 0)]) hO dX12_bits_1 (by decide) rfl rfl ?_
  refine zi_iconst (v := 0) hO dX12_bits_2 (by decide) ?_
  refine zi_istore_n (L' := [(0, vI x0), (1, vI 0), (2, vI 0)]) hO dX12_bits_3 (by decide) rfl rfl ?_
  exact h
theorem rX12_bits_4 {x : zX} {w : zWd} {im : zMem} {lv : Int64} {P : Int32 → zMem → Int64 → Prop} {x0 : Int32} {x1 : Int32} {x2 : Int32} (hO : zOK x w zyX12_bits 2) (hR : zRetI x w zyX12_bits P) (hN : zN x 126 126)
 (h : ((12 ≤ x2 → P x1 im lv) ∧
 (¬ (12 ≤ x2) → zW x w 4 [(0, vI x0), (1, vI (x1 + ((x0 >>> (x2 &&& 31)) &&& 1))), (2, vI (x2 + 1))] [] im lv))) :
 zW x w 4 [(0, vI x0), (1, vI x1), (2, vI x2)] [] im lv := by
  refine zi_iload_n hO dX12_bits_4 2 rfl ?_
  refine zi_bipush (v := 12) hO dX12_bits_5 (by decide) ?_
  refine zi_icmp_ge (tgt := 24) hO dX12_bits_7 (by decide) (fun c1 => ?_) (fun c1 => ?_)
  · have h := h.1 c1
    refine zi_iload_n hO dX12_bits_24 1 rfl ?_
    exact zr_I hO hR rfl dX12_bits_25 h
  · have h := h.2 c1
    refine zi_iload_n hO dX12_bits_10 1 rfl ?_
    refine zi_iload_n hO dX12_bits_11 0 rfl ?_
    refine zi_iload_n hO dX12_bits_12 2 rfl ?_
    refine zi_ishr hO dX12_bits_13 ?_
    refine zi_iconst (v := 1) hO dX12_bits_14 (by decide) ?_
    refine zi_iand hO dX12_bits_15 ?_
    refine zi_iadd hO dX12_bits_16 ?_
    refine zi_istore_n (L' := [(0, vI x0), (1, vI (x1 + ((x0 >>> (x2 &&& 31)) &&& 1))), (2, vI x2)]) hO dX12_bits_17 (by decide) rfl rfl ?_
    refine zi_iinc (v' := (x2 + 1)) (L' := [(0, vI x0), (1, vI (x1 + ((x0 >>> (x2 &&& 31)) &&& 1))), (2, vI (x2 + 1))]) hO dX12_bits_18 2 rfl rfl (by decide) rfl rfl ?_
    refine zi_goto (tgt := 4) hO dX12_bits_21 (by decide) ?_
    exact h
def sfN (m : zMem) (r t : Nat) : Nat → Nat
  | 0 => 1000
  | w + 1 => if (if lok m / 2 ^ w % 2 = 1 then bearsW m r t w else 1000) < sfN m r t w then (if lok m / 2 ^ w % 2 = 1 then bearsW m r t w else 1000) else sfN m r t w
def safe (m : zMem) (r t : Nat) : Nat := sfN m r t 4
theorem sfN_le {m : zMem} {r t : Nat} : ∀ w, sfN m r t w ≤ 1000
  | 0 => Nat.le_refl _
  | w + 1 => by
    have := sfN_le (m := m) (r := r) (t := t) w
    rw [sfN]
    generalize (if lok m / 2 ^ w % 2 = 1 then bearsW m r t w else 1000) = b
    split <;> omega
theorem sfN_bit {m : zMem} {r t : Nat} : ∀ {w n : Nat}, w < n → lok m / 2 ^ w % 2 = 1 → sfN m r t n ≤ bearsW m r t w
  | w, 0, h, _ => by omega
  | w, n + 1, h, hb => by
    rw [sfN]
    by_cases hn : w = n
    · subst hn
      rw [if_pos hb]
      split <;> omega
    · have := sfN_bit (m := m) (r := r) (t := t) (show w < n by omega) hb
      generalize (if lok m / 2 ^ n % 2 = 1 then bearsW m r t n else 1000) = b
      split <;> omega
theorem lok_bit : ∀ L, L < 16 → 1 ≤ L → ∃ w, w < 4 ∧ L / 2 ^ w % 2 = 1 := by decide +kernel
theorem bearsW_le {m : zMem} (hW : WF m) {r t w : Nat} (hr : r < 8) (ht : t < 48) : bearsW m r t w ≤ 99 := bwN_le hW hr ht _ (Nat.le_refl _)
theorem safe_le {m : zMem} (hW : WF m) {r t : Nat} (hr : r < 8) (ht : t < 48) : safe m r t ≤ 99 := by
  obtain ⟨w, h1, h2⟩ := lok_bit (lok m) (by have := hW.2.2.2.2.2.2.2.2; omega) hW.2.2.2.2.2.2.2.1
  exact Nat.le_trans (sfN_bit h1 h2) (bearsW_le hW hr ht)
theorem C_X12_safeOf (l : Launch) (w : zWd) {m im : zMem} (lv : Int64) (hW : WF m) (hM : RM m im) {r t : Nat} (hr : r < 8) (ht : t < 48) : zSpecI l w 3 zyX12_safeOf [vR 43 0, vI (nI r), vI (nI t)] im lv (fun a im' lv' => a = nI (safe m r t) ∧ im' = im ∧ lv' = lv) := by
  refine ze_I (by decide) (Nat.le_of_ble_eq_true rfl) (fun x hO hR hN => rX12_safeOf_0 hO hR hN ?_)
  have e7 := hM.2.1
  have h15 := hW.2.2.2.2.2.2.2.2
  have key : ∀ n k, n + k = 4 → zW x w 7 [(0, vR 43 0), (1, vI (nI r)), (2, vI (nI t)), (3, vI (nI (sfN m r t k))), (4, vI (nI k))] [] im lv := by
    intro n
    induction n with
    | zero =>
      intro k hk
      have : k = 4 := by omega
      subst this
      exact rX12_safeOf_7 hO hR hN ⟨fun _ => ⟨rfl, rfl, rfl⟩, fun q => absurd (by decide) q⟩
    | succ n ih =>
      intro k hk
      refine rX12_safeOf_7 hO hR hN ?_
      have ih := ih (k + 1) (by omega)
      rw [sfN] at ih
      have hb := bearsW_le hW (w := k) hr ht
      have hs := sfN_le (m := m) (r := r) (t := t) k
      rw [e7, hW.2.2.2.2.2.2.1, zbit (by omega) (by omega)]
      simp (disch := omega) only [zlit, nI_add, nI_leI, nI_eq]
      refine ⟨fun q => by omega, fun _ => ⟨fun q => ?_, fun q => ⟨_, C_X12_bearsIn _ _ _ hW hM hr ht (by omega), ?_⟩⟩⟩
      · rw [if_neg q] at ih
        rw [if_neg (by omega)] at ih
        exact ⟨fun _ => ih, fun q2 => by omega⟩
      · rintro _ _ _ ⟨rfl, rfl, rfl⟩
        rw [if_pos q] at ih
        simp (disch := omega) only [nI_leI]
        refine ⟨fun q2 => ?_, fun q2 => ?_⟩
        · rw [if_neg (by omega)] at ih; exact ih
        · rw [if_pos (by omega)] at ih; exact ih
  exact key 4 0 rfl
def ldN (m : zMem) (r t : Nat) : Nat → Nat
  | 0 => 0
  | f + 1 => ldN m r t f + if room m f (way m f) (dly m f) t = some r then wgt m f else 0
def load (m : zMem) (r t : Nat) : Nat := ldN m r t (nfl m)
theorem ldN_le {m : zMem} (hW : WF m) {r t : Nat} : ∀ f, f ≤ nfl m → ldN m r t f ≤ 9 * f
  | 0, _ => Nat.le_refl _
  | f + 1, h => by
    have := ldN_le hW (r := r) (t := t) f (by omega)
    have := (hW.2.1 f (by omega)).2.1.2.2
    rw [ldN]
    split <;> omega
theorem load_le {m : zMem} (hW : WF m) {r t : Nat} : load m r t ≤ 108 := by
  have := ldN_le hW (r := r) (t := t) _ (Nat.le_refl _)
  have := hW.1.2
  unfold load
  omega
theorem C_X12_loadOf (l : Launch) (w : zWd) {m im : zMem} (lv : Int64) (hW : WF m) (hM : RM m im) {r t : Nat} (hr : r < 8) (ht : t < 48) : zSpecI l w 3 zyX12_loadOf [vR 43 0, vI (nI r), vI (nI t)] im lv (fun a im' lv' => a = nI (load m r t) ∧ im' = im ∧ lv' = lv) := by
  refine ze_I (by decide) (Nat.le_of_ble_eq_true rfl) (fun x hO hR hN => rX12_loadOf_0 hO hR hN ?_)
  have e10 := hM.2.2.2
  have e50 := hM.1 50 (by decide) (by decide)
  have e53 := hM.1 53 (by decide) (by decide)
  have e54 := hM.1 54 (by decide) (by decide)
  have h12 := hW.1.2
  have key : ∀ n k, n + k = nfl m → zW x w 5 [(0, vR 43 0), (1, vI (nI r)), (2, vI (nI t)), (3, vI (nI (ldN m r t k))), (4, vI (nI k))] [] im lv := by
    intro n
    induction n with
    | zero =>
      intro k hk
      have : k = nfl m := by omega
      subst this
      refine rX12_loadOf_5 hO hR hN ?_
      rw [e10, hW.1.1]
      exact ⟨fun _ => ⟨rfl, rfl, rfl⟩, fun q => absurd (by simp) q⟩
    | succ n ih =>
      intro k hk
      have hk2 : k < nfl m := by omega
      have hF := hW.2.1 k hk2
      have ih := ih (k + 1) (by omega)
      rw [ldN] at ih
      refine rX12_loadOf_5 hO hR hN ?_
      obtain ⟨-, f1, -, -, f4, f5, f6, -⟩ := hF
      simp (disch := omega) only [zlit, nI_add, pk_mul, nI_clamp, nI_leI, e10, hW.1.1, e50, e53, e54, f1.1, f5.1, f6.1]
      refine ⟨fun q => by omega, fun _ => ⟨vp_in_nI (by omega) (by decide), _, C_X12_roomBy _ _ _ hW hM hk2 (by omega) (by omega) (by omega), ?_⟩⟩
      rintro _ _ _ ⟨rfl, rfl, rfl⟩
      rw [zOp_some (by omega) (fun r' h' => by have := room_lt hW hk2 (by omega) h'; omega)]
      refine ⟨fun q => ?_, fun q => ⟨vp_in_nI (by omega) (by decide), ?_⟩⟩
      · rw [if_neg q] at ih; exact ih
      · rw [if_pos q] at ih
        simp (disch := omega) only [e50, f1.1, nI_add]
        exact ih
  exact key (nfl m) 0 (by omega)
def over (m : zMem) (r t : Nat) : Nat := load m r t - safe m r t
theorem C_X12_overOf (l : Launch) (w : zWd) {m im : zMem} (lv : Int64) (hW : WF m) (hM : RM m im) {r t : Nat} (hr : r < 8) (ht : t < 48) : zSpecI l w 4 zyX12_overOf [vR 43 0, vI (nI r), vI (nI t)] im lv (fun a im' lv' => a = nI (over m r t) ∧ im' = im ∧ lv' = lv) := by
  refine ze_I (by decide) (Nat.le_of_ble_eq_true rfl) (fun x hO hR hN => rX12_overOf_0 hO hR hN ⟨_, C_X12_loadOf _ _ _ hW hM hr ht, ?_⟩)
  rintro _ _ _ ⟨rfl, rfl, rfl⟩
  refine ⟨_, C_X12_safeOf _ _ _ hW hM hr ht, ?_⟩
  rintro _ _ _ ⟨rfl, rfl, rfl⟩
  have h1 := load_le hW (r := r) (t := t)
  have h2 := safe_le hW hr ht
  unfold over
  by_cases h : safe m r t ≤ load m r t
  · rw [pk_sub h]
    exact ⟨fun _ => ⟨rfl, rfl, rfl⟩, fun q => absurd (nI_pos' (by omega)) q⟩
  · have h3 := pk_sneg (a := load m r t) (b := safe m r t) (by omega) (by omega)
    refine ⟨fun q => ?_, fun _ => ⟨?_, rfl, rfl⟩⟩
    · exfalso
      rw [Int32.lt_iff_toInt_lt] at h3
      rw [Int32.le_iff_toInt_le] at q
      omega
    · rw [Nat.sub_eq_zero_of_le (by omega)]; rfl
def oaN (m : zMem) : Nat → Nat
  | 0 => 0
  | k + 1 => oaN m k + over m (k / 48) (k % 48)
def overAll (m : zMem) : Nat := oaN m 384
theorem C_X12_overAll (l : Launch) (w : zWd) {m im : zMem} (lv : Int64) (hW : WF m) (hM : RM m im) : zSpecI l w 5 zyX12_overAll [vR 43 0] im lv (fun a im' lv' => a = nI (overAll m) ∧ im' = im ∧ lv' = lv) := by
  refine ze_I (by decide) (Nat.le_of_ble_eq_true rfl) (fun x hO hR hN => rX12_overAll_0 hO hR hN ?_)
  have key : ∀ n k, n + k = 384 → zW x w 4 [(0, vR 43 0), (1, vI (nI (oaN m k))), (2, vI (nI k))] [] im lv := by
    intro n
    induction n with
    | zero =>
      intro k hk
      have : k = 384 := by omega
      subst this
      exact rX12_overAll_4 hO hR hN ⟨fun _ => ⟨rfl, rfl, rfl⟩, fun q => absurd (by decide) q⟩
    | succ n ih =>
      intro k hk
      refine rX12_overAll_4 hO hR hN ?_
      have ih := ih (k + 1) (by omega)
      rw [oaN] at ih
      have e1 : nI k / 48 = nI (k / 48) := pk_div (d := 48) (by omega) (by omega) (by omega)
      have e2 : nI k - nI k / 48 * 48 = nI (k % 48) := pk_rem (d := 48) (by omega) (by omega) (by omega)
      rw [e2, e1]
      simp (disch := omega) only [zlit, nI_add, nI_leI]
      refine ⟨fun q => by omega, fun _ => ⟨_, C_X12_overOf _ _ _ hW hM (by omega) (by omega), ?_⟩⟩
      rintro _ _ _ ⟨rfl, rfl, rfl⟩
      rw [nI_add]
      exact ih
  exact key 384 0 rfl
def foN (m : zMem) (a : Nat) : Nat → Nat
  | 0 => 0
  | f + 1 => foN m a f + if own m f = a then 1 else 0
def flOf (m : zMem) (a : Nat) : Nat := foN m a (nfl m)
theorem C_X12_flightsOf (l : Launch) (w : zWd) {m im : zMem} (lv : Int64) (hW : WF m) (hM : RM m im) {a : Nat} (ha : a < 4) : zSpecI l w 2 zyX12_flightsOf [vR 43 0, vI (nI a)] im lv (fun v im' lv' => v = nI (flOf m a) ∧ im' = im ∧ lv' = lv) := by
  refine ze_I (by decide) (Nat.le_of_ble_eq_true rfl) (fun x hO hR hN => rX12_flightsOf_0 hO hR hN ?_)
  have e10 := hM.2.2.2
  have e50 := hM.1 50 (by decide) (by decide)
  have h12 := hW.1.2
  have key : ∀ n k, n + k = nfl m → zW x w 4 [(0, vR 43 0), (1, vI (nI a)), (2, vI (nI (foN m a k))), (3, vI (nI k))] [] im lv := by
    intro n
    induction n with
    | zero =>
      intro k hk
      have : k = nfl m := by omega
      subst this
      refine rX12_flightsOf_4 hO hR hN ?_
      rw [e10, hW.1.1]
      exact ⟨fun _ => ⟨rfl, rfl, rfl⟩, fun q => absurd (by simp) q⟩
    | succ n ih =>
      intro k hk
      have hk2 : k < nfl m := by omega
      obtain ⟨f0, -⟩ := hW.2.1 k hk2
      have ih := ih (k + 1) (by omega)
      rw [foN] at ih
      refine rX12_flightsOf_4 hO hR hN ?_
      simp (disch := omega) only [zlit, nI_add, pk_mul, nI_clamp, nI_leI, nI_eq, e10, hW.1.1, e50, f0.1]
      refine ⟨fun q => by omega, fun _ => ⟨vp_in_nI (by omega) (by decide), fun q => ?_, fun q => ?_⟩⟩
      · rw [if_neg q] at ih; exact ih
      · rw [if_pos q] at ih; exact ih
  exact key (nfl m) 0 (by omega)
/-- delays of an airline; of all (a = none) -/
def doN (m : zMem) (a : Option Nat) : Nat → Nat
  | 0 => 0
  | f + 1 => doN m a f + if a = none ∨ a = some (own m f) then dly m f else 0
def dlOf (m : zMem) (a : Option Nat) : Nat := doN m a (nfl m)
theorem C_X12_delaysOf (l : Launch) (w : zWd) {m im : zMem} (lv : Int64) (hW : WF m) (hM : RM m im) {a : Option Nat} (ha : ∀ k, a = some k → k < 4) {x1 : Int32} (hx1 : x1 = match a with | none => -1 | some k => nI k) : zSpecI l w 2 zyX12_delaysOf [vR 43 0, vI x1] im lv (fun v im' lv' => v = nI (dlOf m a) ∧ im' = im ∧ lv' = lv) := by
  refine ze_I (by decide) (Nat.le_of_ble_eq_true rfl) (fun x hO hR hN => rX12_delaysOf_0 hO hR hN ?_)
  have e10 := hM.2.2.2
  have e50 := hM.1 50 (by decide) (by decide)
  have e54 := hM.1 54 (by decide) (by decide)
  have h12 := hW.1.2
  have key : ∀ n k, n + k = nfl m → zW x w 4 [(0, vR 43 0), (1, vI x1), (2, vI (nI (doN m a k))), (3, vI (nI k))] [] im lv := by
    intro n
    induction n with
    | zero =>
      intro k hk
      have : k = nfl m := by omega
      subst this
      refine rX12_delaysOf_4 hO hR hN ?_
      rw [e10, hW.1.1]
      exact ⟨fun _ => ⟨rfl, rfl, rfl⟩, fun q => absurd (by simp) q⟩
    | succ n ih =>
      intro k hk
      have hk2 : k < nfl m := by omega
      obtain ⟨f0, -, -, -, -, -, f6, -⟩ := hW.2.1 k hk2
      have ih := ih (k + 1) (by omega)
      rw [doN] at ih
      refine rX12_delaysOf_4 hO hR hN ?_
      have v1 : vp_in (nI k) 12 := vp_in_nI (by omega) (by decide)
      have v2 : vp_in (nI (5 * k)) 60 := vp_in_nI (by omega) (by decide)
      cases a with
      | none =>
        simp only at hx1
        subst hx1
        rw [if_pos (Or.inl rfl)] at ih
        simp (disch := omega) only [zlit, nI_add, pk_mul, nI_clamp, nI_leI, nI_eq, e10, hW.1.1, e50, e54, f0.1, f6.1]
        exact ⟨fun q => by omega, fun _ => ⟨fun _ => ⟨v1, ih⟩, fun q => absurd (by decide) q⟩⟩
      | some j =>
        simp only at hx1
        subst hx1
        have hj := ha j rfl
        simp (disch := omega) only [zlit, nI_add, pk_mul, nI_clamp, nI_leI, nI_ltI, nI_eq, e10, hW.1.1, e50, e54, f0.1, f6.1]
        refine ⟨fun q => by omega, fun _ => ⟨fun q => by omega, fun _ => ⟨v2, fun q => ?_, fun q => ⟨v1, ?_⟩⟩⟩⟩
        · rw [if_neg (by simp; omega)] at ih; exact ih
        · rw [if_pos (Or.inr (by rw [q]))] at ih; exact ih
  exact key (nfl m) 0 (by omega)
def btN (s : Nat) : Nat → Nat
  | 0 => 0
  | k + 1 => btN s k + s / 2 ^ k % 2
theorem C_X12_bits (l : Launch) (w : zWd) {im : zMem} (lv : Int64) {s : Nat} (hs : s < 2 ^ 31) : zSpecI l w 2 zyX12_bits [vI (nI s)] im lv (fun v im' lv' => v = nI (btN s 12) ∧ im' = im ∧ lv' = lv) := by
  refine ze_I (by decide) (Nat.le_of_ble_eq_true rfl) (fun x hO hR hN => rX12_bits_0 hO hR hN ?_)
  have key : ∀ n k, n + k = 12 → zW x w 4 [(0, vI (nI s)), (1, vI (nI (btN s k))), (2, vI (nI k))] [] im lv := by
    intro n
    induction n with
    | zero =>
      intro k hk
      have : k = 12 := by omega
      subst this
      exact rX12_bits_4 hO hR hN ⟨fun _ => ⟨rfl, rfl, rfl⟩, fun q => absurd (by decide) q⟩
    | succ n ih =>
      intro k hk
      have ih := ih (k + 1) (by omega)
      rw [btN] at ih
      refine rX12_bits_4 hO hR hN ?_
      rw [zbit hs (by omega)]
      simp (disch := omega) only [zlit, nI_add, nI_leI]
      exact ⟨fun q => by omega, fun _ => ih⟩
  exact key 12 0 rfl
