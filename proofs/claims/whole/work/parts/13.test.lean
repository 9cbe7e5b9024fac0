theorem zsw_out {a L H : Int32} {lo hi : Int} (h1 : L.toInt = lo) (h2 : H.toInt = hi) (h : a.toInt < lo ∨ hi < a.toInt) : a < L ∨ H < a := by
  rw [Int32.lt_iff_toInt_lt, Int32.lt_iff_toInt_lt, h1, h2]
  exact h
theorem zsw_lo {a v : Int32} {lo : Int} (h : a = v) (hv : ¬ v.toInt < lo) : ¬ a.toInt < lo := h ▸ hv
theorem zsw_hi {a v : Int32} {hi : Int} (h : a = v) (hv : ¬ hi < v.toInt) : ¬ hi < a.toInt := h ▸ hv
theorem zsw_at {a v : Int32} {offs : Array Int} {lo off : Int} (h : a = v) (hv : offs[(v.toInt - lo).toNat]? = some off) : offs[(a.toInt - lo).toNat]? = some off := h ▸ hv
theorem zsw_ne {a v : Int32} {k : Int} (h : ¬ a = v) (hv : v.toInt = k) : ¬ a.toInt = k := fun q => h (Int32.toInt_inj.mp (q.trans hv.symm))
theorem rX12_loadOf_0 {x : zX} {w : zWd} {im : zMem} {lv : Int64} {P : Int32 → zMem → Int64 → Prop} {x1 : Int32} {x2 : Int32} (hO : zOK x w zyX12_loadOf 3) (hR : zRetI x w zyX12_loadOf P) (hN : zN x 126 126)
 (h : zW x w 5 [(0, vR 43 0), (1, vI x1), (2, vI x2), (3, vI 0), (4, vI 0)] [] im lv) :
 zW x w 0 [(0, vR 43 0), (1, vI x1), (2, vI x2)] [] im lv := by
  refine zi_iconst (v := 0) hO dX12_loadOf_0 (by decide) ?_
  refine zi_istore_n (L' := [(0, vR 43 0), (1, vI x1), (2, vI x2), (3, vI 0)]) hO dX12_loadOf_1 (by decide) rfl rfl ?_
  refine zi_iconst (v := 0) hO dX12_loadOf_2 (by decide) ?_
  refine zi_istore (L' := [(0, vR 43 0), (1, vI x1), (2, vI x2), (3, vI 0), (4, vI 0)]) hO dX12_loadOf_3 (by decide) rfl rfl ?_
  exact h
theorem rX12_loadOf_5 {x : zX} {w : zWd} {im : zMem} {lv : Int64} {P : Int32 → zMem → Int64 → Prop} {x1 : Int32} {x2 : Int32} {x3 : Int32} {x4 : Int32} (hO : zOK x w zyX12_loadOf 3) (hR : zRetI x w zyX12_loadOf P) (hN : zN x 126 126)
 (h : (((im 43 0 10) ≤ x4 → P x3 im lv) ∧
 (¬ ((im 43 0 10) ≤ x4) → (vp_in x4 12 ∧ (∃ P2 : Int32 → zMem → Int64 → Prop, zSpecI x.2.1 w 2 zyX12_roomBy [vR 43 0, vI x4, vI (im 53 0 (Int32.toNatClampNeg x4)), vI (im 54 0 (Int32.toNatClampNeg x4)), vI x2] im lv P2 ∧ ∀ (v2 : Int32) (im2 : zMem) (lv2 : Int64), P2 v2 im2 lv2 → ((¬ (v2 = x1) → zW x w 5 [(0, vR 43 0), (1, vI x1), (2, vI x2), (3, vI (x3 + 0)), (4, vI (x4 + 1))] [] im2 lv2) ∧
 (v2 = x1 → (vp_in ((5 * x4) + 1) 60 ∧ zW x w 5 [(0, vR 43 0), (1, vI x1), (2, vI x2), (3, vI (x3 + (im2 50 0 (Int32.toNatClampNeg ((5 * x4) + 1))))), (4, vI (x4 + 1))] [] im2 lv2)))))))) :
 zW x w 5 [(0, vR 43 0), (1, vI x1), (2, vI x2), (3, vI x3), (4, vI x4)] [] im lv := by
  refine zi_iload hO dX12_loadOf_5 4 rfl ?_
  refine zi_aload_n hO dX12_loadOf_7 0 rfl ?_
  refine zi_getI hO dX12_loadOf_8 fX12_138 rfl rfl (zI (by decide)) ?_
  refine zi_icmp_ge (tgt := 63) hO dX12_loadOf_11 (by decide) (fun c1 => ?_) (fun c1 => ?_)
  · have h := h.1 c1
    refine zi_iload_n hO dX12_loadOf_63 3 rfl ?_
    exact zr_I hO hR rfl dX12_loadOf_64 h
  · have h := h.2 c1
    refine zi_iload_n hO dX12_loadOf_14 3 rfl ?_
    refine zi_aload_n hO dX12_loadOf_15 0 rfl ?_
    refine zi_iload hO dX12_loadOf_16 4 rfl ?_
    refine zi_aload_n hO dX12_loadOf_18 0 rfl ?_
    refine zi_getR (r' := 53) (i' := 0) hO dX12_loadOf_19 fX12_65 rfl rfl (zI (by decide)) rfl ?_
    refine zi_iload hO dX12_loadOf_22 4 rfl ?_
    obtain ⟨s1, h⟩ := h
    refine zi_iald hO dX12_loadOf_24 rfl (zI (by decide)) s1 ?_
    refine zi_aload_n hO dX12_loadOf_25 0 rfl ?_
    refine zi_getR (r' := 54) (i' := 0) hO dX12_loadOf_26 fX12_68 rfl rfl (zI (by decide)) rfl ?_
    refine zi_iload hO dX12_loadOf_29 4 rfl ?_
    refine zi_iald hO dX12_loadOf_31 rfl (zI (by decide)) s1 ?_
    refine zi_iload_n hO dX12_loadOf_32 2 rfl ?_
    obtain ⟨P2, hM2, h⟩ := h
    refine zc_VI (as := [vI x4, vI (im 53 0 (Int32.toNatClampNeg x4)), vI (im 54 0 (Int32.toNatClampNeg x4)), vI x2]) hO hN dX12_loadOf_33 kX12_241 (by decide) rfl (zI (by decide)) rfl rfl (Nat.le_of_ble_eq_true rfl) rfl rfl hM2 (fun v2 im2 lv2 hp2 => ?_)
    replace h := h v2 im2 lv2 hp2
    refine zi_iload_n hO dX12_loadOf_36 1 rfl ?_
    refine zi_icmp_ne (tgt := 54) hO dX12_loadOf_37 (by decide) (fun c2 => ?_) (fun c2 => ?_)
    · have h := h.1 c2
      refine zi_iconst (v := 0) hO dX12_loadOf_54 (by decide) ?_
      refine zi_iadd hO dX12_loadOf_55 ?_
      refine zi_istore_n (L' := [(0, vR 43 0), (1, vI x1), (2, vI x2), (3, vI (x3 + 0)), (4, vI x4)]) hO dX12_loadOf_56 (by decide) rfl rfl ?_
      refine zi_iinc (v' := (x4 + 1)) (L' := [(0, vR 43 0), (1, vI x1), (2, vI x2), (3, vI (x3 + 0)), (4, vI (x4 + 1))]) hO dX12_loadOf_57 4 rfl rfl (by decide) rfl rfl ?_
      refine zi_goto (tgt := 5) hO dX12_loadOf_60 (by decide) ?_
      exact h
    · have h := h.2 c2
      refine zi_aload_n hO dX12_loadOf_40 0 rfl ?_
      refine zi_getR (r' := 50) (i' := 0) hO dX12_loadOf_41 fX12_56 rfl rfl (zI (by decide)) rfl ?_
      refine zi_iconst (v := 5) hO dX12_loadOf_44 (by decide) ?_
      refine zi_iload hO dX12_loadOf_45 4 rfl ?_
      refine zi_imul hO dX12_loadOf_47 ?_
      refine zi_iconst (v := 1) hO dX12_loadOf_48 (by decide) ?_
      refine zi_iadd hO dX12_loadOf_49 ?_
      obtain ⟨s3, h⟩ := h
      refine zi_iald hO dX12_loadOf_50 rfl (zI (by decide)) s3 ?_
      refine zi_goto (tgt := 55) hO dX12_loadOf_51 (by decide) ?_
      refine zi_iadd hO dX12_loadOf_55 ?_
      refine zi_istore_n (L' := [(0, vR 43 0), (1, vI x1), (2, vI x2), (3, vI (x3 + (im2 50 0 (Int32.toNatClampNeg ((5 * x4) + 1))))), (4, vI x4)]) hO dX12_loadOf_56 (by decide) rfl rfl ?_
      refine zi_iinc (v' := (x4 + 1)) (L' := [(0, vR 43 0), (1, vI x1), (2, vI x2), (3, vI (x3 + (im2 50 0 (Int32.toNatClampNeg ((5 * x4) + 1))))), (4, vI (x4 + 1))]) hO dX12_loadOf_57 4 rfl rfl (by decide) rfl rfl ?_
      refine zi_goto (tgt := 5) hO dX12_loadOf_60 (by decide) ?_
      exact h
theorem rX12_roomBy_0 {x : zX} {w : zWd} {im : zMem} {lv : Int64} {P : Int32 → zMem → Int64 → Prop} {x1 : Int32} {x2 : Int32} {x3 : Int32} {x4 : Int32} (hO : zOK x w zyX12_roomBy 2) (hR : zRetI x w zyX12_roomBy P) (hN : zN x 126 126)
 (h : (vp_in ((5 * x1) + 2) 60 ∧ zW x w 17 [(0, vR 43 0), (1, vI x1), (2, vI x2), (3, vI x3), (4, vI x4), (5, vI ((im 50 0 (Int32.toNatClampNeg ((5 * x1) + 2))) + x3)), (6, vI 0)] [] im lv)) :
 zW x w 0 [(0, vR 43 0), (1, vI x1), (2, vI x2), (3, vI x3), (4, vI x4)] [] im lv := by
  refine zi_aload_n hO dX12_roomBy_0 0 rfl ?_
  refine zi_getR (r' := 50) (i' := 0) hO dX12_roomBy_1 fX12_56 rfl rfl (zI (by decide)) rfl ?_
  refine zi_iconst (v := 5) hO dX12_roomBy_4 (by decide) ?_
  refine zi_iload_n hO dX12_roomBy_5 1 rfl ?_
  refine zi_imul hO dX12_roomBy_6 ?_
  refine zi_iconst (v := 2) hO dX12_roomBy_7 (by decide) ?_
  refine zi_iadd hO dX12_roomBy_8 ?_
  obtain ⟨s1, h⟩ := h
  refine zi_iald hO dX12_roomBy_9 rfl (zI (by decide)) s1 ?_
  refine zi_iload_n hO dX12_roomBy_10 3 rfl ?_
  refine zi_iadd hO dX12_roomBy_11 ?_
  refine zi_istore (L' := [(0, vR 43 0), (1, vI x1), (2, vI x2), (3, vI x3), (4, vI x4), (5, vI ((im 50 0 (Int32.toNatClampNeg ((5 * x1) + 2))) + x3))]) hO dX12_roomBy_12 (by decide) rfl rfl ?_
  refine zi_iconst (v := 0) hO dX12_roomBy_14 (by decide) ?_
  refine zi_istore (L' := [(0, vR 43 0), (1, vI x1), (2, vI x2), (3, vI x3), (4, vI x4), (5, vI ((im 50 0 (Int32.toNatClampNeg ((5 * x1) + 2))) + x3)), (6, vI 0)]) hO dX12_roomBy_15 (by decide) rfl rfl ?_
  exact h
theorem rX12_roomBy_17 {x : zX} {w : zWd} {im : zMem} {lv : Int64} {P : Int32 → zMem → Int64 → Prop} {x1 : Int32} {x2 : Int32} {x3 : Int32} {x4 : Int32} {x5 : Int32} {x6 : Int32} (hO : zOK x w zyX12_roomBy 2) (hR : zRetI x w zyX12_roomBy P) (hN : zN x 126 126)
 (h : ((5 ≤ x6 → P (-1000000) im lv) ∧
 (¬ (5 ≤ x6) → (vp_in (((15 * x1) + (5 * x2)) + x6) 180 ∧ ((x4 < x5 → zW x w 17 [(0, vR 43 0), (1, vI x1), (2, vI x2), (3, vI x3), (4, vI x4), (5, vI (x5 + (im 52 0 (Int32.toNatClampNeg (((15 * x1) + (5 * x2)) + x6))))), (6, vI (x6 + 1))] [] im lv) ∧
 (¬ (x4 < x5) → (((x5 + (im 52 0 (Int32.toNatClampNeg (((15 * x1) + (5 * x2)) + x6)))) ≤ x4 → zW x w 17 [(0, vR 43 0), (1, vI x1), (2, vI x2), (3, vI x3), (4, vI x4), (5, vI (x5 + (im 52 0 (Int32.toNatClampNeg (((15 * x1) + (5 * x2)) + x6))))), (6, vI (x6 + 1))] [] im lv) ∧
 (¬ ((x5 + (im 52 0 (Int32.toNatClampNeg (((15 * x1) + (5 * x2)) + x6)))) ≤ x4) → P (im 51 0 (Int32.toNatClampNeg (((15 * x1) + (5 * x2)) + x6))) im lv)))))))) :
 zW x w 17 [(0, vR 43 0), (1, vI x1), (2, vI x2), (3, vI x3), (4, vI x4), (5, vI x5), (6, vI x6)] [] im lv := by
  refine zi_iload hO dX12_roomBy_17 6 rfl ?_
  refine zi_iconst (v := 5) hO dX12_roomBy_19 (by decide) ?_
  refine zi_icmp_ge (tgt := 85) hO dX12_roomBy_20 (by decide) (fun c1 => ?_) (fun c1 => ?_)
  · have h := h.1 c1
    refine zi_ldc (v := (-1000000)) hO dX12_roomBy_85 nX12_131 ?_
    exact zr_I hO hR rfl dX12_roomBy_87 h
  · have h := h.2 c1
    refine zi_iload hO dX12_roomBy_23 5 rfl ?_
    refine zi_aload_n hO dX12_roomBy_25 0 rfl ?_
    refine zi_getR (r' := 52) (i' := 0) hO dX12_roomBy_26 fX12_62 rfl rfl (zI (by decide)) rfl ?_
    refine zi_bipush (v := 15) hO dX12_roomBy_29 (by decide) ?_
    refine zi_iload_n hO dX12_roomBy_31 1 rfl ?_
    refine zi_imul hO dX12_roomBy_32 ?_
    refine zi_iconst (v := 5) hO dX12_roomBy_33 (by decide) ?_
    refine zi_iload_n hO dX12_roomBy_34 2 rfl ?_
    refine zi_imul hO dX12_roomBy_35 ?_
    refine zi_iadd hO dX12_roomBy_36 ?_
    refine zi_iload hO dX12_roomBy_37 6 rfl ?_
    refine zi_iadd hO dX12_roomBy_39 ?_
    obtain ⟨s1, h⟩ := h
    refine zi_iald hO dX12_roomBy_40 rfl (zI (by decide)) s1 ?_
    refine zi_iadd hO dX12_roomBy_41 ?_
    refine zi_istore (L' := [(0, vR 43 0), (1, vI x1), (2, vI x2), (3, vI x3), (4, vI x4), (5, vI x5), (6, vI x6), (7, vI (x5 + (im 52 0 (Int32.toNatClampNeg (((15 * x1) + (5 * x2)) + x6)))))]) hO dX12_roomBy_42 (by decide) rfl rfl ?_
    refine zi_iload hO dX12_roomBy_44 4 rfl ?_
    refine zi_iload hO dX12_roomBy_46 5 rfl ?_
    refine zi_icmp_lt (tgt := 75) hO dX12_roomBy_48 (by decide) (fun c2 => ?_) (fun c2 => ?_)
    · have h := h.1 c2
      refine zi_iload hO dX12_roomBy_75 7 rfl ?_
      refine zi_istore (L' := [(0, vR 43 0), (1, vI x1), (2, vI x2), (3, vI x3), (4, vI x4), (5, vI (x5 + (im 52 0 (Int32.toNatClampNeg (((15 * x1) + (5 * x2)) + x6))))), (6, vI x6), (7, vI (x5 + (im 52 0 (Int32.toNatClampNeg (((15 * x1) + (5 * x2)) + x6)))))]) hO dX12_roomBy_77 (by decide) rfl rfl ?_
      refine zi_iinc (v' := (x6 + 1)) (L' := [(0, vR 43 0), (1, vI x1), (2, vI x2), (3, vI x3), (4, vI x4), (5, vI (x5 + (im 52 0 (Int32.toNatClampNeg (((15 * x1) + (5 * x2)) + x6))))), (6, vI (x6 + 1)), (7, vI (x5 + (im 52 0 (Int32.toNatClampNeg (((15 * x1) + (5 * x2)) + x6)))))]) hO dX12_roomBy_79 6 rfl rfl (by decide) rfl rfl ?_
      refine zi_goto (tgt := 17) hO dX12_roomBy_82 (by decide) ?_
      refine zi_pick (L' := [(0, vR 43 0), (1, vI x1), (2, vI x2), (3, vI x3), (4, vI x4), (5, vI (x5 + (im 52 0 (Int32.toNatClampNeg (((15 * x1) + (5 * x2)) + x6))))), (6, vI (x6 + 1))]) [0, 1, 2, 3, 4, 5, 6] rfl ?_
      exact h
    · have h := h.2 c2
      refine zi_iload hO dX12_roomBy_51 4 rfl ?_
      refine zi_iload hO dX12_roomBy_53 7 rfl ?_
      refine zi_icmp_ge (tgt := 75) hO dX12_roomBy_55 (by decide) (fun c3 => ?_) (fun c3 => ?_)
      · have h := h.1 c3
        refine zi_iload hO dX12_roomBy_75 7 rfl ?_
        refine zi_istore (L' := [(0, vR 43 0), (1, vI x1), (2, vI x2), (3, vI x3), (4, vI x4), (5, vI (x5 + (im 52 0 (Int32.toNatClampNeg (((15 * x1) + (5 * x2)) + x6))))), (6, vI x6), (7, vI (x5 + (im 52 0 (Int32.toNatClampNeg (((15 * x1) + (5 * x2)) + x6)))))]) hO dX12_roomBy_77 (by decide) rfl rfl ?_
        refine zi_iinc (v' := (x6 + 1)) (L' := [(0, vR 43 0), (1, vI x1), (2, vI x2), (3, vI x3), (4, vI x4), (5, vI (x5 + (im 52 0 (Int32.toNatClampNeg (((15 * x1) + (5 * x2)) + x6))))), (6, vI (x6 + 1)), (7, vI (x5 + (im 52 0 (Int32.toNatClampNeg (((15 * x1) + (5 * x2)) + x6)))))]) hO dX12_roomBy_79 6 rfl rfl (by decide) rfl rfl ?_
        refine zi_goto (tgt := 17) hO dX12_roomBy_82 (by decide) ?_
        refine zi_pick (L' := [(0, vR 43 0), (1, vI x1), (2, vI x2), (3, vI x3), (4, vI x4), (5, vI (x5 + (im 52 0 (Int32.toNatClampNeg (((15 * x1) + (5 * x2)) + x6))))), (6, vI (x6 + 1))]) [0, 1, 2, 3, 4, 5, 6] rfl ?_
        exact h
      · have h := h.2 c3
        refine zi_aload_n hO dX12_roomBy_58 0 rfl ?_
        refine zi_getR (r' := 51) (i' := 0) hO dX12_roomBy_59 fX12_59 rfl rfl (zI (by decide)) rfl ?_
        refine zi_bipush (v := 15) hO dX12_roomBy_62 (by decide) ?_
        refine zi_iload_n hO dX12_roomBy_64 1 rfl ?_
        refine zi_imul hO dX12_roomBy_65 ?_
        refine zi_iconst (v := 5) hO dX12_roomBy_66 (by decide) ?_
        refine zi_iload_n hO dX12_roomBy_67 2 rfl ?_
        refine zi_imul hO dX12_roomBy_68 ?_
        refine zi_iadd hO dX12_roomBy_69 ?_
        refine zi_iload hO dX12_roomBy_70 6 rfl ?_
        refine zi_iadd hO dX12_roomBy_72 ?_
        refine zi_iald hO dX12_roomBy_73 rfl (zI (by decide)) s1 ?_
        exact zr_I hO hR rfl dX12_roomBy_74 h
theorem rX11_isRoom_0 {x : zX} {w : zWd} {im : zMem} {lv : Int64} {P : Int32 → zMem → Int64 → Prop} {x0 : Int32} (hO : zOK x w zyX11_isRoom 2) (hR : zRetI x w zyX11_isRoom P) (hN : zN x 126 126)
 (h : ((x0 < 0 → P 0 im lv) ∧
 (¬ (x0 < 0) → ((8 ≤ x0 → P 0 im lv) ∧
 (¬ (8 ≤ x0) → P 1 im lv))))) :
 zW x w 0 [(0, vI x0)] [] im lv := by
  refine zi_iload_n hO dX11_isRoom_0 0 rfl ?_
  refine zi_if_lt (tgt := 14) hO dX11_isRoom_1 (by decide) (fun c1 => ?_) (fun c1 => ?_)
  · have h := h.1 c1
    refine zi_iconst (v := 0) hO dX11_isRoom_14 (by decide) ?_
    exact zr_Z hO hR rfl (Or.inl rfl) dX11_isRoom_15 h
  · have h := h.2 c1
    refine zi_iload_n hO dX11_isRoom_4 0 rfl ?_
    refine zi_bipush (v := 8) hO dX11_isRoom_5 (by decide) ?_
    refine zi_icmp_ge (tgt := 14) hO dX11_isRoom_7 (by decide) (fun c2 => ?_) (fun c2 => ?_)
    · have h := h.1 c2
      refine zi_iconst (v := 0) hO dX11_isRoom_14 (by decide) ?_
      exact zr_Z hO hR rfl (Or.inl rfl) dX11_isRoom_15 h
    · have h := h.2 c2
      refine zi_iconst (v := 1) hO dX11_isRoom_10 (by decide) ?_
      refine zi_goto (tgt := 15) hO dX11_isRoom_11 (by decide) ?_
      exact zr_Z hO hR rfl (Or.inr rfl) dX11_isRoom_15 h
theorem rX1_flightOrNull_0 {x : zX} {w : zWd} {im : zMem} {lv : Int64} {P : Option Nat → zMem → Int64 → Prop} {x1 : Int32} (hO : zOK x w zyX1_flightOrNull 2) (hR : zRetQ x w zyX1_flightOrNull 12 P) (hN : zN x 126 126)
 (h : ((x1 < 0 → P none im lv) ∧
 (¬ (x1 < 0) → (((im 10 0 1) ≤ x1 → P none im lv) ∧
 (¬ ((im 10 0 1) ≤ x1) → (vp_in x1 12 ∧ P (some (Int32.toNatClampNeg x1)) im lv)))))) :
 zW x w 0 [(0, vR 10 0), (1, vI x1)] [] im lv := by
  refine zi_iload_n hO dX1_flightOrNull_0 1 rfl ?_
  refine zi_if_lt (tgt := 21) hO dX1_flightOrNull_1 (by decide) (fun c1 => ?_) (fun c1 => ?_)
  · have h := h.1 c1
    refine zi_null hO dX1_flightOrNull_21 ?_
    exact zr_QN hO hR rfl dX1_flightOrNull_22 h
  · have h := h.2 c1
    refine zi_iload_n hO dX1_flightOrNull_4 1 rfl ?_
    refine zi_aload_n hO dX1_flightOrNull_5 0 rfl ?_
    refine zi_getI hO dX1_flightOrNull_6 fX1_17 rfl rfl (zI (by decide)) ?_
    refine zi_icmp_ge (tgt := 21) hO dX1_flightOrNull_9 (by decide) (fun c2 => ?_) (fun c2 => ?_)
    · have h := h.1 c2
      refine zi_null hO dX1_flightOrNull_21 ?_
      exact zr_QN hO hR rfl dX1_flightOrNull_22 h
    · have h := h.2 c2
      refine zi_aload_n hO dX1_flightOrNull_12 0 rfl ?_
      refine zi_getR (r' := 11) (i' := 0) hO dX1_flightOrNull_13 fX1_11 rfl rfl (zI (by decide)) rfl ?_
      refine zi_iload_n hO dX1_flightOrNull_16 1 rfl ?_
      obtain ⟨s1, h⟩ := h
      refine zi_aald (t := 1) (r' := 12) (i' := (Int32.toNatClampNeg x1)) hO dX1_flightOrNull_17 rfl (zI (by decide)) s1 rfl ?_
      refine zi_goto (tgt := 22) hO dX1_flightOrNull_18 (by decide) ?_
      exact zr_Q hO hR rfl dX1_flightOrNull_22 h
theorem rX11_told_0 {x : zX} {w : zWd} {im : zMem} {lv : Int64} {P : Int32 → zMem → Int64 → Prop} {x1 : Int32} {x2 : Int32} (hO : zOK x w zyX11_told 4) (hR : zRetI x w zyX11_told P) (hN : zN x 126 126)
 (h : (∃ P1 : Option Nat → zMem → Int64 → Prop, zSpecQ x.2.1 w 2 zyX1_flightOrNull 12 [vR 10 0, vI x1] im lv P1 ∧ ((∀ (im1 : zMem) (lv1 : Int64), P1 none im1 lv1 → P (-1000001) im1 lv1) ∧
 (∀ (j1 : Nat) (im1 : zMem) (lv1 : Int64), P1 (some j1) im1 lv1 → j1 < 12 ∧ (x2 < 0 ∨ 7 < x2 → P (-1000001) im1 lv1) ∧ ((x2 = 0 → P (im1 12 j1 0) im1 lv1) ∧
 (x2 = 1 → P (im1 12 j1 1) im1 lv1) ∧
 (x2 = 2 → P (im1 12 j1 2) im1 lv1) ∧
 (x2 = 3 → P (im1 12 j1 3) im1 lv1) ∧
 (x2 = 4 → P (im1 12 j1 4) im1 lv1) ∧
 (x2 = 5 → P (im1 12 j1 8) im1 lv1) ∧
 (x2 = 6 → P (im1 12 j1 9) im1 lv1) ∧
 (x2 = 7 → (∃ P2 : Int32 → zMem → Int64 → Prop, zSpecI x.2.1 w 3 zyX2_cost [vR 12 j1] im1 lv1 P2 ∧ ∀ (v2 : Int32) (im2 : zMem) (lv2 : Int64), P2 v2 im2 lv2 → P v2 im2 lv2))))))) :
 zW x w 0 [(0, vR 0 0), (1, vI x1), (2, vI x2)] [] im lv := by
  refine zi_aload_n hO dX11_told_0 0 rfl ?_
  refine zi_getR (r' := 10) (i' := 0) hO dX11_told_1 fX11_25 rfl rfl (zI (by decide)) rfl ?_
  refine zi_iload_n hO dX11_told_4 1 rfl ?_
  obtain ⟨P1, hM1, h⟩ := h
  refine zc_VQ (as := [vI x1]) hO hN dX11_told_5 kX11_199 (by decide) rfl (zI (by decide)) rfl rfl (Nat.le_of_ble_eq_true rfl) rfl rfl hM1 (fun im1 lv1 hp1 => ?_) (fun j1 im1 lv1 hp1 => ?_)
  · have h := h.1 im1 lv1 hp1
    refine zi_astore_nN (L' := [(0, vR 0 0), (1, vI x1), (2, vI x2), (3, vN)]) hO dX11_told_8 (by decide) rfl rfl ?_
    refine zi_aload_nN hO dX11_told_9 3 rfl ?_
    refine zi_ifnonnullN hO dX11_told_10 ?_
    refine zi_ldc (v := (-1000001)) hO dX11_told_13 nX11_100 ?_
    exact zr_I hO hR rfl dX11_told_15 h
  · obtain ⟨hj1, h⟩ := h.2 j1 im1 lv1 hp1
    refine zi_astore_n (L' := [(0, vR 0 0), (1, vI x1), (2, vI x2), (3, vR 12 j1)]) hO dX11_told_8 (by decide) rfl rfl ?_
    refine zi_aload_n hO dX11_told_9 3 rfl ?_
    refine zi_ifnonnull (tgt := 16) hO dX11_told_10 (by decide) ?_
    refine zi_iload_n hO dX11_told_16 2 rfl ?_
    by_cases hs0 : Int32.toInt x2 < 0 ∨ 7 < Int32.toInt x2
    · have h := h.1 (zsw_out (by decide) (by decide) hs0)
      refine zi_tableOut (tgt := 104) hO dX11_told_17 hs0 (by decide) ?_
      refine zi_ldc (v := (-1000001)) hO dX11_told_104 nX11_100 ?_
      exact zr_I hO hR rfl dX11_told_106 h
    · have h := h.2
      by_cases hs1 : x2 = 0
      · have h := h.1 hs1
        refine zi_tableIn (off := 47) (tgt := 64) hO dX11_told_17 (zsw_lo hs1 (by decide)) (zsw_hi hs1 (by decide)) (zsw_at hs1 rfl) (by decide) ?_
        refine zi_aload_n hO dX11_told_64 3 rfl ?_
        refine zi_getI hO dX11_told_65 fX11_203 rfl rfl (zI hj1) ?_
        exact zr_I hO hR rfl dX11_told_68 h
      by_cases hs2 : x2 = 1
      · have h := h.2.1 hs2
        refine zi_tableIn (off := 52) (tgt := 69) hO dX11_told_17 (zsw_lo hs2 (by decide)) (zsw_hi hs2 (by decide)) (zsw_at hs2 rfl) (by decide) ?_
        refine zi_aload_n hO dX11_told_69 3 rfl ?_
        refine zi_getI hO dX11_told_70 fX11_208 rfl rfl (zI hj1) ?_
        exact zr_I hO hR rfl dX11_told_73 h
      by_cases hs3 : x2 = 2
      · have h := h.2.2.1 hs3
        refine zi_tableIn (off := 57) (tgt := 74) hO dX11_told_17 (zsw_lo hs3 (by decide)) (zsw_hi hs3 (by decide)) (zsw_at hs3 rfl) (by decide) ?_
        refine zi_aload_n hO dX11_told_74 3 rfl ?_
        refine zi_getI hO dX11_told_75 fX11_211 rfl rfl (zI hj1) ?_
        exact zr_I hO hR rfl dX11_told_78 h
      by_cases hs4 : x2 = 3
      · have h := h.2.2.2.1 hs4
        refine zi_tableIn (off := 62) (tgt := 79) hO dX11_told_17 (zsw_lo hs4 (by decide)) (zsw_hi hs4 (by decide)) (zsw_at hs4 rfl) (by decide) ?_
        refine zi_aload_n hO dX11_told_79 3 rfl ?_
        refine zi_getI hO dX11_told_80 fX11_214 rfl rfl (zI hj1) ?_
        exact zr_I hO hR rfl dX11_told_83 h
      by_cases hs5 : x2 = 4
      · have h := h.2.2.2.2.1 hs5
        refine zi_tableIn (off := 67) (tgt := 84) hO dX11_told_17 (zsw_lo hs5 (by decide)) (zsw_hi hs5 (by decide)) (zsw_at hs5 rfl) (by decide) ?_
        refine zi_aload_n hO dX11_told_84 3 rfl ?_
        refine zi_getI hO dX11_told_85 fX11_217 rfl rfl (zI hj1) ?_
        exact zr_I hO hR rfl dX11_told_88 h
      by_cases hs6 : x2 = 5
      · have h := h.2.2.2.2.2.1 hs6
        refine zi_tableIn (off := 72) (tgt := 89) hO dX11_told_17 (zsw_lo hs6 (by decide)) (zsw_hi hs6 (by decide)) (zsw_at hs6 rfl) (by decide) ?_
        refine zi_aload_n hO dX11_told_89 3 rfl ?_
        refine zi_getI hO dX11_told_90 fX11_220 rfl rfl (zI hj1) ?_
        exact zr_I hO hR rfl dX11_told_93 h
      by_cases hs7 : x2 = 6
      · have h := h.2.2.2.2.2.2.1 hs7
        refine zi_tableIn (off := 77) (tgt := 94) hO dX11_told_17 (zsw_lo hs7 (by decide)) (zsw_hi hs7 (by decide)) (zsw_at hs7 rfl) (by decide) ?_
        refine zi_aload_n hO dX11_told_94 3 rfl ?_
        refine zi_getI hO dX11_told_95 fX11_223 rfl rfl (zI hj1) ?_
        exact zr_I hO hR rfl dX11_told_98 h
      by_cases hs8 : x2 = 7
      · have h := h.2.2.2.2.2.2.2 hs8
        refine zi_tableIn (off := 82) (tgt := 99) hO dX11_told_17 (zsw_lo hs8 (by decide)) (zsw_hi hs8 (by decide)) (zsw_at hs8 rfl) (by decide) ?_
        refine zi_aload_n hO dX11_told_99 3 rfl ?_
        obtain ⟨P2, hM2, h⟩ := h
        refine zc_VI (as := []) hO hN dX11_told_100 kX11_226 (by decide) rfl (zI hj1) rfl rfl (Nat.le_of_ble_eq_true rfl) rfl rfl hM2 (fun v2 im2 lv2 hp2 => ?_)
        replace h := h v2 im2 lv2 hp2
        exact zr_I hO hR rfl dX11_told_103 h
      have e1 := zsw_ne (k := 0) hs1 (by decide)
      have e2 := zsw_ne (k := 1) hs2 (by decide)
      have e3 := zsw_ne (k := 2) hs3 (by decide)
      have e4 := zsw_ne (k := 3) hs4 (by decide)
      have e5 := zsw_ne (k := 4) hs5 (by decide)
      have e6 := zsw_ne (k := 5) hs6 (by decide)
      have e7 := zsw_ne (k := 6) hs7 (by decide)
      have e8 := zsw_ne (k := 7) hs8 (by decide)
      exfalso
      omega
theorem rX2_walk_0 {x : zX} {w : zWd} {im : zMem} {lv : Int64} {P : Int32 → zMem → Int64 → Prop} {f0 : Nat} {x1 : Int32} {x2 : Int32} {ra : Nat} {ia : Nat} {Na : Nat} (hO : zOK x w zyX2_walk 2) (hR : zRetI x w zyX2_walk P) (hN : zN x 126 126) (hf0 : f0 < 12) (hka : zkd ra = (1, Na, 0)) (hia : ia < zcnt ra)
 (h : zW x w 14 [(0, vR 12 f0), (1, vI x1), (2, vI x2), (3, vR ra ia), (4, vI 0), (5, vI ((im 12 f0 2) + x2)), (6, vI 0)] [] im lv) :
 zW x w 0 [(0, vR 12 f0), (1, vI x1), (2, vI x2), (3, vR ra ia)] [] im lv := by
  refine zi_iconst (v := 0) hO dX2_walk_0 (by decide) ?_
  refine zi_istore (L' := [(0, vR 12 f0), (1, vI x1), (2, vI x2), (3, vR ra ia), (4, vI 0)]) hO dX2_walk_1 (by decide) rfl rfl ?_
  refine zi_aload_n hO dX2_walk_3 0 rfl ?_
  refine zi_getI hO dX2_walk_4 fX2_18 rfl rfl (zI hf0) ?_
  refine zi_iload_n hO dX2_walk_7 2 rfl ?_
  refine zi_iadd hO dX2_walk_8 ?_
  refine zi_istore (L' := [(0, vR 12 f0), (1, vI x1), (2, vI x2), (3, vR ra ia), (4, vI 0), (5, vI ((im 12 f0 2) + x2))]) hO dX2_walk_9 (by decide) rfl rfl ?_
  refine zi_iconst (v := 0) hO dX2_walk_11 (by decide) ?_
  refine zi_istore (L' := [(0, vR 12 f0), (1, vI x1), (2, vI x2), (3, vR ra ia), (4, vI 0), (5, vI ((im 12 f0 2) + x2)), (6, vI 0)]) hO dX2_walk_12 (by decide) rfl rfl ?_
  exact h
theorem rX2_walk_14 {x : zX} {w : zWd} {im : zMem} {lv : Int64} {P : Int32 → zMem → Int64 → Prop} {f0 : Nat} {x1 : Int32} {x2 : Int32} {ra : Nat} {ia : Nat} {Na : Nat} {x4 : Int32} {x5 : Int32} {x6 : Int32} (hO : zOK x w zyX2_walk 2) (hR : zRetI x w zyX2_walk P) (hN : zN x 126 126) (hf0 : f0 < 12) (hka : zkd ra = (1, Na, 0)) (hia : ia < zcnt ra)
 (h : (vp_in x1 3 ∧ (((im 13 f0 (Int32.toNatClampNeg x1)) ≤ x6 → P x4 im lv) ∧
 (¬ ((im 13 f0 (Int32.toNatClampNeg x1)) ≤ x6) → zW x w 36 [(0, vR 12 f0), (1, vI x1), (2, vI x2), (3, vR ra ia), (4, vI x4), (5, vI x5), (6, vI x6), (7, vI ((x1 * 5) + x6)), (8, vI 0)] [] im lv)))) :
 zW x w 14 [(0, vR 12 f0), (1, vI x1), (2, vI x2), (3, vR ra ia), (4, vI x4), (5, vI x5), (6, vI x6)] [] im lv := by
  refine zi_iload hO dX2_walk_14 6 rfl ?_
  refine zi_aload_n hO dX2_walk_16 0 rfl ?_
  refine zi_getR (r' := 13) (i' := f0) hO dX2_walk_17 fX2_27 rfl rfl (zI hf0) rfl ?_
  refine zi_iload_n hO dX2_walk_20 1 rfl ?_
  obtain ⟨s1, h⟩ := h
  refine zi_iald hO dX2_walk_21 rfl (zI hf0) s1 ?_
  refine zi_icmp_ge (tgt := 97) hO dX2_walk_22 (by decide) (fun c1 => ?_) (fun c1 => ?_)
  · have h := h.1 c1
    refine zi_iload hO dX2_walk_97 4 rfl ?_
    exact zr_I hO hR rfl dX2_walk_99 h
  · have h := h.2 c1
    refine zi_iload_n hO dX2_walk_25 1 rfl ?_
    refine zi_iconst (v := 5) hO dX2_walk_26 (by decide) ?_
    refine zi_imul hO dX2_walk_27 ?_
    refine zi_iload hO dX2_walk_28 6 rfl ?_
    refine zi_iadd hO dX2_walk_30 ?_
    refine zi_istore (L' := [(0, vR 12 f0), (1, vI x1), (2, vI x2), (3, vR ra ia), (4, vI x4), (5, vI x5), (6, vI x6), (7, vI ((x1 * 5) + x6))]) hO dX2_walk_31 (by decide) rfl rfl ?_
    refine zi_iconst (v := 0) hO dX2_walk_33 (by decide) ?_
    refine zi_istore (L' := [(0, vR 12 f0), (1, vI x1), (2, vI x2), (3, vR ra ia), (4, vI x4), (5, vI x5), (6, vI x6), (7, vI ((x1 * 5) + x6)), (8, vI 0)]) hO dX2_walk_34 (by decide) rfl rfl ?_
    exact h
theorem rX2_walk_36 {x : zX} {w : zWd} {im : zMem} {lv : Int64} {P : Int32 → zMem → Int64 → Prop} {f0 : Nat} {x1 : Int32} {x2 : Int32} {ra : Nat} {ia : Nat} {Na : Nat} {x4 : Int32} {x5 : Int32} {x6 : Int32} {x7 : Int32} {x8 : Int32} (hO : zOK x w zyX2_walk 2) (hR : zRetI x w zyX2_walk P) (hN : zN x 126 126) (hf0 : f0 < 12) (hka : zkd ra = (1, Na, 0)) (hia : ia < zcnt ra)
 (h : (vp_in x7 15 ∧ (((im 15 f0 (Int32.toNatClampNeg x7)) ≤ x8 → zW x w 14 [(0, vR 12 f0), (1, vI x1), (2, vI x2), (3, vR ra ia), (4, vI x4), (5, vI x5), (6, vI (x6 + 1))] [] im lv) ∧
 (¬ ((im 15 f0 (Int32.toNatClampNeg x7)) ≤ x8) → ((48 ≤ x5 → zW x w 36 [(0, vR 12 f0), (1, vI x1), (2, vI x2), (3, vR ra ia), (4, vI x4), (5, vI (x5 + 1)), (6, vI x6), (7, vI x7), (8, vI (x8 + 1))] [] im lv) ∧
 (¬ (48 ≤ x5) → (((Int32.ofNat Na) ≤ x4 → zW x w 36 [(0, vR 12 f0), (1, vI x1), (2, vI x2), (3, vR ra ia), (4, vI x4), (5, vI (x5 + 1)), (6, vI x6), (7, vI x7), (8, vI (x8 + 1))] [] im lv) ∧
 (¬ ((Int32.ofNat Na) ≤ x4) → (vp_in x4 Na ∧ zW x w 36 [(0, vR 12 f0), (1, vI x1), (2, vI x2), (3, vR ra ia), (4, vI (x4 + 1)), (5, vI (x5 + 1)), (6, vI x6), (7, vI x7), (8, vI (x8 + 1))] [] (zwr im ra ia (Int32.toNatClampNeg x4) (((im 14 f0 (Int32.toNatClampNeg x7)) * 48) + x5)) lv))))))))) :
 zW x w 36 [(0, vR 12 f0), (1, vI x1), (2, vI x2), (3, vR ra ia), (4, vI x4), (5, vI x5), (6, vI x6), (7, vI x7), (8, vI x8)] [] im lv := by
  refine zi_iload hO dX2_walk_36 8 rfl ?_
  refine zi_aload_n hO dX2_walk_38 0 rfl ?_
  refine zi_getR (r' := 15) (i' := f0) hO dX2_walk_39 fX2_34 rfl rfl (zI hf0) rfl ?_
  refine zi_iload hO dX2_walk_42 7 rfl ?_
  obtain ⟨s1, h⟩ := h
  refine zi_iald hO dX2_walk_44 rfl (zI hf0) s1 ?_
  refine zi_icmp_ge (tgt := 91) hO dX2_walk_45 (by decide) (fun c1 => ?_) (fun c1 => ?_)
  · have h := h.1 c1
    refine zi_iinc (v' := (x6 + 1)) (L' := [(0, vR 12 f0), (1, vI x1), (2, vI x2), (3, vR ra ia), (4, vI x4), (5, vI x5), (6, vI (x6 + 1)), (7, vI x7), (8, vI x8)]) hO dX2_walk_91 6 rfl rfl (by decide) rfl rfl ?_
    refine zi_goto (tgt := 14) hO dX2_walk_94 (by decide) ?_
    refine zi_pick (L' := [(0, vR 12 f0), (1, vI x1), (2, vI x2), (3, vR ra ia), (4, vI x4), (5, vI x5), (6, vI (x6 + 1))]) [0, 1, 2, 3, 4, 5, 6] rfl ?_
    exact h
  · have h := h.2 c1
    refine zi_iload hO dX2_walk_48 5 rfl ?_
    refine zi_bipush (v := 48) hO dX2_walk_50 (by decide) ?_
    refine zi_icmp_ge (tgt := 82) hO dX2_walk_52 (by decide) (fun c2 => ?_) (fun c2 => ?_)
    · have h := h.1 c2
      refine zi_iinc (v' := (x5 + 1)) (L' := [(0, vR 12 f0), (1, vI x1), (2, vI x2), (3, vR ra ia), (4, vI x4), (5, vI (x5 + 1)), (6, vI x6), (7, vI x7), (8, vI x8)]) hO dX2_walk_82 5 rfl rfl (by decide) rfl rfl ?_
      refine zi_iinc (v' := (x8 + 1)) (L' := [(0, vR 12 f0), (1, vI x1), (2, vI x2), (3, vR ra ia), (4, vI x4), (5, vI (x5 + 1)), (6, vI x6), (7, vI x7), (8, vI (x8 + 1))]) hO dX2_walk_85 8 rfl rfl (by decide) rfl rfl ?_
      refine zi_goto (tgt := 36) hO dX2_walk_88 (by decide) ?_
      exact h
    · have h := h.2 c2
      refine zi_iload hO dX2_walk_55 4 rfl ?_
      refine zi_aload_n hO dX2_walk_57 3 rfl ?_
      refine zi_alen hO dX2_walk_58 hka (zI hia) rfl ?_
      refine zi_icmp_ge (tgt := 82) hO dX2_walk_59 (by decide) (fun c3 => ?_) (fun c3 => ?_)
      · have h := h.1 c3
        refine zi_iinc (v' := (x5 + 1)) (L' := [(0, vR 12 f0), (1, vI x1), (2, vI x2), (3, vR ra ia), (4, vI x4), (5, vI (x5 + 1)), (6, vI x6), (7, vI x7), (8, vI x8)]) hO dX2_walk_82 5 rfl rfl (by decide) rfl rfl ?_
        refine zi_iinc (v' := (x8 + 1)) (L' := [(0, vR 12 f0), (1, vI x1), (2, vI x2), (3, vR ra ia), (4, vI x4), (5, vI (x5 + 1)), (6, vI x6), (7, vI x7), (8, vI (x8 + 1))]) hO dX2_walk_85 8 rfl rfl (by decide) rfl rfl ?_
        refine zi_goto (tgt := 36) hO dX2_walk_88 (by decide) ?_
        exact h
      · have h := h.2 c3
        refine zi_aload_n hO dX2_walk_62 3 rfl ?_
        refine zi_iload hO dX2_walk_63 4 rfl ?_
        refine zi_aload_n hO dX2_walk_65 0 rfl ?_
        refine zi_getR (r' := 14) (i' := f0) hO dX2_walk_66 fX2_31 rfl rfl (zI hf0) rfl ?_
        refine zi_iload hO dX2_walk_69 7 rfl ?_
        refine zi_iald hO dX2_walk_71 rfl (zI hf0) s1 ?_
        refine zi_bipush (v := 48) hO dX2_walk_72 (by decide) ?_
        refine zi_imul hO dX2_walk_74 ?_
        refine zi_iload hO dX2_walk_75 5 rfl ?_
        refine zi_iadd hO dX2_walk_77 ?_
        obtain ⟨s2, h⟩ := h
        refine zi_iast hO dX2_walk_78 hka (zI hia) s2 ?_
        refine zi_iinc (v' := (x4 + 1)) (L' := [(0, vR 12 f0), (1, vI x1), (2, vI x2), (3, vR ra ia), (4, vI (x4 + 1)), (5, vI x5), (6, vI x6), (7, vI x7), (8, vI x8)]) hO dX2_walk_79 4 rfl rfl (by decide) rfl rfl ?_
        refine zi_iinc (v' := (x5 + 1)) (L' := [(0, vR 12 f0), (1, vI x1), (2, vI x2), (3, vR ra ia), (4, vI (x4 + 1)), (5, vI (x5 + 1)), (6, vI x6), (7, vI x7), (8, vI x8)]) hO dX2_walk_82 5 rfl rfl (by decide) rfl rfl ?_
        refine zi_iinc (v' := (x8 + 1)) (L' := [(0, vR 12 f0), (1, vI x1), (2, vI x2), (3, vR ra ia), (4, vI (x4 + 1)), (5, vI (x5 + 1)), (6, vI x6), (7, vI x7), (8, vI (x8 + 1))]) hO dX2_walk_85 8 rfl rfl (by decide) rfl rfl ?_
        refine zi_goto (tgt := 36) hO dX2_walk_88 (by decide) ?_
        exact h
theorem rX11_sheet_0 {x : zX} {w : zWd} {im : zMem} {lv : Int64} {P : Int32 → zMem → Int64 → Prop} {x1 : Int32} {x2 : Int32} {x3 : Int32} (hO : zOK x w zyX11_sheet 4) (hR : zRetI x w zyX11_sheet P) (hN : zN x 126 126)
 (h : (∃ P1 : Option Nat → zMem → Int64 → Prop, zSpecQ x.2.1 w 2 zyX11_sheetOrNull 41 [vR 0 0, vI x1] im lv P1 ∧ ((∀ (im1 : zMem) (lv1 : Int64), P1 none im1 lv1 → P (-1000001) im1 lv1) ∧
 (∀ (j1 : Nat) (im1 : zMem) (lv1 : Int64), P1 (some j1) im1 lv1 → j1 < 8 ∧ ((x2 < 0 → P (-1000001) im1 lv1) ∧
 (¬ (x2 < 0) → ((3 ≤ x2 → P (-1000001) im1 lv1) ∧
 (¬ (3 ≤ x2) → ((x3 ≤ 48 → ((0 ≤ x3 → (∃ P2 : zMem → Int64 → Prop, zSpecV x.2.1 w 3 zyX7_begin [vR 41 j1, vI x2, vI x3] im1 lv1 P2 ∧ ∀ (im2 : zMem) (lv2 : Int64), P2 im2 lv2 → (∃ P3 : Int32 → zMem → Int64 → Prop, zSpecI x.2.1 w 2 zyX11_withoutFinding [vR 0 0, vI x3] im2 lv2 P3 ∧ ∀ (v3 : Int32) (im3 : zMem) (lv3 : Int64), P3 v3 im3 lv3 → P v3 im3 lv3))) ∧
 (¬ (0 ≤ x3) → (∃ P4 : Int32 → zMem → Int64 → Prop, zSpecI x.2.1 w 2 zyX11_found [vR 0 0, vI 4] im1 lv1 P4 ∧ ∀ (v4 : Int32) (im4 : zMem) (lv4 : Int64), P4 v4 im4 lv4 → P v4 im4 lv4)))) ∧
 (¬ (x3 ≤ 48) → P (-1000001) im1 lv1)))))))))) :
 zW x w 0 [(0, vR 0 0), (1, vI x1), (2, vI x2), (3, vI x3)] [] im lv := by
  refine zi_aload_n hO dX11_sheet_0 0 rfl ?_
  refine zi_iload_n hO dX11_sheet_1 1 rfl ?_
  obtain ⟨P1, hM1, h⟩ := h
  refine zc_VQ (as := [vI x1]) hO hN dX11_sheet_2 kX11_96 (by decide) rfl (zI (by decide)) rfl rfl (Nat.le_of_ble_eq_true rfl) rfl rfl hM1 (fun im1 lv1 hp1 => ?_) (fun j1 im1 lv1 hp1 => ?_)
  · have h := h.1 im1 lv1 hp1
    refine zi_astoreN (L' := [(0, vR 0 0), (1, vI x1), (2, vI x2), (3, vI x3), (4, vN)]) hO dX11_sheet_5 (by decide) rfl rfl ?_
    refine zi_aloadN hO dX11_sheet_7 4 rfl ?_
    refine zi_ifnullN (tgt := 27) hO dX11_sheet_9 (by decide) ?_
    refine zi_ldc (v := (-1000001)) hO dX11_sheet_27 nX11_100 ?_
    exact zr_I hO hR rfl dX11_sheet_29 h
  · obtain ⟨hj1, h⟩ := h.2 j1 im1 lv1 hp1
    refine zi_astore (L' := [(0, vR 0 0), (1, vI x1), (2, vI x2), (3, vI x3), (4, vR 41 j1)]) hO dX11_sheet_5 (by decide) rfl rfl ?_
    refine zi_aload hO dX11_sheet_7 4 rfl ?_
    refine zi_ifnull hO dX11_sheet_9 ?_
    refine zi_iload_n hO dX11_sheet_12 2 rfl ?_
    refine zi_if_lt (tgt := 27) hO dX11_sheet_13 (by decide) (fun c1 => ?_) (fun c1 => ?_)
    · have h := h.1 c1
      refine zi_ldc (v := (-1000001)) hO dX11_sheet_27 nX11_100 ?_
      exact zr_I hO hR rfl dX11_sheet_29 h
    · have h := h.2 c1
      refine zi_iload_n hO dX11_sheet_16 2 rfl ?_
      refine zi_iconst (v := 3) hO dX11_sheet_17 (by decide) ?_
      refine zi_icmp_ge (tgt := 27) hO dX11_sheet_18 (by decide) (fun c2 => ?_) (fun c2 => ?_)
      · have h := h.1 c2
        refine zi_ldc (v := (-1000001)) hO dX11_sheet_27 nX11_100 ?_
        exact zr_I hO hR rfl dX11_sheet_29 h
      · have h := h.2 c2
        refine zi_iload_n hO dX11_sheet_21 3 rfl ?_
        refine zi_bipush (v := 48) hO dX11_sheet_22 (by decide) ?_
        refine zi_icmp_le (tgt := 30) hO dX11_sheet_24 (by decide) (fun c3 => ?_) (fun c3 => ?_)
        · have h := h.1 c3
          refine zi_iload_n hO dX11_sheet_30 3 rfl ?_
          refine zi_if_ge (tgt := 40) hO dX11_sheet_31 (by decide) (fun c4 => ?_) (fun c4 => ?_)
          · have h := h.1 c4
            refine zi_aload hO dX11_sheet_40 4 rfl ?_
            refine zi_iload_n hO dX11_sheet_42 2 rfl ?_
            refine zi_iload_n hO dX11_sheet_43 3 rfl ?_
            obtain ⟨P2, hM2, h⟩ := h
            refine zc_VV (as := [vI x2, vI x3]) hO hN dX11_sheet_44 kX11_105 (by decide) rfl (zI hj1) rfl rfl (Nat.le_of_ble_eq_true rfl) rfl rfl hM2 (fun im2 lv2 hp2 => ?_)
            replace h := h im2 lv2 hp2
            refine zi_aload_n hO dX11_sheet_47 0 rfl ?_
            refine zi_iload_n hO dX11_sheet_48 3 rfl ?_
            obtain ⟨P3, hM3, h⟩ := h
            refine zc_VI (as := [vI x3]) hO hN dX11_sheet_49 kX11_109 (by decide) rfl (zI (by decide)) rfl rfl (Nat.le_of_ble_eq_true rfl) rfl rfl hM3 (fun v3 im3 lv3 hp3 => ?_)
            replace h := h v3 im3 lv3 hp3
            exact zr_I hO hR rfl dX11_sheet_52 h
          · have h := h.2 c4
            refine zi_aload_n hO dX11_sheet_34 0 rfl ?_
            refine zi_iconst (v := 4) hO dX11_sheet_35 (by decide) ?_
            obtain ⟨P4, hM4, h⟩ := h
            refine zc_VI (as := [vI 4]) hO hN dX11_sheet_36 kX11_101 (by decide) rfl (zI (by decide)) rfl rfl (Nat.le_of_ble_eq_true rfl) rfl rfl hM4 (fun v4 im4 lv4 hp4 => ?_)
            replace h := h v4 im4 lv4 hp4
            exact zr_I hO hR rfl dX11_sheet_39 h
        · have h := h.2 c3
          refine zi_ldc (v := (-1000001)) hO dX11_sheet_27 nX11_100 ?_
          exact zr_I hO hR rfl dX11_sheet_29 h
theorem rX10_takeBytes_0 {x : zX} {w : zWd} {im : zMem} {lv : Int64} {P : Int32 → zMem → Int64 → Prop} {y1 : Int64} {x3 : Int32} (hO : zOK x w zyX10_takeBytes 2) (hR : zRetI x w zyX10_takeBytes P) (hN : zN x 126 126)
 (h : ((x3 ≤ (500 - (im 16 0 1)) → zW x w 19 [(0, vR 16 0), (1, vL y1), (3, vI x3), (4, vI (x3 - 1))] [] im lv) ∧
 (¬ (x3 ≤ (500 - (im 16 0 1))) → P 0 im lv))) :
 zW x w 0 [(0, vR 16 0), (1, vL y1), (3, vI x3)] [] im lv := by
  refine zi_iload_n hO dX10_takeBytes_0 2 rfl ?_
  refine zi_sipush (v := 500) hO dX10_takeBytes_1 (by decide) ?_
  refine zi_aload_n hO dX10_takeBytes_4 0 rfl ?_
  refine zi_getI hO dX10_takeBytes_5 fX10_15 rfl rfl (zI (by decide)) ?_
  refine zi_isub hO dX10_takeBytes_8 ?_
  refine zi_icmp_le (tgt := 14) hO dX10_takeBytes_9 (by decide) (fun c1 => ?_) (fun c1 => ?_)
  · have h := h.1 c1
    refine zi_iload_n hO dX10_takeBytes_14 2 rfl ?_
    refine zi_iconst (v := 1) hO dX10_takeBytes_15 (by decide) ?_
    refine zi_isub hO dX10_takeBytes_16 ?_
    refine zi_istore (L' := [(0, vR 16 0), (1, vL y1), (3, vI x3), (4, vI (x3 - 1))]) hO dX10_takeBytes_17 (by decide) rfl rfl ?_
    exact h
  · have h := h.2 c1
    refine zi_iconst (v := 0) hO dX10_takeBytes_12 (by decide) ?_
    exact zr_Z hO hR rfl (Or.inl rfl) dX10_takeBytes_13 h
theorem rX10_takeBytes_19 {x : zX} {w : zWd} {im : zMem} {lv : Int64} {P : Int32 → zMem → Int64 → Prop} {y1 : Int64} {x3 : Int32} {x4 : Int32} (hO : zOK x w zyX10_takeBytes 2) (hR : zRetI x w zyX10_takeBytes P) (hN : zN x 126 126)
 (h : ((x4 < 0 → P 1 im lv) ∧
 (¬ (x4 < 0) → (vp_in (im 16 0 1) 500 ∧ zW x w 19 [(0, vR 16 0), (1, vL y1), (3, vI x3), (4, vI (x4 + (-1)))] [] (zwr (zwr im 17 0 (Int32.toNatClampNeg (im 16 0 1)) (Int64.toInt32 ((y1 >>> (Int32.toInt64 (8 * x4) &&& 63)) &&& (255 : Int64)))) 16 0 1 ((im 16 0 1) + 1)) lv)))) :
 zW x w 19 [(0, vR 16 0), (1, vL y1), (3, vI x3), (4, vI x4)] [] im lv := by
  refine zi_iload hO dX10_takeBytes_19 3 rfl ?_
  refine zi_if_lt (tgt := 61) hO dX10_takeBytes_21 (by decide) (fun c1 => ?_) (fun c1 => ?_)
  · have h := h.1 c1
    refine zi_iconst (v := 1) hO dX10_takeBytes_61 (by decide) ?_
    exact zr_Z hO hR rfl (Or.inr rfl) dX10_takeBytes_62 h
  · have h := h.2 c1
    refine zi_aload_n hO dX10_takeBytes_24 0 rfl ?_
    refine zi_getR (r' := 17) (i' := 0) hO dX10_takeBytes_25 fX10_9 rfl rfl (zI (by decide)) rfl ?_
    refine zi_aload_n hO dX10_takeBytes_28 0 rfl ?_
    refine zi_getI hO dX10_takeBytes_29 fX10_15 rfl rfl (zI (by decide)) ?_
    refine zi_lload_n hO dX10_takeBytes_32 1 rfl ?_
    refine zi_bipush (v := 8) hO dX10_takeBytes_33 (by decide) ?_
    refine zi_iload hO dX10_takeBytes_35 3 rfl ?_
    refine zi_imul hO dX10_takeBytes_37 ?_
    refine zi_lshr hO dX10_takeBytes_38 ?_
    refine zi_ldc2 (v := 255) hO dX10_takeBytes_39 nX10_32 ?_
    refine zi_land hO dX10_takeBytes_42 ?_
    refine zi_l2i hO dX10_takeBytes_43 ?_
    obtain ⟨s1, h⟩ := h
    refine zi_iast hO dX10_takeBytes_44 rfl (zI (by decide)) s1 ?_
    refine zi_aload_n hO dX10_takeBytes_45 0 rfl ?_
    refine zi_dup hO dX10_takeBytes_46 rfl ?_
    refine zi_getI hO dX10_takeBytes_47 fX10_15 rfl rfl (zI (by decide)) ?_
    refine zi_iconst (v := 1) hO dX10_takeBytes_50 (by decide) ?_
    refine zi_iadd hO dX10_takeBytes_51 ?_
    refine zi_putI hO dX10_takeBytes_52 gX10_15 rfl rfl (zI (by decide)) ?_
    refine zi_iinc (v' := (x4 + (-1))) (L' := [(0, vR 16 0), (1, vL y1), (3, vI x3), (4, vI (x4 + (-1)))]) hO dX10_takeBytes_55 3 rfl rfl (by decide) rfl rfl ?_
    refine zi_goto (tgt := 19) hO dX10_takeBytes_58 (by decide) ?_
    exact h
theorem rX7_put_0 {x : zX} {w : zWd} {im : zMem} {lv : Int64} {P : Int32 → zMem → Int64 → Prop} {f0 : Nat} {x1 : Int32} {x2 : Int32} (hO : zOK x w zyX7_put 2) (hR : zRetI x w zyX7_put P) (hN : zN x 126 126) (hf0 : f0 < 8)
 (h : ((¬ ((im 41 f0 0) = 0) → ((¬ ((im 41 f0 0) = 1) → (vp_in x1 48 ∧ P ((zwr im 42 f0 (Int32.toNatClampNeg x1) x2) 42 f0 (Int32.toNatClampNeg x1)) (zwr im 42 f0 (Int32.toNatClampNeg x1) x2) lv)) ∧
 ((im 41 f0 0) = 1 → (vp_in x1 48 ∧ P ((zwr im 42 f0 (Int32.toNatClampNeg x1) ((Int32.toInt16 x2).toInt32)) 42 f0 (Int32.toNatClampNeg x1)) (zwr im 42 f0 (Int32.toNatClampNeg x1) ((Int32.toInt16 x2).toInt32)) lv)))) ∧
 ((im 41 f0 0) = 0 → (vp_in x1 48 ∧ P ((zwr im 42 f0 (Int32.toNatClampNeg x1) ((Int32.toInt8 x2).toInt32)) 42 f0 (Int32.toNatClampNeg x1)) (zwr im 42 f0 (Int32.toNatClampNeg x1) ((Int32.toInt8 x2).toInt32)) lv)))) :
 zW x w 0 [(0, vR 41 f0), (1, vI x1), (2, vI x2)] [] im lv := by
  refine zi_aload_n hO dX7_put_0 0 rfl ?_
  refine zi_getR (r' := 42) (i' := f0) hO dX7_put_1 fX7_18 rfl rfl (zI hf0) rfl ?_
  refine zi_iload_n hO dX7_put_4 1 rfl ?_
  refine zi_aload_n hO dX7_put_5 0 rfl ?_
  refine zi_getI hO dX7_put_6 fX7_11 rfl rfl (zI hf0) ?_
  refine zi_if_ne (tgt := 17) hO dX7_put_9 (by decide) (fun c1 => ?_) (fun c1 => ?_)
  · have h := h.1 c1
    refine zi_aload_n hO dX7_put_17 0 rfl ?_
    refine zi_getI hO dX7_put_18 fX7_11 rfl rfl (zI hf0) ?_
    refine zi_iconst (v := 1) hO dX7_put_21 (by decide) ?_
    refine zi_icmp_ne (tgt := 30) hO dX7_put_22 (by decide) (fun c2 => ?_) (fun c2 => ?_)
    · have h := h.1 c2
      refine zi_iload_n hO dX7_put_30 2 rfl ?_
      obtain ⟨s1, h⟩ := h
      refine zi_iast hO dX7_put_31 rfl (zI hf0) s1 ?_
      refine zi_aload_n hO dX7_put_32 0 rfl ?_
      refine zi_getR (r' := 42) (i' := f0) hO dX7_put_33 fX7_18 rfl rfl (zI hf0) rfl ?_
      refine zi_iload_n hO dX7_put_36 1 rfl ?_
      refine zi_iald hO dX7_put_37 rfl (zI hf0) s1 ?_
      exact zr_I hO hR rfl dX7_put_38 h
    · have h := h.2 c2
      refine zi_iload_n hO dX7_put_25 2 rfl ?_
      refine zi_i2s hO dX7_put_26 ?_
      refine zi_goto (tgt := 31) hO dX7_put_27 (by decide) ?_
      obtain ⟨s2, h⟩ := h
      refine zi_iast hO dX7_put_31 rfl (zI hf0) s2 ?_
      refine zi_aload_n hO dX7_put_32 0 rfl ?_
      refine zi_getR (r' := 42) (i' := f0) hO dX7_put_33 fX7_18 rfl rfl (zI hf0) rfl ?_
      refine zi_iload_n hO dX7_put_36 1 rfl ?_
      refine zi_iald hO dX7_put_37 rfl (zI hf0) s2 ?_
      exact zr_I hO hR rfl dX7_put_38 h
  · have h := h.2 c1
    refine zi_iload_n hO dX7_put_12 2 rfl ?_
    refine zi_i2b hO dX7_put_13 ?_
    refine zi_goto (tgt := 31) hO dX7_put_14 (by decide) ?_
    obtain ⟨s3, h⟩ := h
    refine zi_iast hO dX7_put_31 rfl (zI hf0) s3 ?_
    refine zi_aload_n hO dX7_put_32 0 rfl ?_
    refine zi_getR (r' := 42) (i' := f0) hO dX7_put_33 fX7_18 rfl rfl (zI hf0) rfl ?_
    refine zi_iload_n hO dX7_put_36 1 rfl ?_
    refine zi_iald hO dX7_put_37 rfl (zI hf0) s3 ?_
    exact zr_I hO hR rfl dX7_put_38 h
