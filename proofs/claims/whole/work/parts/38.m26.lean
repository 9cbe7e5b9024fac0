/-! the class's kinds and asks -/
theorem calmN_iff {m : zMem} {f : Nat} : ∀ n, calmN m f n = true ↔ ∀ t, t < n → ∀ r, room m f (way m f) 0 t = some r → over m r t = 0
  | 0 => ⟨fun _ t ht => by omega, fun _ => rfl⟩
  | n + 1 => by
    rw [calmN, Bool.and_eq_true, calmN_iff n]
    constructor
    · rintro ⟨h1, h2⟩ t ht r hr
      by_cases htn : t = n
      · subst htn
        rw [hr] at h2
        exact of_decide_eq_true h2
      · exact h1 t (by omega) r hr
    · intro h
      refine ⟨fun t ht => h t (by omega), ?_⟩
      cases hr : room m f (way m f) 0 n with
      | none => rfl
      | some r => exact decide_eq_true (h n (by omega) r hr)
theorem calm_crwd {m : zMem} {f : Nat} (h0 : dly m f = 0) : calmN m f 48 = true ↔ ¬ crwd m f := by
  rw [calmN_iff]
  unfold crwd
  rw [h0]
  constructor
  · rintro h ⟨c, h1, h2⟩
    have := h (c % 48) (by omega) (c / 48) (pth_mem.mp h1)
    unfold over at this
    omega
  · intro h t ht r hr
    by_cases h2 : over m r t = 0
    · exact h2
    · exfalso
      unfold over at h2
      refine h ⟨r * 48 + t, pth_mem.mpr ?_, ?_⟩
      · rw [show (r * 48 + t) % 48 = t by omega, show (r * 48 + t) / 48 = r by omega]; exact hr
      · rw [show (r * 48 + t) % 48 = t by omega, show (r * 48 + t) / 48 = r by omega]; omega
theorem knd_4 (m : zMem) (f : Nat) : knd m f = 0 ∨ knd m f = 1 ∨ knd m f = 2 ∨ knd m f = 3 := by
  unfold knd
  split
  · split
    · exact Or.inr (Or.inr (Or.inl rfl))
    · exact Or.inr (Or.inl rfl)
  · split
    · exact Or.inr (Or.inr (Or.inr rfl))
    · exact Or.inl rfl
theorem rX0_kindOf_0 {x : zX} {w : zWd} {im : zMem} {lv : Int64} {P : Int32 → zMem → Int64 → Prop} {f1 : Nat} (hO : zOK x w zyX0_kindOf 4) (hR : zRetI x w zyX0_kindOf P) (hN : zN x 126 126) (hf1 : f1 < 12)
 (h : (((im 12 f1 9) ≤ 0 → (∃ P1 : Int32 → zMem → Int64 → Prop, zSpecI x.2.1 w 3 zyX8_isCrowdedAround [vR 20 0, vR 12 f1] im lv P1 ∧ ∀ (v1 : Int32) (im1 : zMem) (lv1 : Int64), P1 v1 im1 lv1 → ((v1 = 0 → P 3 im1 lv1) ∧
 (¬ (v1 = 0) → P 0 im1 lv1)))) ∧
 (¬ ((im 12 f1 9) ≤ 0) → (((im 12 f1 8) = 0 → P 1 im lv) ∧
 (¬ ((im 12 f1 8) = 0) → P 2 im lv))))) :
 zW x w 0 [(0, vR 39 0), (1, vR 12 f1)] [] im lv := by
  refine zi_aload_n hO dX0_kindOf_0 1 rfl ?_
  refine zi_getI hO dX0_kindOf_1 fX0_23 rfl rfl (zI hf1) ?_
  refine zi_if_le (tgt := 20) hO dX0_kindOf_4 (by decide) (fun c1 => ?_) (fun c1 => ?_)
  · have h := h.1 c1
    refine zi_aload_n hO dX0_kindOf_20 0 rfl ?_
    refine zi_getR (r' := 20) (i' := 0) hO dX0_kindOf_21 fX0_19 rfl rfl (zI (by decide)) rfl ?_
    refine zi_aload_n hO dX0_kindOf_24 1 rfl ?_
    obtain ⟨P1, hM1, h⟩ := h
    refine zc_VI (as := [vR 12 f1]) hO hN dX0_kindOf_25 kX0_31 (by decide) rfl (zI (by decide)) rfl rfl (Nat.le_of_ble_eq_true rfl) rfl rfl hM1 (fun v1 im1 lv1 hp1 => ?_)
    replace h := h v1 im1 lv1 hp1
    refine zi_if_eq (tgt := 35) hO dX0_kindOf_28 (by decide) (fun c2 => ?_) (fun c2 => ?_)
    · have h := h.1 c2
      refine zi_iconst (v := 3) hO dX0_kindOf_35 (by decide) ?_
      exact zr_I hO hR rfl dX0_kindOf_36 h
    · have h := h.2 c2
      refine zi_iconst (v := 0) hO dX0_kindOf_31 (by decide) ?_
      refine zi_goto (tgt := 36) hO dX0_kindOf_32 (by decide) ?_
      exact zr_I hO hR rfl dX0_kindOf_36 h
  · have h := h.2 c1
    refine zi_aload_n hO dX0_kindOf_7 1 rfl ?_
    refine zi_getI hO dX0_kindOf_8 fX0_28 rfl rfl (zI hf1) ?_
    refine zi_if_eq (tgt := 18) hO dX0_kindOf_11 (by decide) (fun c3 => ?_) (fun c3 => ?_)
    · have h := h.1 c3
      refine zi_iconst (v := 1) hO dX0_kindOf_18 (by decide) ?_
      exact zr_I hO hR rfl dX0_kindOf_19 h
    · have h := h.2 c3
      refine zi_iconst (v := 2) hO dX0_kindOf_14 (by decide) ?_
      refine zi_goto (tgt := 19) hO dX0_kindOf_15 (by decide) ?_
      exact zr_I hO hR rfl dX0_kindOf_19 h
theorem rX0_isOfKind_0 {x : zX} {w : zWd} {im : zMem} {lv : Int64} {P : Int32 → zMem → Int64 → Prop} {f1 : Nat} {x2 : Int32} (hO : zOK x w zyX0_isOfKind 5) (hR : zRetI x w zyX0_isOfKind P) (hN : zN x 126 126) (hf1 : f1 < 12)
 (h : (∃ P1 : Int32 → zMem → Int64 → Prop, zSpecI x.2.1 w 4 zyX0_kindOf [vR 39 0, vR 12 f1] im lv P1 ∧ ∀ (v1 : Int32) (im1 : zMem) (lv1 : Int64), P1 v1 im1 lv1 → ((x2 = 0 → P 1 im1 lv1) ∧
 (¬ (x2 = 0) → ((x2 = v1 → P 1 im1 lv1) ∧
 (¬ (x2 = v1) → ((¬ (x2 = 1) → P 0 im1 lv1) ∧
 (x2 = 1 → ((¬ (v1 = 2) → P 0 im1 lv1) ∧
 (v1 = 2 → P 1 im1 lv1)))))))))) :
 zW x w 0 [(0, vR 39 0), (1, vR 12 f1), (2, vI x2)] [] im lv := by
  refine zi_aload_n hO dX0_isOfKind_0 0 rfl ?_
  refine zi_aload_n hO dX0_isOfKind_1 1 rfl ?_
  obtain ⟨P1, hM1, h⟩ := h
  refine zc_VI (as := [vR 12 f1]) hO hN dX0_isOfKind_2 kX0_37 (by decide) rfl (zI (by decide)) rfl rfl (Nat.le_of_ble_eq_true rfl) rfl rfl hM1 (fun v1 im1 lv1 hp1 => ?_)
  replace h := h v1 im1 lv1 hp1
  refine zi_istore_n (L' := [(0, vR 39 0), (1, vR 12 f1), (2, vI x2), (3, vI v1)]) hO dX0_isOfKind_5 (by decide) rfl rfl ?_
  refine zi_iload_n hO dX0_isOfKind_6 2 rfl ?_
  refine zi_if_eq (tgt := 25) hO dX0_isOfKind_7 (by decide) (fun c1 => ?_) (fun c1 => ?_)
  · have h := h.1 c1
    refine zi_iconst (v := 1) hO dX0_isOfKind_25 (by decide) ?_
    refine zi_goto (tgt := 30) hO dX0_isOfKind_26 (by decide) ?_
    exact zr_Z hO hR rfl (Or.inr rfl) dX0_isOfKind_30 h
  · have h := h.2 c1
    refine zi_iload_n hO dX0_isOfKind_10 2 rfl ?_
    refine zi_iload_n hO dX0_isOfKind_11 3 rfl ?_
    refine zi_icmp_eq (tgt := 25) hO dX0_isOfKind_12 (by decide) (fun c2 => ?_) (fun c2 => ?_)
    · have h := h.1 c2
      refine zi_iconst (v := 1) hO dX0_isOfKind_25 (by decide) ?_
      refine zi_goto (tgt := 30) hO dX0_isOfKind_26 (by decide) ?_
      exact zr_Z hO hR rfl (Or.inr rfl) dX0_isOfKind_30 h
    · have h := h.2 c2
      refine zi_iload_n hO dX0_isOfKind_15 2 rfl ?_
      refine zi_iconst (v := 1) hO dX0_isOfKind_16 (by decide) ?_
      refine zi_icmp_ne (tgt := 29) hO dX0_isOfKind_17 (by decide) (fun c3 => ?_) (fun c3 => ?_)
      · have h := h.1 c3
        refine zi_iconst (v := 0) hO dX0_isOfKind_29 (by decide) ?_
        exact zr_Z hO hR rfl (Or.inl rfl) dX0_isOfKind_30 h
      · have h := h.2 c3
        refine zi_iload_n hO dX0_isOfKind_20 3 rfl ?_
        refine zi_iconst (v := 2) hO dX0_isOfKind_21 (by decide) ?_
        refine zi_icmp_ne (tgt := 29) hO dX0_isOfKind_22 (by decide) (fun c4 => ?_) (fun c4 => ?_)
        · have h := h.1 c4
          refine zi_iconst (v := 0) hO dX0_isOfKind_29 (by decide) ?_
          exact zr_Z hO hR rfl (Or.inl rfl) dX0_isOfKind_30 h
        · have h := h.2 c4
          refine zi_iconst (v := 1) hO dX0_isOfKind_25 (by decide) ?_
          refine zi_goto (tgt := 30) hO dX0_isOfKind_26 (by decide) ?_
          exact zr_Z hO hR rfl (Or.inr rfl) dX0_isOfKind_30 h
theorem rX0_leaveInTrace_0 {x : zX} {w : zWd} {im : zMem} {lv : Int64} {P : zMem → Int64 → Prop} {x1 : Int32} (hO : zOK x w zyX0_leaveInTrace 2) (hR : zRetV x w zyX0_leaveInTrace P) (hN : zN x 126 126)
 (h : ((16 ≤ (im 39 0 2) → P im lv) ∧
 (¬ (16 ≤ (im 39 0 2)) → (vp_in (im 39 0 2) 16 ∧ P (zwr (zwr im 40 0 (Int32.toNatClampNeg (im 39 0 2)) x1) 39 0 2 ((im 39 0 2) + 1)) lv)))) :
 zW x w 0 [(0, vR 39 0), (1, vI x1)] [] im lv := by
  refine zi_aload_n hO dX0_leaveInTrace_0 0 rfl ?_
  refine zi_getI hO dX0_leaveInTrace_1 fX0_15 rfl rfl (zI (by decide)) ?_
  refine zi_bipush (v := 16) hO dX0_leaveInTrace_4 (by decide) ?_
  refine zi_icmp_ge (tgt := 29) hO dX0_leaveInTrace_6 (by decide) (fun c1 => ?_) (fun c1 => ?_)
  · have h := h.1 c1
    exact zr_V hO hR rfl dX0_leaveInTrace_29 h
  · have h := h.2 c1
    refine zi_aload_n hO dX0_leaveInTrace_9 0 rfl ?_
    refine zi_getR (r' := 40) (i' := 0) hO dX0_leaveInTrace_10 fX0_9 rfl rfl (zI (by decide)) rfl ?_
    refine zi_aload_n hO dX0_leaveInTrace_13 0 rfl ?_
    refine zi_getI hO dX0_leaveInTrace_14 fX0_15 rfl rfl (zI (by decide)) ?_
    refine zi_iload_n hO dX0_leaveInTrace_17 1 rfl ?_
    obtain ⟨s1, h⟩ := h
    refine zi_iast hO dX0_leaveInTrace_18 rfl (zI (by decide)) s1 ?_
    refine zi_aload_n hO dX0_leaveInTrace_19 0 rfl ?_
    refine zi_dup hO dX0_leaveInTrace_20 rfl ?_
    refine zi_getI hO dX0_leaveInTrace_21 fX0_15 rfl rfl (zI (by decide)) ?_
    refine zi_iconst (v := 1) hO dX0_leaveInTrace_24 (by decide) ?_
    refine zi_iadd hO dX0_leaveInTrace_25 ?_
    refine zi_putI hO dX0_leaveInTrace_26 gX0_15 rfl rfl (zI (by decide)) ?_
    exact zr_V hO hR rfl dX0_leaveInTrace_29 h
theorem rX0_sizeLent_0 {x : zX} {w : zWd} {im : zMem} {lv : Int64} {P : Int32 → zMem → Int64 → Prop} {f1 : Nat} (hO : zOK x w zyX0_sizeLent 3) (hR : zRetI x w zyX0_sizeLent P) (hN : zN x 126 126) (hf1 : f1 < 12)
 (h : (∃ P1 : zMem → Int64 → Prop, zSpecV x.2.1 w 2 zyX0_leaveInTrace [vR 39 0, vI 10] im lv P1 ∧ ∀ (im1 : zMem) (lv1 : Int64), P1 im1 lv1 → (∃ P2 : Int32 → zMem → Int64 → Prop, zSpecI x.2.1 w 2 zyX2_slotsOfWay [vR 12 f1] im1 lv1 P2 ∧ ∀ (v2 : Int32) (im2 : zMem) (lv2 : Int64), P2 v2 im2 lv2 → P v2 im2 lv2))) :
 zW x w 0 [(0, vR 39 0), (1, vR 12 f1)] [] im lv := by
  refine zi_aload_n hO dX0_sizeLent_0 0 rfl ?_
  refine zi_bipush (v := 10) hO dX0_sizeLent_1 (by decide) ?_
  obtain ⟨P1, hM1, h⟩ := h
  refine zc_VV (as := [vI 10]) hO hN dX0_sizeLent_3 kX0_62 (by decide) rfl (zI (by decide)) rfl rfl (Nat.le_of_ble_eq_true rfl) rfl rfl hM1 (fun im1 lv1 hp1 => ?_)
  replace h := h im1 lv1 hp1
  refine zi_aload_n hO dX0_sizeLent_6 1 rfl ?_
  obtain ⟨P2, hM2, h⟩ := h
  refine zc_VI (as := []) hO hN dX0_sizeLent_7 kX0_66 (by decide) rfl (zI hf1) rfl rfl (Nat.le_of_ble_eq_true rfl) rfl rfl hM2 (fun v2 im2 lv2 hp2 => ?_)
  replace h := h v2 im2 lv2 hp2
  exact zr_I hO hR rfl dX0_sizeLent_10 h
theorem rX0_sizeOfLate_0 {x : zX} {w : zWd} {im : zMem} {lv : Int64} {P : Int32 → zMem → Int64 → Prop} {f1 : Nat} (hO : zOK x w zyX0_sizeOfLate 4) (hR : zRetI x w zyX0_sizeOfLate P) (hN : zN x 126 126) (hf1 : f1 < 12)
 (h : (∃ P1 : zMem → Int64 → Prop, zSpecV x.2.1 w 2 zyX0_leaveInTrace [vR 39 0, vI 11] im lv P1 ∧ ∀ (im1 : zMem) (lv1 : Int64), P1 im1 lv1 → (∃ P2 : Int32 → zMem → Int64 → Prop, zSpecI x.2.1 w 3 zyX0_sizeLent [vR 39 0, vR 12 f1] im1 lv1 P2 ∧ ∀ (v2 : Int32) (im2 : zMem) (lv2 : Int64), P2 v2 im2 lv2 → P (v2 + (((im2 12 f1 3) * (im2 12 f1 9)) + (10 * (im2 12 f1 8)))) im2 lv2))) :
 zW x w 0 [(0, vR 39 0), (1, vR 12 f1)] [] im lv := by
  refine zi_aload_n hO dX0_sizeOfLate_0 0 rfl ?_
  refine zi_bipush (v := 11) hO dX0_sizeOfLate_1 (by decide) ?_
  obtain ⟨P1, hM1, h⟩ := h
  refine zc_VV (as := [vI 11]) hO hN dX0_sizeOfLate_3 kX0_62 (by decide) rfl (zI (by decide)) rfl rfl (Nat.le_of_ble_eq_true rfl) rfl rfl hM1 (fun im1 lv1 hp1 => ?_)
  replace h := h im1 lv1 hp1
  refine zi_aload_n hO dX0_sizeOfLate_6 0 rfl ?_
  refine zi_aload_n hO dX0_sizeOfLate_7 1 rfl ?_
  obtain ⟨P2, hM2, h⟩ := h
  refine zc_VI (as := [vR 12 f1]) hO hN dX0_sizeOfLate_8 kX0_50 (by decide) rfl (zI (by decide)) rfl rfl (Nat.le_of_ble_eq_true rfl) rfl rfl hM2 (fun v2 im2 lv2 hp2 => ?_)
  replace h := h v2 im2 lv2 hp2
  refine zi_aload_n hO dX0_sizeOfLate_11 1 rfl ?_
  refine zc_VI (as := []) hO hN dX0_sizeOfLate_12 kX0_70 (by decide) rfl (zI hf1) rfl rfl (Nat.le_of_ble_eq_true rfl) rfl rfl (C_X2_cost _ _ _ _ hf1) (fun v3 im3 lv3 hp3 => ?_)
  rw [hp3.1, hp3.2.1, hp3.2.2]
  refine zi_iadd hO dX0_sizeOfLate_15 ?_
  exact zr_I hO hR rfl dX0_sizeOfLate_16 h
theorem rX0_sizeOfRound_0 {x : zX} {w : zWd} {im : zMem} {lv : Int64} {P : Int32 → zMem → Int64 → Prop} {f1 : Nat} (hO : zOK x w zyX0_sizeOfRound 5) (hR : zRetI x w zyX0_sizeOfRound P) (hN : zN x 126 126) (hf1 : f1 < 12)
 (h : (∃ P1 : zMem → Int64 → Prop, zSpecV x.2.1 w 2 zyX0_leaveInTrace [vR 39 0, vI 12] im lv P1 ∧ ∀ (im1 : zMem) (lv1 : Int64), P1 im1 lv1 → (∃ P2 : Int32 → zMem → Int64 → Prop, zSpecI x.2.1 w 4 zyX0_sizeOfLate [vR 39 0, vR 12 f1] im1 lv1 P2 ∧ ∀ (v2 : Int32) (im2 : zMem) (lv2 : Int64), P2 v2 im2 lv2 → P (2 * v2) im2 lv2))) :
 zW x w 0 [(0, vR 39 0), (1, vR 12 f1)] [] im lv := by
  refine zi_aload_n hO dX0_sizeOfRound_0 0 rfl ?_
  refine zi_bipush (v := 12) hO dX0_sizeOfRound_1 (by decide) ?_
  obtain ⟨P1, hM1, h⟩ := h
  refine zc_VV (as := [vI 12]) hO hN dX0_sizeOfRound_3 kX0_62 (by decide) rfl (zI (by decide)) rfl rfl (Nat.le_of_ble_eq_true rfl) rfl rfl hM1 (fun im1 lv1 hp1 => ?_)
  replace h := h im1 lv1 hp1
  refine zi_iconst (v := 2) hO dX0_sizeOfRound_6 (by decide) ?_
  refine zi_aload_n hO dX0_sizeOfRound_7 0 rfl ?_
  refine zi_aload_n hO dX0_sizeOfRound_8 1 rfl ?_
  obtain ⟨P2, hM2, h⟩ := h
  refine zc_VI (as := [vR 12 f1]) hO hN dX0_sizeOfRound_9 kX0_41 (by decide) rfl (zI (by decide)) rfl rfl (Nat.le_of_ble_eq_true rfl) rfl rfl hM2 (fun v2 im2 lv2 hp2 => ?_)
  replace h := h v2 im2 lv2 hp2
  refine zi_imul hO dX0_sizeOfRound_12 ?_
  exact zr_I hO hR rfl dX0_sizeOfRound_13 h
theorem rX0_sizeOfCalm_0 {x : zX} {w : zWd} {im : zMem} {lv : Int64} {P : Int32 → zMem → Int64 → Prop} {f1 : Nat} (hO : zOK x w zyX0_sizeOfCalm 6) (hR : zRetI x w zyX0_sizeOfCalm P) (hN : zN x 126 126) (hf1 : f1 < 12)
 (h : (∃ P1 : zMem → Int64 → Prop, zSpecV x.2.1 w 2 zyX0_leaveInTrace [vR 39 0, vI 13] im lv P1 ∧ ∀ (im1 : zMem) (lv1 : Int64), P1 im1 lv1 → (∃ P2 : Int32 → zMem → Int64 → Prop, zSpecI x.2.1 w 3 zyX0_sizeLent [vR 39 0, vR 12 f1] im1 lv1 P2 ∧ ∀ (v2 : Int32) (im2 : zMem) (lv2 : Int64), P2 v2 im2 lv2 → (∃ P3 : Int32 → zMem → Int64 → Prop, zSpecI x.2.1 w 5 zyX0_markOf [vR 39 0, vR 12 f1] im2 lv2 P3 ∧ ∀ (v3 : Int32) (im3 : zMem) (lv3 : Int64), P3 v3 im3 lv3 → P (v2 + v3) im3 lv3)))) :
 zW x w 0 [(0, vR 39 0), (1, vR 12 f1)] [] im lv := by
  refine zi_aload_n hO dX0_sizeOfCalm_0 0 rfl ?_
  refine zi_bipush (v := 13) hO dX0_sizeOfCalm_1 (by decide) ?_
  obtain ⟨P1, hM1, h⟩ := h
  refine zc_VV (as := [vI 13]) hO hN dX0_sizeOfCalm_3 kX0_62 (by decide) rfl (zI (by decide)) rfl rfl (Nat.le_of_ble_eq_true rfl) rfl rfl hM1 (fun im1 lv1 hp1 => ?_)
  replace h := h im1 lv1 hp1
  refine zi_aload_n hO dX0_sizeOfCalm_6 0 rfl ?_
  refine zi_aload_n hO dX0_sizeOfCalm_7 1 rfl ?_
  obtain ⟨P2, hM2, h⟩ := h
  refine zc_VI (as := [vR 12 f1]) hO hN dX0_sizeOfCalm_8 kX0_50 (by decide) rfl (zI (by decide)) rfl rfl (Nat.le_of_ble_eq_true rfl) rfl rfl hM2 (fun v2 im2 lv2 hp2 => ?_)
  replace h := h v2 im2 lv2 hp2
  refine zi_aload_n hO dX0_sizeOfCalm_11 0 rfl ?_
  refine zi_aload_n hO dX0_sizeOfCalm_12 1 rfl ?_
  obtain ⟨P3, hM3, h⟩ := h
  refine zc_VI (as := [vR 12 f1]) hO hN dX0_sizeOfCalm_13 kX0_73 (by decide) rfl (zI (by decide)) rfl rfl (Nat.le_of_ble_eq_true rfl) rfl rfl hM3 (fun v3 im3 lv3 hp3 => ?_)
  replace h := h v3 im3 lv3 hp3
  refine zi_iadd hO dX0_sizeOfCalm_16 ?_
  exact zr_I hO hR rfl dX0_sizeOfCalm_17 h
theorem rX0_markLent_0 {x : zX} {w : zWd} {im : zMem} {lv : Int64} {P : Int32 → zMem → Int64 → Prop} {f1 : Nat} (hO : zOK x w zyX0_markLent 3) (hR : zRetI x w zyX0_markLent P) (hN : zN x 126 126) (hf1 : f1 < 12)
 (h : (∃ P1 : zMem → Int64 → Prop, zSpecV x.2.1 w 2 zyX0_leaveInTrace [vR 39 0, vI 20] im lv P1 ∧ ∀ (im1 : zMem) (lv1 : Int64), P1 im1 lv1 → P (im1 12 f1 1) im1 lv1)) :
 zW x w 0 [(0, vR 39 0), (1, vR 12 f1)] [] im lv := by
  refine zi_aload_n hO dX0_markLent_0 0 rfl ?_
  refine zi_bipush (v := 20) hO dX0_markLent_1 (by decide) ?_
  obtain ⟨P1, hM1, h⟩ := h
  refine zc_VV (as := [vI 20]) hO hN dX0_markLent_3 kX0_62 (by decide) rfl (zI (by decide)) rfl rfl (Nat.le_of_ble_eq_true rfl) rfl rfl hM1 (fun im1 lv1 hp1 => ?_)
  replace h := h im1 lv1 hp1
  refine zi_aload_n hO dX0_markLent_6 1 rfl ?_
  refine zi_getI hO dX0_markLent_7 fX0_76 rfl rfl (zI hf1) ?_
  exact zr_I hO hR rfl dX0_markLent_10 h
theorem rX0_markOfLate_0 {x : zX} {w : zWd} {im : zMem} {lv : Int64} {P : Int32 → zMem → Int64 → Prop} {f1 : Nat} (hO : zOK x w zyX0_markOfLate 4) (hR : zRetI x w zyX0_markOfLate P) (hN : zN x 126 126) (hf1 : f1 < 12)
 (h : (∃ P1 : zMem → Int64 → Prop, zSpecV x.2.1 w 2 zyX0_leaveInTrace [vR 39 0, vI 21] im lv P1 ∧ ∀ (im1 : zMem) (lv1 : Int64), P1 im1 lv1 → (∃ P2 : Int32 → zMem → Int64 → Prop, zSpecI x.2.1 w 3 zyX0_markLent [vR 39 0, vR 12 f1] im1 lv1 P2 ∧ ∀ (v2 : Int32) (im2 : zMem) (lv2 : Int64), P2 v2 im2 lv2 → P (v2 + 100) im2 lv2))) :
 zW x w 0 [(0, vR 39 0), (1, vR 12 f1)] [] im lv := by
  refine zi_aload_n hO dX0_markOfLate_0 0 rfl ?_
  refine zi_bipush (v := 21) hO dX0_markOfLate_1 (by decide) ?_
  obtain ⟨P1, hM1, h⟩ := h
  refine zc_VV (as := [vI 21]) hO hN dX0_markOfLate_3 kX0_62 (by decide) rfl (zI (by decide)) rfl rfl (Nat.le_of_ble_eq_true rfl) rfl rfl hM1 (fun im1 lv1 hp1 => ?_)
  replace h := h im1 lv1 hp1
  refine zi_aload_n hO dX0_markOfLate_6 0 rfl ?_
  refine zi_aload_n hO dX0_markOfLate_7 1 rfl ?_
  obtain ⟨P2, hM2, h⟩ := h
  refine zc_VI (as := [vR 12 f1]) hO hN dX0_markOfLate_8 kX0_59 (by decide) rfl (zI (by decide)) rfl rfl (Nat.le_of_ble_eq_true rfl) rfl rfl hM2 (fun v2 im2 lv2 hp2 => ?_)
  replace h := h v2 im2 lv2 hp2
  refine zi_bipush (v := 100) hO dX0_markOfLate_11 (by decide) ?_
  refine zi_iadd hO dX0_markOfLate_13 ?_
  exact zr_I hO hR rfl dX0_markOfLate_14 h
theorem rX0_markOfCalm_0 {x : zX} {w : zWd} {im : zMem} {lv : Int64} {P : Int32 → zMem → Int64 → Prop} {f1 : Nat} (hO : zOK x w zyX0_markOfCalm 4) (hR : zRetI x w zyX0_markOfCalm P) (hN : zN x 126 126) (hf1 : f1 < 12)
 (h : (∃ P1 : zMem → Int64 → Prop, zSpecV x.2.1 w 2 zyX0_leaveInTrace [vR 39 0, vI 22] im lv P1 ∧ ∀ (im1 : zMem) (lv1 : Int64), P1 im1 lv1 → (∃ P2 : Int32 → zMem → Int64 → Prop, zSpecI x.2.1 w 3 zyX0_markLent [vR 39 0, vR 12 f1] im1 lv1 P2 ∧ ∀ (v2 : Int32) (im2 : zMem) (lv2 : Int64), P2 v2 im2 lv2 → P (v2 + (im2 12 f1 0)) im2 lv2))) :
 zW x w 0 [(0, vR 39 0), (1, vR 12 f1)] [] im lv := by
  refine zi_aload_n hO dX0_markOfCalm_0 0 rfl ?_
  refine zi_bipush (v := 22) hO dX0_markOfCalm_1 (by decide) ?_
  obtain ⟨P1, hM1, h⟩ := h
  refine zc_VV (as := [vI 22]) hO hN dX0_markOfCalm_3 kX0_62 (by decide) rfl (zI (by decide)) rfl rfl (Nat.le_of_ble_eq_true rfl) rfl rfl hM1 (fun im1 lv1 hp1 => ?_)
  replace h := h im1 lv1 hp1
  refine zi_aload_n hO dX0_markOfCalm_6 0 rfl ?_
  refine zi_aload_n hO dX0_markOfCalm_7 1 rfl ?_
  obtain ⟨P2, hM2, h⟩ := h
  refine zc_VI (as := [vR 12 f1]) hO hN dX0_markOfCalm_8 kX0_59 (by decide) rfl (zI (by decide)) rfl rfl (Nat.le_of_ble_eq_true rfl) rfl rfl hM2 (fun v2 im2 lv2 hp2 => ?_)
  replace h := h v2 im2 lv2 hp2
  refine zi_aload_n hO dX0_markOfCalm_11 1 rfl ?_
  refine zi_getI hO dX0_markOfCalm_12 fX0_79 rfl rfl (zI hf1) ?_
  refine zi_iadd hO dX0_markOfCalm_15 ?_
  exact zr_I hO hR rfl dX0_markOfCalm_16 h
theorem rX0_markOf_0 {x : zX} {w : zWd} {im : zMem} {lv : Int64} {P : Int32 → zMem → Int64 → Prop} {f1 : Nat} (hO : zOK x w zyX0_markOf 5) (hR : zRetI x w zyX0_markOf P) (hN : zN x 126 126) (hf1 : f1 < 12)
 (h : (∃ P1 : Int32 → zMem → Int64 → Prop, zSpecI x.2.1 w 4 zyX0_kindOf [vR 39 0, vR 12 f1] im lv P1 ∧ ∀ (v1 : Int32) (im1 : zMem) (lv1 : Int64), P1 v1 im1 lv1 → (v1 < 1 ∨ 3 < v1 → (∃ P2 : Int32 → zMem → Int64 → Prop, zSpecI x.2.1 w 3 zyX0_markLent [vR 39 0, vR 12 f1] im1 lv1 P2 ∧ ∀ (v2 : Int32) (im2 : zMem) (lv2 : Int64), P2 v2 im2 lv2 → P v2 im2 lv2)) ∧ ((v1 = 1 → (∃ P3 : Int32 → zMem → Int64 → Prop, zSpecI x.2.1 w 4 zyX0_markOfLate [vR 39 0, vR 12 f1] im1 lv1 P3 ∧ ∀ (v3 : Int32) (im3 : zMem) (lv3 : Int64), P3 v3 im3 lv3 → P v3 im3 lv3)) ∧
 (v1 = 2 → (∃ P4 : Int32 → zMem → Int64 → Prop, zSpecI x.2.1 w 4 zyX0_markOfLate [vR 39 0, vR 12 f1] im1 lv1 P4 ∧ ∀ (v4 : Int32) (im4 : zMem) (lv4 : Int64), P4 v4 im4 lv4 → P v4 im4 lv4)) ∧
 (v1 = 3 → (∃ P5 : Int32 → zMem → Int64 → Prop, zSpecI x.2.1 w 4 zyX0_markOfCalm [vR 39 0, vR 12 f1] im1 lv1 P5 ∧ ∀ (v5 : Int32) (im5 : zMem) (lv5 : Int64), P5 v5 im5 lv5 → P v5 im5 lv5))))) :
 zW x w 0 [(0, vR 39 0), (1, vR 12 f1)] [] im lv := by
  refine zi_aload_n hO dX0_markOf_0 0 rfl ?_
  refine zi_aload_n hO dX0_markOf_1 1 rfl ?_
  obtain ⟨P1, hM1, h⟩ := h
  refine zc_VI (as := [vR 12 f1]) hO hN dX0_markOf_2 kX0_37 (by decide) rfl (zI (by decide)) rfl rfl (Nat.le_of_ble_eq_true rfl) rfl rfl hM1 (fun v1 im1 lv1 hp1 => ?_)
  replace h := h v1 im1 lv1 hp1
  by_cases hs0 : Int32.toInt v1 < 1 ∨ 3 < Int32.toInt v1
  · have h := h.1 (zsw_out (by decide) (by decide) hs0)
    refine zi_tableOut (tgt := 44) hO dX0_markOf_5 hs0 (by decide) ?_
    refine zi_aload_n hO dX0_markOf_44 0 rfl ?_
    refine zi_aload_n hO dX0_markOf_45 1 rfl ?_
    obtain ⟨P2, hM2, h⟩ := h
    refine zc_VI (as := [vR 12 f1]) hO hN dX0_markOf_46 kX0_59 (by decide) rfl (zI (by decide)) rfl rfl (Nat.le_of_ble_eq_true rfl) rfl rfl hM2 (fun v2 im2 lv2 hp2 => ?_)
    replace h := h v2 im2 lv2 hp2
    exact zr_I hO hR rfl dX0_markOf_49 h
  · have h := h.2
    by_cases hs1 : v1 = 1
    · have h := h.1 hs1
      refine zi_tableIn (off := 27) (tgt := 32) hO dX0_markOf_5 (zsw_lo hs1 (by decide)) (zsw_hi hs1 (by decide)) (zsw_at hs1 rfl) (by decide) ?_
      refine zi_aload_n hO dX0_markOf_32 0 rfl ?_
      refine zi_aload_n hO dX0_markOf_33 1 rfl ?_
      obtain ⟨P3, hM3, h⟩ := h
      refine zc_VI (as := [vR 12 f1]) hO hN dX0_markOf_34 kX0_53 (by decide) rfl (zI (by decide)) rfl rfl (Nat.le_of_ble_eq_true rfl) rfl rfl hM3 (fun v3 im3 lv3 hp3 => ?_)
      replace h := h v3 im3 lv3 hp3
      exact zr_I hO hR rfl dX0_markOf_37 h
    by_cases hs2 : v1 = 2
    · have h := h.2.1 hs2
      refine zi_tableIn (off := 27) (tgt := 32) hO dX0_markOf_5 (zsw_lo hs2 (by decide)) (zsw_hi hs2 (by decide)) (zsw_at hs2 rfl) (by decide) ?_
      refine zi_aload_n hO dX0_markOf_32 0 rfl ?_
      refine zi_aload_n hO dX0_markOf_33 1 rfl ?_
      obtain ⟨P4, hM4, h⟩ := h
      refine zc_VI (as := [vR 12 f1]) hO hN dX0_markOf_34 kX0_53 (by decide) rfl (zI (by decide)) rfl rfl (Nat.le_of_ble_eq_true rfl) rfl rfl hM4 (fun v4 im4 lv4 hp4 => ?_)
      replace h := h v4 im4 lv4 hp4
      exact zr_I hO hR rfl dX0_markOf_37 h
    by_cases hs3 : v1 = 3
    · have h := h.2.2 hs3
      refine zi_tableIn (off := 33) (tgt := 38) hO dX0_markOf_5 (zsw_lo hs3 (by decide)) (zsw_hi hs3 (by decide)) (zsw_at hs3 rfl) (by decide) ?_
      refine zi_aload_n hO dX0_markOf_38 0 rfl ?_
      refine zi_aload_n hO dX0_markOf_39 1 rfl ?_
      obtain ⟨P5, hM5, h⟩ := h
      refine zc_VI (as := [vR 12 f1]) hO hN dX0_markOf_40 kX0_56 (by decide) rfl (zI (by decide)) rfl rfl (Nat.le_of_ble_eq_true rfl) rfl rfl hM5 (fun v5 im5 lv5 hp5 => ?_)
      replace h := h v5 im5 lv5 hp5
      exact zr_I hO hR rfl dX0_markOf_43 h
    have e1 := zsw_ne (k := 1) hs1 (by decide)
    have e2 := zsw_ne (k := 2) hs2 (by decide)
    have e3 := zsw_ne (k := 3) hs3 (by decide)
    exfalso
    omega
theorem rX0_sizeOf_0 {x : zX} {w : zWd} {im : zMem} {lv : Int64} {P : Int32 → zMem → Int64 → Prop} {f1 : Nat} (hO : zOK x w zyX0_sizeOf 7) (hR : zRetI x w zyX0_sizeOf P) (hN : zN x 126 126) (hf1 : f1 < 12)
 (h : (∃ P1 : Int32 → zMem → Int64 → Prop, zSpecI x.2.1 w 4 zyX0_kindOf [vR 39 0, vR 12 f1] im lv P1 ∧ ∀ (v1 : Int32) (im1 : zMem) (lv1 : Int64), P1 v1 im1 lv1 → (v1 < 1 ∨ 3 < v1 → (∃ P2 : Int32 → zMem → Int64 → Prop, zSpecI x.2.1 w 3 zyX0_sizeLent [vR 39 0, vR 12 f1] im1 lv1 P2 ∧ ∀ (v2 : Int32) (im2 : zMem) (lv2 : Int64), P2 v2 im2 lv2 → P v2 im2 lv2)) ∧ ((v1 = 1 → (∃ P3 : Int32 → zMem → Int64 → Prop, zSpecI x.2.1 w 4 zyX0_sizeOfLate [vR 39 0, vR 12 f1] im1 lv1 P3 ∧ ∀ (v3 : Int32) (im3 : zMem) (lv3 : Int64), P3 v3 im3 lv3 → P v3 im3 lv3)) ∧
 (v1 = 2 → (∃ P4 : Int32 → zMem → Int64 → Prop, zSpecI x.2.1 w 5 zyX0_sizeOfRound [vR 39 0, vR 12 f1] im1 lv1 P4 ∧ ∀ (v4 : Int32) (im4 : zMem) (lv4 : Int64), P4 v4 im4 lv4 → P v4 im4 lv4)) ∧
 (v1 = 3 → (∃ P5 : Int32 → zMem → Int64 → Prop, zSpecI x.2.1 w 6 zyX0_sizeOfCalm [vR 39 0, vR 12 f1] im1 lv1 P5 ∧ ∀ (v5 : Int32) (im5 : zMem) (lv5 : Int64), P5 v5 im5 lv5 → P v5 im5 lv5))))) :
 zW x w 0 [(0, vR 39 0), (1, vR 12 f1)] [] im lv := by
  refine zi_aload_n hO dX0_sizeOf_0 0 rfl ?_
  refine zi_aload_n hO dX0_sizeOf_1 1 rfl ?_
  obtain ⟨P1, hM1, h⟩ := h
  refine zc_VI (as := [vR 12 f1]) hO hN dX0_sizeOf_2 kX0_37 (by decide) rfl (zI (by decide)) rfl rfl (Nat.le_of_ble_eq_true rfl) rfl rfl hM1 (fun v1 im1 lv1 hp1 => ?_)
  replace h := h v1 im1 lv1 hp1
  by_cases hs0 : Int32.toInt v1 < 1 ∨ 3 < Int32.toInt v1
  · have h := h.1 (zsw_out (by decide) (by decide) hs0)
    refine zi_tableOut (tgt := 50) hO dX0_sizeOf_5 hs0 (by decide) ?_
    refine zi_aload_n hO dX0_sizeOf_50 0 rfl ?_
    refine zi_aload_n hO dX0_sizeOf_51 1 rfl ?_
    obtain ⟨P2, hM2, h⟩ := h
    refine zc_VI (as := [vR 12 f1]) hO hN dX0_sizeOf_52 kX0_50 (by decide) rfl (zI (by decide)) rfl rfl (Nat.le_of_ble_eq_true rfl) rfl rfl hM2 (fun v2 im2 lv2 hp2 => ?_)
    replace h := h v2 im2 lv2 hp2
    exact zr_I hO hR rfl dX0_sizeOf_55 h
  · have h := h.2
    by_cases hs1 : v1 = 1
    · have h := h.1 hs1
      refine zi_tableIn (off := 27) (tgt := 32) hO dX0_sizeOf_5 (zsw_lo hs1 (by decide)) (zsw_hi hs1 (by decide)) (zsw_at hs1 rfl) (by decide) ?_
      refine zi_aload_n hO dX0_sizeOf_32 0 rfl ?_
      refine zi_aload_n hO dX0_sizeOf_33 1 rfl ?_
      obtain ⟨P3, hM3, h⟩ := h
      refine zc_VI (as := [vR 12 f1]) hO hN dX0_sizeOf_34 kX0_41 (by decide) rfl (zI (by decide)) rfl rfl (Nat.le_of_ble_eq_true rfl) rfl rfl hM3 (fun v3 im3 lv3 hp3 => ?_)
      replace h := h v3 im3 lv3 hp3
      exact zr_I hO hR rfl dX0_sizeOf_37 h
    by_cases hs2 : v1 = 2
    · have h := h.2.1 hs2
      refine zi_tableIn (off := 33) (tgt := 38) hO dX0_sizeOf_5 (zsw_lo hs2 (by decide)) (zsw_hi hs2 (by decide)) (zsw_at hs2 rfl) (by decide) ?_
      refine zi_aload_n hO dX0_sizeOf_38 0 rfl ?_
      refine zi_aload_n hO dX0_sizeOf_39 1 rfl ?_
      obtain ⟨P4, hM4, h⟩ := h
      refine zc_VI (as := [vR 12 f1]) hO hN dX0_sizeOf_40 kX0_44 (by decide) rfl (zI (by decide)) rfl rfl (Nat.le_of_ble_eq_true rfl) rfl rfl hM4 (fun v4 im4 lv4 hp4 => ?_)
      replace h := h v4 im4 lv4 hp4
      exact zr_I hO hR rfl dX0_sizeOf_43 h
    by_cases hs3 : v1 = 3
    · have h := h.2.2 hs3
      refine zi_tableIn (off := 39) (tgt := 44) hO dX0_sizeOf_5 (zsw_lo hs3 (by decide)) (zsw_hi hs3 (by decide)) (zsw_at hs3 rfl) (by decide) ?_
      refine zi_aload_n hO dX0_sizeOf_44 0 rfl ?_
      refine zi_aload_n hO dX0_sizeOf_45 1 rfl ?_
      obtain ⟨P5, hM5, h⟩ := h
      refine zc_VI (as := [vR 12 f1]) hO hN dX0_sizeOf_46 kX0_47 (by decide) rfl (zI (by decide)) rfl rfl (Nat.le_of_ble_eq_true rfl) rfl rfl hM5 (fun v5 im5 lv5 hp5 => ?_)
      replace h := h v5 im5 lv5 hp5
      exact zr_I hO hR rfl dX0_sizeOf_49 h
    have e1 := zsw_ne (k := 1) hs1 (by decide)
    have e2 := zsw_ne (k := 2) hs2 (by decide)
    have e3 := zsw_ne (k := 3) hs3 (by decide)
    exfalso
    omega
theorem C_X0_kindOf (l : Launch) (w : zWd) {m im : zMem} (lv : Int64) (hW : WF m) (hC : RC m im) (hS : SKY m im) {f : Nat} (hf : f < nfl m) : zSpecI l w 4 zyX0_kindOf [vR 39 0, vR 12 f] im lv (fun v im' lv' => (v = nI (knd m f) ∧ ∀ r, ¬ r = 23 → im' r = im r) ∧ lv' = lv) := by
  refine ze_I (by decide) (Nat.le_of_ble_eq_true rfl) (fun x hO hR hN => ?_)
  have h12 := hW.1.2
  obtain ⟨-, f1, -, -, f4, f5, f6, -⟩ := hW.2.1 f hf
  obtain ⟨c0, c1, c2, c3, c4, c5, c6, -⟩ := hC.2.1 f hf
  refine rX0_kindOf_0 hO hR hN (by omega) ?_
  rw [c5, c6]
  simp (disch := omega) only [zlit, nI_leI, nI_eq]
  refine ⟨fun q => ⟨_, C_X8_isCrowdedAround _ _ _ hW hC hS hf, ?_⟩, fun q => ⟨fun q2 => ⟨⟨?_, fun _ _ => trivial⟩, trivial⟩, fun q2 => ⟨⟨?_, fun _ _ => trivial⟩, trivial⟩⟩⟩
  · have hd : dly m f = 0 := by omega
    rintro v1 im1 lv1 ⟨⟨h1, h2⟩, rfl⟩
    unfold knd
    rw [if_neg (by omega)]
    rcases h1 with ⟨rfl, hc⟩ | ⟨rfl, hc⟩
    · refine ⟨fun q => absurd q (by decide), fun _ => ⟨⟨?_, h2⟩, rfl⟩⟩
      rw [if_neg (fun z => (calm_crwd hd).mp z hc)]
    · refine ⟨fun _ => ⟨⟨?_, h2⟩, rfl⟩, fun q => absurd rfl q⟩
      rw [if_pos ((calm_crwd hd).mpr hc)]
  · unfold knd
    rw [if_pos (by omega), if_neg (by omega)]
  · unfold knd
    rw [if_pos (by omega), if_pos (by omega)]
theorem C_X0_isOfKind (l : Launch) (w : zWd) {m im : zMem} (lv : Int64) (hW : WF m) (hC : RC m im) (hS : SKY m im) {f c : Nat} (hf : f < nfl m) (hc : c < 4) : zSpecI l w 5 zyX0_isOfKind [vR 39 0, vR 12 f, vI (nI c)] im lv (fun v im' lv' => (v = (if isK (knd m f) c = true then 1 else 0) ∧ ∀ r, ¬ r = 23 → im' r = im r) ∧ lv' = lv) := by
  refine ze_I (by decide) (Nat.le_of_ble_eq_true rfl) (fun x hO hR hN => ?_)
  have h12 := hW.1.2
  refine rX0_isOfKind_0 hO hR hN (by omega) ⟨_, C_X0_kindOf _ _ _ hW hC hS hf, ?_⟩
  rintro v1 im1 lv1 ⟨⟨rfl, h2⟩, rfl⟩
  have hk := knd_4 m f
  have e : (isK (knd m f) c = true) ↔ (c = 0 ∨ knd m f = c ∨ (c = 1 ∧ knd m f = 2)) := by unfold isK; rw [decide_eq_true_iff]
  simp (disch := omega) only [zlit, nI_eq, e]
  refine ⟨fun q => ⟨⟨?_, h2⟩, trivial⟩, fun q => ⟨fun q2 => ⟨⟨?_, h2⟩, trivial⟩, fun q2 => ⟨fun q3 => ⟨⟨?_, h2⟩, trivial⟩, fun q3 => ⟨fun q4 => ⟨⟨?_, h2⟩, trivial⟩, fun q4 => ⟨⟨?_, h2⟩, trivial⟩⟩⟩⟩⟩
  · rw [if_pos (by omega)]
  · rw [if_pos (by omega)]
  · rw [if_neg (by omega)]
  · rw [if_neg (by omega)]
  · rw [if_pos (by omega)]
/-- bodies L were left in the trace behind n -/
def TR (n : Nat) (L : List Nat) (im im' : zMem) : Prop := (∀ r, ¬ r = 23 → ¬ r = 39 → ¬ r = 40 → im' r = im r) ∧ im' 39 0 2 = nI (n + L.length) ∧ (∀ i, i < n → im' 40 0 i = im 40 0 i) ∧ ∀ i, i < L.length → im' 40 0 (n + i) = nI (L.getD i 0)
theorem TR.rc {m im im' : zMem} {n : Nat} {L : List Nat} (h : TR n L im im') (hC : RC m im) : RC m im' := hC.fr (fun r hr => h.1 r (by omega) (by omega) (by omega))
theorem TR.sky {m im im' : zMem} {n : Nat} {L : List Nat} (h : TR n L im im') (hC : SKY m im) : SKY m im' := hC.fr (h.1 21 (by decide) (by decide) (by decide)) (h.1 22 (by decide) (by decide) (by decide))
theorem TR.trans {a b c : zMem} {n n' : Nat} {L K : List Nat} (h1 : TR n L a b) (h2 : TR n' K b c) (hn : n' = n + L.length) : TR n (L ++ K) a c := by
  subst hn
  obtain ⟨a1, a2, a3, a4⟩ := h1
  obtain ⟨b1, b2, b3, b4⟩ := h2
  refine ⟨fun r q1 q2 q3 => (b1 r q1 q2 q3).trans (a1 r q1 q2 q3), by rw [b2, List.length_append, Nat.add_assoc], fun i hi => (b3 i (by omega)).trans (a3 i hi), fun i hi => ?_⟩
  rw [List.length_append] at hi
  by_cases h : i < L.length
  · rw [b3 _ (by omega), a4 i h, List.getD_eq_getElem?_getD, List.getD_eq_getElem?_getD, List.getElem?_append_left h]
  · have := b4 (i - L.length) (by omega)
    rw [show n + L.length + (i - L.length) = n + i by omega] at this
    rw [this, List.getD_eq_getElem?_getD, List.getD_eq_getElem?_getD, List.getElem?_append_right (by omega)]
theorem TR.k {a b c : zMem} {n : Nat} {L : List Nat} (h1 : ∀ r, ¬ r = 23 → b r = a r) (h2 : TR n L b c) : TR n L a c := by
  obtain ⟨b1, b2, b3, b4⟩ := h2
  refine ⟨fun r q1 q2 q3 => (b1 r q1 q2 q3).trans (h1 r q1), b2, fun i hi => ?_, b4⟩
  rw [b3 i hi, h1 40 (by decide)]
theorem C_X0_leaveInTrace (l : Launch) (w : zWd) {im : zMem} (lv : Int64) {n b : Nat} (hn : im 39 0 2 = nI n) (h16 : n < 16) : zSpecV l w 2 zyX0_leaveInTrace [vR 39 0, vI (nI b)] im lv (fun im' lv' => TR n [b] im im' ∧ lv' = lv) := by
  refine ze_V (by decide) (Nat.le_of_ble_eq_true rfl) (fun x hO hR hN => rX0_leaveInTrace_0 hO hR hN ?_)
  rw [hn, nI_clamp (show n < 2 ^ 31 by omega), nI_1]
  refine ⟨fun q => ?_, fun _ => ⟨vp_in_nI h16 (by decide), ⟨fun r q1 q2 q3 => by rw [zwr_r q2, zwr_r q3], by rw [zwr_eq]; rfl, fun i hi => by rw [zwr_r (by decide), zwr_app, if_neg (by omega)], fun i hi => ?_⟩, rfl⟩⟩
  · have : nI 16 ≤ nI n := q
    rw [nI_leI (by omega) (by omega)] at this
    omega
  · have : i = 0 := by simpa using hi
    subst this
    rw [zwr_r (by decide), zwr_app, if_pos ⟨rfl, rfl, rfl⟩]
    rfl
theorem C_X0_sizeLent (l : Launch) (w : zWd) {m im : zMem} (lv : Int64) (hW : WF m) (hC : RC m im) {f n : Nat} (hf : f < nfl m) (hn : im 39 0 2 = nI n) (h : n ≤ 12) : zSpecI l w 3 zyX0_sizeLent [vR 39 0, vR 12 f] im lv (fun v im' lv' => (v = nI (slN m f (way m f) 5) ∧ TR n [10] im im') ∧ lv' = lv) := by
  refine ze_I (by decide) (Nat.le_of_ble_eq_true rfl) (fun x hO hR hN => rX0_sizeLent_0 hO hR hN (by have := hW.1.2; omega) ⟨_, C_X0_leaveInTrace _ _ _ (b := 10) hn (by omega), ?_⟩)
  rintro im1 lv1 ⟨h1, rfl⟩
  refine ⟨_, C_X2_slotsOfWay _ _ _ hW (h1.rc hC) hf, ?_⟩
  rintro v2 im2 lv2 ⟨rfl, rfl, rfl⟩
  exact ⟨⟨rfl, h1⟩, rfl⟩
theorem C_X0_sizeOfLate (l : Launch) (w : zWd) {m im : zMem} (lv : Int64) (hW : WF m) (hC : RC m im) {f n : Nat} (hf : f < nfl m) (hn : im 39 0 2 = nI n) (h : n ≤ 11) : zSpecI l w 4 zyX0_sizeOfLate [vR 39 0, vR 12 f] im lv (fun v im' lv' => (v = nI (slN m f (way m f) 5 + cost m f) ∧ TR n [11, 10] im im') ∧ lv' = lv) := by
  refine ze_I (by decide) (Nat.le_of_ble_eq_true rfl) (fun x hO hR hN => rX0_sizeOfLate_0 hO hR hN (by have := hW.1.2; omega) ⟨_, C_X0_leaveInTrace _ _ _ (b := 11) hn (by omega), ?_⟩)
  rintro im1 lv1 ⟨h1, rfl⟩
  refine ⟨_, C_X0_sizeLent _ _ _ hW (h1.rc hC) hf h1.2.1 (by simp; omega), ?_⟩
  rintro v2 im2 lv2 ⟨⟨rfl, h2⟩, rfl⟩
  obtain ⟨c0, c1, c2, c3, c4, c5, c6, -⟩ := (h2.rc (h1.rc hC)).2.1 f hf
  refine ⟨⟨?_, h1.trans h2 rfl⟩, rfl⟩
  rw [c3, c5, c6]
  simp only [zlit, pk_mul, nI_add]
  rfl
theorem C_X0_sizeOfRound (l : Launch) (w : zWd) {m im : zMem} (lv : Int64) (hW : WF m) (hC : RC m im) {f n : Nat} (hf : f < nfl m) (hn : im 39 0 2 = nI n) (h : n ≤ 10) : zSpecI l w 5 zyX0_sizeOfRound [vR 39 0, vR 12 f] im lv (fun v im' lv' => (v = nI (2 * (slN m f (way m f) 5 + cost m f)) ∧ TR n [12, 11, 10] im im') ∧ lv' = lv) := by
  refine ze_I (by decide) (Nat.le_of_ble_eq_true rfl) (fun x hO hR hN => rX0_sizeOfRound_0 hO hR hN (by have := hW.1.2; omega) ⟨_, C_X0_leaveInTrace _ _ _ (b := 12) hn (by omega), ?_⟩)
  rintro im1 lv1 ⟨h1, rfl⟩
  refine ⟨_, C_X0_sizeOfLate _ _ _ hW (h1.rc hC) hf h1.2.1 (by simp; omega), ?_⟩
  rintro v2 im2 lv2 ⟨⟨rfl, h2⟩, rfl⟩
  refine ⟨⟨?_, h1.trans h2 rfl⟩, rfl⟩
  simp only [zlit, pk_mul]
theorem C_X0_markLent (l : Launch) (w : zWd) {m im : zMem} (lv : Int64) (hW : WF m) (hC : RC m im) {f n : Nat} (hf : f < nfl m) (hn : im 39 0 2 = nI n) (h : n ≤ 12) : zSpecI l w 3 zyX0_markLent [vR 39 0, vR 12 f] im lv (fun v im' lv' => (v = nI (wgt m f) ∧ TR n [20] im im') ∧ lv' = lv) := by
  refine ze_I (by decide) (Nat.le_of_ble_eq_true rfl) (fun x hO hR hN => rX0_markLent_0 hO hR hN (by have := hW.1.2; omega) ⟨_, C_X0_leaveInTrace _ _ _ (b := 20) hn (by omega), ?_⟩)
  rintro im1 lv1 ⟨h1, rfl⟩
  exact ⟨⟨((h1.rc hC).2.1 f hf).2.1, h1⟩, rfl⟩
theorem C_X0_markOfLate (l : Launch) (w : zWd) {m im : zMem} (lv : Int64) (hW : WF m) (hC : RC m im) {f n : Nat} (hf : f < nfl m) (hn : im 39 0 2 = nI n) (h : n ≤ 11) : zSpecI l w 4 zyX0_markOfLate [vR 39 0, vR 12 f] im lv (fun v im' lv' => (v = nI (wgt m f + 100) ∧ TR n [21, 20] im im') ∧ lv' = lv) := by
  refine ze_I (by decide) (Nat.le_of_ble_eq_true rfl) (fun x hO hR hN => rX0_markOfLate_0 hO hR hN (by have := hW.1.2; omega) ⟨_, C_X0_leaveInTrace _ _ _ (b := 21) hn (by omega), ?_⟩)
  rintro im1 lv1 ⟨h1, rfl⟩
  refine ⟨_, C_X0_markLent _ _ _ hW (h1.rc hC) hf h1.2.1 (by simp; omega), ?_⟩
  rintro v2 im2 lv2 ⟨⟨rfl, h2⟩, rfl⟩
  refine ⟨⟨?_, h1.trans h2 rfl⟩, rfl⟩
  simp only [zlit, nI_add]
theorem C_X0_markOfCalm (l : Launch) (w : zWd) {m im : zMem} (lv : Int64) (hW : WF m) (hC : RC m im) {f n : Nat} (hf : f < nfl m) (hn : im 39 0 2 = nI n) (h : n ≤ 11) : zSpecI l w 4 zyX0_markOfCalm [vR 39 0, vR 12 f] im lv (fun v im' lv' => (v = nI (wgt m f + own m f) ∧ TR n [22, 20] im im') ∧ lv' = lv) := by
  refine ze_I (by decide) (Nat.le_of_ble_eq_true rfl) (fun x hO hR hN => rX0_markOfCalm_0 hO hR hN (by have := hW.1.2; omega) ⟨_, C_X0_leaveInTrace _ _ _ (b := 22) hn (by omega), ?_⟩)
  rintro im1 lv1 ⟨h1, rfl⟩
  refine ⟨_, C_X0_markLent _ _ _ hW (h1.rc hC) hf h1.2.1 (by simp; omega), ?_⟩
  rintro v2 im2 lv2 ⟨⟨rfl, h2⟩, rfl⟩
  refine ⟨⟨?_, h1.trans h2 rfl⟩, rfl⟩
  rw [((h2.rc (h1.rc hC)).2.1 f hf).1, nI_add]
theorem C_X0_markOf (l : Launch) (w : zWd) {m im : zMem} (lv : Int64) (hW : WF m) (hC : RC m im) (hS : SKY m im) {f n : Nat} (hf : f < nfl m) (hn : im 39 0 2 = nI n) (h : n ≤ 10) : zSpecI l w 5 zyX0_markOf [vR 39 0, vR 12 f] im lv (fun v im' lv' => (v = nI (mkV m f (knd m f)) ∧ TR n (mkL (knd m f)) im im') ∧ lv' = lv) := by
  refine ze_I (by decide) (Nat.le_of_ble_eq_true rfl) (fun x hO hR hN => rX0_markOf_0 hO hR hN (by have := hW.1.2; omega) ⟨_, C_X0_kindOf _ _ _ hW hC hS hf, ?_⟩)
  rintro v1 im1 lv1 ⟨⟨rfl, h2⟩, rfl⟩
  have hC1 : RC m im1 := hC.fr (fun r hr => h2 r (by omega))
  have hn1 : im1 39 0 2 = nI n := by rw [h2 39 (by decide)]; exact hn
  unfold mkV mkL
  rcases knd_4 m f with e | e | e | e
  · rw [e]
    refine ⟨fun _ => ⟨_, C_X0_markLent _ _ _ hW hC1 hf hn1 (by omega), ?_⟩, fun q => absurd q (by decide), fun q => absurd q (by decide), fun q => absurd q (by decide)⟩
    rintro v2 im2 lv2 ⟨⟨rfl, g⟩, rfl⟩
    exact ⟨⟨rfl, TR.k h2 g⟩, rfl⟩
  · rw [e]
    refine ⟨fun q => absurd q (by decide), fun _ => ⟨_, C_X0_markOfLate _ _ _ hW hC1 hf hn1 (by omega), ?_⟩, fun q => absurd q (by decide), fun q => absurd q (by decide)⟩
    rintro v2 im2 lv2 ⟨⟨rfl, g⟩, rfl⟩
    exact ⟨⟨rfl, TR.k h2 g⟩, rfl⟩
  · rw [e]
    refine ⟨fun q => absurd q (by decide), fun q => absurd q (by decide), fun _ => ⟨_, C_X0_markOfLate _ _ _ hW hC1 hf hn1 (by omega), ?_⟩, fun q => absurd q (by decide)⟩
    rintro v2 im2 lv2 ⟨⟨rfl, g⟩, rfl⟩
    exact ⟨⟨rfl, TR.k h2 g⟩, rfl⟩
  · rw [e]
    refine ⟨fun q => absurd q (by decide), fun q => absurd q (by decide), fun q => absurd q (by decide), fun _ => ⟨_, C_X0_markOfCalm _ _ _ hW hC1 hf hn1 (by omega), ?_⟩⟩
    rintro v2 im2 lv2 ⟨⟨rfl, g⟩, rfl⟩
    exact ⟨⟨rfl, TR.k h2 g⟩, rfl⟩
theorem C_X0_sizeOfCalm (l : Launch) (w : zWd) {m im : zMem} (lv : Int64) (hW : WF m) (hC : RC m im) (hS : SKY m im) {f n : Nat} (hf : f < nfl m) (hn : im 39 0 2 = nI n) (h : n ≤ 8) : zSpecI l w 6 zyX0_sizeOfCalm [vR 39 0, vR 12 f] im lv (fun v im' lv' => (v = nI (slN m f (way m f) 5 + mkV m f (knd m f)) ∧ TR n ([13, 10] ++ mkL (knd m f)) im im') ∧ lv' = lv) := by
  refine ze_I (by decide) (Nat.le_of_ble_eq_true rfl) (fun x hO hR hN => rX0_sizeOfCalm_0 hO hR hN (by have := hW.1.2; omega) ⟨_, C_X0_leaveInTrace _ _ _ (b := 13) hn (by omega), ?_⟩)
  rintro im1 lv1 ⟨h1, rfl⟩
  refine ⟨_, C_X0_sizeLent _ _ _ hW (h1.rc hC) hf h1.2.1 (by simp; omega), ?_⟩
  rintro v2 im2 lv2 ⟨⟨rfl, h2⟩, rfl⟩
  have h12 := h1.trans h2 rfl
  refine ⟨_, C_X0_markOf _ _ _ hW (h12.rc hC) (h12.sky hS) hf h12.2.1 (by simp; omega), ?_⟩
  rintro v3 im3 lv3 ⟨⟨rfl, h3⟩, rfl⟩
  exact ⟨⟨nI_add _ _, h12.trans h3 rfl⟩, rfl⟩
theorem C_X0_sizeOf (l : Launch) (w : zWd) {m im : zMem} (lv : Int64) (hW : WF m) (hC : RC m im) (hS : SKY m im) {f : Nat} (hf : f < nfl m) (hn : im 39 0 2 = nI 0) : zSpecI l w 7 zyX0_sizeOf [vR 39 0, vR 12 f] im lv (fun v im' lv' => (v = nI (szV m f (knd m f)) ∧ TR 0 (szL (knd m f)) im im') ∧ lv' = lv) := by
  refine ze_I (by decide) (Nat.le_of_ble_eq_true rfl) (fun x hO hR hN => rX0_sizeOf_0 hO hR hN (by have := hW.1.2; omega) ⟨_, C_X0_kindOf _ _ _ hW hC hS hf, ?_⟩)
  rintro v1 im1 lv1 ⟨⟨rfl, h2⟩, rfl⟩
  have hC1 : RC m im1 := hC.fr (fun r hr => h2 r (by omega))
  have hS1 : SKY m im1 := hS.fr (h2 21 (by decide)) (h2 22 (by decide))
  have hn1 : im1 39 0 2 = nI 0 := by rw [h2 39 (by decide)]; exact hn
  unfold szV szL
  rcases knd_4 m f with e | e | e | e
  · rw [e]
    refine ⟨fun _ => ⟨_, C_X0_sizeLent _ _ _ hW hC1 hf hn1 (by omega), ?_⟩, fun q => absurd q (by decide), fun q => absurd q (by decide), fun q => absurd q (by decide)⟩
    rintro v2 im2 lv2 ⟨⟨rfl, g⟩, rfl⟩
    exact ⟨⟨rfl, TR.k h2 g⟩, rfl⟩
  · rw [e]
    refine ⟨fun q => absurd q (by decide), fun _ => ⟨_, C_X0_sizeOfLate _ _ _ hW hC1 hf hn1 (by omega), ?_⟩, fun q => absurd q (by decide), fun q => absurd q (by decide)⟩
    rintro v2 im2 lv2 ⟨⟨rfl, g⟩, rfl⟩
    exact ⟨⟨rfl, TR.k h2 g⟩, rfl⟩
  · rw [e]
    refine ⟨fun q => absurd q (by decide), fun q => absurd q (by decide), fun _ => ⟨_, C_X0_sizeOfRound _ _ _ hW hC1 hf hn1 (by omega), ?_⟩, fun q => absurd q (by decide)⟩
    rintro v2 im2 lv2 ⟨⟨rfl, g⟩, rfl⟩
    exact ⟨⟨rfl, TR.k h2 g⟩, rfl⟩
  · have := C_X0_sizeOfCalm x.2.1 w lv1 hW hC1 hS1 hf hn1 (by omega)
    rw [e] at this
    rw [e]
    refine ⟨fun q => absurd q (by decide), fun q => absurd q (by decide), fun q => absurd q (by decide), fun _ => ⟨_, this, ?_⟩⟩
    rintro v2 im2 lv2 ⟨⟨rfl, g⟩, rfl⟩
    exact ⟨⟨rfl, TR.k h2 g⟩, rfl⟩
