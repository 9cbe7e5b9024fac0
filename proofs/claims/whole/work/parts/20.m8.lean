/-- the choices may change: all else stands -/
theorem WF_way {m m' : zMem} (hW : WF m) (h : ∀ r, ¬ r = 53 → ¬ r = 54 → m' r = m r) (hw : ∀ f, f < nfl m → (m' 53 0 f = nI (way m' f) ∧ way m' f < wys m f) ∧ (m' 54 0 f = nI (dly m' f) ∧ dly m' f ≤ 4)) : WF m' := by
  have h43 := h 43 (by decide) (by decide)
  have h47 := h 47 (by decide) (by decide)
  have h48 := h 48 (by decide) (by decide)
  have h49 := h 49 (by decide) (by decide)
  have h50 := h 50 (by decide) (by decide)
  have h51 := h 51 (by decide) (by decide)
  have h52 := h 52 (by decide) (by decide)
  obtain ⟨a1, a2, a3, a4, a5, a6, a7⟩ := hW
  have en : nfl m' = nfl m := by unfold nfl; rw [h43]
  have es : nst m' = nst m := by unfold nst; rw [h43]
  refine ⟨by rw [en, h43]; exact a1, fun f hf => ?_, by rw [es, h43]; exact a3, fun k hk => ?_, fun k hk => ?_, fun t ht => ?_, ?_⟩
  · rw [en] at hf
    obtain ⟨b0, b1, b2, b3, b4, -, -, b7⟩ := a2 f hf
    obtain ⟨w1, w2⟩ := hw f hf
    unfold WFf own wgt sta rat wys lsl lrm
    rw [h50, h51, h52]
    refine ⟨b0, b1, b2, b3, b4, ⟨w1.1, ?_⟩, w2, b7⟩
    exact w1.2
  · rw [es] at hk
    have := a4 k hk
    unfold WFs stw str sta1 stb stv at *
    rw [h49]
    exact this
  · have := a5 k hk
    unfold bas at *
    rw [h47]
    exact this
  · have := a6 t ht
    unfold stf at *
    rw [h48]
    exact this
  · unfold lok at *
    rw [h43]
    exact a7
def exM (m : zMem) (a b : Nat) : zMem := zwr (zwr m 54 0 a (m 54 0 b)) 54 0 b (m 54 0 a)
theorem exM_r {m : zMem} {a b r : Nat} (h : ¬ r = 54) : exM m a b r = m r := by
  unfold exM
  rw [zwr_r h, zwr_r h]
theorem exM_a {m : zMem} {a b : Nat} : exM m a b 54 0 a = m 54 0 b := by
  unfold exM
  rw [zwr_app]
  by_cases h : a = b
  · subst h; rw [if_pos ⟨rfl, rfl, rfl⟩]
  · rw [if_neg (fun q => h q.2.2), zwr_eq]
theorem exM_b {m : zMem} {a b : Nat} : exM m a b 54 0 b = m 54 0 a := by
  unfold exM
  rw [zwr_eq]
theorem exM_f {m : zMem} {a b f : Nat} (h1 : ¬ f = a) (h2 : ¬ f = b) : exM m a b 54 0 f = m 54 0 f := by
  unfold exM
  rw [zwr_app, if_neg (fun q => h2 q.2.2), zwr_app, if_neg (fun q => h1 q.2.2)]
theorem exM_i {m : zMem} {a b i k : Nat} (h : ¬ i = 0) : exM m a b 54 i k = m 54 i k := by
  unfold exM
  rw [zwr_app, if_neg (fun q => h q.2.1), zwr_app, if_neg (fun q => h q.2.1)]
theorem exM_exM {m : zMem} {a b : Nat} : exM (exM m a b) a b = m := by
  funext r i k
  by_cases hr : r = 54
  · subst hr
    by_cases hi : i = 0
    · subst hi
      by_cases ha : k = a
      · subst ha; rw [exM_a, exM_b]
      · by_cases hb : k = b
        · subst hb; rw [exM_b, exM_a]
        · rw [exM_f ha hb, exM_f ha hb]
    · rw [exM_i hi, exM_i hi]
  · rw [exM_r hr, exM_r hr]
theorem exM_WF {m : zMem} (hW : WF m) {a b : Nat} (ha : a < nfl m) (hb : b < nfl m) : WF (exM m a b) := by
  refine WF_way hW (fun r _ h => exM_r h) (fun f hf => ?_)
  obtain ⟨-, -, -, -, -, f5, f6, -⟩ := hW.2.1 f hf
  have fa := (hW.2.1 a ha).2.2.2.2.2.2.1
  have fb := (hW.2.1 b hb).2.2.2.2.2.2.1
  refine ⟨by unfold way at *; rw [exM_r (by decide)]; exact f5, ?_⟩
  unfold dly at *
  by_cases h1 : f = a
  · subst h1; rw [exM_a]; exact fb
  · by_cases h2 : f = b
    · subst h2; rw [exM_b]; exact fa
    · rw [exM_f h1 h2]; exact f6
theorem exM_RM {m im : zMem} (hM : RM m im) {a b : Nat} : RM (exM m a b) (exM im a b) := by
  obtain ⟨h1, h2, h3, h4⟩ := hM
  refine ⟨fun r g1 g2 => ?_, by rw [exM_r (by decide), exM_r (by decide)]; exact h2, by rw [exM_r (by decide), exM_r (by decide)]; exact h3, by rw [exM_r (by decide), exM_r (by decide)]; exact h4⟩
  by_cases hr : r = 54
  · subst hr
    have e := h1 54 (by decide) (by decide)
    funext i k
    unfold exM
    rw [zwr_app, zwr_app, zwr_app, zwr_app, e]
  · rw [exM_r hr, exM_r hr]
    exact h1 r g1 g2
theorem exM_nfl {m : zMem} {a b : Nat} : nfl (exM m a b) = nfl m := by unfold nfl; rw [exM_r (by decide)]
theorem cost_i {m im : zMem} (hW : WF m) (hM : RM m im) {f : Nat} (hf : f < nfl m) : im 50 0 (Int32.toNatClampNeg (5 * nI f + 3)) * im 54 0 (Int32.toNatClampNeg (nI f)) + 10 * im 53 0 (Int32.toNatClampNeg (nI f)) = nI (cost m f) := by
  have h12 := hW.1.2
  obtain ⟨-, -, -, f3, -, f5, f6, -⟩ := hW.2.1 f hf
  simp (disch := omega) only [zlit, nI_add, pk_mul, nI_clamp, hM.1 50 (by decide) (by decide), hM.1 53 (by decide) (by decide), hM.1 54 (by decide) (by decide), f3.1, f5.1, f6.1]
  rfl
theorem oaN_le {m : zMem} (hW : WF m) : ∀ k, oaN m k ≤ 108 * k
  | 0 => Nat.le_refl _
  | k + 1 => by
    have := oaN_le hW k
    have : over m (k / 48) (k % 48) ≤ 108 := Nat.le_trans (Nat.sub_le _ _) (load_le hW)
    rw [oaN]
    omega
theorem overAll_le {m : zMem} (hW : WF m) : overAll m ≤ 41472 := oaN_le hW 384
def hml (m : zMem) (a b : Nat) : Bool := decide (¬ own m a = own m b ∧ cost (exM m a b) a ≤ cost m a ∧ cost (exM m a b) b ≤ cost m b ∧ (cost (exM m a b) a < cost m a ∨ cost (exM m a b) b < cost m b) ∧ overAll (exM m a b) ≤ overAll m)
theorem rX12_exchange_0 {x : zX} {w : zWd} {im : zMem} {lv : Int64} {P : zMem → Int64 → Prop} {x1 : Int32} {x2 : Int32} (hO : zOK x w zyX12_exchange 2) (hR : zRetV x w zyX12_exchange P) (hN : zN x 126 126)
 (h : (vp_in x1 12 ∧ (vp_in x2 12 ∧ P (zwr (zwr im 54 0 (Int32.toNatClampNeg x1) (im 54 0 (Int32.toNatClampNeg x2))) 54 0 (Int32.toNatClampNeg x2) (im 54 0 (Int32.toNatClampNeg x1))) lv))) :
 zW x w 0 [(0, vR 43 0), (1, vI x1), (2, vI x2)] [] im lv := by
  refine zi_aload_n hO dX12_exchange_0 0 rfl ?_
  refine zi_getR (r' := 54) (i' := 0) hO dX12_exchange_1 fX12_68 rfl rfl (zI (by decide)) rfl ?_
  refine zi_iload_n hO dX12_exchange_4 1 rfl ?_
  obtain ⟨s1, h⟩ := h
  refine zi_iald hO dX12_exchange_5 rfl (zI (by decide)) s1 ?_
  refine zi_istore_n (L' := [(0, vR 43 0), (1, vI x1), (2, vI x2), (3, vI (im 54 0 (Int32.toNatClampNeg x1)))]) hO dX12_exchange_6 (by decide) rfl rfl ?_
  refine zi_aload_n hO dX12_exchange_7 0 rfl ?_
  refine zi_getR (r' := 54) (i' := 0) hO dX12_exchange_8 fX12_68 rfl rfl (zI (by decide)) rfl ?_
  refine zi_iload_n hO dX12_exchange_11 1 rfl ?_
  refine zi_aload_n hO dX12_exchange_12 0 rfl ?_
  refine zi_getR (r' := 54) (i' := 0) hO dX12_exchange_13 fX12_68 rfl rfl (zI (by decide)) rfl ?_
  refine zi_iload_n hO dX12_exchange_16 2 rfl ?_
  obtain ⟨s2, h⟩ := h
  refine zi_iald hO dX12_exchange_17 rfl (zI (by decide)) s2 ?_
  refine zi_iast hO dX12_exchange_18 rfl (zI (by decide)) s1 ?_
  refine zi_aload_n hO dX12_exchange_19 0 rfl ?_
  refine zi_getR (r' := 54) (i' := 0) hO dX12_exchange_20 fX12_68 rfl rfl (zI (by decide)) rfl ?_
  refine zi_iload_n hO dX12_exchange_23 2 rfl ?_
  refine zi_iload_n hO dX12_exchange_24 3 rfl ?_
  refine zi_iast hO dX12_exchange_25 rfl (zI (by decide)) s2 ?_
  exact zr_V hO hR rfl dX12_exchange_26 h
theorem rX12_isHarmless_0 {x : zX} {w : zWd} {im : zMem} {lv : Int64} {P : Int32 → zMem → Int64 → Prop} {x1 : Int32} {x2 : Int32} (hO : zOK x w zyX12_isHarmless 6) (hR : zRetI x w zyX12_isHarmless P) (hN : zN x 126 126)
 (h : (vp_in (5 * x1) 60 ∧ (vp_in (5 * x2) 60 ∧ ((¬ ((im 50 0 (Int32.toNatClampNeg (5 * x1))) = (im 50 0 (Int32.toNatClampNeg (5 * x2)))) → (∃ P3 : Int32 → zMem → Int64 → Prop, zSpecI x.2.1 w 5 zyX12_overAll [vR 43 0] im lv P3 ∧ ∀ (v3 : Int32) (im3 : zMem) (lv3 : Int64), P3 v3 im3 lv3 → (vp_in x1 12 ∧ (vp_in ((5 * x1) + 3) 60 ∧ (vp_in x2 12 ∧ (vp_in ((5 * x2) + 3) 60 ∧ (∃ P10 : zMem → Int64 → Prop, zSpecV x.2.1 w 2 zyX12_exchange [vR 43 0, vI x1, vI x2] im3 lv3 P10 ∧ ∀ (im10 : zMem) (lv10 : Int64), P10 im10 lv10 → (((((im3 50 0 (Int32.toNatClampNeg ((5 * x1) + 3))) * (im3 54 0 (Int32.toNatClampNeg x1))) + (10 * (im3 53 0 (Int32.toNatClampNeg x1)))) < (((im10 50 0 (Int32.toNatClampNeg ((5 * x1) + 3))) * (im10 54 0 (Int32.toNatClampNeg x1))) + (10 * (im10 53 0 (Int32.toNatClampNeg x1)))) → (∃ P12 : zMem → Int64 → Prop, zSpecV x.2.1 w 2 zyX12_exchange [vR 43 0, vI x1, vI x2] im10 lv10 P12 ∧ ∀ (im12 : zMem) (lv12 : Int64), P12 im12 lv12 → P 0 im12 lv12)) ∧
 (¬ ((((im3 50 0 (Int32.toNatClampNeg ((5 * x1) + 3))) * (im3 54 0 (Int32.toNatClampNeg x1))) + (10 * (im3 53 0 (Int32.toNatClampNeg x1)))) < (((im10 50 0 (Int32.toNatClampNeg ((5 * x1) + 3))) * (im10 54 0 (Int32.toNatClampNeg x1))) + (10 * (im10 53 0 (Int32.toNatClampNeg x1))))) → (((((im3 50 0 (Int32.toNatClampNeg ((5 * x2) + 3))) * (im3 54 0 (Int32.toNatClampNeg x2))) + (10 * (im3 53 0 (Int32.toNatClampNeg x2)))) < (((im10 50 0 (Int32.toNatClampNeg ((5 * x2) + 3))) * (im10 54 0 (Int32.toNatClampNeg x2))) + (10 * (im10 53 0 (Int32.toNatClampNeg x2)))) → (∃ P14 : zMem → Int64 → Prop, zSpecV x.2.1 w 2 zyX12_exchange [vR 43 0, vI x1, vI x2] im10 lv10 P14 ∧ ∀ (im14 : zMem) (lv14 : Int64), P14 im14 lv14 → P 0 im14 lv14)) ∧
 (¬ ((((im3 50 0 (Int32.toNatClampNeg ((5 * x2) + 3))) * (im3 54 0 (Int32.toNatClampNeg x2))) + (10 * (im3 53 0 (Int32.toNatClampNeg x2)))) < (((im10 50 0 (Int32.toNatClampNeg ((5 * x2) + 3))) * (im10 54 0 (Int32.toNatClampNeg x2))) + (10 * (im10 53 0 (Int32.toNatClampNeg x2))))) → (((((im10 50 0 (Int32.toNatClampNeg ((5 * x1) + 3))) * (im10 54 0 (Int32.toNatClampNeg x1))) + (10 * (im10 53 0 (Int32.toNatClampNeg x1)))) < (((im3 50 0 (Int32.toNatClampNeg ((5 * x1) + 3))) * (im3 54 0 (Int32.toNatClampNeg x1))) + (10 * (im3 53 0 (Int32.toNatClampNeg x1)))) → (∃ P16 : Int32 → zMem → Int64 → Prop, zSpecI x.2.1 w 5 zyX12_overAll [vR 43 0] im10 lv10 P16 ∧ ∀ (v16 : Int32) (im16 : zMem) (lv16 : Int64), P16 v16 im16 lv16 → ((v3 < v16 → (∃ P17 : zMem → Int64 → Prop, zSpecV x.2.1 w 2 zyX12_exchange [vR 43 0, vI x1, vI x2] im16 lv16 P17 ∧ ∀ (im17 : zMem) (lv17 : Int64), P17 im17 lv17 → P 0 im17 lv17)) ∧
 (¬ (v3 < v16) → (∃ P18 : zMem → Int64 → Prop, zSpecV x.2.1 w 2 zyX12_exchange [vR 43 0, vI x1, vI x2] im16 lv16 P18 ∧ ∀ (im18 : zMem) (lv18 : Int64), P18 im18 lv18 → P 1 im18 lv18))))) ∧
 (¬ ((((im10 50 0 (Int32.toNatClampNeg ((5 * x1) + 3))) * (im10 54 0 (Int32.toNatClampNeg x1))) + (10 * (im10 53 0 (Int32.toNatClampNeg x1)))) < (((im3 50 0 (Int32.toNatClampNeg ((5 * x1) + 3))) * (im3 54 0 (Int32.toNatClampNeg x1))) + (10 * (im3 53 0 (Int32.toNatClampNeg x1))))) → (((((im3 50 0 (Int32.toNatClampNeg ((5 * x2) + 3))) * (im3 54 0 (Int32.toNatClampNeg x2))) + (10 * (im3 53 0 (Int32.toNatClampNeg x2)))) ≤ (((im10 50 0 (Int32.toNatClampNeg ((5 * x2) + 3))) * (im10 54 0 (Int32.toNatClampNeg x2))) + (10 * (im10 53 0 (Int32.toNatClampNeg x2)))) → (∃ P20 : zMem → Int64 → Prop, zSpecV x.2.1 w 2 zyX12_exchange [vR 43 0, vI x1, vI x2] im10 lv10 P20 ∧ ∀ (im20 : zMem) (lv20 : Int64), P20 im20 lv20 → P 0 im20 lv20)) ∧
 (¬ ((((im3 50 0 (Int32.toNatClampNeg ((5 * x2) + 3))) * (im3 54 0 (Int32.toNatClampNeg x2))) + (10 * (im3 53 0 (Int32.toNatClampNeg x2)))) ≤ (((im10 50 0 (Int32.toNatClampNeg ((5 * x2) + 3))) * (im10 54 0 (Int32.toNatClampNeg x2))) + (10 * (im10 53 0 (Int32.toNatClampNeg x2))))) → (∃ P21 : Int32 → zMem → Int64 → Prop, zSpecI x.2.1 w 5 zyX12_overAll [vR 43 0] im10 lv10 P21 ∧ ∀ (v21 : Int32) (im21 : zMem) (lv21 : Int64), P21 v21 im21 lv21 → ((v3 < v21 → (∃ P22 : zMem → Int64 → Prop, zSpecV x.2.1 w 2 zyX12_exchange [vR 43 0, vI x1, vI x2] im21 lv21 P22 ∧ ∀ (im22 : zMem) (lv22 : Int64), P22 im22 lv22 → P 0 im22 lv22)) ∧
 (¬ (v3 < v21) → (∃ P23 : zMem → Int64 → Prop, zSpecV x.2.1 w 2 zyX12_exchange [vR 43 0, vI x1, vI x2] im21 lv21 P23 ∧ ∀ (im23 : zMem) (lv23 : Int64), P23 im23 lv23 → P 1 im23 lv23))))))))))))))))))) ∧
 ((im 50 0 (Int32.toNatClampNeg (5 * x1))) = (im 50 0 (Int32.toNatClampNeg (5 * x2))) → P 0 im lv))))) :
 zW x w 0 [(0, vR 43 0), (1, vI x1), (2, vI x2)] [] im lv := by
  refine zi_aload_n hO dX12_isHarmless_0 0 rfl ?_
  refine zi_getR (r' := 50) (i' := 0) hO dX12_isHarmless_1 fX12_56 rfl rfl (zI (by decide)) rfl ?_
  refine zi_iconst (v := 5) hO dX12_isHarmless_4 (by decide) ?_
  refine zi_iload_n hO dX12_isHarmless_5 1 rfl ?_
  refine zi_imul hO dX12_isHarmless_6 ?_
  obtain ⟨s1, h⟩ := h
  refine zi_iald hO dX12_isHarmless_7 rfl (zI (by decide)) s1 ?_
  refine zi_aload_n hO dX12_isHarmless_8 0 rfl ?_
  refine zi_getR (r' := 50) (i' := 0) hO dX12_isHarmless_9 fX12_56 rfl rfl (zI (by decide)) rfl ?_
  refine zi_iconst (v := 5) hO dX12_isHarmless_12 (by decide) ?_
  refine zi_iload_n hO dX12_isHarmless_13 2 rfl ?_
  refine zi_imul hO dX12_isHarmless_14 ?_
  obtain ⟨s2, h⟩ := h
  refine zi_iald hO dX12_isHarmless_15 rfl (zI (by decide)) s2 ?_
  refine zi_icmp_ne (tgt := 21) hO dX12_isHarmless_16 (by decide) (fun c1 => ?_) (fun c1 => ?_)
  · have h := h.1 c1
    refine zi_aload_n hO dX12_isHarmless_21 0 rfl ?_
    obtain ⟨P3, hM3, h⟩ := h
    refine zc_VI (as := []) hO hN dX12_isHarmless_22 kX12_262 (by decide) rfl (zI (by decide)) rfl rfl (Nat.le_of_ble_eq_true rfl) rfl rfl hM3 (fun v3 im3 lv3 hp3 => ?_)
    replace h := h v3 im3 lv3 hp3
    refine zi_istore_n (L' := [(0, vR 43 0), (1, vI x1), (2, vI x2), (3, vI v3)]) hO dX12_isHarmless_25 (by decide) rfl rfl ?_
    refine zi_aload_n hO dX12_isHarmless_26 0 rfl ?_
    refine zi_iload_n hO dX12_isHarmless_27 1 rfl ?_
    obtain ⟨s5, h⟩ := h
    obtain ⟨s6, h⟩ := h
    refine zc_VI (as := [vI x1]) hO hN dX12_isHarmless_28 kX12_236 (by decide) rfl (zI (by decide)) rfl rfl (Nat.le_of_ble_eq_true rfl) rfl rfl (C_X12_costOf _ _ _ _ s5 s6) (fun v4 im4 lv4 hp4 => ?_)
    rw [hp4.1, hp4.2.1, hp4.2.2]
    refine zi_istore (L' := [(0, vR 43 0), (1, vI x1), (2, vI x2), (3, vI v3), (4, vI (((im3 50 0 (Int32.toNatClampNeg ((5 * x1) + 3))) * (im3 54 0 (Int32.toNatClampNeg x1))) + (10 * (im3 53 0 (Int32.toNatClampNeg x1)))))]) hO dX12_isHarmless_31 (by decide) rfl rfl ?_
    refine zi_aload_n hO dX12_isHarmless_33 0 rfl ?_
    refine zi_iload_n hO dX12_isHarmless_34 2 rfl ?_
    obtain ⟨s8, h⟩ := h
    obtain ⟨s9, h⟩ := h
    refine zc_VI (as := [vI x2]) hO hN dX12_isHarmless_35 kX12_236 (by decide) rfl (zI (by decide)) rfl rfl (Nat.le_of_ble_eq_true rfl) rfl rfl (C_X12_costOf _ _ _ _ s8 s9) (fun v7 im7 lv7 hp7 => ?_)
    rw [hp7.1, hp7.2.1, hp7.2.2]
    refine zi_istore (L' := [(0, vR 43 0), (1, vI x1), (2, vI x2), (3, vI v3), (4, vI (((im3 50 0 (Int32.toNatClampNeg ((5 * x1) + 3))) * (im3 54 0 (Int32.toNatClampNeg x1))) + (10 * (im3 53 0 (Int32.toNatClampNeg x1))))), (5, vI (((im3 50 0 (Int32.toNatClampNeg ((5 * x2) + 3))) * (im3 54 0 (Int32.toNatClampNeg x2))) + (10 * (im3 53 0 (Int32.toNatClampNeg x2)))))]) hO dX12_isHarmless_38 (by decide) rfl rfl ?_
    refine zi_aload_n hO dX12_isHarmless_40 0 rfl ?_
    refine zi_iload_n hO dX12_isHarmless_41 1 rfl ?_
    refine zi_iload_n hO dX12_isHarmless_42 2 rfl ?_
    obtain ⟨P10, hM10, h⟩ := h
    refine zc_VV (as := [vI x1, vI x2]) hO hN dX12_isHarmless_43 kX12_286 (by decide) rfl (zI (by decide)) rfl rfl (Nat.le_of_ble_eq_true rfl) rfl rfl hM10 (fun im10 lv10 hp10 => ?_)
    replace h := h im10 lv10 hp10
    refine zi_aload_n hO dX12_isHarmless_46 0 rfl ?_
    refine zi_iload_n hO dX12_isHarmless_47 1 rfl ?_
    refine zc_VI (as := [vI x1]) hO hN dX12_isHarmless_48 kX12_236 (by decide) rfl (zI (by decide)) rfl rfl (Nat.le_of_ble_eq_true rfl) rfl rfl (C_X12_costOf _ _ _ _ s5 s6) (fun v11 im11 lv11 hp11 => ?_)
    rw [hp11.1, hp11.2.1, hp11.2.2]
    refine zi_iload hO dX12_isHarmless_51 4 rfl ?_
    refine zi_icmp_gt (tgt := 98) hO dX12_isHarmless_53 (by decide) (fun c2 => ?_) (fun c2 => ?_)
    · have h := h.1 c2
      refine zi_iconst (v := 0) hO dX12_isHarmless_98 (by decide) ?_
      refine zi_istore (L' := [(0, vR 43 0), (1, vI x1), (2, vI x2), (3, vI v3), (4, vI (((im3 50 0 (Int32.toNatClampNeg ((5 * x1) + 3))) * (im3 54 0 (Int32.toNatClampNeg x1))) + (10 * (im3 53 0 (Int32.toNatClampNeg x1))))), (5, vI (((im3 50 0 (Int32.toNatClampNeg ((5 * x2) + 3))) * (im3 54 0 (Int32.toNatClampNeg x2))) + (10 * (im3 53 0 (Int32.toNatClampNeg x2))))), (6, vI 0)]) hO dX12_isHarmless_99 (by decide) rfl rfl ?_
      refine zi_aload_n hO dX12_isHarmless_101 0 rfl ?_
      refine zi_iload_n hO dX12_isHarmless_102 1 rfl ?_
      refine zi_iload_n hO dX12_isHarmless_103 2 rfl ?_
      obtain ⟨P12, hM12, h⟩ := h
      refine zc_VV (as := [vI x1, vI x2]) hO hN dX12_isHarmless_104 kX12_286 (by decide) rfl (zI (by decide)) rfl rfl (Nat.le_of_ble_eq_true rfl) rfl rfl hM12 (fun im12 lv12 hp12 => ?_)
      replace h := h im12 lv12 hp12
      refine zi_iload hO dX12_isHarmless_107 6 rfl ?_
      exact zr_Z hO hR rfl (Or.inl rfl) dX12_isHarmless_109 h
    · have h := h.2 c2
      refine zi_aload_n hO dX12_isHarmless_56 0 rfl ?_
      refine zi_iload_n hO dX12_isHarmless_57 2 rfl ?_
      refine zc_VI (as := [vI x2]) hO hN dX12_isHarmless_58 kX12_236 (by decide) rfl (zI (by decide)) rfl rfl (Nat.le_of_ble_eq_true rfl) rfl rfl (C_X12_costOf _ _ _ _ s8 s9) (fun v13 im13 lv13 hp13 => ?_)
      rw [hp13.1, hp13.2.1, hp13.2.2]
      refine zi_iload hO dX12_isHarmless_61 5 rfl ?_
      refine zi_icmp_gt (tgt := 98) hO dX12_isHarmless_63 (by decide) (fun c3 => ?_) (fun c3 => ?_)
      · have h := h.1 c3
        refine zi_iconst (v := 0) hO dX12_isHarmless_98 (by decide) ?_
        refine zi_istore (L' := [(0, vR 43 0), (1, vI x1), (2, vI x2), (3, vI v3), (4, vI (((im3 50 0 (Int32.toNatClampNeg ((5 * x1) + 3))) * (im3 54 0 (Int32.toNatClampNeg x1))) + (10 * (im3 53 0 (Int32.toNatClampNeg x1))))), (5, vI (((im3 50 0 (Int32.toNatClampNeg ((5 * x2) + 3))) * (im3 54 0 (Int32.toNatClampNeg x2))) + (10 * (im3 53 0 (Int32.toNatClampNeg x2))))), (6, vI 0)]) hO dX12_isHarmless_99 (by decide) rfl rfl ?_
        refine zi_aload_n hO dX12_isHarmless_101 0 rfl ?_
        refine zi_iload_n hO dX12_isHarmless_102 1 rfl ?_
        refine zi_iload_n hO dX12_isHarmless_103 2 rfl ?_
        obtain ⟨P14, hM14, h⟩ := h
        refine zc_VV (as := [vI x1, vI x2]) hO hN dX12_isHarmless_104 kX12_286 (by decide) rfl (zI (by decide)) rfl rfl (Nat.le_of_ble_eq_true rfl) rfl rfl hM14 (fun im14 lv14 hp14 => ?_)
        replace h := h im14 lv14 hp14
        refine zi_iload hO dX12_isHarmless_107 6 rfl ?_
        exact zr_Z hO hR rfl (Or.inl rfl) dX12_isHarmless_109 h
      · have h := h.2 c3
        refine zi_aload_n hO dX12_isHarmless_66 0 rfl ?_
        refine zi_iload_n hO dX12_isHarmless_67 1 rfl ?_
        refine zc_VI (as := [vI x1]) hO hN dX12_isHarmless_68 kX12_236 (by decide) rfl (zI (by decide)) rfl rfl (Nat.le_of_ble_eq_true rfl) rfl rfl (C_X12_costOf _ _ _ _ s5 s6) (fun v15 im15 lv15 hp15 => ?_)
        rw [hp15.1, hp15.2.1, hp15.2.2]
        refine zi_iload hO dX12_isHarmless_71 4 rfl ?_
        refine zi_icmp_lt (tgt := 86) hO dX12_isHarmless_73 (by decide) (fun c4 => ?_) (fun c4 => ?_)
        · have h := h.1 c4
          refine zi_aload_n hO dX12_isHarmless_86 0 rfl ?_
          obtain ⟨P16, hM16, h⟩ := h
          refine zc_VI (as := []) hO hN dX12_isHarmless_87 kX12_262 (by decide) rfl (zI (by decide)) rfl rfl (Nat.le_of_ble_eq_true rfl) rfl rfl hM16 (fun v16 im16 lv16 hp16 => ?_)
          replace h := h v16 im16 lv16 hp16
          refine zi_iload_n hO dX12_isHarmless_90 3 rfl ?_
          refine zi_icmp_gt (tgt := 98) hO dX12_isHarmless_91 (by decide) (fun c5 => ?_) (fun c5 => ?_)
          · have h := h.1 c5
            refine zi_iconst (v := 0) hO dX12_isHarmless_98 (by decide) ?_
            refine zi_istore (L' := [(0, vR 43 0), (1, vI x1), (2, vI x2), (3, vI v3), (4, vI (((im3 50 0 (Int32.toNatClampNeg ((5 * x1) + 3))) * (im3 54 0 (Int32.toNatClampNeg x1))) + (10 * (im3 53 0 (Int32.toNatClampNeg x1))))), (5, vI (((im3 50 0 (Int32.toNatClampNeg ((5 * x2) + 3))) * (im3 54 0 (Int32.toNatClampNeg x2))) + (10 * (im3 53 0 (Int32.toNatClampNeg x2))))), (6, vI 0)]) hO dX12_isHarmless_99 (by decide) rfl rfl ?_
            refine zi_aload_n hO dX12_isHarmless_101 0 rfl ?_
            refine zi_iload_n hO dX12_isHarmless_102 1 rfl ?_
            refine zi_iload_n hO dX12_isHarmless_103 2 rfl ?_
            obtain ⟨P17, hM17, h⟩ := h
            refine zc_VV (as := [vI x1, vI x2]) hO hN dX12_isHarmless_104 kX12_286 (by decide) rfl (zI (by decide)) rfl rfl (Nat.le_of_ble_eq_true rfl) rfl rfl hM17 (fun im17 lv17 hp17 => ?_)
            replace h := h im17 lv17 hp17
            refine zi_iload hO dX12_isHarmless_107 6 rfl ?_
            exact zr_Z hO hR rfl (Or.inl rfl) dX12_isHarmless_109 h
          · have h := h.2 c5
            refine zi_iconst (v := 1) hO dX12_isHarmless_94 (by decide) ?_
            refine zi_goto (tgt := 99) hO dX12_isHarmless_95 (by decide) ?_
            refine zi_istore (L' := [(0, vR 43 0), (1, vI x1), (2, vI x2), (3, vI v3), (4, vI (((im3 50 0 (Int32.toNatClampNeg ((5 * x1) + 3))) * (im3 54 0 (Int32.toNatClampNeg x1))) + (10 * (im3 53 0 (Int32.toNatClampNeg x1))))), (5, vI (((im3 50 0 (Int32.toNatClampNeg ((5 * x2) + 3))) * (im3 54 0 (Int32.toNatClampNeg x2))) + (10 * (im3 53 0 (Int32.toNatClampNeg x2))))), (6, vI 1)]) hO dX12_isHarmless_99 (by decide) rfl rfl ?_
            refine zi_aload_n hO dX12_isHarmless_101 0 rfl ?_
            refine zi_iload_n hO dX12_isHarmless_102 1 rfl ?_
            refine zi_iload_n hO dX12_isHarmless_103 2 rfl ?_
            obtain ⟨P18, hM18, h⟩ := h
            refine zc_VV (as := [vI x1, vI x2]) hO hN dX12_isHarmless_104 kX12_286 (by decide) rfl (zI (by decide)) rfl rfl (Nat.le_of_ble_eq_true rfl) rfl rfl hM18 (fun im18 lv18 hp18 => ?_)
            replace h := h im18 lv18 hp18
            refine zi_iload hO dX12_isHarmless_107 6 rfl ?_
            exact zr_Z hO hR rfl (Or.inr rfl) dX12_isHarmless_109 h
        · have h := h.2 c4
          refine zi_aload_n hO dX12_isHarmless_76 0 rfl ?_
          refine zi_iload_n hO dX12_isHarmless_77 2 rfl ?_
          refine zc_VI (as := [vI x2]) hO hN dX12_isHarmless_78 kX12_236 (by decide) rfl (zI (by decide)) rfl rfl (Nat.le_of_ble_eq_true rfl) rfl rfl (C_X12_costOf _ _ _ _ s8 s9) (fun v19 im19 lv19 hp19 => ?_)
          rw [hp19.1, hp19.2.1, hp19.2.2]
          refine zi_iload hO dX12_isHarmless_81 5 rfl ?_
          refine zi_icmp_ge (tgt := 98) hO dX12_isHarmless_83 (by decide) (fun c6 => ?_) (fun c6 => ?_)
          · have h := h.1 c6
            refine zi_iconst (v := 0) hO dX12_isHarmless_98 (by decide) ?_
            refine zi_istore (L' := [(0, vR 43 0), (1, vI x1), (2, vI x2), (3, vI v3), (4, vI (((im3 50 0 (Int32.toNatClampNeg ((5 * x1) + 3))) * (im3 54 0 (Int32.toNatClampNeg x1))) + (10 * (im3 53 0 (Int32.toNatClampNeg x1))))), (5, vI (((im3 50 0 (Int32.toNatClampNeg ((5 * x2) + 3))) * (im3 54 0 (Int32.toNatClampNeg x2))) + (10 * (im3 53 0 (Int32.toNatClampNeg x2))))), (6, vI 0)]) hO dX12_isHarmless_99 (by decide) rfl rfl ?_
            refine zi_aload_n hO dX12_isHarmless_101 0 rfl ?_
            refine zi_iload_n hO dX12_isHarmless_102 1 rfl ?_
            refine zi_iload_n hO dX12_isHarmless_103 2 rfl ?_
            obtain ⟨P20, hM20, h⟩ := h
            refine zc_VV (as := [vI x1, vI x2]) hO hN dX12_isHarmless_104 kX12_286 (by decide) rfl (zI (by decide)) rfl rfl (Nat.le_of_ble_eq_true rfl) rfl rfl hM20 (fun im20 lv20 hp20 => ?_)
            replace h := h im20 lv20 hp20
            refine zi_iload hO dX12_isHarmless_107 6 rfl ?_
            exact zr_Z hO hR rfl (Or.inl rfl) dX12_isHarmless_109 h
          · have h := h.2 c6
            refine zi_aload_n hO dX12_isHarmless_86 0 rfl ?_
            obtain ⟨P21, hM21, h⟩ := h
            refine zc_VI (as := []) hO hN dX12_isHarmless_87 kX12_262 (by decide) rfl (zI (by decide)) rfl rfl (Nat.le_of_ble_eq_true rfl) rfl rfl hM21 (fun v21 im21 lv21 hp21 => ?_)
            replace h := h v21 im21 lv21 hp21
            refine zi_iload_n hO dX12_isHarmless_90 3 rfl ?_
            refine zi_icmp_gt (tgt := 98) hO dX12_isHarmless_91 (by decide) (fun c7 => ?_) (fun c7 => ?_)
            · have h := h.1 c7
              refine zi_iconst (v := 0) hO dX12_isHarmless_98 (by decide) ?_
              refine zi_istore (L' := [(0, vR 43 0), (1, vI x1), (2, vI x2), (3, vI v3), (4, vI (((im3 50 0 (Int32.toNatClampNeg ((5 * x1) + 3))) * (im3 54 0 (Int32.toNatClampNeg x1))) + (10 * (im3 53 0 (Int32.toNatClampNeg x1))))), (5, vI (((im3 50 0 (Int32.toNatClampNeg ((5 * x2) + 3))) * (im3 54 0 (Int32.toNatClampNeg x2))) + (10 * (im3 53 0 (Int32.toNatClampNeg x2))))), (6, vI 0)]) hO dX12_isHarmless_99 (by decide) rfl rfl ?_
              refine zi_aload_n hO dX12_isHarmless_101 0 rfl ?_
              refine zi_iload_n hO dX12_isHarmless_102 1 rfl ?_
              refine zi_iload_n hO dX12_isHarmless_103 2 rfl ?_
              obtain ⟨P22, hM22, h⟩ := h
              refine zc_VV (as := [vI x1, vI x2]) hO hN dX12_isHarmless_104 kX12_286 (by decide) rfl (zI (by decide)) rfl rfl (Nat.le_of_ble_eq_true rfl) rfl rfl hM22 (fun im22 lv22 hp22 => ?_)
              replace h := h im22 lv22 hp22
              refine zi_iload hO dX12_isHarmless_107 6 rfl ?_
              exact zr_Z hO hR rfl (Or.inl rfl) dX12_isHarmless_109 h
            · have h := h.2 c7
              refine zi_iconst (v := 1) hO dX12_isHarmless_94 (by decide) ?_
              refine zi_goto (tgt := 99) hO dX12_isHarmless_95 (by decide) ?_
              refine zi_istore (L' := [(0, vR 43 0), (1, vI x1), (2, vI x2), (3, vI v3), (4, vI (((im3 50 0 (Int32.toNatClampNeg ((5 * x1) + 3))) * (im3 54 0 (Int32.toNatClampNeg x1))) + (10 * (im3 53 0 (Int32.toNatClampNeg x1))))), (5, vI (((im3 50 0 (Int32.toNatClampNeg ((5 * x2) + 3))) * (im3 54 0 (Int32.toNatClampNeg x2))) + (10 * (im3 53 0 (Int32.toNatClampNeg x2))))), (6, vI 1)]) hO dX12_isHarmless_99 (by decide) rfl rfl ?_
              refine zi_aload_n hO dX12_isHarmless_101 0 rfl ?_
              refine zi_iload_n hO dX12_isHarmless_102 1 rfl ?_
              refine zi_iload_n hO dX12_isHarmless_103 2 rfl ?_
              obtain ⟨P23, hM23, h⟩ := h
              refine zc_VV (as := [vI x1, vI x2]) hO hN dX12_isHarmless_104 kX12_286 (by decide) rfl (zI (by decide)) rfl rfl (Nat.le_of_ble_eq_true rfl) rfl rfl hM23 (fun im23 lv23 hp23 => ?_)
              replace h := h im23 lv23 hp23
              refine zi_iload hO dX12_isHarmless_107 6 rfl ?_
              exact zr_Z hO hR rfl (Or.inr rfl) dX12_isHarmless_109 h
  · have h := h.2 c1
    refine zi_iconst (v := 0) hO dX12_isHarmless_19 (by decide) ?_
    exact zr_Z hO hR rfl (Or.inl rfl) dX12_isHarmless_20 h
theorem rX12_harmless_0 {x : zX} {w : zWd} {im : zMem} {lv : Int64} {P : Int32 → zMem → Int64 → Prop} {x1 : Int32} {x2 : Int32} (hO : zOK x w zyX12_harmless 7) (hR : zRetI x w zyX12_harmless P) (hN : zN x 126 126)
 (h : ((¬ (0 ≤ x1 ∧ x1 ≤ ((im 43 0 10) - 1)) → P (-1000001) (zwr im 43 0 0 0) lv) ∧
 (0 ≤ x1 ∧ x1 ≤ ((im 43 0 10) - 1) → ((¬ (0 ≤ x2 ∧ x2 ≤ ((im 43 0 10) - 1)) → P (-1000001) (zwr im 43 0 0 0) lv) ∧
 (0 ≤ x2 ∧ x2 ≤ ((im 43 0 10) - 1) → (vp_in (5 * x1) 60 ∧ (vp_in (5 * x2) 60 ∧ ((¬ ((im 50 0 (Int32.toNatClampNeg (5 * x1))) = (im 50 0 (Int32.toNatClampNeg (5 * x2)))) → (∃ P5 : Int32 → zMem → Int64 → Prop, zSpecI x.2.1 w 6 zyX12_isHarmless [vR 43 0, vI x1, vI x2] (zwr im 43 0 0 0) lv P5 ∧ ∀ (v5 : Int32) (im5 : zMem) (lv5 : Int64), P5 v5 im5 lv5 → ((v5 = 0 → P 0 im5 lv5) ∧
 (¬ (v5 = 0) → P 1 im5 lv5)))) ∧
 ((im 50 0 (Int32.toNatClampNeg (5 * x1))) = (im 50 0 (Int32.toNatClampNeg (5 * x2))) → P (-1000001) (zwr im 43 0 0 0) lv))))))))) :
 zW x w 0 [(0, vR 43 0), (1, vI x1), (2, vI x2)] [] im lv := by
  refine zi_aload_n hO dX12_harmless_0 0 rfl ?_
  refine zi_iconst (v := 0) hO dX12_harmless_1 (by decide) ?_
  refine zi_putI hO dX12_harmless_2 gX12_1 rfl rfl (zI (by decide)) ?_
  refine zi_aload_n hO dX12_harmless_5 0 rfl ?_
  refine zi_iload_n hO dX12_harmless_6 1 rfl ?_
  refine zc_VI (as := [vI x1]) hO hN dX12_harmless_7 kX12_233 (by decide) rfl (zI (by decide)) rfl rfl (Nat.le_of_ble_eq_true rfl) rfl rfl (C_X12_isFlight _ _ _ _) (fun v1 im1 lv1 hp1 => ?_)
  rw [hp1.1, hp1.2.1, hp1.2.2]
  refine zi_if_eq (tgt := 40) hO dX12_harmless_10 (by decide) (fun c1 => ?_) (fun c1 => ?_)
  · have h := h.1 (vB_0.mp c1)
    refine zi_ldc (v := (-1000001)) hO dX12_harmless_40 nX12_23 ?_
    exact zr_I hO hR rfl dX12_harmless_42 h
  · have h := h.2 (vB_1.mp (vB_01.resolve_left c1))
    refine zi_aload_n hO dX12_harmless_13 0 rfl ?_
    refine zi_iload_n hO dX12_harmless_14 2 rfl ?_
    refine zc_VI (as := [vI x2]) hO hN dX12_harmless_15 kX12_233 (by decide) rfl (zI (by decide)) rfl rfl (Nat.le_of_ble_eq_true rfl) rfl rfl (C_X12_isFlight _ _ _ _) (fun v2 im2 lv2 hp2 => ?_)
    rw [hp2.1, hp2.2.1, hp2.2.2]
    refine zi_if_eq (tgt := 40) hO dX12_harmless_18 (by decide) (fun c2 => ?_) (fun c2 => ?_)
    · have h := h.1 (vB_0.mp c2)
      refine zi_ldc (v := (-1000001)) hO dX12_harmless_40 nX12_23 ?_
      exact zr_I hO hR rfl dX12_harmless_42 h
    · have h := h.2 (vB_1.mp (vB_01.resolve_left c2))
      refine zi_aload_n hO dX12_harmless_21 0 rfl ?_
      refine zi_getR (r' := 50) (i' := 0) hO dX12_harmless_22 fX12_56 rfl rfl (zI (by decide)) rfl ?_
      refine zi_iconst (v := 5) hO dX12_harmless_25 (by decide) ?_
      refine zi_iload_n hO dX12_harmless_26 1 rfl ?_
      refine zi_imul hO dX12_harmless_27 ?_
      obtain ⟨s3, h⟩ := h
      refine zi_iald hO dX12_harmless_28 rfl (zI (by decide)) s3 ?_
      refine zi_aload_n hO dX12_harmless_29 0 rfl ?_
      refine zi_getR (r' := 50) (i' := 0) hO dX12_harmless_30 fX12_56 rfl rfl (zI (by decide)) rfl ?_
      refine zi_iconst (v := 5) hO dX12_harmless_33 (by decide) ?_
      refine zi_iload_n hO dX12_harmless_34 2 rfl ?_
      refine zi_imul hO dX12_harmless_35 ?_
      obtain ⟨s4, h⟩ := h
      refine zi_iald hO dX12_harmless_36 rfl (zI (by decide)) s4 ?_
      refine zi_icmp_ne (tgt := 43) hO dX12_harmless_37 (by decide) (fun c3 => ?_) (fun c3 => ?_)
      · have h := h.1 c3
        refine zi_aload_n hO dX12_harmless_43 0 rfl ?_
        refine zi_iload_n hO dX12_harmless_44 1 rfl ?_
        refine zi_iload_n hO dX12_harmless_45 2 rfl ?_
        obtain ⟨P5, hM5, h⟩ := h
        refine zc_VI (as := [vI x1, vI x2]) hO hN dX12_harmless_46 kX12_289 (by decide) rfl (zI (by decide)) rfl rfl (Nat.le_of_ble_eq_true rfl) rfl rfl hM5 (fun v5 im5 lv5 hp5 => ?_)
        replace h := h v5 im5 lv5 hp5
        refine zi_if_eq (tgt := 56) hO dX12_harmless_49 (by decide) (fun c4 => ?_) (fun c4 => ?_)
        · have h := h.1 c4
          refine zi_iconst (v := 0) hO dX12_harmless_56 (by decide) ?_
          exact zr_I hO hR rfl dX12_harmless_57 h
        · have h := h.2 c4
          refine zi_iconst (v := 1) hO dX12_harmless_52 (by decide) ?_
          refine zi_goto (tgt := 57) hO dX12_harmless_53 (by decide) ?_
          exact zr_I hO hR rfl dX12_harmless_57 h
      · have h := h.2 c3
        refine zi_ldc (v := (-1000001)) hO dX12_harmless_40 nX12_23 ?_
        exact zr_I hO hR rfl dX12_harmless_42 h
theorem rX12_swap_0 {x : zX} {w : zWd} {im : zMem} {lv : Int64} {P : Int32 → zMem → Int64 → Prop} (hO : zOK x w zyX12_swap 7) (hR : zRetI x w zyX12_swap P) (hN : zN x 126 126)
 (h : zW x w 7 [(0, vR 43 0), (1, vI 0)] [] (zwr im 43 0 0 0) lv) :
 zW x w 0 [(0, vR 43 0)] [] im lv := by
  refine zi_aload_n hO dX12_swap_0 0 rfl ?_
  refine zi_iconst (v := 0) hO dX12_swap_1 (by decide) ?_
  refine zi_putI hO dX12_swap_2 gX12_1 rfl rfl (zI (by decide)) ?_
  refine zi_iconst (v := 0) hO dX12_swap_5 (by decide) ?_
  refine zi_istore_n (L' := [(0, vR 43 0), (1, vI 0)]) hO dX12_swap_6 (by decide) rfl rfl ?_
  exact h
theorem rX12_swap_7 {x : zX} {w : zWd} {im : zMem} {lv : Int64} {P : Int32 → zMem → Int64 → Prop} {x1 : Int32} (hO : zOK x w zyX12_swap 7) (hR : zRetI x w zyX12_swap P) (hN : zN x 126 126)
 (h : (((im 43 0 10) ≤ x1 → P (-1000000) im lv) ∧
 (¬ ((im 43 0 10) ≤ x1) → zW x w 19 [(0, vR 43 0), (1, vI x1), (2, vI (x1 + 1))] [] im lv))) :
 zW x w 7 [(0, vR 43 0), (1, vI x1)] [] im lv := by
  refine zi_iload_n hO dX12_swap_7 1 rfl ?_
  refine zi_aload_n hO dX12_swap_8 0 rfl ?_
  refine zi_getI hO dX12_swap_9 fX12_138 rfl rfl (zI (by decide)) ?_
  refine zi_icmp_ge (tgt := 61) hO dX12_swap_12 (by decide) (fun c1 => ?_) (fun c1 => ?_)
  · have h := h.1 c1
    refine zi_ldc (v := (-1000000)) hO dX12_swap_61 nX12_131 ?_
    exact zr_I hO hR rfl dX12_swap_63 h
  · have h := h.2 c1
    refine zi_iload_n hO dX12_swap_15 1 rfl ?_
    refine zi_iconst (v := 1) hO dX12_swap_16 (by decide) ?_
    refine zi_iadd hO dX12_swap_17 ?_
    refine zi_istore_n (L' := [(0, vR 43 0), (1, vI x1), (2, vI (x1 + 1))]) hO dX12_swap_18 (by decide) rfl rfl ?_
    exact h
theorem rX12_swap_19 {x : zX} {w : zWd} {im : zMem} {lv : Int64} {P : Int32 → zMem → Int64 → Prop} {x1 : Int32} {x2 : Int32} (hO : zOK x w zyX12_swap 7) (hR : zRetI x w zyX12_swap P) (hN : zN x 126 126)
 (h : (((im 43 0 10) ≤ x2 → zW x w 7 [(0, vR 43 0), (1, vI (x1 + 1))] [] im lv) ∧
 (¬ ((im 43 0 10) ≤ x2) → (∃ P1 : Int32 → zMem → Int64 → Prop, zSpecI x.2.1 w 6 zyX12_isHarmless [vR 43 0, vI x1, vI x2] im lv P1 ∧ ∀ (v1 : Int32) (im1 : zMem) (lv1 : Int64), P1 v1 im1 lv1 → ((v1 = 0 → zW x w 19 [(0, vR 43 0), (1, vI x1), (2, vI (x2 + 1))] [] im1 lv1) ∧
 (¬ (v1 = 0) → (∃ P2 : zMem → Int64 → Prop, zSpecV x.2.1 w 2 zyX12_exchange [vR 43 0, vI x1, vI x2] im1 lv1 P2 ∧ ∀ (im2 : zMem) (lv2 : Int64), P2 im2 lv2 → P ((100 * x1) + x2) im2 lv2))))))) :
 zW x w 19 [(0, vR 43 0), (1, vI x1), (2, vI x2)] [] im lv := by
  refine zi_iload_n hO dX12_swap_19 2 rfl ?_
  refine zi_aload_n hO dX12_swap_20 0 rfl ?_
  refine zi_getI hO dX12_swap_21 fX12_138 rfl rfl (zI (by decide)) ?_
  refine zi_icmp_ge (tgt := 55) hO dX12_swap_24 (by decide) (fun c1 => ?_) (fun c1 => ?_)
  · have h := h.1 c1
    refine zi_iinc (v' := (x1 + 1)) (L' := [(0, vR 43 0), (1, vI (x1 + 1)), (2, vI x2)]) hO dX12_swap_55 1 rfl rfl (by decide) rfl rfl ?_
    refine zi_goto (tgt := 7) hO dX12_swap_58 (by decide) ?_
    refine zi_pick (L' := [(0, vR 43 0), (1, vI (x1 + 1))]) [0, 1] rfl ?_
    exact h
  · have h := h.2 c1
    refine zi_aload_n hO dX12_swap_27 0 rfl ?_
    refine zi_iload_n hO dX12_swap_28 1 rfl ?_
    refine zi_iload_n hO dX12_swap_29 2 rfl ?_
    obtain ⟨P1, hM1, h⟩ := h
    refine zc_VI (as := [vI x1, vI x2]) hO hN dX12_swap_30 kX12_289 (by decide) rfl (zI (by decide)) rfl rfl (Nat.le_of_ble_eq_true rfl) rfl rfl hM1 (fun v1 im1 lv1 hp1 => ?_)
    replace h := h v1 im1 lv1 hp1
    refine zi_if_eq (tgt := 49) hO dX12_swap_33 (by decide) (fun c2 => ?_) (fun c2 => ?_)
    · have h := h.1 c2
      refine zi_iinc (v' := (x2 + 1)) (L' := [(0, vR 43 0), (1, vI x1), (2, vI (x2 + 1))]) hO dX12_swap_49 2 rfl rfl (by decide) rfl rfl ?_
      refine zi_goto (tgt := 19) hO dX12_swap_52 (by decide) ?_
      exact h
    · have h := h.2 c2
      refine zi_aload_n hO dX12_swap_36 0 rfl ?_
      refine zi_iload_n hO dX12_swap_37 1 rfl ?_
      refine zi_iload_n hO dX12_swap_38 2 rfl ?_
      obtain ⟨P2, hM2, h⟩ := h
      refine zc_VV (as := [vI x1, vI x2]) hO hN dX12_swap_39 kX12_286 (by decide) rfl (zI (by decide)) rfl rfl (Nat.le_of_ble_eq_true rfl) rfl rfl hM2 (fun im2 lv2 hp2 => ?_)
      replace h := h im2 lv2 hp2
      refine zi_bipush (v := 100) hO dX12_swap_42 (by decide) ?_
      refine zi_iload_n hO dX12_swap_44 1 rfl ?_
      refine zi_imul hO dX12_swap_45 ?_
      refine zi_iload_n hO dX12_swap_46 2 rfl ?_
      refine zi_iadd hO dX12_swap_47 ?_
      exact zr_I hO hR rfl dX12_swap_48 h
theorem C_X12_exchange (l : Launch) (w : zWd) {im : zMem} (lv : Int64) {a b : Nat} (ha : a < 12) (hb : b < 12) : zSpecV l w 2 zyX12_exchange [vR 43 0, vI (nI a), vI (nI b)] im lv (fun im' lv' => im' = exM im a b ∧ lv' = lv) := by
  refine ze_V (by decide) (Nat.le_of_ble_eq_true rfl) (fun x hO hR hN => rX12_exchange_0 hO hR hN ?_)
  have ca : Int32.toNatClampNeg (nI a) = a := nI_clamp (by omega)
  have cb : Int32.toNatClampNeg (nI b) = b := nI_clamp (by omega)
  rw [ca, cb]
  exact ⟨vp_in_nI ha (by decide), vp_in_nI hb (by decide), rfl, rfl⟩
theorem C_X12_isHarmless (l : Launch) (w : zWd) {m im : zMem} (lv : Int64) (hW : WF m) (hM : RM m im) {a b : Nat} (ha : a < nfl m) (hb : b < nfl m) : zSpecI l w 6 zyX12_isHarmless [vR 43 0, vI (nI a), vI (nI b)] im lv (fun v im' lv' => v = (if hml m a b = true then 1 else 0) ∧ im' = im ∧ lv' = lv) := by
  refine ze_I (by decide) (Nat.le_of_ble_eq_true rfl) (fun x hO hR hN => rX12_isHarmless_0 hO hR hN ?_)
  have h12 := hW.1.2
  obtain ⟨a0, -⟩ := hW.2.1 a ha
  obtain ⟨b0, -⟩ := hW.2.1 b hb
  have m5a : (5 : Int32) * nI a = nI (5 * a) := pk_mul 5 a
  have m5b : (5 : Int32) * nI b = nI (5 * b) := pk_mul 5 b
  have m3a : (5 : Int32) * nI a + 3 = nI (5 * a + 3) := by rw [m5a]; exact nI_add _ 3
  have m3b : (5 : Int32) * nI b + 3 = nI (5 * b + 3) := by rw [m5b]; exact nI_add _ 3
  have ea : im 50 0 (Int32.toNatClampNeg (5 * nI a)) = nI (own m a) := by rw [m5a, nI_clamp (by omega), hM.1 50 (by decide) (by decide)]; exact a0.1
  have eb : im 50 0 (Int32.toNatClampNeg (5 * nI b)) = nI (own m b) := by rw [m5b, nI_clamp (by omega), hM.1 50 (by decide) (by decide)]; exact b0.1
  rw [ea, eb, nI_eq (by omega) (by omega)]
  have v1 : vp_in (5 * nI a) 60 := by rw [m5a]; exact vp_in_nI (by omega) (by decide)
  have v2 : vp_in (5 * nI b) 60 := by rw [m5b]; exact vp_in_nI (by omega) (by decide)
  have v3 : vp_in (nI a) 12 := vp_in_nI (by omega) (by decide)
  have v4 : vp_in (5 * nI a + 3) 60 := by rw [m3a]; exact vp_in_nI (by omega) (by decide)
  have v5 : vp_in (nI b) 12 := vp_in_nI (by omega) (by decide)
  have v6 : vp_in (5 * nI b + 3) 60 := by rw [m3b]; exact vp_in_nI (by omega) (by decide)
  refine ⟨v1, v2, fun q => ⟨_, C_X12_overAll _ _ _ hW hM, ?_⟩, fun q => ⟨?_, rfl, rfl⟩⟩
  · rintro _ im3 lv3 ⟨rfl, rfl, rfl⟩
    refine ⟨v3, v4, v5, v6, _, C_X12_exchange _ _ _ (a := a) (b := b) (by omega) (by omega), ?_⟩
    rintro im10 lv10 ⟨e10, rfl⟩
    have hW1 := exM_WF hW ha hb
    have hM1 : RM (exM m a b) im10 := by rw [e10]; exact exM_RM hM
    have ca1 := cost_i hW hM ha
    have cb1 := cost_i hW hM hb
    have ca2 := cost_i hW1 hM1 (f := a) (by rw [exM_nfl]; exact ha)
    have cb2 := cost_i hW1 hM1 (f := b) (by rw [exM_nfl]; exact hb)
    have la1 := cost_le hW ha
    have lb1 := cost_le hW hb
    have la2 := cost_le hW1 (f := a) (by rw [exM_nfl]; exact ha)
    have lb2 := cost_le hW1 (f := b) (by rw [exM_nfl]; exact hb)
    have lo1 := overAll_le hW
    have lo2 := overAll_le hW1
    rw [ca1, cb1, ca2, cb2]
    have back : exM im10 a b = im3 := by rw [e10]; exact exM_exM
    have xx : ∀ (v : Int32) (im' : zMem) (lv' : Int64), im' = im10 → lv' = lv10 → v = (if hml m a b = true then 1 else 0) → ∃ P12 : zMem → Int64 → Prop, zSpecV x.2.1 w 2 zyX12_exchange [vR 43 0, vI (nI a), vI (nI b)] im' lv' P12 ∧ ∀ (im12 : zMem) (lv12 : Int64), P12 im12 lv12 → (v = (if hml m a b = true then 1 else 0) ∧ im12 = im3 ∧ lv12 = lv10) := by
      intro v im' lv' e1 e2 hv
      refine ⟨_, C_X12_exchange _ _ _ (a := a) (b := b) (by omega) (by omega), ?_⟩
      rintro im12 lv12 ⟨rfl, rfl⟩
      exact ⟨hv, by rw [e1]; exact back, e2⟩
    have no : ¬ (¬ own m a = own m b ∧ cost (exM m a b) a ≤ cost m a ∧ cost (exM m a b) b ≤ cost m b ∧ (cost (exM m a b) a < cost m a ∨ cost (exM m a b) b < cost m b) ∧ overAll (exM m a b) ≤ overAll m) → (0 : Int32) = (if hml m a b = true then 1 else 0) := by
      intro z
      rw [if_neg (by unfold hml; simpa using z)]
    have ye : (¬ own m a = own m b ∧ cost (exM m a b) a ≤ cost m a ∧ cost (exM m a b) b ≤ cost m b ∧ (cost (exM m a b) a < cost m a ∨ cost (exM m a b) b < cost m b) ∧ overAll (exM m a b) ≤ overAll m) → (1 : Int32) = (if hml m a b = true then 1 else 0) := by
      intro z
      rw [if_pos (by unfold hml; simpa using z)]
    simp (disch := omega) only [nI_ltI, nI_leI]
    refine ⟨fun z1 => xx 0 _ _ rfl rfl (no (by omega)), fun z1 => ⟨fun z2 => xx 0 _ _ rfl rfl (no (by omega)), fun z2 => ⟨fun z3 => ⟨_, C_X12_overAll _ _ _ hW1 hM1, ?_⟩, fun z3 => ⟨fun z4 => xx 0 _ _ rfl rfl (no (by omega)), fun z4 => ⟨_, C_X12_overAll _ _ _ hW1 hM1, ?_⟩⟩⟩⟩⟩
    · rintro _ im16 lv16 ⟨rfl, e16, e17⟩
      rw [nI_ltI (by omega) (by omega)]
      exact ⟨fun z4 => xx 0 _ _ e16 e17 (no (by omega)), fun z4 => xx 1 _ _ e16 e17 (ye ⟨q, by omega, by omega, by omega, by omega⟩)⟩
    · rintro _ im16 lv16 ⟨rfl, e16, e17⟩
      rw [nI_ltI (by omega) (by omega)]
      exact ⟨fun z5 => xx 0 _ _ e16 e17 (no (by omega)), fun z5 => xx 1 _ _ e16 e17 (ye ⟨q, by omega, by omega, by omega, by omega⟩)⟩
  · rw [if_neg (by unfold hml; simp [q])]
def aHarm (m : zMem) (x y : Int32) : Int32 := if (0 ≤ x ∧ x < nI (nfl m)) ∧ (0 ≤ y ∧ y < nI (nfl m)) ∧ ¬ own m (cN x) = own m (cN y) then (if hml m (cN x) (cN y) = true then 1 else 0) else -1000001
theorem C_X12_harmless (l : Launch) (w : zWd) {m im : zMem} (lv : Int64) (hW : WF m) (hM : RM m im) (h0 : im 43 0 0 = 0) (x1 x2 : Int32) : zSpecI l w 7 zyX12_harmless [vR 43 0, vI x1, vI x2] im lv (fun v im' lv' => v = aHarm m x1 x2 ∧ im' = im ∧ lv' = lv) := by
  refine ze_I (by decide) (Nat.le_of_ble_eq_true rfl) (fun x hO hR hN => rX12_harmless_0 hO hR hN ?_)
  have h12 := hW.1.2
  rw [zwr_id h0, hM.2.2.2, hW.1.1, zrg (by omega), zrg (by omega)]
  unfold aHarm
  refine ⟨fun q => ⟨(if_neg (fun z => q z.1)).symm, rfl, rfl⟩, fun q => ⟨fun q2 => ⟨(if_neg (fun z => q2 z.2.1)).symm, rfl, rfl⟩, fun q2 => ?_⟩⟩
  obtain ⟨a, ha, rfl⟩ := zrx (by omega) q
  obtain ⟨b, hb, rfl⟩ := zrx (by omega) q2
  obtain ⟨a0, -⟩ := hW.2.1 a ha
  obtain ⟨b0, -⟩ := hW.2.1 b hb
  have m5a : (5 : Int32) * nI a = nI (5 * a) := pk_mul 5 a
  have m5b : (5 : Int32) * nI b = nI (5 * b) := pk_mul 5 b
  have ea : im 50 0 (Int32.toNatClampNeg (5 * nI a)) = nI (own m a) := by rw [m5a, nI_clamp (by omega), hM.1 50 (by decide) (by decide)]; exact a0.1
  have eb : im 50 0 (Int32.toNatClampNeg (5 * nI b)) = nI (own m b) := by rw [m5b, nI_clamp (by omega), hM.1 50 (by decide) (by decide)]; exact b0.1
  rw [ea, eb, nI_eq (by omega) (by omega), cNn (n := a) (by omega), cNn (n := b) (by omega)]
  refine ⟨by rw [m5a]; exact vp_in_nI (by omega) (by decide), by rw [m5b]; exact vp_in_nI (by omega) (by decide), fun q3 => ⟨_, C_X12_isHarmless _ _ _ hW hM ha hb, ?_⟩, fun q3 => ⟨(if_neg (fun z => z.2.2 q3)).symm, rfl, rfl⟩⟩
  rintro _ im5 lv5 ⟨rfl, rfl, rfl⟩
  simp only [if_pos (And.intro q (And.intro q2 q3))]
  by_cases hh : hml m a b = true
  · rw [if_pos hh]
    exact ⟨fun z => absurd z (by decide), fun _ => ⟨rfl, trivial, trivial⟩⟩
  · rw [if_neg hh]
    exact ⟨fun _ => ⟨rfl, trivial, trivial⟩, fun z => absurd rfl z⟩
def sw2 (m : zMem) (a : Nat) : Nat → Nat → Option Nat
  | 0, _ => none
  | n + 1, b => if hml m a b = true then some b else sw2 m a n (b + 1)
def sw1 (m : zMem) : Nat → Nat → Option (Nat × Nat)
  | 0, _ => none
  | n + 1, a => match sw2 m a (nfl m - (a + 1)) (a + 1) with
    | some b => some (a, b)
    | none => sw1 m n (a + 1)
def swp (m : zMem) : Option (Nat × Nat) := sw1 m (nfl m) 0
theorem C_X12_swap (l : Launch) (w : zWd) {m im : zMem} (lv : Int64) (hW : WF m) (hM : RM m im) (h0 : im 43 0 0 = 0) : zSpecI l w 7 zyX12_swap [vR 43 0] im lv (fun v im' lv' => (match swp m with | none => v = -1000000 ∧ im' = im | some q => v = nI (100 * q.1 + q.2) ∧ im' = exM im q.1 q.2) ∧ lv' = lv) := by
  refine ze_I (by decide) (Nat.le_of_ble_eq_true rfl) (fun x hO hR hN => rX12_swap_0 hO hR hN ?_)
  have h12 := hW.1.2
  rw [zwr_id h0]
  have key7 : ∀ n a, n + a = nfl m → sw1 m n a = swp m → zW x w 7 [(0, vR 43 0), (1, vI (nI a))] [] im lv := by
    intro n
    induction n with
    | zero =>
      intro a ha e
      have : a = nfl m := by omega
      subst this
      refine rX12_swap_7 hO hR hN ?_
      rw [hM.2.2.2, hW.1.1]
      refine ⟨fun _ => ?_, fun q => absurd (by simp) q⟩
      rw [← e]
      exact ⟨⟨rfl, rfl⟩, rfl⟩
    | succ n ih =>
      intro a ha e
      have ha1 : nI a + 1 = nI (a + 1) := nI_1 a
      have key19 : ∀ n2 b, n2 + b = nfl m → (match sw2 m a n2 b with | some b => some (a, b) | none => sw1 m n (a + 1)) = swp m → zW x w 19 [(0, vR 43 0), (1, vI (nI a)), (2, vI (nI b))] [] im lv := by
        intro n2
        induction n2 with
        | zero =>
          intro b hb e2
          have : b = nfl m := by omega
          subst this
          refine rX12_swap_19 hO hR hN ?_
          rw [hM.2.2.2, hW.1.1, ha1]
          exact ⟨fun _ => ih (a + 1) (by omega) e2, fun q => absurd (by simp) q⟩
        | succ n2 ih2 =>
          intro b hb e2
          have hb1 : nI b + 1 = nI (b + 1) := nI_1 b
          refine rX12_swap_19 hO hR hN ?_
          rw [hM.2.2.2, hW.1.1, hb1]
          refine ⟨fun q => ?_, fun _ => ⟨_, C_X12_isHarmless _ _ _ hW hM (by omega) (by omega), ?_⟩⟩
          · exfalso
            rw [nI_leI (by omega) (by omega)] at q
            omega
          rintro _ im1 lv1 ⟨rfl, rfl, rfl⟩
          rw [sw2] at e2
          by_cases hh : hml m a b = true
          · rw [if_pos hh] at e2 ⊢
            refine ⟨fun z => absurd z (by decide), fun _ => ⟨_, C_X12_exchange _ _ _ (a := a) (b := b) (by omega) (by omega), ?_⟩⟩
            rintro im2 lv2 ⟨rfl, rfl⟩
            rw [← e2]
            have e100 : (100 : Int32) * nI a = nI (100 * a) := pk_mul 100 a
            exact ⟨⟨by rw [e100, nI_add], rfl⟩, rfl⟩
          · rw [if_neg hh] at e2 ⊢
            exact ⟨fun _ => ih2 (b + 1) (by omega) e2, fun z => absurd rfl z⟩
      refine rX12_swap_7 hO hR hN ?_
      rw [hM.2.2.2, hW.1.1, ha1]
      refine ⟨fun q => ?_, fun _ => key19 (nfl m - (a + 1)) (a + 1) (by omega) e⟩
      exfalso
      rw [nI_leI (by omega) (by omega)] at q
      omega
  exact key7 (nfl m) 0 (by omega) rfl
/-! asks -/
def apL : zMem → Nat → List Nat → zMem
  | im, _, [] => im
  | im, n, b :: L => apL (zwr (zwr im 67 0 n (nI b)) 43 0 41 (nI (n + 1))) (n + 1) L
theorem apL_app : ∀ {im : zMem} {n : Nat} {L K : List Nat}, apL im n (L ++ K) = apL (apL im n L) (n + L.length) K
  | im, n, [], K => rfl
  | im, n, b :: L, K => by
    show apL _ (n + 1) (L ++ K) = _
    rw [apL_app]
    show _ = apL (apL _ (n + 1) L) (n + (L.length + 1)) K
    rw [show n + 1 + L.length = n + (L.length + 1) by omega]
theorem apL_RM {m : zMem} : ∀ {im : zMem} {n : Nat} {L : List Nat}, RM m im → RM m (apL im n L)
  | im, n, [], h => h
  | im, n, b :: L, h => apL_RM (im := zwr (zwr im 67 0 n (nI b)) 43 0 41 (nI (n + 1))) (RM.wr (RM.wr h (by omega) (by omega)) (by omega) (by omega))
theorem apL_n : ∀ {im : zMem} {n : Nat} {L : List Nat}, im 43 0 41 = nI n → apL im n L 43 0 41 = nI (n + L.length)
  | im, n, [], h => h
  | im, n, b :: L, h => by
    show apL _ (n + 1) L 43 0 41 = _
    rw [apL_n (by rw [zwr_eq])]
    congr 1
    show n + 1 + L.length = n + (L.length + 1)
    omega
theorem rX12_began_0 {x : zX} {w : zWd} {im : zMem} {lv : Int64} {P : zMem → Int64 → Prop} {x1 : Int32} (hO : zOK x w zyX12_began 2) (hR : zRetV x w zyX12_began P) (hN : zN x 126 126)
 (h : ((16 ≤ (im 43 0 41) → P im lv) ∧
 (¬ (16 ≤ (im 43 0 41)) → (vp_in (im 43 0 41) 16 ∧ P (zwr (zwr im 67 0 (Int32.toNatClampNeg (im 43 0 41)) x1) 43 0 41 ((im 43 0 41) + 1)) lv)))) :
 zW x w 0 [(0, vR 43 0), (1, vI x1)] [] im lv := by
  refine zi_aload_n hO dX12_began_0 0 rfl ?_
  refine zi_getI hO dX12_began_1 fX12_301 rfl rfl (zI (by decide)) ?_
  refine zi_bipush (v := 16) hO dX12_began_4 (by decide) ?_
  refine zi_icmp_ge (tgt := 29) hO dX12_began_6 (by decide) (fun c1 => ?_) (fun c1 => ?_)
  · have h := h.1 c1
    exact zr_V hO hR rfl dX12_began_29 h
  · have h := h.2 c1
    refine zi_aload_n hO dX12_began_9 0 rfl ?_
    refine zi_getR (r' := 67) (i' := 0) hO dX12_began_10 fX12_107 rfl rfl (zI (by decide)) rfl ?_
    refine zi_aload_n hO dX12_began_13 0 rfl ?_
    refine zi_getI hO dX12_began_14 fX12_301 rfl rfl (zI (by decide)) ?_
    refine zi_iload_n hO dX12_began_17 1 rfl ?_
    obtain ⟨s1, h⟩ := h
    refine zi_iast hO dX12_began_18 rfl (zI (by decide)) s1 ?_
    refine zi_aload_n hO dX12_began_19 0 rfl ?_
    refine zi_dup hO dX12_began_20 rfl ?_
    refine zi_getI hO dX12_began_21 fX12_301 rfl rfl (zI (by decide)) ?_
    refine zi_iconst (v := 1) hO dX12_began_24 (by decide) ?_
    refine zi_iadd hO dX12_began_25 ?_
    refine zi_putI hO dX12_began_26 gX12_301 rfl rfl (zI (by decide)) ?_
    exact zr_V hO hR rfl dX12_began_29 h
theorem rX12_markOf_0 {x : zX} {w : zWd} {im : zMem} {lv : Int64} {P : Int32 → zMem → Int64 → Prop} {x1 : Int32} {x2 : Int32} (hO : zOK x w zyX12_markOf 3) (hR : zRetI x w zyX12_markOf P) (hN : zN x 126 126)
 (h : ((¬ ((1 : Int32) = 0 ∨ x2 = 1 ∨ ((1 : Int32) = 1 ∧ x2 = 2)) → ((¬ (x2 = 3) → (∃ P2 : zMem → Int64 → Prop, zSpecV x.2.1 w 2 zyX12_began [vR 43 0, vI 20] im lv P2 ∧ ∀ (im2 : zMem) (lv2 : Int64), P2 im2 lv2 → (vp_in ((5 * x1) + 1) 60 ∧ P ((im2 50 0 (Int32.toNatClampNeg ((5 * x1) + 1))) + 0) im2 lv2))) ∧
 (x2 = 3 → (∃ P5 : zMem → Int64 → Prop, zSpecV x.2.1 w 2 zyX12_began [vR 43 0, vI 22] im lv P5 ∧ ∀ (im5 : zMem) (lv5 : Int64), P5 im5 lv5 → (∃ P6 : zMem → Int64 → Prop, zSpecV x.2.1 w 2 zyX12_began [vR 43 0, vI 20] im5 lv5 P6 ∧ ∀ (im6 : zMem) (lv6 : Int64), P6 im6 lv6 → (vp_in ((5 * x1) + 1) 60 ∧ (vp_in (5 * x1) 60 ∧ P ((im6 50 0 (Int32.toNatClampNeg ((5 * x1) + 1))) + (im6 50 0 (Int32.toNatClampNeg (5 * x1)))) im6 lv6))))))) ∧
 ((1 : Int32) = 0 ∨ x2 = 1 ∨ ((1 : Int32) = 1 ∧ x2 = 2) → (∃ P9 : zMem → Int64 → Prop, zSpecV x.2.1 w 2 zyX12_began [vR 43 0, vI 21] im lv P9 ∧ ∀ (im9 : zMem) (lv9 : Int64), P9 im9 lv9 → ((¬ (x2 = 3) → (∃ P10 : zMem → Int64 → Prop, zSpecV x.2.1 w 2 zyX12_began [vR 43 0, vI 20] im9 lv9 P10 ∧ ∀ (im10 : zMem) (lv10 : Int64), P10 im10 lv10 → (vp_in ((5 * x1) + 1) 60 ∧ P ((im10 50 0 (Int32.toNatClampNeg ((5 * x1) + 1))) + 100) im10 lv10))) ∧
 (x2 = 3 → (∃ P13 : zMem → Int64 → Prop, zSpecV x.2.1 w 2 zyX12_began [vR 43 0, vI 22] im9 lv9 P13 ∧ ∀ (im13 : zMem) (lv13 : Int64), P13 im13 lv13 → (∃ P14 : zMem → Int64 → Prop, zSpecV x.2.1 w 2 zyX12_began [vR 43 0, vI 20] im13 lv13 P14 ∧ ∀ (im14 : zMem) (lv14 : Int64), P14 im14 lv14 → (vp_in ((5 * x1) + 1) 60 ∧ (vp_in (5 * x1) 60 ∧ P ((im14 50 0 (Int32.toNatClampNeg ((5 * x1) + 1))) + (im14 50 0 (Int32.toNatClampNeg (5 * x1)))) im14 lv14)))))))))) :
 zW x w 0 [(0, vR 43 0), (1, vI x1), (2, vI x2)] [] im lv := by
  refine zi_iload_n hO dX12_markOf_0 2 rfl ?_
  refine zi_iconst (v := 1) hO dX12_markOf_1 (by decide) ?_
  refine zc_SI (as := [vI x2, vI 1]) hO hN dX12_markOf_2 kX12_298 (by decide) rfl (Nat.le_of_ble_eq_true rfl) rfl rfl (C_X12_isOf _ _ _ _) (fun v1 im1 lv1 hp1 => ?_)
  rw [hp1.1, hp1.2.1, hp1.2.2]
  refine zi_if_eq (tgt := 14) hO dX12_markOf_5 (by decide) (fun c1 => ?_) (fun c1 => ?_)
  · have h := h.1 (vB_0.mp c1)
    refine zi_iload_n hO dX12_markOf_14 2 rfl ?_
    refine zi_iconst (v := 3) hO dX12_markOf_15 (by decide) ?_
    refine zi_icmp_ne (tgt := 25) hO dX12_markOf_16 (by decide) (fun c2 => ?_) (fun c2 => ?_)
    · have h := h.1 c2
      refine zi_aload_n hO dX12_markOf_25 0 rfl ?_
      refine zi_bipush (v := 20) hO dX12_markOf_26 (by decide) ?_
      obtain ⟨P2, hM2, h⟩ := h
      refine zc_VV (as := [vI 20]) hO hN dX12_markOf_28 kX12_304 (by decide) rfl (zI (by decide)) rfl rfl (Nat.le_of_ble_eq_true rfl) rfl rfl hM2 (fun im2 lv2 hp2 => ?_)
      replace h := h im2 lv2 hp2
      refine zi_aload_n hO dX12_markOf_31 0 rfl ?_
      refine zi_getR (r' := 50) (i' := 0) hO dX12_markOf_32 fX12_56 rfl rfl (zI (by decide)) rfl ?_
      refine zi_iconst (v := 5) hO dX12_markOf_35 (by decide) ?_
      refine zi_iload_n hO dX12_markOf_36 1 rfl ?_
      refine zi_imul hO dX12_markOf_37 ?_
      refine zi_iconst (v := 1) hO dX12_markOf_38 (by decide) ?_
      refine zi_iadd hO dX12_markOf_39 ?_
      obtain ⟨s3, h⟩ := h
      refine zi_iald hO dX12_markOf_40 rfl (zI (by decide)) s3 ?_
      refine zi_iload_n hO dX12_markOf_41 2 rfl ?_
      refine zi_iconst (v := 3) hO dX12_markOf_42 (by decide) ?_
      refine zi_icmp_ne (tgt := 57) hO dX12_markOf_43 (by decide) (fun _ => ?_) (fun c3 => absurd c3 c2)
      refine zi_iload_n hO dX12_markOf_57 2 rfl ?_
      refine zi_iconst (v := 1) hO dX12_markOf_58 (by decide) ?_
      refine zc_SI (as := [vI x2, vI 1]) hO hN dX12_markOf_59 kX12_298 (by decide) rfl (Nat.le_of_ble_eq_true rfl) rfl rfl (C_X12_isOf _ _ _ _) (fun v4 im4 lv4 hp4 => ?_)
      rw [hp4.1, hp4.2.1, hp4.2.2]
      refine zi_if_eq (tgt := 70) hO dX12_markOf_62 (by decide) (fun _ => ?_) (fun c4 => absurd (vB_1.mp (vB_01.resolve_left c4)) (vB_0.mp c1))
      refine zi_iconst (v := 0) hO dX12_markOf_70 (by decide) ?_
      refine zi_iadd hO dX12_markOf_71 ?_
      exact zr_I hO hR rfl dX12_markOf_72 h
    · have h := h.2 c2
      refine zi_aload_n hO dX12_markOf_19 0 rfl ?_
      refine zi_bipush (v := 22) hO dX12_markOf_20 (by decide) ?_
      obtain ⟨P5, hM5, h⟩ := h
      refine zc_VV (as := [vI 22]) hO hN dX12_markOf_22 kX12_304 (by decide) rfl (zI (by decide)) rfl rfl (Nat.le_of_ble_eq_true rfl) rfl rfl hM5 (fun im5 lv5 hp5 => ?_)
      replace h := h im5 lv5 hp5
      refine zi_aload_n hO dX12_markOf_25 0 rfl ?_
      refine zi_bipush (v := 20) hO dX12_markOf_26 (by decide) ?_
      obtain ⟨P6, hM6, h⟩ := h
      refine zc_VV (as := [vI 20]) hO hN dX12_markOf_28 kX12_304 (by decide) rfl (zI (by decide)) rfl rfl (Nat.le_of_ble_eq_true rfl) rfl rfl hM6 (fun im6 lv6 hp6 => ?_)
      replace h := h im6 lv6 hp6
      refine zi_aload_n hO dX12_markOf_31 0 rfl ?_
      refine zi_getR (r' := 50) (i' := 0) hO dX12_markOf_32 fX12_56 rfl rfl (zI (by decide)) rfl ?_
      refine zi_iconst (v := 5) hO dX12_markOf_35 (by decide) ?_
      refine zi_iload_n hO dX12_markOf_36 1 rfl ?_
      refine zi_imul hO dX12_markOf_37 ?_
      refine zi_iconst (v := 1) hO dX12_markOf_38 (by decide) ?_
      refine zi_iadd hO dX12_markOf_39 ?_
      obtain ⟨s7, h⟩ := h
      refine zi_iald hO dX12_markOf_40 rfl (zI (by decide)) s7 ?_
      refine zi_iload_n hO dX12_markOf_41 2 rfl ?_
      refine zi_iconst (v := 3) hO dX12_markOf_42 (by decide) ?_
      refine zi_icmp_ne (tgt := 57) hO dX12_markOf_43 (by decide) (fun c5 => absurd c2 c5) (fun _ => ?_)
      refine zi_aload_n hO dX12_markOf_46 0 rfl ?_
      refine zi_getR (r' := 50) (i' := 0) hO dX12_markOf_47 fX12_56 rfl rfl (zI (by decide)) rfl ?_
      refine zi_iconst (v := 5) hO dX12_markOf_50 (by decide) ?_
      refine zi_iload_n hO dX12_markOf_51 1 rfl ?_
      refine zi_imul hO dX12_markOf_52 ?_
      obtain ⟨s8, h⟩ := h
      refine zi_iald hO dX12_markOf_53 rfl (zI (by decide)) s8 ?_
      refine zi_goto (tgt := 71) hO dX12_markOf_54 (by decide) ?_
      refine zi_iadd hO dX12_markOf_71 ?_
      exact zr_I hO hR rfl dX12_markOf_72 h
  · have h := h.2 (vB_1.mp (vB_01.resolve_left c1))
    refine zi_aload_n hO dX12_markOf_8 0 rfl ?_
    refine zi_bipush (v := 21) hO dX12_markOf_9 (by decide) ?_
    obtain ⟨P9, hM9, h⟩ := h
    refine zc_VV (as := [vI 21]) hO hN dX12_markOf_11 kX12_304 (by decide) rfl (zI (by decide)) rfl rfl (Nat.le_of_ble_eq_true rfl) rfl rfl hM9 (fun im9 lv9 hp9 => ?_)
    replace h := h im9 lv9 hp9
    refine zi_iload_n hO dX12_markOf_14 2 rfl ?_
    refine zi_iconst (v := 3) hO dX12_markOf_15 (by decide) ?_
    refine zi_icmp_ne (tgt := 25) hO dX12_markOf_16 (by decide) (fun c6 => ?_) (fun c6 => ?_)
    · have h := h.1 c6
      refine zi_aload_n hO dX12_markOf_25 0 rfl ?_
      refine zi_bipush (v := 20) hO dX12_markOf_26 (by decide) ?_
      obtain ⟨P10, hM10, h⟩ := h
      refine zc_VV (as := [vI 20]) hO hN dX12_markOf_28 kX12_304 (by decide) rfl (zI (by decide)) rfl rfl (Nat.le_of_ble_eq_true rfl) rfl rfl hM10 (fun im10 lv10 hp10 => ?_)
      replace h := h im10 lv10 hp10
      refine zi_aload_n hO dX12_markOf_31 0 rfl ?_
      refine zi_getR (r' := 50) (i' := 0) hO dX12_markOf_32 fX12_56 rfl rfl (zI (by decide)) rfl ?_
      refine zi_iconst (v := 5) hO dX12_markOf_35 (by decide) ?_
      refine zi_iload_n hO dX12_markOf_36 1 rfl ?_
      refine zi_imul hO dX12_markOf_37 ?_
      refine zi_iconst (v := 1) hO dX12_markOf_38 (by decide) ?_
      refine zi_iadd hO dX12_markOf_39 ?_
      obtain ⟨s11, h⟩ := h
      refine zi_iald hO dX12_markOf_40 rfl (zI (by decide)) s11 ?_
      refine zi_iload_n hO dX12_markOf_41 2 rfl ?_
      refine zi_iconst (v := 3) hO dX12_markOf_42 (by decide) ?_
      refine zi_icmp_ne (tgt := 57) hO dX12_markOf_43 (by decide) (fun _ => ?_) (fun c7 => absurd c7 c6)
      refine zi_iload_n hO dX12_markOf_57 2 rfl ?_
      refine zi_iconst (v := 1) hO dX12_markOf_58 (by decide) ?_
      refine zc_SI (as := [vI x2, vI 1]) hO hN dX12_markOf_59 kX12_298 (by decide) rfl (Nat.le_of_ble_eq_true rfl) rfl rfl (C_X12_isOf _ _ _ _) (fun v12 im12 lv12 hp12 => ?_)
      rw [hp12.1, hp12.2.1, hp12.2.2]
      refine zi_if_eq (tgt := 70) hO dX12_markOf_62 (by decide) (fun c8 => absurd (vB_1.mp (vB_01.resolve_left c1)) (vB_0.mp c8)) (fun _ => ?_)
      refine zi_bipush (v := 100) hO dX12_markOf_65 (by decide) ?_
      refine zi_goto (tgt := 71) hO dX12_markOf_67 (by decide) ?_
      refine zi_iadd hO dX12_markOf_71 ?_
      exact zr_I hO hR rfl dX12_markOf_72 h
    · have h := h.2 c6
      refine zi_aload_n hO dX12_markOf_19 0 rfl ?_
      refine zi_bipush (v := 22) hO dX12_markOf_20 (by decide) ?_
      obtain ⟨P13, hM13, h⟩ := h
      refine zc_VV (as := [vI 22]) hO hN dX12_markOf_22 kX12_304 (by decide) rfl (zI (by decide)) rfl rfl (Nat.le_of_ble_eq_true rfl) rfl rfl hM13 (fun im13 lv13 hp13 => ?_)
      replace h := h im13 lv13 hp13
      refine zi_aload_n hO dX12_markOf_25 0 rfl ?_
      refine zi_bipush (v := 20) hO dX12_markOf_26 (by decide) ?_
      obtain ⟨P14, hM14, h⟩ := h
      refine zc_VV (as := [vI 20]) hO hN dX12_markOf_28 kX12_304 (by decide) rfl (zI (by decide)) rfl rfl (Nat.le_of_ble_eq_true rfl) rfl rfl hM14 (fun im14 lv14 hp14 => ?_)
      replace h := h im14 lv14 hp14
      refine zi_aload_n hO dX12_markOf_31 0 rfl ?_
      refine zi_getR (r' := 50) (i' := 0) hO dX12_markOf_32 fX12_56 rfl rfl (zI (by decide)) rfl ?_
      refine zi_iconst (v := 5) hO dX12_markOf_35 (by decide) ?_
      refine zi_iload_n hO dX12_markOf_36 1 rfl ?_
      refine zi_imul hO dX12_markOf_37 ?_
      refine zi_iconst (v := 1) hO dX12_markOf_38 (by decide) ?_
      refine zi_iadd hO dX12_markOf_39 ?_
      obtain ⟨s15, h⟩ := h
      refine zi_iald hO dX12_markOf_40 rfl (zI (by decide)) s15 ?_
      refine zi_iload_n hO dX12_markOf_41 2 rfl ?_
      refine zi_iconst (v := 3) hO dX12_markOf_42 (by decide) ?_
      refine zi_icmp_ne (tgt := 57) hO dX12_markOf_43 (by decide) (fun c9 => absurd c6 c9) (fun _ => ?_)
      refine zi_aload_n hO dX12_markOf_46 0 rfl ?_
      refine zi_getR (r' := 50) (i' := 0) hO dX12_markOf_47 fX12_56 rfl rfl (zI (by decide)) rfl ?_
      refine zi_iconst (v := 5) hO dX12_markOf_50 (by decide) ?_
      refine zi_iload_n hO dX12_markOf_51 1 rfl ?_
      refine zi_imul hO dX12_markOf_52 ?_
      obtain ⟨s16, h⟩ := h
      refine zi_iald hO dX12_markOf_53 rfl (zI (by decide)) s16 ?_
      refine zi_goto (tgt := 71) hO dX12_markOf_54 (by decide) ?_
      refine zi_iadd hO dX12_markOf_71 ?_
      exact zr_I hO hR rfl dX12_markOf_72 h
theorem rX12_sizeOf_0 {x : zX} {w : zWd} {im : zMem} {lv : Int64} {P : Int32 → zMem → Int64 → Prop} {x1 : Int32} {x2 : Int32} (hO : zOK x w zyX12_sizeOf 4) (hR : zRetI x w zyX12_sizeOf P) (hN : zN x 126 126)
 (h : ((¬ (x2 = 2) → ((¬ (x2 = 3) → ((x2 = 0 → (∃ P1 : zMem → Int64 → Prop, zSpecV x.2.1 w 2 zyX12_began [vR 43 0, vI 10] im lv P1 ∧ ∀ (im1 : zMem) (lv1 : Int64), P1 im1 lv1 → (vp_in x1 12 ∧ (∃ P3 : Int32 → zMem → Int64 → Prop, zSpecI x.2.1 w 2 zyX12_slotsOf [vR 43 0, vI x1, vI (im1 53 0 (Int32.toNatClampNeg x1))] im1 lv1 P3 ∧ ∀ (v3 : Int32) (im3 : zMem) (lv3 : Int64), P3 v3 im3 lv3 → P (v3 + 0) im3 lv3)))) ∧
 (¬ (x2 = 0) → (∃ P4 : zMem → Int64 → Prop, zSpecV x.2.1 w 2 zyX12_began [vR 43 0, vI 11] im lv P4 ∧ ∀ (im4 : zMem) (lv4 : Int64), P4 im4 lv4 → (∃ P5 : zMem → Int64 → Prop, zSpecV x.2.1 w 2 zyX12_began [vR 43 0, vI 10] im4 lv4 P5 ∧ ∀ (im5 : zMem) (lv5 : Int64), P5 im5 lv5 → (vp_in x1 12 ∧ (∃ P7 : Int32 → zMem → Int64 → Prop, zSpecI x.2.1 w 2 zyX12_slotsOf [vR 43 0, vI x1, vI (im5 53 0 (Int32.toNatClampNeg x1))] im5 lv5 P7 ∧ ∀ (v7 : Int32) (im7 : zMem) (lv7 : Int64), P7 v7 im7 lv7 → (vp_in ((5 * x1) + 3) 60 ∧ P (v7 + (((im7 50 0 (Int32.toNatClampNeg ((5 * x1) + 3))) * (im7 54 0 (Int32.toNatClampNeg x1))) + (10 * (im7 53 0 (Int32.toNatClampNeg x1))))) im7 lv7)))))))) ∧
 (x2 = 3 → (∃ P10 : zMem → Int64 → Prop, zSpecV x.2.1 w 2 zyX12_began [vR 43 0, vI 13] im lv P10 ∧ ∀ (im10 : zMem) (lv10 : Int64), P10 im10 lv10 → (∃ P11 : zMem → Int64 → Prop, zSpecV x.2.1 w 2 zyX12_began [vR 43 0, vI 10] im10 lv10 P11 ∧ ∀ (im11 : zMem) (lv11 : Int64), P11 im11 lv11 → (vp_in x1 12 ∧ (∃ P13 : Int32 → zMem → Int64 → Prop, zSpecI x.2.1 w 2 zyX12_slotsOf [vR 43 0, vI x1, vI (im11 53 0 (Int32.toNatClampNeg x1))] im11 lv11 P13 ∧ ∀ (v13 : Int32) (im13 : zMem) (lv13 : Int64), P13 v13 im13 lv13 → (∃ P14 : Int32 → zMem → Int64 → Prop, zSpecI x.2.1 w 3 zyX12_markOf [vR 43 0, vI x1, vI x2] im13 lv13 P14 ∧ ∀ (v14 : Int32) (im14 : zMem) (lv14 : Int64), P14 v14 im14 lv14 → P (v13 + v14) im14 lv14)))))))) ∧
 (x2 = 2 → (∃ P15 : zMem → Int64 → Prop, zSpecV x.2.1 w 2 zyX12_began [vR 43 0, vI 12] im lv P15 ∧ ∀ (im15 : zMem) (lv15 : Int64), P15 im15 lv15 → (∃ P16 : zMem → Int64 → Prop, zSpecV x.2.1 w 2 zyX12_began [vR 43 0, vI 11] im15 lv15 P16 ∧ ∀ (im16 : zMem) (lv16 : Int64), P16 im16 lv16 → (∃ P17 : zMem → Int64 → Prop, zSpecV x.2.1 w 2 zyX12_began [vR 43 0, vI 10] im16 lv16 P17 ∧ ∀ (im17 : zMem) (lv17 : Int64), P17 im17 lv17 → (vp_in x1 12 ∧ (∃ P19 : Int32 → zMem → Int64 → Prop, zSpecI x.2.1 w 2 zyX12_slotsOf [vR 43 0, vI x1, vI (im17 53 0 (Int32.toNatClampNeg x1))] im17 lv17 P19 ∧ ∀ (v19 : Int32) (im19 : zMem) (lv19 : Int64), P19 v19 im19 lv19 → (vp_in ((5 * x1) + 3) 60 ∧ P (2 * (v19 + (((im19 50 0 (Int32.toNatClampNeg ((5 * x1) + 3))) * (im19 54 0 (Int32.toNatClampNeg x1))) + (10 * (im19 53 0 (Int32.toNatClampNeg x1)))))) im19 lv19))))))))) :
 zW x w 0 [(0, vR 43 0), (1, vI x1), (2, vI x2)] [] im lv := by
  refine zi_iload_n hO dX12_sizeOf_0 2 rfl ?_
  refine zi_iconst (v := 2) hO dX12_sizeOf_1 (by decide) ?_
  refine zi_icmp_ne (tgt := 11) hO dX12_sizeOf_2 (by decide) (fun c1 => ?_) (fun c1 => ?_)
  · have h := h.1 c1
    refine zi_iload_n hO dX12_sizeOf_11 2 rfl ?_
    refine zi_iconst (v := 3) hO dX12_sizeOf_12 (by decide) ?_
    refine zi_icmp_ne (tgt := 25) hO dX12_sizeOf_13 (by decide) (fun c2 => ?_) (fun c2 => ?_)
    · have h := h.1 c2
      refine zi_iload_n hO dX12_sizeOf_25 2 rfl ?_
      refine zi_if_eq (tgt := 35) hO dX12_sizeOf_26 (by decide) (fun c3 => ?_) (fun c3 => ?_)
      · have h := h.1 c3
        refine zi_aload_n hO dX12_sizeOf_35 0 rfl ?_
        refine zi_bipush (v := 10) hO dX12_sizeOf_36 (by decide) ?_
        obtain ⟨P1, hM1, h⟩ := h
        refine zc_VV (as := [vI 10]) hO hN dX12_sizeOf_38 kX12_304 (by decide) rfl (zI (by decide)) rfl rfl (Nat.le_of_ble_eq_true rfl) rfl rfl hM1 (fun im1 lv1 hp1 => ?_)
        replace h := h im1 lv1 hp1
        refine zi_aload_n hO dX12_sizeOf_41 0 rfl ?_
        refine zi_iload_n hO dX12_sizeOf_42 1 rfl ?_
        refine zi_aload_n hO dX12_sizeOf_43 0 rfl ?_
        refine zi_getR (r' := 53) (i' := 0) hO dX12_sizeOf_44 fX12_65 rfl rfl (zI (by decide)) rfl ?_
        refine zi_iload_n hO dX12_sizeOf_47 1 rfl ?_
        obtain ⟨s2, h⟩ := h
        refine zi_iald hO dX12_sizeOf_48 rfl (zI (by decide)) s2 ?_
        obtain ⟨P3, hM3, h⟩ := h
        refine zc_VI (as := [vI x1, vI (im1 53 0 (Int32.toNatClampNeg x1))]) hO hN dX12_sizeOf_49 kX12_307 (by decide) rfl (zI (by decide)) rfl rfl (Nat.le_of_ble_eq_true rfl) rfl rfl hM3 (fun v3 im3 lv3 hp3 => ?_)
        replace h := h v3 im3 lv3 hp3
        refine zi_istore_n (L' := [(0, vR 43 0), (1, vI x1), (2, vI x2), (3, vI v3)]) hO dX12_sizeOf_52 (by decide) rfl rfl ?_
        refine zi_iload_n hO dX12_sizeOf_53 3 rfl ?_
        refine zi_iload_n hO dX12_sizeOf_54 2 rfl ?_
        refine zi_iconst (v := 3) hO dX12_sizeOf_55 (by decide) ?_
        refine zi_icmp_ne (tgt := 68) hO dX12_sizeOf_56 (by decide) (fun _ => ?_) (fun c4 => absurd c4 c2)
        refine zi_iload_n hO dX12_sizeOf_68 2 rfl ?_
        refine zi_if_ne (tgt := 76) hO dX12_sizeOf_69 (by decide) (fun c5 => absurd c3 c5) (fun _ => ?_)
        refine zi_iconst (v := 0) hO dX12_sizeOf_72 (by decide) ?_
        refine zi_goto (tgt := 81) hO dX12_sizeOf_73 (by decide) ?_
        refine zi_iadd hO dX12_sizeOf_81 ?_
        refine zi_istore_n (L' := [(0, vR 43 0), (1, vI x1), (2, vI x2), (3, vI (v3 + 0))]) hO dX12_sizeOf_82 (by decide) rfl rfl ?_
        refine zi_iload_n hO dX12_sizeOf_83 2 rfl ?_
        refine zi_iconst (v := 2) hO dX12_sizeOf_84 (by decide) ?_
        refine zi_icmp_ne (tgt := 94) hO dX12_sizeOf_85 (by decide) (fun _ => ?_) (fun c6 => absurd c6 c1)
        refine zi_iload_n hO dX12_sizeOf_94 3 rfl ?_
        exact zr_I hO hR rfl dX12_sizeOf_95 h
      · have h := h.2 c3
        refine zi_aload_n hO dX12_sizeOf_29 0 rfl ?_
        refine zi_bipush (v := 11) hO dX12_sizeOf_30 (by decide) ?_
        obtain ⟨P4, hM4, h⟩ := h
        refine zc_VV (as := [vI 11]) hO hN dX12_sizeOf_32 kX12_304 (by decide) rfl (zI (by decide)) rfl rfl (Nat.le_of_ble_eq_true rfl) rfl rfl hM4 (fun im4 lv4 hp4 => ?_)
        replace h := h im4 lv4 hp4
        refine zi_aload_n hO dX12_sizeOf_35 0 rfl ?_
        refine zi_bipush (v := 10) hO dX12_sizeOf_36 (by decide) ?_
        obtain ⟨P5, hM5, h⟩ := h
        refine zc_VV (as := [vI 10]) hO hN dX12_sizeOf_38 kX12_304 (by decide) rfl (zI (by decide)) rfl rfl (Nat.le_of_ble_eq_true rfl) rfl rfl hM5 (fun im5 lv5 hp5 => ?_)
        replace h := h im5 lv5 hp5
        refine zi_aload_n hO dX12_sizeOf_41 0 rfl ?_
        refine zi_iload_n hO dX12_sizeOf_42 1 rfl ?_
        refine zi_aload_n hO dX12_sizeOf_43 0 rfl ?_
        refine zi_getR (r' := 53) (i' := 0) hO dX12_sizeOf_44 fX12_65 rfl rfl (zI (by decide)) rfl ?_
        refine zi_iload_n hO dX12_sizeOf_47 1 rfl ?_
        obtain ⟨s6, h⟩ := h
        refine zi_iald hO dX12_sizeOf_48 rfl (zI (by decide)) s6 ?_
        obtain ⟨P7, hM7, h⟩ := h
        refine zc_VI (as := [vI x1, vI (im5 53 0 (Int32.toNatClampNeg x1))]) hO hN dX12_sizeOf_49 kX12_307 (by decide) rfl (zI (by decide)) rfl rfl (Nat.le_of_ble_eq_true rfl) rfl rfl hM7 (fun v7 im7 lv7 hp7 => ?_)
        replace h := h v7 im7 lv7 hp7
        refine zi_istore_n (L' := [(0, vR 43 0), (1, vI x1), (2, vI x2), (3, vI v7)]) hO dX12_sizeOf_52 (by decide) rfl rfl ?_
        refine zi_iload_n hO dX12_sizeOf_53 3 rfl ?_
        refine zi_iload_n hO dX12_sizeOf_54 2 rfl ?_
        refine zi_iconst (v := 3) hO dX12_sizeOf_55 (by decide) ?_
        refine zi_icmp_ne (tgt := 68) hO dX12_sizeOf_56 (by decide) (fun _ => ?_) (fun c7 => absurd c7 c2)
        refine zi_iload_n hO dX12_sizeOf_68 2 rfl ?_
        refine zi_if_ne (tgt := 76) hO dX12_sizeOf_69 (by decide) (fun _ => ?_) (fun c8 => absurd c8 c3)
        refine zi_aload_n hO dX12_sizeOf_76 0 rfl ?_
        refine zi_iload_n hO dX12_sizeOf_77 1 rfl ?_
        obtain ⟨s9, h⟩ := h
        refine zc_VI (as := [vI x1]) hO hN dX12_sizeOf_78 kX12_236 (by decide) rfl (zI (by decide)) rfl rfl (Nat.le_of_ble_eq_true rfl) rfl rfl (C_X12_costOf _ _ _ _ s6 s9) (fun v8 im8 lv8 hp8 => ?_)
        rw [hp8.1, hp8.2.1, hp8.2.2]
        refine zi_iadd hO dX12_sizeOf_81 ?_
        refine zi_istore_n (L' := [(0, vR 43 0), (1, vI x1), (2, vI x2), (3, vI (v7 + (((im7 50 0 (Int32.toNatClampNeg ((5 * x1) + 3))) * (im7 54 0 (Int32.toNatClampNeg x1))) + (10 * (im7 53 0 (Int32.toNatClampNeg x1))))))]) hO dX12_sizeOf_82 (by decide) rfl rfl ?_
        refine zi_iload_n hO dX12_sizeOf_83 2 rfl ?_
        refine zi_iconst (v := 2) hO dX12_sizeOf_84 (by decide) ?_
        refine zi_icmp_ne (tgt := 94) hO dX12_sizeOf_85 (by decide) (fun _ => ?_) (fun c9 => absurd c9 c1)
        refine zi_iload_n hO dX12_sizeOf_94 3 rfl ?_
        exact zr_I hO hR rfl dX12_sizeOf_95 h
    · have h := h.2 c2
      refine zi_aload_n hO dX12_sizeOf_16 0 rfl ?_
      refine zi_bipush (v := 13) hO dX12_sizeOf_17 (by decide) ?_
      obtain ⟨P10, hM10, h⟩ := h
      refine zc_VV (as := [vI 13]) hO hN dX12_sizeOf_19 kX12_304 (by decide) rfl (zI (by decide)) rfl rfl (Nat.le_of_ble_eq_true rfl) rfl rfl hM10 (fun im10 lv10 hp10 => ?_)
      replace h := h im10 lv10 hp10
      refine zi_goto (tgt := 35) hO dX12_sizeOf_22 (by decide) ?_
      refine zi_aload_n hO dX12_sizeOf_35 0 rfl ?_
      refine zi_bipush (v := 10) hO dX12_sizeOf_36 (by decide) ?_
      obtain ⟨P11, hM11, h⟩ := h
      refine zc_VV (as := [vI 10]) hO hN dX12_sizeOf_38 kX12_304 (by decide) rfl (zI (by decide)) rfl rfl (Nat.le_of_ble_eq_true rfl) rfl rfl hM11 (fun im11 lv11 hp11 => ?_)
      replace h := h im11 lv11 hp11
      refine zi_aload_n hO dX12_sizeOf_41 0 rfl ?_
      refine zi_iload_n hO dX12_sizeOf_42 1 rfl ?_
      refine zi_aload_n hO dX12_sizeOf_43 0 rfl ?_
      refine zi_getR (r' := 53) (i' := 0) hO dX12_sizeOf_44 fX12_65 rfl rfl (zI (by decide)) rfl ?_
      refine zi_iload_n hO dX12_sizeOf_47 1 rfl ?_
      obtain ⟨s12, h⟩ := h
      refine zi_iald hO dX12_sizeOf_48 rfl (zI (by decide)) s12 ?_
      obtain ⟨P13, hM13, h⟩ := h
      refine zc_VI (as := [vI x1, vI (im11 53 0 (Int32.toNatClampNeg x1))]) hO hN dX12_sizeOf_49 kX12_307 (by decide) rfl (zI (by decide)) rfl rfl (Nat.le_of_ble_eq_true rfl) rfl rfl hM13 (fun v13 im13 lv13 hp13 => ?_)
      replace h := h v13 im13 lv13 hp13
      refine zi_istore_n (L' := [(0, vR 43 0), (1, vI x1), (2, vI x2), (3, vI v13)]) hO dX12_sizeOf_52 (by decide) rfl rfl ?_
      refine zi_iload_n hO dX12_sizeOf_53 3 rfl ?_
      refine zi_iload_n hO dX12_sizeOf_54 2 rfl ?_
      refine zi_iconst (v := 3) hO dX12_sizeOf_55 (by decide) ?_
      refine zi_icmp_ne (tgt := 68) hO dX12_sizeOf_56 (by decide) (fun c10 => absurd c2 c10) (fun _ => ?_)
      refine zi_aload_n hO dX12_sizeOf_59 0 rfl ?_
      refine zi_iload_n hO dX12_sizeOf_60 1 rfl ?_
      refine zi_iload_n hO dX12_sizeOf_61 2 rfl ?_
      obtain ⟨P14, hM14, h⟩ := h
      refine zc_VI (as := [vI x1, vI x2]) hO hN dX12_sizeOf_62 kX12_310 (by decide) rfl (zI (by decide)) rfl rfl (Nat.le_of_ble_eq_true rfl) rfl rfl hM14 (fun v14 im14 lv14 hp14 => ?_)
      replace h := h v14 im14 lv14 hp14
      refine zi_goto (tgt := 81) hO dX12_sizeOf_65 (by decide) ?_
      refine zi_iadd hO dX12_sizeOf_81 ?_
      refine zi_istore_n (L' := [(0, vR 43 0), (1, vI x1), (2, vI x2), (3, vI (v13 + v14))]) hO dX12_sizeOf_82 (by decide) rfl rfl ?_
      refine zi_iload_n hO dX12_sizeOf_83 2 rfl ?_
      refine zi_iconst (v := 2) hO dX12_sizeOf_84 (by decide) ?_
      refine zi_icmp_ne (tgt := 94) hO dX12_sizeOf_85 (by decide) (fun _ => ?_) (fun c11 => absurd c11 c1)
      refine zi_iload_n hO dX12_sizeOf_94 3 rfl ?_
      exact zr_I hO hR rfl dX12_sizeOf_95 h
  · have h := h.2 c1
    refine zi_aload_n hO dX12_sizeOf_5 0 rfl ?_
    refine zi_bipush (v := 12) hO dX12_sizeOf_6 (by decide) ?_
    obtain ⟨P15, hM15, h⟩ := h
    refine zc_VV (as := [vI 12]) hO hN dX12_sizeOf_8 kX12_304 (by decide) rfl (zI (by decide)) rfl rfl (Nat.le_of_ble_eq_true rfl) rfl rfl hM15 (fun im15 lv15 hp15 => ?_)
    replace h := h im15 lv15 hp15
    refine zi_iload_n hO dX12_sizeOf_11 2 rfl ?_
    refine zi_iconst (v := 3) hO dX12_sizeOf_12 (by decide) ?_
    refine zi_icmp_ne (tgt := 25) hO dX12_sizeOf_13 (by decide) (fun _ => ?_) (fun c12 => absurd c12 (fun z => absurd (c1.symm.trans z) (by decide)))
    refine zi_iload_n hO dX12_sizeOf_25 2 rfl ?_
    refine zi_if_eq (tgt := 35) hO dX12_sizeOf_26 (by decide) (fun c13 => absurd c13 (fun z => absurd (c1.symm.trans z) (by decide))) (fun _ => ?_)
    refine zi_aload_n hO dX12_sizeOf_29 0 rfl ?_
    refine zi_bipush (v := 11) hO dX12_sizeOf_30 (by decide) ?_
    obtain ⟨P16, hM16, h⟩ := h
    refine zc_VV (as := [vI 11]) hO hN dX12_sizeOf_32 kX12_304 (by decide) rfl (zI (by decide)) rfl rfl (Nat.le_of_ble_eq_true rfl) rfl rfl hM16 (fun im16 lv16 hp16 => ?_)
    replace h := h im16 lv16 hp16
    refine zi_aload_n hO dX12_sizeOf_35 0 rfl ?_
    refine zi_bipush (v := 10) hO dX12_sizeOf_36 (by decide) ?_
    obtain ⟨P17, hM17, h⟩ := h
    refine zc_VV (as := [vI 10]) hO hN dX12_sizeOf_38 kX12_304 (by decide) rfl (zI (by decide)) rfl rfl (Nat.le_of_ble_eq_true rfl) rfl rfl hM17 (fun im17 lv17 hp17 => ?_)
    replace h := h im17 lv17 hp17
    refine zi_aload_n hO dX12_sizeOf_41 0 rfl ?_
    refine zi_iload_n hO dX12_sizeOf_42 1 rfl ?_
    refine zi_aload_n hO dX12_sizeOf_43 0 rfl ?_
    refine zi_getR (r' := 53) (i' := 0) hO dX12_sizeOf_44 fX12_65 rfl rfl (zI (by decide)) rfl ?_
    refine zi_iload_n hO dX12_sizeOf_47 1 rfl ?_
    obtain ⟨s18, h⟩ := h
    refine zi_iald hO dX12_sizeOf_48 rfl (zI (by decide)) s18 ?_
    obtain ⟨P19, hM19, h⟩ := h
    refine zc_VI (as := [vI x1, vI (im17 53 0 (Int32.toNatClampNeg x1))]) hO hN dX12_sizeOf_49 kX12_307 (by decide) rfl (zI (by decide)) rfl rfl (Nat.le_of_ble_eq_true rfl) rfl rfl hM19 (fun v19 im19 lv19 hp19 => ?_)
    replace h := h v19 im19 lv19 hp19
    refine zi_istore_n (L' := [(0, vR 43 0), (1, vI x1), (2, vI x2), (3, vI v19)]) hO dX12_sizeOf_52 (by decide) rfl rfl ?_
    refine zi_iload_n hO dX12_sizeOf_53 3 rfl ?_
    refine zi_iload_n hO dX12_sizeOf_54 2 rfl ?_
    refine zi_iconst (v := 3) hO dX12_sizeOf_55 (by decide) ?_
    refine zi_icmp_ne (tgt := 68) hO dX12_sizeOf_56 (by decide) (fun _ => ?_) (fun c14 => absurd c14 (fun z => absurd (c1.symm.trans z) (by decide)))
    refine zi_iload_n hO dX12_sizeOf_68 2 rfl ?_
    refine zi_if_ne (tgt := 76) hO dX12_sizeOf_69 (by decide) (fun _ => ?_) (fun c15 => absurd c15 (fun z => absurd (c1.symm.trans z) (by decide)))
    refine zi_aload_n hO dX12_sizeOf_76 0 rfl ?_
    refine zi_iload_n hO dX12_sizeOf_77 1 rfl ?_
    obtain ⟨s21, h⟩ := h
    refine zc_VI (as := [vI x1]) hO hN dX12_sizeOf_78 kX12_236 (by decide) rfl (zI (by decide)) rfl rfl (Nat.le_of_ble_eq_true rfl) rfl rfl (C_X12_costOf _ _ _ _ s18 s21) (fun v20 im20 lv20 hp20 => ?_)
    rw [hp20.1, hp20.2.1, hp20.2.2]
    refine zi_iadd hO dX12_sizeOf_81 ?_
    refine zi_istore_n (L' := [(0, vR 43 0), (1, vI x1), (2, vI x2), (3, vI (v19 + (((im19 50 0 (Int32.toNatClampNeg ((5 * x1) + 3))) * (im19 54 0 (Int32.toNatClampNeg x1))) + (10 * (im19 53 0 (Int32.toNatClampNeg x1))))))]) hO dX12_sizeOf_82 (by decide) rfl rfl ?_
    refine zi_iload_n hO dX12_sizeOf_83 2 rfl ?_
    refine zi_iconst (v := 2) hO dX12_sizeOf_84 (by decide) ?_
    refine zi_icmp_ne (tgt := 94) hO dX12_sizeOf_85 (by decide) (fun c16 => absurd c1 c16) (fun _ => ?_)
    refine zi_iconst (v := 2) hO dX12_sizeOf_88 (by decide) ?_
    refine zi_iload_n hO dX12_sizeOf_89 3 rfl ?_
    refine zi_imul hO dX12_sizeOf_90 ?_
    refine zi_goto (tgt := 95) hO dX12_sizeOf_91 (by decide) ?_
    exact zr_I hO hR rfl dX12_sizeOf_95 h
theorem rX12_ask_0 {x : zX} {w : zWd} {im : zMem} {lv : Int64} {P : Int32 → zMem → Int64 → Prop} {x1 : Int32} {x2 : Int32} (hO : zOK x w zyX12_ask 6) (hR : zRetI x w zyX12_ask P) (hN : zN x 126 126)
 (h : ((¬ (0 ≤ x1 ∧ x1 ≤ ((im 43 0 10) - 1)) → P (-1000001) (zwr im 43 0 0 0) lv) ∧
 (0 ≤ x1 ∧ x1 ≤ ((im 43 0 10) - 1) → ((0 ≤ x2 ∧ x2 ≤ 1 → (∃ P3 : Int32 → zMem → Int64 → Prop, zSpecI x.2.1 w 5 zyX12_kindOf [vR 43 0, vI x1] (zwr (zwr im 43 0 0 0) 43 0 41 0) lv P3 ∧ ∀ (v3 : Int32) (im3 : zMem) (lv3 : Int64), P3 v3 im3 lv3 → ((¬ (x2 = 0) → (∃ P4 : Int32 → zMem → Int64 → Prop, zSpecI x.2.1 w 3 zyX12_markOf [vR 43 0, vI x1, vI v3] im3 lv3 P4 ∧ ∀ (v4 : Int32) (im4 : zMem) (lv4 : Int64), P4 v4 im4 lv4 → P v4 im4 lv4)) ∧
 (x2 = 0 → (∃ P5 : Int32 → zMem → Int64 → Prop, zSpecI x.2.1 w 4 zyX12_sizeOf [vR 43 0, vI x1, vI v3] im3 lv3 P5 ∧ ∀ (v5 : Int32) (im5 : zMem) (lv5 : Int64), P5 v5 im5 lv5 → P v5 im5 lv5))))) ∧
 (¬ (0 ≤ x2 ∧ x2 ≤ 1) → P (-1000001) (zwr im 43 0 0 0) lv))))) :
 zW x w 0 [(0, vR 43 0), (1, vI x1), (2, vI x2)] [] im lv := by
  refine zi_aload_n hO dX12_ask_0 0 rfl ?_
  refine zi_iconst (v := 0) hO dX12_ask_1 (by decide) ?_
  refine zi_putI hO dX12_ask_2 gX12_1 rfl rfl (zI (by decide)) ?_
  refine zi_aload_n hO dX12_ask_5 0 rfl ?_
  refine zi_iload_n hO dX12_ask_6 1 rfl ?_
  refine zc_VI (as := [vI x1]) hO hN dX12_ask_7 kX12_233 (by decide) rfl (zI (by decide)) rfl rfl (Nat.le_of_ble_eq_true rfl) rfl rfl (C_X12_isFlight _ _ _ _) (fun v1 im1 lv1 hp1 => ?_)
  rw [hp1.1, hp1.2.1, hp1.2.2]
  refine zi_if_eq (tgt := 23) hO dX12_ask_10 (by decide) (fun c1 => ?_) (fun c1 => ?_)
  · have h := h.1 (vB_0.mp c1)
    refine zi_ldc (v := (-1000001)) hO dX12_ask_23 nX12_23 ?_
    exact zr_I hO hR rfl dX12_ask_25 h
  · have h := h.2 (vB_1.mp (vB_01.resolve_left c1))
    refine zi_iload_n hO dX12_ask_13 2 rfl ?_
    refine zi_i2l hO dX12_ask_14 ?_
    refine zi_lconst (v := 0) hO dX12_ask_15 (by decide) ?_
    refine zi_lconst (v := 1) hO dX12_ask_16 (by decide) ?_
    refine zc_SI (as := [vL (Int32.toInt64 x2), vL (0 : Int64), vL (1 : Int64)]) hO hN dX12_ask_17 kX12_13 (by decide) rfl (Nat.le_of_ble_eq_true rfl) rfl rfl (C_X12_in _ _ _ _ (a := x2) (b := 0) (c := 1) rfl (by decide) (by decide)) (fun v2 im2 lv2 hp2 => ?_)
    rw [hp2.1, hp2.2.1, hp2.2.2]
    refine zi_if_ne (tgt := 26) hO dX12_ask_20 (by decide) (fun c2 => ?_) (fun c2 => ?_)
    · have h := h.1 (vB_1.mp (vB_01.resolve_left c2))
      refine zi_aload_n hO dX12_ask_26 0 rfl ?_
      refine zi_iconst (v := 0) hO dX12_ask_27 (by decide) ?_
      refine zi_putI hO dX12_ask_28 gX12_301 rfl rfl (zI (by decide)) ?_
      refine zi_aload_n hO dX12_ask_31 0 rfl ?_
      refine zi_iload_n hO dX12_ask_32 1 rfl ?_
      obtain ⟨P3, hM3, h⟩ := h
      refine zc_VI (as := [vI x1]) hO hN dX12_ask_33 kX12_295 (by decide) rfl (zI (by decide)) rfl rfl (Nat.le_of_ble_eq_true rfl) rfl rfl hM3 (fun v3 im3 lv3 hp3 => ?_)
      replace h := h v3 im3 lv3 hp3
      refine zi_istore_n (L' := [(0, vR 43 0), (1, vI x1), (2, vI x2), (3, vI v3)]) hO dX12_ask_36 (by decide) rfl rfl ?_
      refine zi_iload_n hO dX12_ask_37 2 rfl ?_
      refine zi_if_ne (tgt := 50) hO dX12_ask_38 (by decide) (fun c3 => ?_) (fun c3 => ?_)
      · have h := h.1 c3
        refine zi_aload_n hO dX12_ask_50 0 rfl ?_
        refine zi_iload_n hO dX12_ask_51 1 rfl ?_
        refine zi_iload_n hO dX12_ask_52 3 rfl ?_
        obtain ⟨P4, hM4, h⟩ := h
        refine zc_VI (as := [vI x1, vI v3]) hO hN dX12_ask_53 kX12_310 (by decide) rfl (zI (by decide)) rfl rfl (Nat.le_of_ble_eq_true rfl) rfl rfl hM4 (fun v4 im4 lv4 hp4 => ?_)
        replace h := h v4 im4 lv4 hp4
        exact zr_I hO hR rfl dX12_ask_56 h
      · have h := h.2 c3
        refine zi_aload_n hO dX12_ask_41 0 rfl ?_
        refine zi_iload_n hO dX12_ask_42 1 rfl ?_
        refine zi_iload_n hO dX12_ask_43 3 rfl ?_
        obtain ⟨P5, hM5, h⟩ := h
        refine zc_VI (as := [vI x1, vI v3]) hO hN dX12_ask_44 kX12_313 (by decide) rfl (zI (by decide)) rfl rfl (Nat.le_of_ble_eq_true rfl) rfl rfl hM5 (fun v5 im5 lv5 hp5 => ?_)
        replace h := h v5 im5 lv5 hp5
        refine zi_goto (tgt := 56) hO dX12_ask_47 (by decide) ?_
        exact zr_I hO hR rfl dX12_ask_56 h
    · have h := h.2 (vB_0.mp c2)
      refine zi_ldc (v := (-1000001)) hO dX12_ask_23 nX12_23 ?_
      exact zr_I hO hR rfl dX12_ask_25 h
theorem C_X12_began (l : Launch) (w : zWd) {im : zMem} (lv : Int64) {n b : Nat} (hn : im 43 0 41 = nI n) (h16 : n < 16) : zSpecV l w 2 zyX12_began [vR 43 0, vI (nI b)] im lv (fun im' lv' => im' = apL im n [b] ∧ lv' = lv) := by
  refine ze_V (by decide) (Nat.le_of_ble_eq_true rfl) (fun x hO hR hN => rX12_began_0 hO hR hN ?_)
  have c : Int32.toNatClampNeg (nI n) = n := nI_clamp (by omega)
  rw [hn, c, nI_1]
  refine ⟨fun q => ?_, fun _ => ⟨vp_in_nI h16 (by decide), rfl, rfl⟩⟩
  exfalso
  have : nI 16 ≤ nI n := q
  rw [nI_leI (by omega) (by omega)] at this
  omega
def mkL (k : Nat) : List Nat := if k = 3 then [22, 20] else if k = 0 then [20] else [21, 20]
def mkV (m : zMem) (f k : Nat) : Nat := wgt m f + (if k = 3 then own m f else if k = 0 then 0 else 100)
def szL (k : Nat) : List Nat := if k = 3 then [13, 10, 22, 20] else if k = 0 then [10] else if k = 2 then [12, 11, 10] else [11, 10]
def szV (m : zMem) (f k : Nat) : Nat := if k = 3 then slN m f (way m f) 5 + mkV m f 3 else if k = 0 then slN m f (way m f) 5 else if k = 2 then 2 * (slN m f (way m f) 5 + cost m f) else slN m f (way m f) 5 + cost m f
theorem C_X12_markOf (l : Launch) (w : zWd) {m im : zMem} (lv : Int64) (hW : WF m) (hM : RM m im) {f k n : Nat} (hf : f < nfl m) (hk : k ≤ 3) (hn : im 43 0 41 = nI n) (h10 : n ≤ 10) : zSpecI l w 3 zyX12_markOf [vR 43 0, vI (nI f), vI (nI k)] im lv (fun v im' lv' => v = nI (mkV m f k) ∧ im' = apL im n (mkL k) ∧ lv' = lv) := by
  refine ze_I (by decide) (Nat.le_of_ble_eq_true rfl) (fun x hO hR hN => rX12_markOf_0 hO hR hN ?_)
  have h12 := hW.1.2
  obtain ⟨f0, f1, -⟩ := hW.2.1 f hf
  have m0 : (5 : Int32) * nI f = nI (5 * f) := pk_mul 5 f
  have m1 : (5 : Int32) * nI f + 1 = nI (5 * f + 1) := by rw [m0]; exact nI_1 _
  have c0 : Int32.toNatClampNeg (5 * nI f) = 5 * f := by rw [m0]; exact nI_clamp (by omega)
  have c1 : Int32.toNatClampNeg (5 * nI f + 1) = 5 * f + 1 := by rw [m1]; exact nI_clamp (by omega)
  have v0 : vp_in (5 * nI f) 60 := by rw [m0]; exact vp_in_nI (by omega) (by decide)
  have v1 : vp_in (5 * nI f + 1) 60 := by rw [m1]; exact vp_in_nI (by omega) (by decide)
  have l1 : (nI k = 1) ↔ k = 1 := nI_eq (by omega) (by decide)
  have l2 : (nI k = 2) ↔ k = 2 := nI_eq (by omega) (by decide)
  have l3 : (nI k = 3) ↔ k = 3 := nI_eq (by omega) (by decide)
  have t10 : ¬ ((1 : Int32) = 0) := by decide
  have t11 : (1 : Int32) = 1 := rfl
  have r1 : ∀ {im' : zMem}, RM m im' → im' 50 0 (5 * f + 1) = nI (wgt m f) := fun h => by rw [h.1 50 (by decide) (by decide)]; exact f1.1
  have r0 : ∀ {im' : zMem}, RM m im' → im' 50 0 (5 * f) = nI (own m f) := fun h => by rw [h.1 50 (by decide) (by decide)]; exact f0.1
  rw [l1, l2, l3, c0, c1]
  refine ⟨fun q => ⟨fun q3 => ⟨_, C_X12_began _ _ _ (b := 20) hn (by omega), ?_⟩, fun q3 => ⟨_, C_X12_began _ _ _ (b := 22) hn (by omega), ?_⟩⟩, fun q => ⟨_, C_X12_began _ _ _ (b := 21) hn (by omega), ?_⟩⟩
  · rintro im2 lv2 ⟨rfl, rfl⟩
    have k0 : k = 0 := by
      have : ¬ k = 1 := fun z => q (Or.inr (Or.inl z))
      have : ¬ k = 2 := fun z => q (Or.inr (Or.inr ⟨rfl, z⟩))
      omega
    subst k0
    rw [r1 (apL_RM hM)]
    exact ⟨v1, nI_add _ 0, rfl, rfl⟩
  · rintro im2 lv2 ⟨e2, rfl⟩
    subst q3
    have hn2 : im2 43 0 41 = nI (n + 1) := by rw [e2]; exact apL_n hn
    refine ⟨_, C_X12_began _ _ _ (b := 20) hn2 (by omega), ?_⟩
    rintro im3 lv3 ⟨rfl, rfl⟩
    have hM3 : RM m (apL im2 (n + 1) [20]) := apL_RM (by rw [e2]; exact apL_RM hM)
    rw [r1 hM3, r0 hM3, nI_add]
    exact ⟨v1, v0, rfl, by rw [e2]; rfl, rfl⟩
  · rintro im2 lv2 ⟨e2, rfl⟩
    have hk12 : k = 1 ∨ k = 2 := by
      rcases q with z | z | z
      · exact absurd z t10
      · exact Or.inl z
      · exact Or.inr z.2
    have hn2 : im2 43 0 41 = nI (n + 1) := by rw [e2]; exact apL_n hn
    refine ⟨fun q3 => ⟨_, C_X12_began _ _ _ (b := 20) hn2 (by omega), ?_⟩, fun q3 => by omega⟩
    rintro im3 lv3 ⟨rfl, rfl⟩
    have hM3 : RM m (apL im2 (n + 1) [20]) := apL_RM (by rw [e2]; exact apL_RM hM)
    rw [r1 hM3]
    refine ⟨v1, ?_, ?_, rfl⟩
    · unfold mkV
      rw [if_neg (by omega), if_neg (by omega)]
      exact nI_add _ 100
    · unfold mkL
      rw [if_neg (by omega), if_neg (by omega), e2]
      rfl
theorem C_X12_sizeOf (l : Launch) (w : zWd) {m im : zMem} (lv : Int64) (hW : WF m) (hM : RM m im) {f k : Nat} (hf : f < nfl m) (hk : k ≤ 3) (hn : im 43 0 41 = nI 0) : zSpecI l w 4 zyX12_sizeOf [vR 43 0, vI (nI f), vI (nI k)] im lv (fun v im' lv' => v = nI (szV m f k) ∧ im' = apL im 0 (szL k) ∧ lv' = lv) := by
  refine ze_I (by decide) (Nat.le_of_ble_eq_true rfl) (fun x hO hR hN => rX12_sizeOf_0 hO hR hN ?_)
  have h12 := hW.1.2
  obtain ⟨-, -, -, f3, f4, f5, f6, -⟩ := hW.2.1 f hf
  have m3 : (5 : Int32) * nI f + 3 = nI (5 * f + 3) := by rw [show (5 : Int32) * nI f = nI (5 * f) from pk_mul 5 f]; exact nI_add _ 3
  have v3 : vp_in (5 * nI f + 3) 60 := by rw [m3]; exact vp_in_nI (by omega) (by decide)
  have vf : vp_in (nI f) 12 := vp_in_nI (by omega) (by decide)
  have cf : Int32.toNatClampNeg (nI f) = f := nI_clamp (by omega)
  have rw53 : ∀ {im' : zMem}, RM m im' → im' 53 0 (Int32.toNatClampNeg (nI f)) = nI (way m f) := fun h => by rw [cf, h.1 53 (by decide) (by decide)]; exact f5.1
  have l0 : (nI k = 0) ↔ k = 0 := nI_eq (by omega) (by decide)
  have l2 : (nI k = 2) ↔ k = 2 := nI_eq (by omega) (by decide)
  have l3 : (nI k = 3) ↔ k = 3 := nI_eq (by omega) (by decide)
  rw [l0, l2, l3]
  refine ⟨fun q2 => ⟨fun q3 => ⟨fun q0 => ⟨_, C_X12_began _ _ _ (b := 10) hn (by omega), ?_⟩, fun q0 => ⟨_, C_X12_began _ _ _ (b := 11) hn (by omega), ?_⟩⟩, fun q3 => ⟨_, C_X12_began _ _ _ (b := 13) hn (by omega), ?_⟩⟩, fun q2 => ⟨_, C_X12_began _ _ _ (b := 12) hn (by omega), ?_⟩⟩
  · rintro im2 lv2 ⟨e2, rfl⟩
    have hM2 : RM m im2 := by rw [e2]; exact apL_RM hM
    rw [rw53 hM2]
    refine ⟨vf, _, C_X12_slotsOf _ _ _ hW hM2 hf (by omega), ?_⟩
    rintro _ im3 lv3 ⟨rfl, e3, rfl⟩
    subst q0
    exact ⟨nI_add _ 0, by rw [e3, e2]; rfl, rfl⟩
  · rintro im2 lv2 ⟨e2, rfl⟩
    have k1 : k = 1 := by omega
    subst k1
    have hn2 : im2 43 0 41 = nI 1 := by rw [e2]; exact apL_n hn
    refine ⟨_, C_X12_began _ _ _ (b := 10) hn2 (by omega), ?_⟩
    rintro im3 lv3 ⟨e3, rfl⟩
    have hM3 : RM m im3 := by rw [e3]; exact apL_RM (by rw [e2]; exact apL_RM hM)
    rw [rw53 hM3]
    refine ⟨vf, _, C_X12_slotsOf _ _ _ hW hM3 hf (by omega), ?_⟩
    rintro _ im4 lv4 ⟨rfl, rfl, rfl⟩
    rw [cost_i hW hM3 hf, nI_add]
    exact ⟨v3, rfl, by rw [e3, e2]; rfl, rfl⟩
  · rintro im2 lv2 ⟨e2, rfl⟩
    have hn2 : im2 43 0 41 = nI 1 := by rw [e2]; exact apL_n hn
    refine ⟨_, C_X12_began _ _ _ (b := 10) hn2 (by omega), ?_⟩
    rintro im3 lv3 ⟨e3, rfl⟩
    have hn3 : im3 43 0 41 = nI 2 := by rw [e3]; exact apL_n hn2
    have hM3 : RM m im3 := by rw [e3]; exact apL_RM (by rw [e2]; exact apL_RM hM)
    rw [rw53 hM3]
    refine ⟨vf, _, C_X12_slotsOf _ _ _ hW hM3 hf (by omega), ?_⟩
    rintro _ im4 lv4 ⟨rfl, rfl, rfl⟩
    refine ⟨_, C_X12_markOf _ _ _ hW hM3 hf hk hn3 (by omega), ?_⟩
    rintro _ im5 lv5 ⟨rfl, rfl, rfl⟩
    subst q3
    rw [nI_add]
    exact ⟨rfl, by rw [e3, e2]; rfl, rfl⟩
  · rintro im2 lv2 ⟨e2, rfl⟩
    have hn2 : im2 43 0 41 = nI 1 := by rw [e2]; exact apL_n hn
    refine ⟨_, C_X12_began _ _ _ (b := 11) hn2 (by omega), ?_⟩
    rintro im3 lv3 ⟨e3, rfl⟩
    have hn3 : im3 43 0 41 = nI 2 := by rw [e3]; exact apL_n hn2
    refine ⟨_, C_X12_began _ _ _ (b := 10) hn3 (by omega), ?_⟩
    rintro im4 lv4 ⟨e4, rfl⟩
    have hM4 : RM m im4 := by rw [e4]; exact apL_RM (by rw [e3]; exact apL_RM (by rw [e2]; exact apL_RM hM))
    rw [rw53 hM4]
    refine ⟨vf, _, C_X12_slotsOf _ _ _ hW hM4 hf (by omega), ?_⟩
    rintro _ im5 lv5 ⟨rfl, rfl, rfl⟩
    subst q2
    rw [cost_i hW hM4 hf, nI_add, show (2 : Int32) = nI 2 from rfl, pk_mul]
    exact ⟨v3, rfl, by rw [e4, e3, e2]; rfl, rfl⟩
theorem C_X12_ask (l : Launch) (w : zWd) {m im : zMem} (lv : Int64) (hW : WF m) (hM : RM m im) (h0 : im 43 0 0 = 0) (x1 x2 : Int32) : zSpecI l w 6 zyX12_ask [vR 43 0, vI x1, vI x2] im lv (fun v im' lv' => (if (0 ≤ x1 ∧ x1 < nI (nfl m)) ∧ (0 ≤ x2 ∧ x2 < nI 2) then (if x2 = 0 then v = nI (szV m (cN x1) (knd m (cN x1))) ∧ im' = apL (zwr im 43 0 41 0) 0 (szL (knd m (cN x1))) else v = nI (mkV m (cN x1) (knd m (cN x1))) ∧ im' = apL (zwr im 43 0 41 0) 0 (mkL (knd m (cN x1)))) else v = -1000001 ∧ im' = im) ∧ lv' = lv) := by
  refine ze_I (by decide) (Nat.le_of_ble_eq_true rfl) (fun x hO hR hN => rX12_ask_0 hO hR hN ?_)
  have h12 := hW.1.2
  rw [zwr_id h0, hM.2.2.2, hW.1.1, zrg (by omega)]
  have q1 : (0 ≤ x2 ∧ x2 ≤ 1) ↔ (0 ≤ x2 ∧ x2 < nI 2) := zrl (by decide)
  rw [q1]
  refine ⟨fun q => ⟨by rw [if_neg (fun z => q z.1)]; exact ⟨rfl, rfl⟩, rfl⟩, fun q => ⟨fun q2 => ?_, fun q2 => ⟨by rw [if_neg (fun z => q2 z.2)]; exact ⟨rfl, rfl⟩, rfl⟩⟩⟩
  simp only [if_pos (And.intro q q2)]
  obtain ⟨f, hf, rfl⟩ := zrx (by omega) q
  have hM1 : RM m (zwr im 43 0 41 0) := hM.wr (by omega) (by omega)
  refine ⟨_, C_X12_kindOf _ _ _ hW hM1 hf, ?_⟩
  rintro _ im2 lv2 ⟨rfl, e2, rfl⟩
  have hM2 : RM m im2 := by rw [e2]; exact hM1
  have hn2 : im2 43 0 41 = nI 0 := by rw [e2, zwr_eq]; rfl
  rw [cNn (n := f) (by omega)]
  refine ⟨fun z => ⟨_, C_X12_markOf _ _ _ hW hM2 hf knd_le hn2 (by omega), ?_⟩, fun z => ⟨_, C_X12_sizeOf _ _ _ hW hM2 hf knd_le hn2, ?_⟩⟩
  · rintro _ im3 lv3 ⟨rfl, rfl, rfl⟩
    rw [if_neg z, e2]
    exact ⟨⟨rfl, rfl⟩, rfl⟩
  · rintro _ im3 lv3 ⟨rfl, rfl, rfl⟩
    rw [if_pos z, e2]
    exact ⟨⟨rfl, rfl⟩, rfl⟩
