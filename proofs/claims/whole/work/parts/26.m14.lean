def stP (m : zMem) (s : Nat) (v : Int32) (im im' : zMem) : Prop := (∀ r, ¬ (53 ≤ r ∧ r ≤ 54) → ¬ (63 ≤ r ∧ r ≤ 66) → im' r = im r) ∧ match stR m s with
  | none => v = -1000000 ∧ im' 53 = im 53 ∧ im' 54 = im 54
  | some q => v = nI q.1 ∧ (∀ k, k < (mbs m s (nfl m)).length → im' 53 0 ((mbs m s (nfl m)).getD k 0) = nI (q.2.getD k 0 / 5) ∧ im' 54 0 ((mbs m s (nfl m)).getD k 0) = nI (q.2.getD k 0 % 5) ∧ q.2.getD k 0 < 15) ∧ ∀ g, g ∉ mbs m s (nfl m) → im' 53 0 g = im 53 0 g ∧ im' 54 0 g = im 54 0 g
theorem mbs_inj {m : zMem} {s : Nat} : ∀ f i j, i < (mbs m s f).length → j < (mbs m s f).length → (mbs m s f).getD i 0 = (mbs m s f).getD j 0 → i = j
  | 0, i, j, h, _, _ => by cases h
  | f + 1, i, j, hi, hj, e => by
    rw [mbs] at hi hj e
    by_cases hb : s / 2 ^ f % 2 = 1
    · rw [if_pos hb] at hi hj e
      rw [List.length_append] at hi hj
      have hi : i < (mbs m s f).length + 1 := hi
      have hj : j < (mbs m s f).length + 1 := hj
      have lt : ∀ k, k < (mbs m s f).length → (mbs m s f).getD k 0 < f := fun k hk => by
        apply mbs_lt f
        rw [List.getD_eq_getElem?_getD, List.getElem?_eq_getElem hk]
        exact List.getElem_mem hk
      by_cases h1 : i = (mbs m s f).length <;> by_cases h2 : j = (mbs m s f).length
      · omega
      · subst h1
        rw [gD_m, gD_l (by omega)] at e
        have := lt j (by omega)
        omega
      · subst h2
        rw [gD_m, gD_l (by omega)] at e
        have := lt i (by omega)
        omega
      · rw [gD_l (by omega), gD_l (by omega)] at e
        exact mbs_inj f i j (by omega) (by omega) e
    · rw [if_neg hb] at hi hj e
      exact mbs_inj f i j hi hj e
set_option maxRecDepth 100000
theorem st_367 {x : zX} {w : zWd} {lv1 : Int64} {P : Int32 → zMem → Int64 → Prop} {m im1 : zMem} {s : Nat} {M : List Nat} (hO : zOK x w zyX12_settle 5) (hR : zRetI x w zyX12_settle P) (hN : zN x 126 126) (out : ∀ v im', stP m s v im1 im' → P v im' lv1) (h12 : nfl m ≤ 12) (hMb : mbs m s (nfl m) = M) (hn5 : M.length ≤ 5) (hn1 : 1 ≤ M.length) (hMlt : ∀ k, k < M.length → M.getD k 0 < nfl m) : ∀ (im2 : zMem) (x3 x4 x5 : Int32), (∀ r, ¬ (63 ≤ r ∧ r ≤ 66) → im2 r = im1 r) → (∀ k, k < M.length → im2 64 0 k = nI (M.getD k 0)) → bRel M.length (stR m s) x3 im2 → zW x w 367 [(0, vR 43 0), (1, vI (nI s)), (2, vI (nI M.length)), (3, vI x3), (4, vI x4), (5, vI x5), (6, vI (nI 0))] [] im2 lv1 := by
  intro im2 x3 x4 x5 h1 h64 hb
  cases hR' : stR m s with
  | none =>
    rw [hR'] at hb
    have hb : x3 = -1000000 := hb
    refine rX12_settle_367 hO hR hN ⟨fun z => ?_, fun _ => ⟨fun _ => out _ _ ?_, fun z => absurd hb z⟩⟩
    · exfalso
      rw [nI_leI (by omega) (by omega)] at z
      omega
    · unfold stP
      rw [hR']
      exact ⟨fun r g1 g2 => h1 r g2, hb, h1 53 (by omega), h1 54 (by omega)⟩
  | some qq =>
    rw [hR'] at hb
    obtain ⟨b1, b2, b3, b4⟩ := hb
    have key : ∀ n k (im3 : zMem), n + k = M.length → (∀ r, ¬ (53 ≤ r ∧ r ≤ 54) → im3 r = im2 r) → (∀ j, j < k → im3 53 0 (M.getD j 0) = nI (qq.2.getD j 0 / 5) ∧ im3 54 0 (M.getD j 0) = nI (qq.2.getD j 0 % 5)) → (∀ g, g ∉ M → im3 53 0 g = im2 53 0 g ∧ im3 54 0 g = im2 54 0 g) → zW x w 367 [(0, vR 43 0), (1, vI (nI s)), (2, vI (nI M.length)), (3, vI x3), (4, vI x4), (5, vI x5), (6, vI (nI k))] [] im3 lv1 := by
      intro n
      induction n with
      | zero =>
        intro k im3 hk g1 g2 g3
        have hkk : k = M.length := by omega
        subst hkk
        refine rX12_settle_367 hO hR hN ⟨fun _ => out _ _ ?_, fun z => absurd (by simp) z⟩
        unfold stP
        rw [hR', hMb]
        refine ⟨fun r z1 z2 => (g1 r z1).trans (h1 r z2), b1, fun k hk => ⟨(g2 k hk).1, (g2 k hk).2, (b4 k hk).2⟩, fun g hg => ⟨?_, ?_⟩⟩
        · rw [(g3 g hg).1, h1 53 (by omega)]
        · rw [(g3 g hg).2, h1 54 (by omega)]
      | succ n ih =>
        intro k im3 hk g1 g2 g3
        have hk1 : nI k + 1 = nI (k + 1) := nI_1 k
        have ck : Int32.toNatClampNeg (nI k) = k := nI_clamp (by omega)
        have h15 := (b4 k (by omega)).2
        have ml := hMlt k (by omega)
        have w64 : im3 64 0 k = nI (M.getD k 0) := by rw [g1 64 (by omega)]; exact h64 k (by omega)
        have w66 : im3 66 0 k = nI (qq.2.getD k 0) := by rw [g1 66 (by omega)]; exact (b4 k (by omega)).1
        have cm : Int32.toNatClampNeg (nI (M.getD k 0)) = M.getD k 0 := nI_clamp (by omega)
        have d5 : nI (qq.2.getD k 0) / 5 = nI (qq.2.getD k 0 / 5) := pk_div (d := 5) (by omega) (by omega) (by omega)
        have d5' : nI (qq.2.getD k 0) - nI (qq.2.getD k 0) / 5 * 5 = nI (qq.2.getD k 0 % 5) := pk_rem (d := 5) (by omega) (by omega) (by omega)
        refine rX12_settle_367 hO hR hN ?_
        rw [ck, w64, cm, w66, d5', d5, hk1, nI_leI (by omega) (by omega)]
        refine ⟨fun z => by omega, fun _ => ⟨fun z => absurd z (by rw [b1]; exact zOb (by omega)), fun _ => ⟨vp_in_nI (by omega) (by decide), vp_in_nI (by omega) (by decide), ?_⟩⟩⟩
        refine ih (k + 1) _ (by omega) (fun r z => by rw [zwr_r (by omega), zwr_r (by omega)]; exact g1 r z) (fun j hj => ?_) (fun g hg => ?_)
        · by_cases hjk : j = k
          · subst hjk
            refine ⟨?_, by rw [zwr_eq]⟩
            rw [zwr_r (by decide), zwr_eq]
          · have hne : ¬ M.getD j 0 = M.getD k 0 := fun e => hjk (by
              rw [← hMb] at e hk
              exact mbs_inj (nfl m) j k (by omega) (by omega) e)
            refine ⟨?_, ?_⟩
            · rw [zwr_r (by decide), zwr_app, if_neg (fun z => hne z.2.2)]
              exact (g2 j (by omega)).1
            · rw [zwr_app, if_neg (fun z => hne z.2.2), zwr_r (by decide)]
              exact (g2 j (by omega)).2
        · have hgk : ¬ g = M.getD k 0 := fun e => hg (by
            rw [e, List.getD_eq_getElem?_getD, List.getElem?_eq_getElem (show k < M.length by omega)]
            exact List.getElem_mem _)
          refine ⟨?_, ?_⟩
          · rw [zwr_r (by decide), zwr_app, if_neg (fun z => hgk z.2.2)]
            exact (g3 g hg).1
          · rw [zwr_app, if_neg (fun z => hgk z.2.2), zwr_r (by decide)]
            exact (g3 g hg).2
    exact key M.length 0 im2 (by omega) (fun _ _ => rfl) (fun j hj => absurd hj (by omega)) (fun _ _ => ⟨rfl, rfl⟩)
theorem st_main {x : zX} {w : zWd} {lv1 : Int64} {P : Int32 → zMem → Int64 → Prop} {m im1 : zMem} {s : Nat} {M : List Nat} {L0 : Nat → Nat} (hO : zOK x w zyX12_settle 5) (hR : zRetI x w zyX12_settle P) (hN : zN x 126 126) (out : ∀ v im', stP m s v im1 im' → P v im' lv1) (h12 : nfl m ≤ 12) (hMb : mbs m s (nfl m) = M) (hn5 : M.length ≤ 5) (hn1 : 1 ≤ M.length) (hMlt : ∀ k, k < M.length → M.getD k 0 < nfl m) (hW : WF m) (hM : RM m im1) (hL0le : ∀ cell, cell < 384 → L0 cell ≤ 108) : ∀ N (stk : List (Nat × Nat)) (f : Nat) (ms : List Nat) (c : Nat) (b : zB) (im2 : zMem) (x3 x5 : Int32),
    (5 * wys m f - c) * (1 + cnS m ms) + 1 + muS m stk (f :: ms) ≤ N → (∀ r, ¬ (63 ≤ r ∧ r ≤ 66) → im2 r = im1 r) → (∀ k, k < M.length → im2 64 0 k = nI (M.getD k 0)) → M = fs stk ++ f :: ms → (∀ q ∈ stk, q.1 < nfl m ∧ q.2 < 5 * wys m q.1) → c ≤ 5 * wys m f → (∀ k, k < stk.length → im2 65 0 k = nI ((cs stk).getD k 0)) → im2 65 0 stk.length = nI c - 1 →
    (∀ ce, ce < 384 → im2 63 0 ce = nI ((if c = 0 then LaS m L0 stk else put m f (c - 1) (LaS m L0 stk)) ce)) → x5 = nI (SuS m stk + if c = 0 then 0 else cstC m f (c - 1)) → bRel M.length b x3 im2 →
    upF m L0 stk (f :: ms) (fcG (stp m f ms (LaS m L0 stk) (SuS m stk) (cs stk)) (5 * wys m f - c) c b) = stR m s → zW x w 129 [(0, vR 43 0), (1, vI (nI s)), (2, vI (nI M.length)), (3, vI x3), (4, vI (nI stk.length)), (5, vI x5)] [] im2 lv1 := by
  have key367 := st_367 (x := x) (w := w) (lv1 := lv1) (P := P) hO hR hN out h12 hMb hn5 hn1 hMlt
  have fr : ∀ {im2 : zMem}, (∀ r, ¬ (63 ≤ r ∧ r ≤ 66) → im2 r = im1 r) → RM m im2 := fun h => hM.fr (fun r g1 g2 => h r (by omega))
  intro N
  induction N with
  | zero => intro stk f ms c b im2 x3 x5 hN0; omega
  | succ N ih =>
    intro stk f ms c b im2 x3 x5 hmu i1 i2 i3 i4 i4c i5 i6 i7 i8 i9 i10
    have hlen : M.length = stk.length + (ms.length + 1) := by rw [i3, List.length_append, fs_len]; rfl
    have hfM : M.getD stk.length 0 = f := by rw [i3, ← fs_len stk]; exact gD_m
    have hf : f < nfl m := by have := hMlt stk.length (by omega); rw [hfM] at this; exact this
    obtain ⟨-, -, -, f3, f4, -, -, -⟩ := hW.2.1 f hf
    have cd : Int32.toNatClampNeg (nI stk.length) = stk.length := nI_clamp (by omega)
    have vd : vp_in (nI stk.length) 5 := vp_in_nI (by omega) (by decide)
    have m4 : (5 : Int32) * nI f + 4 = nI (5 * f + 4) := by rw [show (5 : Int32) * nI f = nI (5 * f) from pk_mul 5 f]; exact nI_add _ 4
    have m3 : (5 : Int32) * nI f + 3 = nI (5 * f + 3) := by rw [show (5 : Int32) * nI f = nI (5 * f) from pk_mul 5 f]; exact nI_add _ 3
    have v4 : vp_in (5 * nI f + 4) 60 := by rw [m4]; exact vp_in_nI (by omega) (by decide)
    have v3 : vp_in (5 * nI f + 3) 60 := by rw [m3]; exact vp_in_nI (by omega) (by decide)
    have c4 : Int32.toNatClampNeg (5 * nI f + 4) = 5 * f + 4 := by rw [m4]; exact nI_clamp (by omega)
    have c3 : Int32.toNatClampNeg (5 * nI f + 3) = 5 * f + 3 := by rw [m3]; exact nI_clamp (by omega)
    have hSS := SuS_le hW (stk := stk) (fun q hq => ⟨(i4 q hq).1, by have := (i4 q hq).2; have := (hW.2.1 q.1 (i4 q hq).1).2.2.2.2.1.2.2; omega⟩)
    have hLS : ∀ ce, ce < 384 → LaS m L0 stk ce ≤ 108 + 9 * stk.length := LaS_le hW hL0le (fun q hq => (i4 q hq).1)
    have k196 : ∀ (im3 : zMem) (y5 : Int32), (∀ r, ¬ (63 ≤ r ∧ r ≤ 66) → im3 r = im1 r) → (∀ k, k < M.length → im3 64 0 k = nI (M.getD k 0)) → (∀ k, k < stk.length → im3 65 0 k = nI ((cs stk).getD k 0)) → im3 65 0 stk.length = nI c - 1 → (∀ ce, ce < 384 → im3 63 0 ce = nI (LaS m L0 stk ce)) → y5 = nI (SuS m stk) → bRel M.length b x3 im3 → zW x w 196 [(0, vR 43 0), (1, vI (nI s)), (2, vI (nI M.length)), (3, vI x3), (4, vI (nI stk.length)), (5, vI y5), (6, vI (nI f))] [] im3 lv1 := by
      intro im3 y5 j1 j2 j5 j6 j7 j8 j9
      have hM3 := fr j1
      have e4 : im3 50 0 (5 * f + 4) = nI (wys m f) := by rw [hM3.1 50 (by decide) (by decide)]; exact f4.1
      have inc : im3 65 0 stk.length + 1 = nI c := by rw [j6, Int32.sub_add_cancel]
      have e5w : (5 : Int32) * nI (wys m f) = nI (5 * wys m f) := pk_mul 5 _
      refine rX12_settle_196 hO hR hN ?_
      rw [cd, inc, zwr_eq, c4, e4, e5w, c3, nI_eq (by omega) (by omega)]
      refine ⟨vd, v4, fun q => ?_, fun q => ?_⟩
      rotate_left
      · -- all choices of this flight are tried: one up
        have hfc : fcG (stp m f ms (LaS m L0 stk) (SuS m stk) (cs stk)) (5 * wys m f - c) c b = b := by rw [q, Nat.sub_self]; rfl
        rw [hfc] at i10
        match stk, i3, i4, i5, i6, i7, i8, i10, hlen, hfM, cd, vd, hSS, hLS, j5, j6, j7, j8, inc, hmu with
        | [], i3, i4, i5, i6, i7, i8, i10, hlen, hfM, cd, vd, hSS, hLS, j5, j6, j7, j8, inc, hmu =>
          have i10 : b = stR m s := i10
          refine rX12_settle_129 hO hR hN ⟨fun _ => key367 _ _ _ _ (fun r hr => by rw [zwr_r (by omega)]; exact j1 r hr) (fun k hk => by rw [zwr_r (by decide)]; exact j2 k hk) ?_, fun z => absurd (by decide) z⟩
          rw [← i10]
          cases b with
          | none => exact j9
          | some qq => exact ⟨j9.1, j9.2.1, j9.2.2.1, fun k hk => by rw [zwr_r (by decide)]; exact j9.2.2.2 k hk⟩
        | q0 :: stk, i3, i4, i5, i6, i7, i8, i10, hlen, hfM, cd, vd, hSS, hLS, j5, j6, j7, j8, inc, hmu =>
          have hq0 := i4 q0 List.mem_cons_self
          have ed : nI (q0 :: stk).length + (-1) = nI stk.length := by rw [List.length_cons]; exact pk_m1 _
          rw [ed]
          refine ih stk q0.1 (f :: ms) (q0.2 + 1) b _ x3 y5 ?_ (fun r hr => by rw [zwr_r (by omega)]; exact j1 r hr) (fun k hk => by rw [zwr_r (by decide)]; exact j2 k hk) ?_ (fun q hq => i4 q (List.mem_cons_of_mem _ hq)) (by omega) (fun k hk => ?_) ?_ (fun ce hce => ?_) ?_ ?_ i10
          · rw [muS] at hmu
            omega
          · rw [i3, fs, List.append_assoc]; rfl
          · rw [zwr_app, if_neg (by rw [List.length_cons]; omega), j5 k (by rw [List.length_cons]; omega), cs, gD_l (by rw [cs_len]; exact hk)]
          · rw [zwr_app, if_neg (by rw [List.length_cons]; omega), j5 stk.length (by rw [List.length_cons]; omega), cs]
            have : (cs stk ++ [q0.2]).getD stk.length 0 = q0.2 := by rw [← cs_len stk]; exact gD_m
            rw [this, nI_pred]
          · rw [zwr_r (by decide), j7 ce hce, if_neg (by omega), Nat.add_sub_cancel]
            rfl
          · rw [j8, if_neg (by omega), Nat.add_sub_cancel]
            rfl
          · cases b with
            | none => exact j9
            | some qq => exact ⟨j9.1, j9.2.1, j9.2.2.1, fun k hk => by rw [zwr_r (by decide)]; exact j9.2.2.2 k hk⟩
      · -- the next choice is laid
        have hc : c < 5 * wys m f := by omega
        have hc15 : c < 15 := by omega
        have hcst := cstC_le hW hf hc15
        have hM4 : RM m (zwr im3 65 0 stk.length (nI c)) := hM3.wr (by omega) (by omega)
        refine ⟨_, C_X12_lay _ _ _ hW hM4 hf hc15 (L := LaS m L0 stk) (L' := put m f c (LaS m L0 stk)) (Or.inl ⟨rfl, fun _ _ => rfl⟩) (fun ce hce => by rw [zwr_r (by decide)]; exact j7 ce hce), ?_⟩
        rintro im4 lv4 ⟨⟨g1, g2⟩, rfl⟩
        have r65 : im4 65 0 stk.length = nI c := by rw [g1 65 (by decide), zwr_eq]
        have k1 : ∀ r, ¬ (63 ≤ r ∧ r ≤ 66) → im4 r = im1 r := fun r hr => by rw [g1 r (by omega), zwr_r (by omega)]; exact j1 r hr
        have hM5 := fr k1
        have e3 : im4 50 0 (5 * f + 3) = nI (rat m f) := by rw [hM5.1 50 (by decide) (by decide)]; exact f3.1
        have d5 : nI c / 5 = nI (c / 5) := pk_div (d := 5) (by omega) (by omega) (by omega)
        have d5' : nI c - nI c / 5 * 5 = nI (c % 5) := pk_rem (d := 5) (by omega) (by omega) (by omega)
        have e10 : (10 : Int32) * nI (c / 5) = nI (10 * (c / 5)) := pk_mul 10 _
        have ecst : y5 + (nI (rat m f) * nI (c % 5) + nI (10 * (c / 5))) = nI (SuS m stk + cstC m f c) := by rw [j8, pk_mul, nI_add, nI_add]; rfl
        rw [r65, e3, d5', d5, e10, ecst]
        have hput : ∀ ce, ce < 384 → put m f c (LaS m L0 stk) ce < 2 ^ 30 := fun ce hce => by
          have := hLS ce hce
          have := wAt_le hW (c := c) (cell := ce) hf
          show LaS m L0 stk ce + wAt m f c ce < _
          omega
        have k2 : ∀ k, k < M.length → im4 64 0 k = nI (M.getD k 0) := fun k hk => by rw [g1 64 (by decide), zwr_r (by decide)]; exact j2 k hk
        have k5 : ∀ k, k < stk.length → im4 65 0 k = nI ((cs stk).getD k 0) := fun k hk => by rw [g1 65 (by decide), zwr_app, if_neg (by omega)]; exact j5 k hk
        have k9 : bRel M.length b x3 im4 := by
          cases b with
          | none => exact j9
          | some qq => exact ⟨j9.1, j9.2.1, j9.2.2.1, fun k hk => by rw [g1 66 (by decide), zwr_r (by decide)]; exact j9.2.2.2 k hk⟩
        have estep : ∀ b0, fcG (stp m f ms (LaS m L0 stk) (SuS m stk) (cs stk)) (5 * wys m f - c) c b0 = fcG (stp m f ms (LaS m L0 stk) (SuS m stk) (cs stk)) (5 * wys m f - (c + 1)) (c + 1) (stp m f ms (LaS m L0 stk) (SuS m stk) (cs stk) c b0) := fun b0 => by
          rw [show 5 * wys m f - c = (5 * wys m f - (c + 1)) + 1 by omega]; rfl
        have hmul : (5 * wys m f - c) * (1 + cnS m ms) = (5 * wys m f - (c + 1)) * (1 + cnS m ms) + (1 + cnS m ms) := by
          rw [show 5 * wys m f - c = (5 * wys m f - (c + 1)) + 1 by omega, Nat.succ_mul]
        have nxt : ∀ (b' : zB) (y3 : Int32) (im5 : zMem), (∀ r, ¬ (63 ≤ r ∧ r ≤ 66) → im5 r = im1 r) → im5 63 = im4 63 → im5 64 = im4 64 → im5 65 = im4 65 → bRel M.length b' y3 im5 → stp m f ms (LaS m L0 stk) (SuS m stk) (cs stk) c b = b' → zW x w 129 [(0, vR 43 0), (1, vI (nI s)), (2, vI (nI M.length)), (3, vI y3), (4, vI (nI stk.length)), (5, vI (nI (SuS m stk + cstC m f c)))] [] im5 lv4 := by
          intro b' y3 im5 a1 a63 a64 a65 a9 ab
          refine ih stk f ms (c + 1) b' im5 y3 _ (by rw [hmul] at hmu; omega) a1 (fun k hk => by rw [a64]; exact k2 k hk) i3 i4 (by omega) (fun k hk => by rw [a65]; exact k5 k hk) (by rw [a65, r65, nI_pred]) (fun ce hce => ?_) ?_ a9 ?_
          · rw [a63, g2 ce hce, if_neg (by omega), Nat.add_sub_cancel]
          · rw [if_neg (by omega), Nat.add_sub_cancel]
          · rw [estep, ab] at i10
            exact i10
        refine ⟨v3, _, C_X12_fits _ _ _ hW hM5 hf hc15 hput g2, ?_⟩
        rintro _ im5 lv5 ⟨rfl, rfl, rfl⟩
        by_cases hok : okT m f c (put m f c (LaS m L0 stk)) 48 = true
        rotate_left
        · rw [if_neg hok]
          refine ⟨fun _ => nxt b x3 im5 k1 rfl rfl rfl k9 ?_, fun z => absurd rfl z⟩
          unfold stp
          rw [if_neg (by simp [hok])]
        rw [if_pos hok]
        refine ⟨fun z => absurd z (by decide), fun _ => ?_⟩
        have leaf : lessB b (SuS m stk + cstC m f c) = true → ((nI M.length ≤ nI stk.length + 1 → zW x w 335 [(0, vR 43 0), (1, vI (nI s)), (2, vI (nI M.length)), (3, vI (nI (SuS m stk + cstC m f c))), (4, vI (nI stk.length)), (5, vI (nI (SuS m stk + cstC m f c))), (6, vI (nI f)), (7, vI 0)] [] im5 lv5) ∧ (¬ (nI M.length ≤ nI stk.length + 1) → (vp_in (nI stk.length + 1) 5 ∧ zW x w 129 [(0, vR 43 0), (1, vI (nI s)), (2, vI (nI M.length)), (3, vI x3), (4, vI (nI stk.length + 1)), (5, vI (nI (SuS m stk + cstC m f c)))] [] (zwr im5 65 0 (Int32.toNatClampNeg (nI stk.length + 1)) (-1)) lv5))) := by
          intro hless
          have hcond : (okT m f c (put m f c (LaS m L0 stk)) 48 && lessB b (SuS m stk + cstC m f c)) = true := by rw [hok, hless]; rfl
          have ed1 : nI stk.length + 1 = nI (stk.length + 1) := nI_1 _
          have cd1 : Int32.toNatClampNeg (nI (stk.length + 1)) = stk.length + 1 := nI_clamp (by omega)
          rw [ed1, cd1, nI_leI (by omega) (by omega)]
          refine ⟨fun z => ?_, fun z => ⟨vp_in_nI (by omega) (by decide), ?_⟩⟩
          · have hms : ms = [] := List.length_eq_zero_iff.mp (by omega)
            subst hms
            have key335 : ∀ n k (im6 : zMem), n + k = M.length → (∀ r, ¬ r = 66 → im6 r = im5 r) → (∀ j, j < k → im6 66 0 j = nI ((cs stk ++ [c]).getD j 0)) → zW x w 335 [(0, vR 43 0), (1, vI (nI s)), (2, vI (nI M.length)), (3, vI (nI (SuS m stk + cstC m f c))), (4, vI (nI stk.length)), (5, vI (nI (SuS m stk + cstC m f c))), (6, vI (nI f)), (7, vI (nI k))] [] im6 lv5 := by
              intro n
              induction n with
              | zero =>
                intro k im6 hk a1 a2
                have hkk : k = M.length := by omega
                subst hkk
                refine rX12_settle_335 hO hR hN ⟨fun _ => nxt (some (SuS m stk + cstC m f c, cs stk ++ [c])) _ im6 (fun r hr => by rw [a1 r (by omega)]; exact k1 r hr) (a1 63 (by decide)) (a1 64 (by decide)) (a1 65 (by decide)) ⟨rfl, by dsimp only; omega, by dsimp only; rw [List.length_append, cs_len]; exact hlen.symm, fun k hk => ⟨a2 k hk, ?_⟩⟩ ?_, fun z => absurd (by simp) z⟩
                · dsimp only
                  by_cases hks : k = stk.length
                  · subst hks
                    have : (cs stk ++ [c]).getD stk.length 0 = c := by rw [← cs_len stk]; exact gD_m
                    rw [this]; exact hc15
                  · have hkl : k < stk.length := by
                      have : ([] : List Nat).length = 0 := rfl
                      omega
                    rw [gD_l (by rw [cs_len]; exact hkl)]
                    have key : ∀ (st : List (Nat × Nat)), (∀ q ∈ st, q.1 < nfl m ∧ q.2 < 5 * wys m q.1) → ∀ j, j < st.length → (cs st).getD j 0 < 15 := by
                      intro st
                      induction st with
                      | nil => intro _ j hj; cases hj
                      | cons q0 st hh =>
                        intro hq j hj
                        rw [cs]
                        by_cases hjj : j = st.length
                        · subst hjj
                          have : (cs st ++ [q0.2]).getD st.length 0 = q0.2 := by rw [← cs_len st]; exact gD_m
                          rw [this]
                          have h5 := hq q0 List.mem_cons_self
                          have := (hW.2.1 q0.1 h5.1).2.2.2.2.1.2.2
                          omega
                        · rw [List.length_cons] at hj
                          rw [gD_l (by rw [cs_len]; omega)]
                          exact hh (fun q hq' => hq q (List.mem_cons_of_mem _ hq')) j (by omega)
                    exact key stk i4 k hkl
                · unfold stp
                  rw [if_pos hcond]
                  rfl
              | succ n hh =>
                intro k im6 hk a1 a2
                have hk1 : nI k + 1 = nI (k + 1) := nI_1 k
                have ck : Int32.toNatClampNeg (nI k) = k := nI_clamp (by omega)
                have t65 : im6 65 0 k = nI ((cs stk ++ [c]).getD k 0) := by
                  rw [a1 65 (by decide)]
                  by_cases hks : k = stk.length
                  · subst hks
                    have : (cs stk ++ [c]).getD stk.length 0 = c := by rw [← cs_len stk]; exact gD_m
                    rw [this]; exact r65
                  · have hkl : k < stk.length := by
                      have : ([] : List Nat).length = 0 := rfl
                      omega
                    rw [gD_l (by rw [cs_len]; exact hkl)]
                    exact k5 k hkl
                refine rX12_settle_335 hO hR hN ?_
                rw [ck, t65, hk1, nI_leI (by omega) (by omega)]
                refine ⟨fun z => by omega, fun _ => ⟨vp_in_nI (by omega) (by decide), hh (k + 1) _ (by omega) (fun r hr => by rw [zwr_r hr]; exact a1 r hr) (fun j hj => ?_)⟩⟩
                rw [zwr_app]
                by_cases hjk : j = k
                · subst hjk; rw [if_pos ⟨rfl, rfl, rfl⟩]
                · rw [if_neg (fun z => hjk z.2.2)]; exact a2 j (by omega)
            exact key335 M.length 0 im5 (by omega) (fun _ _ => rfl) (fun j hj => absurd hj (by omega))
          · match ms, hlen, i3, i10, hmu, estep, hmul, nxt with
            | [], hlen, _, _, _, _, _, _ => exact absurd (by rw [hlen]; exact Nat.le_refl _) z
            | f2 :: ms, hlen, i3, i10, hmu, estep, hmul, _ =>
              refine ih ((f, c) :: stk) f2 ms 0 b _ x3 _ ?_ (fun r hr => by rw [zwr_r (by omega)]; exact k1 r hr) (fun k hk => by rw [zwr_r (by decide)]; exact k2 k hk) ?_ ?_ (Nat.zero_le _) (fun k hk => ?_) ?_ (fun ce hce => ?_) ?_ ?_ ?_
              · rw [muS]
                rw [hmul] at hmu
                have hcn : cnS m (f2 :: ms) = 5 * wys m f2 * (1 + cnS m ms) + 1 := rfl
                rw [Nat.sub_zero]
                dsimp only
                omega
              · rw [i3, fs, List.append_assoc]; rfl
              · intro q hq
                rcases List.mem_cons.mp hq with rfl | hq
                · exact ⟨hf, hc⟩
                · exact i4 q hq
              · rw [List.length_cons] at hk
                rw [zwr_app, if_neg (by omega), cs]
                by_cases hks : k = stk.length
                · subst hks
                  have : (cs stk ++ [c]).getD stk.length 0 = c := by rw [← cs_len stk]; exact gD_m
                  rw [this]; exact r65
                · rw [gD_l (by rw [cs_len]; omega)]
                  exact k5 k (by omega)
              · rw [List.length_cons, zwr_eq]
                decide
              · rw [zwr_r (by decide), g2 ce hce, if_pos rfl]
                rfl
              · rw [if_pos rfl, Nat.add_zero, SuS]
              · cases b with
                | none => exact k9
                | some qq => exact ⟨k9.1, k9.2.1, k9.2.2.1, fun k hk => by rw [zwr_r (by decide)]; exact k9.2.2.2 k hk⟩
              · rw [estep] at i10
                have hst : stp m f (f2 :: ms) (LaS m L0 stk) (SuS m stk) (cs stk) c b = fcG (stp m f2 ms (LaS m L0 ((f, c) :: stk)) (SuS m ((f, c) :: stk)) (cs ((f, c) :: stk))) (5 * wys m f2 - 0) 0 b := by
                  rw [stp, if_pos hcond, sr_cons, Nat.sub_zero, LaS, SuS, cs]
                rw [hst] at i10
                rw [upF]
                exact i10
        cases b with
        | none =>
          have hx3 : x3 = -1000000 := k9
          exact ⟨fun _ => leaf rfl, fun z => absurd hx3 z⟩
        | some qq =>
          obtain ⟨hx3, hq2, hq3, hq4⟩ := id k9
          rw [hx3]
          refine ⟨fun z => absurd z (zOb (by omega)), fun _ => ?_⟩
          rw [nI_leI (by omega) (by omega)]
          refine ⟨fun z => ?_, fun z => ?_⟩
          · refine nxt (some qq) _ im5 k1 rfl rfl rfl (hx3 ▸ k9) ?_
            unfold stp
            rw [if_neg]
            rw [hok, Bool.true_and]
            simp only [lessB, decide_eq_true_eq]
            omega
          · have hl := leaf (by simp only [lessB, decide_eq_true_eq]; omega)
            rw [hx3] at hl
            exact hl
    -- the head
    refine rX12_settle_129 hO hR hN ?_
    rw [cd, i2 stk.length (by omega), hfM, i6]
    refine ⟨fun z => absurd z (nI_pos (by omega)), fun _ => ⟨vd, fun z => ?_, fun z => ?_⟩⟩
    · have hc0 : c = 0 := by
        rcases Nat.eq_zero_or_pos c with y | y
        · exact y
        · exfalso
          rw [show nI c - 1 = nI (c - 1) from pk_sub (a := c) (b := 1) y] at z
          exact nI_pos (by omega) z
      subst hc0
      exact k196 im2 x5 i1 i2 i5 i6 (fun ce hce => by rw [i7 ce hce, if_pos rfl]) (by rw [i8, if_pos rfl]; rfl) i9
    · have hc1 : 1 ≤ c := by
        rcases Nat.eq_zero_or_pos c with y | y
        · subst y
          exact absurd (by decide) z
        · exact y
      have ec : nI c - 1 = nI (c - 1) := pk_sub (a := c) (b := 1) hc1
      have hM2 := fr i1
      rw [ec]
      refine ⟨_, C_X12_lay _ _ _ hW hM2 hf (c := c - 1) (by omega) (L := put m f (c - 1) (LaS m L0 stk)) (L' := LaS m L0 stk) (Or.inr ⟨rfl, fun _ _ => rfl⟩) (fun ce hce => by rw [i7 ce hce, if_neg (by omega)]), ?_⟩
      rintro im3 lv3 ⟨⟨g1, g2⟩, rfl⟩
      have k1 : ∀ r, ¬ (63 ≤ r ∧ r ≤ 66) → im3 r = im1 r := fun r hr => by rw [g1 r (by omega)]; exact i1 r hr
      have hM3 := fr k1
      have e3 : im3 50 0 (5 * f + 3) = nI (rat m f) := by rw [hM3.1 50 (by decide) (by decide)]; exact f3.1
      have r65 : im3 65 0 stk.length = nI (c - 1) := by rw [g1 65 (by decide), i6, ec]
      have d5 : nI (c - 1) / 5 = nI ((c - 1) / 5) := pk_div (d := 5) (by omega) (by omega) (by omega)
      have d5' : nI (c - 1) - nI (c - 1) / 5 * 5 = nI ((c - 1) % 5) := pk_rem (d := 5) (by omega) (by omega) (by omega)
      have e10 : (10 : Int32) * nI ((c - 1) / 5) = nI (10 * ((c - 1) / 5)) := pk_mul 10 _
      have ecst : x5 - (nI (rat m f) * nI ((c - 1) % 5) + nI (10 * ((c - 1) / 5))) = nI (SuS m stk) := by
        rw [i8, if_neg (by omega), pk_mul, nI_add]
        show nI (SuS m stk + cstC m f (c - 1)) - nI (cstC m f (c - 1)) = _
        rw [pk_sub (by omega), Nat.add_sub_cancel]
      rw [c3, e3, r65, d5', d5, e10, ecst]
      refine ⟨v3, k196 im3 _ k1 (fun k hk => by rw [g1 64 (by decide)]; exact i2 k hk) (fun k hk => by rw [g1 65 (by decide)]; exact i5 k hk) (by rw [r65, ec]) g2 rfl ?_⟩
      cases b with
      | none => exact i9
      | some qq => exact ⟨i9.1, i9.2.1, i9.2.2.1, fun k hk => by rw [g1 66 (by decide)]; exact i9.2.2.2 k hk⟩
theorem C_X12_settle (l : Launch) (w : zWd) {m im : zMem} (lv : Int64) (hW : WF m) (hM : RM m im) (h0 : im 43 0 0 = 0) (x1 : Int32) : zSpecI l w 5 zyX12_settle [vR 43 0, vI x1] im lv (fun v im' lv' => ((∃ s, (1 ≤ s ∧ s < 2 ^ nfl m ∧ btN s 12 ≤ 5) ∧ x1 = nI s ∧ stP m s v im im') ∨ ((¬ ∃ s, (1 ≤ s ∧ s < 2 ^ nfl m ∧ btN s 12 ≤ 5) ∧ x1 = nI s) ∧ v = -1000001 ∧ im' = im)) ∧ lv' = lv) := by
  refine ze_I (by decide) (Nat.le_of_ble_eq_true rfl) (fun x hO hR hN => rX12_settle_0 hO hR hN ?_)
  have h12 := hW.1.2
  have hp12 : 2 ^ nfl m ≤ 4096 := Nat.pow_le_pow_right (by decide) h12
  rw [zwr_id h0, hM.2.2.2, hW.1.1]
  refine ⟨fun q => ⟨Or.inr ⟨?_, rfl, rfl⟩, rfl⟩, fun q => ?_⟩
  · rintro ⟨s, ⟨g1, g2, -⟩, rfl⟩
    have q : nI s < nI 1 := q
    rw [nI_ltI (by omega) (by omega)] at q
    omega
  have hx0 : ¬ x1 < 0 := fun z => q (by
    rw [Int32.lt_iff_toInt_lt] at z ⊢
    have e1 : (1 : Int32).toInt = 1 := rfl
    have e0 : (0 : Int32).toInt = 0 := rfl
    omega)
  obtain ⟨s, hs31, rfl⟩ := nI_of hx0
  have hs1 : 1 ≤ s := by
    have q : ¬ nI s < nI 1 := q
    rw [nI_ltI (by omega) (by omega)] at q
    omega
  have esh : nI s >>> (nI (nfl m) &&& 31) = nI (s / 2 ^ nfl m) := pk_shrN hs31 _ _ (zsm _ (by omega))
  have hdl : s / 2 ^ nfl m ≤ s := Nat.div_le_self _ _
  have e0 : (0 < nI (s / 2 ^ nfl m)) ↔ 0 < s / 2 ^ nfl m := nI_ltI (a := 0) (by decide) (by omega)
  rw [esh, e0]
  refine ⟨fun q1 => ⟨Or.inr ⟨?_, rfl, rfl⟩, rfl⟩, fun q1 => ⟨_, C_X12_bits _ _ _ hs31, ?_⟩⟩
  · rintro ⟨s', ⟨g1, g2, -⟩, e⟩
    rw [nI_eq hs31 (by omega)] at e
    subst e
    rw [Nat.div_eq_of_lt g2] at q1
    omega
  have hs2 : s < 2 ^ nfl m := by
    rcases Nat.lt_or_ge s (2 ^ nfl m) with z | z
    · exact z
    · exact absurd (Nat.div_pos z (Nat.two_pow_pos _)) q1
  rintro _ im1 lv1 ⟨rfl, rfl, rfl⟩
  have lb := btN_le (s := s) 12
  have e5 : (nI (btN s 12) ≤ 5) ↔ btN s 12 ≤ 5 := nI_leI (b := 5) (by omega) (by omega)
  rw [e5]
  refine ⟨fun q2 => ?_, fun q2 => ⟨Or.inr ⟨?_, rfl, rfl⟩, rfl⟩⟩
  rotate_left
  · rintro ⟨s', ⟨g1, g2, g3⟩, e⟩
    rw [nI_eq hs31 (by omega)] at e
    subst e
    exact q2 g3
  -- the members
  have out : ∀ (v : Int32) (im' : zMem), stP m s v im1 im' → (((∃ s', (1 ≤ s' ∧ s' < 2 ^ nfl m ∧ btN s' 12 ≤ 5) ∧ nI s = nI s' ∧ stP m s' v im1 im') ∨ ((¬ ∃ s', (1 ≤ s' ∧ s' < 2 ^ nfl m ∧ btN s' 12 ≤ 5) ∧ nI s = nI s') ∧ v = -1000001 ∧ im' = im1)) ∧ lv1 = lv1) := fun v im' h => ⟨Or.inl ⟨s, ⟨hs1, hs2, q2⟩, rfl, h⟩, rfl⟩
  have btz : ∀ k, btN s (nfl m + k) = btN s (nfl m) := by
    intro k
    induction k with
    | zero => rfl
    | succ k ih =>
      show btN s (nfl m + k) + s / 2 ^ (nfl m + k) % 2 = _
      rw [ih, Nat.div_eq_of_lt (Nat.lt_of_lt_of_le hs2 (Nat.pow_le_pow_right (by decide) (by omega)))]
      rfl
  generalize hMb : mbs m s (nfl m) = M at *
  generalize hL0 : ly0 m s (nfl m) = L0 at *
  have hn5 : M.length ≤ 5 := by
    rw [← hMb, mbs_len]
    have := btz (12 - nfl m)
    rw [show nfl m + (12 - nfl m) = 12 by omega] at this
    omega
  have hMlt : ∀ k, k < M.length → M.getD k 0 < nfl m := fun k hk => by
    rw [← hMb] at hk ⊢
    apply mbs_lt (nfl m)
    rw [List.getD_eq_getElem?_getD, List.getElem?_eq_getElem hk]
    exact List.getElem_mem hk
  have hL0le : ∀ cell, cell < 384 → L0 cell ≤ 108 := fun cell _ => by
    have := ly0_le hW (s := s) (cell := cell) (nfl m) (Nat.le_refl _)
    rw [← hL0]
    omega
  have hRdef : stR m s = sr m M L0 0 [] none := by unfold stR; rw [hMb, hL0]
  have fr : ∀ {im2 : zMem}, (∀ r, ¬ (63 ≤ r ∧ r ≤ 66) → im2 r = im1 r) → RM m im2 := fun h => hM.fr (fun r g1 g2 => h r (by omega))
  have hn1 : 1 ≤ M.length := by
    rcases Nat.eq_zero_or_pos M.length with z | z
    · exfalso
      rw [← hMb, mbs_len] at z
      have key : ∀ k, btN s k = 0 → s % 2 ^ k = 0 := by
        intro k
        induction k with
        | zero => intro _; exact Nat.mod_one s
        | succ k ih =>
          intro hk
          rw [btN] at hk
          have h1 := ih (by omega)
          rw [Nat.pow_succ, Nat.mod_mul, h1, show s / 2 ^ k % 2 = 0 by omega]
          rfl
      have := key _ z
      rw [Nat.mod_eq_of_lt hs2] at this
      omega
    · exact z
  -- the end: the choices are taken
  -- clear
  have main := st_main (x := x) (w := w) (lv1 := lv1) (L0 := L0) hO hR hN out h12 hMb hn5 hn1 hMlt hW hM hL0le
  have hmlen : ∀ k, k ≤ nfl m → (mbs m s k).length ≤ M.length := by
    have mono : ∀ j k, (mbs m s k).length ≤ (mbs m s (k + j)).length := by
      intro j
      induction j with
      | zero => intro k; exact Nat.le_refl _
      | succ j ih =>
        intro k
        have h1 := ih k
        have h2 : (mbs m s (k + j)).length ≤ (mbs m s (k + j + 1)).length := by
          rw [mbs_len, mbs_len, btN]; omega
        exact Nat.le_trans h1 h2
    intro k hk
    have := mono (nfl m - k) k
    rw [show k + (nfl m - k) = nfl m by omega, hMb] at this
    exact this
  have key56 : ∀ n k (im2 : zMem), n + k = nfl m → (∀ r, ¬ (63 ≤ r ∧ r ≤ 66) → im2 r = im1 r) → (∀ j, j < (mbs m s k).length → im2 64 0 j = nI ((mbs m s k).getD j 0)) → (∀ ce, ce < 384 → im2 63 0 ce = nI (ly0 m s k ce)) → zW x w 56 [(0, vR 43 0), (1, vI (nI s)), (2, vI (nI (mbs m s k).length)), (3, vI (nI k))] [] im2 lv1 := by
    intro n
    induction n with
    | zero =>
      intro k im2 hk g1 g2 g3
      have hkk : k = nfl m := by omega
      subst hkk
      rw [hMb] at g2 ⊢
      rw [hL0] at g3
      refine rX12_settle_56 hO hR hN ⟨fun _ => ⟨vp_in_nI (n := 0) (N := 5) (by decide) (by decide), ?_⟩, fun z => absurd (by rw [(fr g1).2.2.2, hW.1.1]; exact Int32.le_refl _) z⟩
      match hM' : M, hn1 with
      | f :: ms, _ =>
        subst hM'
        refine main _ [] f ms 0 none _ _ _ (Nat.le_refl _) (fun r hr => by rw [zwr_r (by omega)]; exact g1 r hr) (fun k hk => by rw [zwr_r (by decide)]; exact g2 k hk) rfl (fun q hq => by cases hq) (Nat.zero_le _) (fun k hk => by cases hk) ?_ (fun ce hce => ?_) rfl rfl ?_
        · exact zwr_eq
        · rw [zwr_r (by decide), if_pos rfl]
          exact g3 ce hce
        · rw [hRdef, sr_cons, Nat.sub_zero]
          rfl
    | succ n ih =>
      intro k im2 hk g1 g2 g3
      have hM2 := fr g1
      have hk12 : k < nfl m := by omega
      have hlk := hmlen (k + 1) (by omega)
      have ck : Int32.toNatClampNeg (nI k) = k := nI_clamp (by omega)
      have hk1 : nI k + 1 = nI (k + 1) := nI_1 k
      have e10 : im2 43 0 10 = nI (nfl m) := by rw [hM2.2.2.2, hW.1.1]
      have eb : (nI s >>> (nI k &&& 31)) &&& 1 = nI (s / 2 ^ k % 2) := zbit hs31 (by omega)
      have cl : Int32.toNatClampNeg (nI (mbs m s k).length) = (mbs m s k).length := by
        have := hmlen k (by omega)
        exact nI_clamp (by omega)
      have e1 : (nI (s / 2 ^ k % 2) = 1) ↔ s / 2 ^ k % 2 = 1 := nI_eq (b := 1) (by omega) (by decide)
      refine rX12_settle_56 hO hR hN ?_
      rw [e10, ck, eb, hk1, cl, e1, nI_leI (by omega) (by omega)]
      refine ⟨fun z => by omega, fun _ => ⟨fun z => ?_, fun z => ?_⟩⟩
      · obtain ⟨-, -, -, -, f4, f5, f6, -⟩ := hW.2.1 k hk12
        have e53 : im2 53 0 k = nI (way m k) := by rw [hM2.1 53 (by decide) (by decide)]; exact f5.1
        have e54 : im2 54 0 k = nI (dly m k) := by rw [hM2.1 54 (by decide) (by decide)]; exact f6.1
        have ec : (5 : Int32) * nI (way m k) + nI (dly m k) = nI (5 * way m k + dly m k) := by
          rw [show (5 : Int32) * nI (way m k) = nI (5 * way m k) from pk_mul 5 _, nI_add]
        rw [e53, e54, ec]
        refine ⟨vp_in_nI (by omega) (by decide), _, C_X12_lay _ _ _ hW hM2 hk12 (c := 5 * way m k + dly m k) (by omega) (L := ly0 m s k) (L' := ly0 m s (k + 1)) (Or.inl ⟨rfl, fun ce _ => by rw [ly0, if_neg z]⟩) g3, ?_⟩
        rintro im3 lv3 ⟨⟨d1, d2⟩, rfl⟩
        have := ih (k + 1) im3 (by omega) (fun r hr => by rw [d1 r (by omega)]; exact g1 r hr) (by
          rw [mbs, if_neg z]
          intro j hj
          rw [d1 64 (by decide)]
          exact g2 j hj) d2
        rw [mbs, if_neg z] at this
        exact this
      · rw [mbs_len, btN, z, ← mbs_len (m := m)] at hlk
        rw [nI_1]
        refine ⟨vp_in_nI (by omega) (by decide), ?_⟩
        have hl1 : (mbs m s (k + 1)).length = (mbs m s k).length + 1 := by rw [mbs, if_pos z, List.length_append]; rfl
        have := ih (k + 1) (zwr im2 64 0 (mbs m s k).length (nI k)) (by omega) (fun r hr => by rw [zwr_r (by omega)]; exact g1 r hr) (by
          intro j hj
          rw [hl1] at hj
          rw [mbs, if_pos z, zwr_app]
          by_cases hjl : j = (mbs m s k).length
          · subst hjl
            rw [if_pos ⟨rfl, rfl, rfl⟩, gD_m]
          · rw [if_neg (fun z => hjl z.2.2), gD_l (by omega)]
            exact g2 j (by omega)) (by
          intro ce hce
          rw [zwr_r (by decide), ly0, if_pos z]
          exact g3 ce hce)
        rw [hl1] at this
        exact this
  have key34 : ∀ n k (im2 : zMem), n + k = 384 → (∀ r, ¬ (63 ≤ r ∧ r ≤ 66) → im2 r = im1 r) → (∀ ce, ce < k → im2 63 0 ce = 0) → zW x w 34 [(0, vR 43 0), (1, vI (nI s)), (2, vI 0), (3, vI (nI k))] [] im2 lv1 := by
    intro n
    induction n with
    | zero =>
      intro k im2 hk g1 g2
      have hkk : k = 384 := by omega
      subst hkk
      exact rX12_settle_34 hO hR hN ⟨fun _ => key56 (nfl m) 0 im2 (by omega) g1 (fun j hj => by cases hj) (fun ce hce => g2 ce hce), fun z => absurd (by decide) z⟩
    | succ n ih =>
      intro k im2 hk g1 g2
      have ck : Int32.toNatClampNeg (nI k) = k := nI_clamp (by omega)
      refine rX12_settle_34 hO hR hN ?_
      rw [ck, nI_1, show (384 : Int32) = nI 384 from rfl, nI_leI (by omega) (by omega)]
      refine ⟨fun z => by omega, fun _ => ⟨vp_in_nI (by omega) (by decide), ih (k + 1) _ (by omega) (fun r hr => by rw [zwr_r (by omega)]; exact g1 r hr) (fun ce hce => ?_)⟩⟩
      rw [zwr_app]
      split
      · rfl
      · exact g2 ce (by omega)
  exact key34 384 0 im1 (by omega) (fun _ _ => rfl) (fun ce hce => absurd hce (by omega))
