/-! joint steps: looking, choosing, swapping, settling, feeding -/
theorem G1.ofL {m im2 : zMem} (h : G1 m) (hf : ∀ r, (3 ≤ r ∧ r ≤ 15) ∨ (47 ≤ r ∧ r ≤ 54) → im2 r = m r) (h27 : im2 2 0 7 = m 2 0 7) (h8 : im2 43 0 8 = m 43 0 8) (h10 : im2 43 0 10 = m 43 0 10) {k : Nat} (hk : 1 ≤ k ∧ k ≤ 15) (e1 : im2 43 0 7 = nI k) (e2 : im2 2 0 8 = nI k) : G1 im2 := by
  obtain ⟨hW, hC⟩ := h
  have el : lok im2 = k := by unfold lok; rw [e1, cNn (by omega)]
  constructor
  · unfold WF WFf WFs nfl own wgt sta rat wys way dly lsl lrm nst stw str sta1 stb stv bas stf at *
    rw [hf 47 (by decide), hf 48 (by decide), hf 49 (by decide), hf 50 (by decide), hf 51 (by decide), hf 52 (by decide), hf 53 (by decide), hf 54 (by decide), h8, h10, el]
    obtain ⟨a1, a2, a3, a4, a5, a6, a7⟩ := hW
    exact ⟨a1, a2, a3, a4, a5, a6, e1, hk⟩
  · unfold RC RCf RCw RCs nfl own wgt sta rat wys way dly lsl lrm nst stw str sta1 stb stv bas stf at *
    rw [hf 47 (by decide), hf 48 (by decide), hf 49 (by decide), hf 50 (by decide), hf 51 (by decide), hf 52 (by decide), hf 53 (by decide), hf 54 (by decide), h8, h10, el, h27, hf 3 (by decide), hf 4 (by decide), hf 5 (by decide), hf 6 (by decide), hf 7 (by decide), hf 8 (by decide), hf 9 (by decide), hf 10 (by decide), hf 12 (by decide), hf 13 (by decide), hf 14 (by decide), hf 15 (by decide)]
    obtain ⟨a1, a2, a3, a4, a5, a6, a7⟩ := hC
    exact ⟨a1, a2, a3, a4, a5, a6, e2⟩
theorem J_look {l : Launch} {w : zWd} {m : zMem} {lv : Int64} (h : INV m) (a : Int32) : JS l w 2 zyX11_look [vR 0 0, vI a] 3 zyX12_look [vR 43 0, vI a] m lv := by
  refine ⟨_, C_X11_look _ _ _ a, ?_⟩
  rintro v1 im1 lv1 ⟨h1, rfl⟩
  by_cases hc : 1 ≤ a ∧ a ≤ 15
  · rw [if_pos hc] at h1
    obtain ⟨rfl, rfl⟩ := h1
    refine ⟨_, C_X12_look _ _ _ (by rw [zwr_r (by decide)]; exact h.2.2.2.2.2.2) a, ?_⟩
    rintro v2 im2 lv2 ⟨h2, rfl⟩
    rw [if_pos hc] at h2
    obtain ⟨rfl, rfl⟩ := h2
    refine ⟨?_, ?_⟩
    · rw [zwr_r (by decide), h.1.2.2.2.2.2.2.2, h.1.1.2.2.2.2.2.2.1]
    · obtain ⟨k, k1, k2, rfl⟩ := (n1x (N := 15) (by decide)).mp hc
      refine h.g1 (fun r q1 q2 q3 q4 q5 q6 => by rw [zwr_r q6, zwr_r (by omega)]) (fun j q1 q2 => by rw [zwr_k q2, zwr_r (by decide)]) (by rw [zwr_r (by decide), zwr_r (by decide), zwr_k (by decide), zwr_r (by decide)]; exact h.2.2.2.2.1) (by rw [zwr_r (by decide), zwr_r (by decide)]) (h.1.ofL (fun r q => by rw [zwr_r (by omega), zwr_r (by omega)]) (by rw [zwr_r (by decide), zwr_k (by decide)]) (by rw [zwr_k (by decide), zwr_r (by decide)]) (by rw [zwr_k (by decide), zwr_r (by decide)]) ⟨k1, k2⟩ zwr_eq (by rw [zwr_r (by decide), zwr_eq]))
  · rw [if_neg hc] at h1
    obtain ⟨rfl, rfl⟩ := h1
    refine ⟨_, C_X12_look _ _ _ h.2.2.2.2.2.2 a, ?_⟩
    rintro v2 im2 lv2 ⟨h2, rfl⟩
    rw [if_neg hc] at h2
    obtain ⟨rfl, rfl⟩ := h2
    exact ⟨rfl, h⟩
theorem G1.ofW {m im2 : zMem} (h : G1 m) (hf : ∀ r, (2 ≤ r ∧ r ≤ 15 ∧ ¬ r = 12) ∨ (47 ≤ r ∧ r ≤ 52) → im2 r = m r) (h7 : im2 43 0 7 = m 43 0 7) (h8 : im2 43 0 8 = m 43 0 8) (h10 : im2 43 0 10 = m 43 0 10) (h12 : ∀ f j, ¬ j = 8 → ¬ j = 9 → im2 12 f j = m 12 f j) (hw : ∀ f, f < nfl m → ∃ w d, w < wys m f ∧ d ≤ 4 ∧ im2 53 0 f = nI w ∧ im2 54 0 f = nI d ∧ im2 12 f 8 = nI w ∧ im2 12 f 9 = nI d) : G1 im2 := by
  obtain ⟨hW, hC⟩ := h
  have h12' := hW.1.2
  have en : nfl im2 = nfl m := by unfold nfl; rw [h10]
  have key : ∀ f, f < nfl m → (im2 53 0 f = nI (way im2 f) ∧ way im2 f < wys m f) ∧ (im2 54 0 f = nI (dly im2 f) ∧ dly im2 f ≤ 4) ∧ im2 12 f 8 = nI (way im2 f) ∧ im2 12 f 9 = nI (dly im2 f) := by
    intro f hf'
    obtain ⟨w, d, h1, h2, h3, h4, h5, h6⟩ := hw f hf'
    have hw3 := (hW.2.1 f hf').2.2.2.2.1.2.2
    unfold way dly
    rw [h3, h4, cNn (show w < 2 ^ 31 by omega), cNn (show d < 2 ^ 31 by omega)]
    exact ⟨⟨rfl, h1⟩, ⟨rfl, h2⟩, h5, h6⟩
  have ew : ∀ f, wys im2 f = wys m f := fun f => by unfold wys; rw [hf 50 (by decide)]
  have el : ∀ f w k, lsl im2 f w k = lsl m f w k := fun f w k => by unfold lsl; rw [hf 52 (by decide)]
  have er : ∀ f w k, lrm im2 f w k = lrm m f w k := fun f w k => by unfold lrm; rw [hf 51 (by decide)]
  have e1 : ∀ f, own im2 f = own m f ∧ wgt im2 f = wgt m f ∧ sta im2 f = sta m f ∧ rat im2 f = rat m f := fun f => by unfold own wgt sta rat; rw [hf 50 (by decide)]; exact ⟨rfl, rfl, rfl, rfl⟩
  have es : ∀ k, stw im2 k = stw m k ∧ str im2 k = str m k ∧ sta1 im2 k = sta1 m k ∧ stb im2 k = stb m k ∧ stv im2 k = stv m k := fun k => by unfold stw str sta1 stb stv; rw [hf 49 (by decide)]; exact ⟨rfl, rfl, rfl, rfl, rfl⟩
  have ens : nst im2 = nst m := by unfold nst; rw [h8]
  have eb : ∀ k, bas im2 k = bas m k := fun k => by unfold bas; rw [hf 47 (by decide)]
  have est : ∀ k, stf im2 k = stf m k := fun k => by unfold stf; rw [hf 48 (by decide)]
  have elo : lok im2 = lok m := by unfold lok; rw [h7]
  obtain ⟨a1, a2, a3, a4, a5, a6, a7⟩ := hW
  obtain ⟨c1, c2, c3, c4, c5, c6, c7⟩ := hC
  constructor
  · refine ⟨by rw [en, h10]; exact a1, fun f hf' => ?_, by rw [ens, h8]; exact a3, fun k hk => ?_, fun k hk => by rw [eb, hf 47 (by decide)]; exact a5 k hk, fun k hk => by rw [est, hf 48 (by decide)]; exact a6 k hk, by rw [elo, h7]; exact a7⟩
    · rw [en] at hf'
      obtain ⟨b0, b1, b2, b3, b4, b5, b6, b7⟩ := a2 f hf'
      obtain ⟨k1, k2, -, -⟩ := key f hf'
      refine ⟨?_, ?_, ?_, ?_, ?_, ?_, k2, fun w k g1 g2 => ?_⟩
      · rw [(e1 f).1, hf 50 (by decide)]; exact b0
      · rw [(e1 f).2.1, hf 50 (by decide)]; exact b1
      · rw [(e1 f).2.2.1, hf 50 (by decide)]; exact b2
      · rw [(e1 f).2.2.2, hf 50 (by decide)]; exact b3
      · rw [ew, hf 50 (by decide)]; exact b4
      · rw [ew]; exact k1
      · rw [el, er, hf 51 (by decide), hf 52 (by decide)]; exact b7 w k g1 g2
    · rw [ens] at hk
      unfold WFs
      obtain ⟨s0, s1, s2, s3, s4⟩ := es k
      rw [s0, s1, s2, s3, s4, hf 49 (by decide)]
      exact a4 k hk
  · refine ⟨by rw [en, hf 10 (by decide)]; exact c1, fun f hf' => ?_, by rw [ens, hf 2 (by decide)]; exact c3, fun k hk => ?_, fun k hk => by rw [eb, hf 3 (by decide)]; exact c5 k hk, fun k hk => by rw [est, hf 4 (by decide)]; exact c6 k hk, by rw [elo, hf 2 (by decide)]; exact c7⟩
    · rw [en] at hf'
      obtain ⟨b0, b1, b2, b3, b4, b5, b6, b7⟩ := c2 f hf'
      obtain ⟨-, -, k3, k4⟩ := key f hf'
      refine ⟨?_, ?_, ?_, ?_, ?_, k3, k4, fun w hw' => ?_⟩
      · rw [(e1 f).1, h12 f 0 (by decide) (by decide)]; exact b0
      · rw [(e1 f).2.1, h12 f 1 (by decide) (by decide)]; exact b1
      · rw [(e1 f).2.2.1, h12 f 2 (by decide) (by decide)]; exact b2
      · rw [(e1 f).2.2.2, h12 f 3 (by decide) (by decide)]; exact b3
      · rw [ew, h12 f 4 (by decide) (by decide)]; exact b4
      · rw [ew] at hw'
        obtain ⟨c, g1, g2, g3, g4⟩ := b7 w hw'
        refine ⟨c, g1, by rw [hf 13 (by decide)]; exact g2, fun k hk => ?_, fun k q1 q2 => by rw [el]; exact g4 k q1 q2⟩
        rw [el, er, hf 14 (by decide), hf 15 (by decide)]
        exact g3 k hk
    · rw [ens] at hk
      unfold RCs
      obtain ⟨s0, s1, s2, s3, s4⟩ := es k
      rw [s0, s1, s2, s3, s4, hf 5 (by decide), hf 6 (by decide), hf 7 (by decide), hf 8 (by decide), hf 9 (by decide)]
      exact c4 k hk
/-- as told, the ways and delays of now -/
theorem G1.now {m : zMem} (h : G1 m) {f : Nat} (hf : f < nfl m) : ∃ w d, w < wys m f ∧ d ≤ 4 ∧ m 53 0 f = nI w ∧ m 54 0 f = nI d ∧ m 12 f 8 = nI w ∧ m 12 f 9 = nI d := by
  obtain ⟨-, -, -, -, f4, f5, f6, -⟩ := h.1.2.1 f hf
  obtain ⟨-, -, -, -, -, c5, c6, -⟩ := h.2.2.1 f hf
  exact ⟨way m f, dly m f, f5.2, f6.2, f5.1, f6.1, c5, c6⟩
theorem J_choose {l : Launch} {w : zWd} {m : zMem} {lv : Int64} (h : INV m) (x1 x2 x3 : Int32) : JS l w 4 zyX11_choose [vR 0 0, vI x1, vI x2, vI x3] 4 zyX12_choose [vR 43 0, vI x1, vI x2, vI x3] m lv := by
  refine ⟨_, C_X11_choose _ _ _ h.1.1 h.1.2 x1 x2 x3, ?_⟩
  rintro v1 im1 lv1 ⟨h1, rfl⟩
  by_cases hc : (0 ≤ x1 ∧ x1 < nI (nfl m)) ∧ (0 ≤ x2 ∧ x2 < nI (wys m (cN x1))) ∧ (0 ≤ x3 ∧ x3 < nI 5)
  · rw [if_pos hc] at h1
    obtain ⟨rfl, rfl⟩ := h1
    refine ⟨_, C_X12_choose _ _ _ h.1.1 (RM.refl.fr (fun r q1 q2 => by rw [zwr_r (by omega), zwr_r (by omega)])) (by rw [zwr_r (by decide), zwr_r (by decide)]; exact h.2.2.2.2.2.2) x1 x2 x3, ?_⟩
    rintro v2 im2 lv2 ⟨h2, rfl⟩
    rw [if_pos hc] at h2
    obtain ⟨rfl, rfl⟩ := h2
    refine ⟨rfl, ?_⟩
    have h12 := h.1.1.1.2
    obtain ⟨f, hf, rfl⟩ := zrx (by omega) hc.1
    rw [cNn (by omega)] at *
    have h3 := (h.1.1.2.1 f hf).2.2.2.2.1.2.2
    obtain ⟨wy, hwy, rfl⟩ := zrx (by omega) hc.2.1
    obtain ⟨d, hd, rfl⟩ := zrx (N := 5) (by decide) hc.2.2
    refine h.g1 (fun r q1 q2 q3 q4 q5 q6 => by rw [zwr_r (by omega), zwr_r (by omega), zwr_r (by omega), zwr_r (by omega)]) (fun j q1 q2 => by rw [zwr_r (by decide), zwr_r (by decide), zwr_r (by decide), zwr_r (by decide)]) (by rw [zwr_r (by decide), zwr_r (by decide), zwr_r (by decide), zwr_r (by decide), zwr_r (by decide), zwr_r (by decide), zwr_r (by decide), zwr_r (by decide)]; exact h.2.2.2.2.1) (by rw [zwr_r (by decide), zwr_r (by decide), zwr_r (by decide), zwr_r (by decide)]) (h.1.ofW (fun r q => by rw [zwr_r (by omega), zwr_r (by omega), zwr_r (by omega), zwr_r (by omega)]) (by rw [zwr_r (by decide), zwr_r (by decide), zwr_r (by decide), zwr_r (by decide)]) (by rw [zwr_r (by decide), zwr_r (by decide), zwr_r (by decide), zwr_r (by decide)]) (by rw [zwr_r (by decide), zwr_r (by decide), zwr_r (by decide), zwr_r (by decide)]) (fun g j q1 q2 => by rw [zwr_r (by decide), zwr_r (by decide), zwr_k q2, zwr_k q1]) (fun g hg => ?_))
    have e53 : (zwr (zwr (zwr (zwr m 12 f 8 (nI wy)) 12 f 9 (nI d)) 53 0 f (nI wy)) 54 0 f (nI d)) 53 0 g = if g = f then nI wy else m 53 0 g := by
      rw [zwr_r (by decide), zwr_app, zwr_r (by decide), zwr_r (by decide)]; simp only [true_and]
    have e54 : (zwr (zwr (zwr (zwr m 12 f 8 (nI wy)) 12 f 9 (nI d)) 53 0 f (nI wy)) 54 0 f (nI d)) 54 0 g = if g = f then nI d else m 54 0 g := by
      rw [zwr_app, zwr_r (by decide), zwr_r (by decide), zwr_r (by decide)]; simp only [true_and]
    have e8 : (zwr (zwr (zwr (zwr m 12 f 8 (nI wy)) 12 f 9 (nI d)) 53 0 f (nI wy)) 54 0 f (nI d)) 12 g 8 = if g = f then nI wy else m 12 g 8 := by
      rw [zwr_r (by decide), zwr_r (by decide), zwr_k (by decide), zwr_app]; simp only [true_and, and_true]
    have e9 : (zwr (zwr (zwr (zwr m 12 f 8 (nI wy)) 12 f 9 (nI d)) 53 0 f (nI wy)) 54 0 f (nI d)) 12 g 9 = if g = f then nI d else m 12 g 9 := by
      rw [zwr_r (by decide), zwr_r (by decide), zwr_app, zwr_k (by decide)]; simp only [true_and, and_true]
    rw [e53, e54, e8, e9]
    by_cases hgf : g = f
    · subst hgf
      rw [if_pos rfl, if_pos rfl, if_pos rfl, if_pos rfl]
      exact ⟨wy, d, hwy, by omega, rfl, rfl, rfl, rfl⟩
    · rw [if_neg hgf, if_neg hgf, if_neg hgf, if_neg hgf]
      exact h.1.now hg
  · rw [if_neg hc] at h1
    obtain ⟨rfl, rfl⟩ := h1
    refine ⟨_, C_X12_choose _ _ _ h.1.1 RM.refl h.2.2.2.2.2.2 x1 x2 x3, ?_⟩
    rintro v2 im2 lv2 ⟨h2, rfl⟩
    rw [if_neg hc] at h2
    obtain ⟨rfl, rfl⟩ := h2
    exact ⟨rfl, h⟩
theorem J_swap {l : Launch} {w : zWd} {m : zMem} {lv : Int64} (h : INV m) : JS l w 7 zyX11_swap [vR 0 0] 7 zyX12_swap [vR 43 0] m lv := by
  refine ⟨_, C_X11_swap _ _ _ h.1.1 h.1.2, ?_⟩
  rintro v1 im1 lv1 ⟨h1, rfl⟩
  cases hs : swp m with
  | none =>
    rw [hs] at h1
    obtain ⟨rfl, fc⟩ := h1
    refine ⟨_, C_X12_swap _ _ _ h.1.1 (RM.fc fc) (by rw [fc 43 (by decide)]; exact h.2.2.2.2.2.2), ?_⟩
    rintro v2 im2 lv2 ⟨h2, rfl⟩
    rw [hs] at h2
    obtain ⟨rfl, rfl⟩ := h2
    exact ⟨rfl, h.fr (Ns.of fc Rf.refl)⟩
  | some q =>
    rw [hs] at h1
    obtain ⟨⟨ha, hb⟩, rfl, fc⟩ := h1
    obtain ⟨a, b⟩ := q
    dsimp only at ha hb fc
    have hr : ∀ r, ¬ (20 ≤ r ∧ r ≤ 38) → ¬ r = 12 → im1 r = m r := fun r q1 q2 => by rw [fc r q1, exC_r q2]
    refine ⟨_, C_X12_swap _ _ _ h.1.1 (RM.refl.fr (fun r q1 q2 => hr r (by omega) (by omega))) (by rw [hr 43 (by decide) (by decide)]; exact h.2.2.2.2.2.2), ?_⟩
    rintro v2 im2 lv2 ⟨h2, rfl⟩
    rw [hs] at h2
    obtain ⟨rfl, rfl⟩ := h2
    refine ⟨rfl, ?_⟩
    show INV (exM im1 a b)
    have e12 : (exM im1 a b) 12 = (exC m a b) 12 := by rw [exM_r (by decide), fc 12 (by decide)]
    have e54 : (exM im1 a b) 54 = (exM m a b) 54 := by
      unfold exM
      rw [hr 54 (by decide) (by decide)]
      funext i k
      rw [zwr_app, zwr_app, zwr_app, zwr_app, hr 54 (by decide) (by decide)]
    have eO : ∀ r, ¬ (20 ≤ r ∧ r ≤ 38) → ¬ r = 12 → ¬ r = 54 → (exM im1 a b) r = m r := fun r q1 q2 q3 => by rw [exM_r q3]; exact hr r q1 q2
    refine h.g1 (fun r q1 q2 q3 q4 q5 q6 => eO r q4 (by omega) (by omega)) (fun j _ _ => by rw [eO 43 (by decide) (by decide) (by decide)]) (by rw [eO 0 (by decide) (by decide) (by decide), eO 43 (by decide) (by decide) (by decide)]; exact h.2.2.2.2.1) (by rw [eO 0 (by decide) (by decide) (by decide)]) (h.1.ofW (fun r q => eO r (by omega) (by omega) (by omega)) (by rw [eO 43 (by decide) (by decide) (by decide)]) (by rw [eO 43 (by decide) (by decide) (by decide)]) (by rw [eO 43 (by decide) (by decide) (by decide)]) (fun f j q1 q2 => by rw [e12, exC_k q2]) (fun f hf => ?_))
    obtain ⟨wf, df, k1, k2, k3, k4, k5, k6⟩ := h.1.now hf
    obtain ⟨wa, da, a1, a2, a3, a4, a5, a6⟩ := h.1.now ha
    obtain ⟨wb, db, b1, b2, b3, b4, b5, b6⟩ := h.1.now hb
    rw [eO 53 (by decide) (by decide) (by decide), e54, e12, exC_k (by decide), exC_9]
    by_cases hfb : f = b
    · subst hfb
      rw [if_pos rfl, exM_b]
      exact ⟨wf, da, k1, a2, k3, a4, k5, a6⟩
    · rw [if_neg hfb]
      by_cases hfa : f = a
      · subst hfa
        rw [if_pos rfl, exM_a]
        exact ⟨wf, db, k1, b2, k3, b4, k5, b6⟩
      · rw [if_neg hfa, exM_f hfa hfb]
        exact ⟨wf, df, k1, k2, k3, k4, k5, k6⟩
theorem fcG_ind {st : Nat → zB → zB} {Q : zB → Prop} : ∀ n c b, (∀ j b, c ≤ j → j < c + n → Q b → Q (st j b)) → Q b → Q (fcG st n c b)
  | 0, _, _, _, h => h
  | n + 1, c, b, hs, h => fcG_ind n (c + 1) _ (fun j b h1 h2 => hs j b (by omega) (by omega)) (hs c b (Nat.le_refl _) (by omega) h)
/-- every kept choice is one of its flight's -/
def okC (m : zMem) (M : List Nat) (b : zB) : Prop := ∀ q, b = some q → q.2.length = M.length ∧ ∀ k, k < M.length → q.2.getD k 0 < 5 * wys m (M.getD k 0)
theorem sr_okC {m : zMem} {M : List Nat} : ∀ (ms pre : List Nat) (L : Nat → Nat) (s : Nat) (pf : List Nat) (b : zB), M = pre ++ ms → pf.length = pre.length → (∀ k, k < pf.length → pf.getD k 0 < 5 * wys m (M.getD k 0)) → okC m M b → okC m M (sr m ms L s pf b)
  | [], pre, L, s, pf, b, hM, hl, hp, hb => by
    rw [List.append_nil] at hM
    subst hM
    intro q hq
    rw [sr] at hq
    cases hq
    exact ⟨hl, fun k hk => hp k (by rw [hl]; exact hk)⟩
  | f :: ms, pre, L, s, pf, b, hM, hl, hp, hb => by
    rw [sr_cons]
    refine fcG_ind _ _ _ (fun c b' _ hc hb' => ?_) hb
    unfold stp
    split
    · refine sr_okC ms (pre ++ [f]) _ _ (pf ++ [c]) b' (by rw [List.append_assoc]; exact hM) (by rw [List.length_append, List.length_append, hl]; rfl) (fun k hk => ?_) hb'
      rw [List.length_append, List.length_singleton] at hk
      rw [gdA]
      by_cases hkp : k < pf.length
      · rw [if_pos hkp]; exact hp k hkp
      · rw [if_neg hkp, if_pos (by omega)]
        have : M.getD k 0 = f := by rw [hM, show k = pre.length by omega]; exact gD_m
        rw [this]
        omega
    · exact hb'
theorem J_settle {l : Launch} {w : zWd} {m : zMem} {lv : Int64} (h : INV m) (a : Int32) : JS l w 13 zyX11_settle [vR 0 0, vI a] 5 zyX12_settle [vR 43 0, vI a] m lv := by
  refine ⟨_, C_X11_settle _ _ _ h.1.1 h.1.2 a, ?_⟩
  rintro v1 im1 lv1 ⟨h1, rfl⟩
  have h12 := h.1.1.1.2
  have hp12 : 2 ^ nfl m ≤ 4096 := Nat.pow_le_pow_right (by decide) h12
  rcases h1 with ⟨s, ⟨s1, s2, s3⟩, rfl, h1⟩ | ⟨hn, rfl, rfl⟩
  · obtain ⟨hr, h1⟩ := h1
    refine ⟨_, C_X12_settle _ _ _ h.1.1 (RM.refl.fr (fun r q1 q2 => hr r (by omega) (by omega))) (by rw [hr 43 (by decide) (by decide)]; exact h.2.2.2.2.2.2) _, ?_⟩
    rintro v2 im2 lv2 ⟨⟨s', ⟨t1, t2, t3⟩, es, hr2, h2⟩ | ⟨hn, -⟩, rfl⟩
    rotate_left
    · exact absurd ⟨s, ⟨s1, s2, s3⟩, rfl⟩ hn
    rw [nI_eq (by omega) (by omega)] at es
    subst es
    cases hst : stR m s with
    | none =>
      rw [hst] at h1 h2
      obtain ⟨rfl, e1⟩ := h1
      obtain ⟨rfl, e2, e3⟩ := h2
      refine ⟨rfl, h.fr (fun r q1 q2 => ?_)⟩
      by_cases h53 : r = 53
      · subst h53; rw [e2]; exact hr 53 (by decide) (by decide)
      · by_cases h54 : r = 54
        · subst h54; rw [e3]; exact hr 54 (by decide) (by decide)
        · rw [hr2 r (by omega) (by omega)]
          by_cases h12' : r = 12
          · subst h12'; exact e1
          · exact hr r q1 h12'
    | some q =>
      rw [hst] at h1 h2
      obtain ⟨rfl, j1, j2, j3⟩ := h1
      obtain ⟨rfl, k1, k2⟩ := h2
      refine ⟨rfl, ?_⟩
      have eO : ∀ r, ¬ (20 ≤ r ∧ r ≤ 38) → ¬ r = 12 → ¬ (53 ≤ r ∧ r ≤ 54) → ¬ (63 ≤ r ∧ r ≤ 66) → im2 r = m r := fun r q1 q2 q3 q4 => (hr2 r q3 q4).trans (hr r q1 q2)
      have e12 : im2 12 = im1 12 := hr2 12 (by decide) (by decide)
      have hok := sr_okC (m := m) (M := mbs m s (nfl m)) (mbs m s (nfl m)) [] (ly0 m s (nfl m)) 0 [] none rfl rfl (fun k hk => by cases hk) (fun q hq => by cases hq) q hst
      refine h.g1 (fun r q1 q2 q3 q4 q5 q6 => eO r q4 (by omega) (by omega) (by omega)) (fun j _ _ => by rw [eO 43 (by decide) (by decide) (by decide) (by decide)]) (by rw [eO 0 (by decide) (by decide) (by decide) (by decide), eO 43 (by decide) (by decide) (by decide) (by decide)]; exact h.2.2.2.2.1) (by rw [eO 0 (by decide) (by decide) (by decide) (by decide)]) (h.1.ofW (fun r q => eO r (by omega) (by omega) (by omega) (by omega)) (by rw [eO 43 (by decide) (by decide) (by decide) (by decide)]) (by rw [eO 43 (by decide) (by decide) (by decide) (by decide)]) (by rw [eO 43 (by decide) (by decide) (by decide) (by decide)]) (fun f j q1 q2 => by rw [e12]; exact j1 f j q1 q2) (fun f hf => ?_))
      by_cases hm : f ∈ mbs m s (nfl m)
      · obtain ⟨k, hk, e⟩ := List.mem_iff_getElem.mp hm
        have eg : (mbs m s (nfl m)).getD k 0 = f := by rw [List.getD_eq_getElem?_getD, List.getElem?_eq_getElem hk, Option.getD_some, e]
        have hc := hok.2 k hk
        obtain ⟨p1, p2⟩ := j3 k hk
        obtain ⟨p3, p4, -⟩ := k1 k hk
        rw [eg] at hc p1 p2 p3 p4
        rw [e12]
        exact ⟨q.2.getD k 0 / 5, q.2.getD k 0 % 5, by omega, by omega, p3, p4, p1, p2⟩
      · obtain ⟨p3, p4⟩ := k2 f hm
        rw [e12, j2 f hm, p3, p4, hr 53 (by decide) (by decide), hr 54 (by decide) (by decide)]
        exact h.1.now hf
  · refine ⟨_, C_X12_settle _ _ _ h.1.1 RM.refl h.2.2.2.2.2.2 a, ?_⟩
    rintro v2 im2 lv2 ⟨⟨s', q1, q2, -⟩ | ⟨-, rfl, rfl⟩, rfl⟩
    · exact absurd ⟨s', q1, q2⟩ hn
    · exact ⟨rfl, h⟩
theorem byt_le (y : Int64) (k : Nat) : ∃ b, b ≤ 255 ∧ byt y k = nI b := by
  unfold byt
  generalize y >>> (Int32.toInt64 (8 * nI k) &&& 63) = z
  refine ⟨z.toBitVec.toNat % 256, by have := Nat.mod_lt z.toBitVec.toNat (show 0 < 256 by decide); omega, ?_⟩
  have e : z &&& (255 : Int64) = lN (z.toBitVec.toNat % 256) := by
    apply Int64.toBitVec_inj.mp
    apply BitVec.eq_of_toNat_eq
    rw [Int64.toBitVec_and, BitVec.toNat_and]
    have h255 : (255 : Int64).toBitVec.toNat = 2 ^ 8 - 1 := by decide
    rw [h255, Nat.and_two_pow_sub_one_eq_mod]
    show z.toBitVec.toNat % 256 = (BitVec.ofNat 64 (z.toBitVec.toNat % 256)).toNat
    have hz := Nat.mod_lt z.toBitVec.toNat (show 0 < 256 by decide)
    rw [BitVec.toNat_ofNat]
    exact (Nat.mod_eq_of_lt (show z.toBitVec.toNat % 256 < 2 ^ 64 by omega)).symm
  rw [e, lN_i]
theorem fdC_r {y : Int64} {r : Nat} (h1 : ¬ r = 16) (h2 : ¬ r = 17) : ∀ n L (im : zMem), fdC y n L im r = im r
  | 0, _, _ => rfl
  | n + 1, L, im => by rw [fdC, fdC_r h1 h2 n, zwr_r h1, zwr_r h2]
theorem fdC_n {y : Int64} : ∀ n L (im : zMem), im 16 0 1 = nI L → fdC y n L im 16 0 1 = nI (L + n)
  | 0, _, _, h => h
  | n + 1, L, im, h => by rw [fdC, fdC_n n (L + 1) _ zwr_eq, Nat.add_assoc, Nat.add_comm 1 n]
theorem fdC_17 {y : Int64} : ∀ n L (im : zMem) k, fdC y n L im 17 0 k = if L ≤ k ∧ k < L + n then byt y (n - 1 - (k - L)) else im 17 0 k
  | 0, L, im, k => by rw [if_neg (by omega)]; rfl
  | n + 1, L, im, k => by
    rw [fdC, fdC_17 n (L + 1), zwr_r (by decide), zwr_app]
    by_cases hk : k = L
    · subst hk
      rw [if_neg (by omega), if_pos ⟨rfl, rfl, rfl⟩, if_pos (by omega)]
      congr 1
      omega
    · rw [if_neg (c := 17 = 17 ∧ 0 = 0 ∧ k = L) (fun z => hk z.2.2)]
      by_cases hk2 : L + 1 ≤ k ∧ k < L + 1 + n
      · rw [if_pos hk2, if_pos (by omega)]
        congr 1
        omega
      · rw [if_neg hk2, if_neg (by omega)]
theorem fdM_r {y : Int64} {r : Nat} (h1 : ¬ r = 43) (h2 : ¬ r = 55) : ∀ n L (im : zMem), fdM y n L im r = im r
  | 0, _, _ => rfl
  | n + 1, L, im => by rw [fdM, fdM_r h1 h2 n, zwr_r h1, zwr_r h2]
theorem fdM_43 {y : Int64} {j : Nat} (h1 : ¬ j = 17) : ∀ n L (im : zMem), fdM y n L im 43 0 j = im 43 0 j
  | 0, _, _ => rfl
  | n + 1, L, im => by rw [fdM, fdM_43 h1 n, zwr_k h1, zwr_r (by decide)]
theorem fdM_n {y : Int64} : ∀ n L (im : zMem), im 43 0 17 = nI L → fdM y n L im 43 0 17 = nI (L + n)
  | 0, _, _, h => h
  | n + 1, L, im, h => by rw [fdM, fdM_n n (L + 1) _ zwr_eq, Nat.add_assoc, Nat.add_comm 1 n]
theorem fdM_55 {y : Int64} : ∀ n L (im : zMem) k, fdM y n L im 55 0 k = if L ≤ k ∧ k < L + n then byt y (n - 1 - (k - L)) else im 55 0 k
  | 0, L, im, k => by rw [if_neg (by omega)]; rfl
  | n + 1, L, im, k => by
    rw [fdM, fdM_55 n (L + 1), zwr_r (by decide), zwr_app]
    by_cases hk : k = L
    · subst hk
      rw [if_neg (by omega), if_pos ⟨rfl, rfl, rfl⟩, if_pos (by omega)]
      congr 1
      omega
    · rw [if_neg (c := 55 = 55 ∧ 0 = 0 ∧ k = L) (fun z => hk z.2.2)]
      by_cases hk2 : L + 1 ≤ k ∧ k < L + 1 + n
      · rw [if_pos hk2, if_pos (by omega)]
        congr 1
        omega
      · rw [if_neg hk2, if_neg (by omega)]
theorem J_feed {l : Launch} {w : zWd} {m : zMem} {lv : Int64} (h : INV m) (y : Int64) (a : Int32) : JS l w 3 zyX11_feed [vR 0 0, vL y, vI a] 3 zyX12_feed [vR 43 0, vL y, vI a] m lv := by
  obtain ⟨⟨t1, t2⟩, d1, d2⟩ := h.2.2.1
  refine ⟨_, C_X11_feed _ _ _ d1 t1.2 y a, ?_⟩
  rintro v1 im1 lv1 ⟨h1, rfl⟩
  rcases h1 with ⟨n, n1, n8, rfl, h1⟩ | ⟨hn, rfl, rfl⟩
  · have hcl : ∀ r, ¬ r = 16 → ¬ r = 17 → im1 r = m r := by
      rcases h1 with ⟨-, -, rfl⟩ | ⟨-, -, rfl⟩
      · exact fun _ _ _ => rfl
      · exact fun r q1 q2 => fdC_r q1 q2 n _ m
    have e43 := hcl 43 (by decide) (by decide)
    refine ⟨_, C_X12_feed _ _ _ (by rw [e43]; exact h.2.2.2.2.2.2) (L := tn m) (by rw [e43]; exact t1.1) t1.2 y _, ?_⟩
    rintro v2 im2 lv2 ⟨⟨n', g1, g8, en, h2⟩ | ⟨hn, -⟩, rfl⟩
    rotate_left
    · exact absurd ⟨n, n1, n8, rfl⟩ hn
    rw [nI_eq (by omega) (by omega)] at en
    subst en
    rcases h1 with ⟨c1, rfl, rfl⟩ | ⟨c1, rfl, rfl⟩
    · rcases h2 with ⟨-, rfl, rfl⟩ | ⟨c2, -⟩
      · exact ⟨rfl, h⟩
      · omega
    · rcases h2 with ⟨c2, -⟩ | ⟨-, rfl, rfl⟩
      · omega
      · refine ⟨rfl, ?_⟩
        have eO : ∀ r, ¬ r = 16 → ¬ r = 17 → ¬ r = 43 → ¬ r = 55 → (fdM y n (tn m) (fdC y n (tn m) m)) r = m r := fun r q1 q2 q3 q4 => by rw [fdM_r q3 q4, fdC_r q1 q2]
        have e43 : ∀ j, ¬ j = 17 → (fdM y n (tn m) (fdC y n (tn m) m)) 43 0 j = m 43 0 j := fun j hj => by rw [fdM_43 hj, fdC_r (by decide) (by decide)]
        have e17 : (fdM y n (tn m) (fdC y n (tn m) m)) 43 0 17 = nI (tn m + n) := fdM_n n _ _ (by rw [fdC_r (by decide) (by decide)]; exact t1.1)
        have e55 : ∀ k, (fdM y n (tn m) (fdC y n (tn m) m)) 55 0 k = if tn m ≤ k ∧ k < tn m + n then byt y (n - 1 - (k - tn m)) else m 55 0 k := fun k => by rw [fdM_55, fdC_r (by decide) (by decide)]
        have f17 : ∀ k, (fdM y n (tn m) (fdC y n (tn m) m)) 17 0 k = if tn m ≤ k ∧ k < tn m + n then byt y (n - 1 - (k - tn m)) else m 17 0 k := fun k => by rw [fdM_r (by decide) (by decide), fdC_17]
        have f16 : (fdM y n (tn m) (fdC y n (tn m) m)) 16 0 1 = nI (tn m + n) := by rw [fdM_r (by decide) (by decide)]; exact fdC_n n _ _ d1
        have etn : tn (fdM y n (tn m) (fdC y n (tn m) m)) = tn m + n := by
          show cN _ = _
          rw [e17, cNn (by omega)]
        have hbyte : ∀ k, k < tn m + n → ∃ b, b ≤ 255 ∧ (fdM y n (tn m) (fdC y n (tn m) m)) 55 0 k = nI b ∧ (fdM y n (tn m) (fdC y n (tn m) m)) 17 0 k = nI b := fun k hk => by
          rw [e55, f17]
          by_cases hk2 : tn m ≤ k ∧ k < tn m + n
          · rw [if_pos hk2, if_pos hk2]
            obtain ⟨b, b1, b2⟩ := byt_le y (n - 1 - (k - tn m))
            exact ⟨b, b1, b2, b2⟩
          · rw [if_neg hk2, if_neg hk2]
            obtain ⟨b1, b2⟩ := t2 k (by omega)
            exact ⟨_, b2, b1, d2 k (by omega)⟩
        obtain ⟨g1', g2', g3', g4', g5'⟩ := h
        generalize fdM y n (tn m) (fdC y n (tn m) m) = M at *
        refine ⟨g1'.fr (fun r q => eO r (by omega) (by omega) (by omega) (by omega)) (e43 7 (by decide)) (e43 8 (by decide)) (e43 10 (by decide)), g2'.fr (fun r q => eO r (by omega) (by omega) q.2 (by omega)), ⟨⟨⟨by rw [etn]; exact e17, by rw [etn]; exact c1⟩, fun k hk => ?_⟩, by rw [etn]; exact f16, fun k hk => ?_⟩, g4'.fr (e43 41 (by decide)) (by rw [eO 39 (by decide) (by decide) (by decide) (by decide)]) (eO 40 (by decide) (by decide) (by decide) (by decide)) (eO 67 (by decide) (by decide) (by decide) (by decide)), g5'.fr (eO 0 (by decide) (by decide) (by decide) (by decide)) (e43 1 (by decide)) (e43 18 (by decide)) (e43 0 (by decide))⟩
        · rw [etn] at hk
          obtain ⟨b, b1, b2, -⟩ := hbyte k hk
          unfold tb
          rw [b2, cNn (by omega)]
          exact ⟨rfl, b1⟩
        · rw [etn] at hk
          obtain ⟨b, b1, b2, b3⟩ := hbyte k hk
          unfold tb
          rw [b2, b3, cNn (by omega)]
  · refine ⟨_, C_X12_feed _ _ _ h.2.2.2.2.2.2 t1.1 t1.2 y a, ?_⟩
    rintro v2 im2 lv2 ⟨⟨n', q1, q2, q3, -⟩ | ⟨-, rfl, rfl⟩, rfl⟩
    · exact absurd ⟨n', q1, q2, q3⟩ hn
    · exact ⟨rfl, h⟩
