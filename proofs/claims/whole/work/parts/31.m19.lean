def Sfl (nf : Nat) : Nat → Nat → Nat → Prop := fun r _ k => (r = 43 ∧ 20 ≤ k ∧ k ≤ 26) ∨ (r = 50 ∧ 5 * nf ≤ k ∧ k < 5 * nf + 5) ∨ ((r = 51 ∨ r = 52) ∧ 15 * nf ≤ k ∧ k < 15 * nf + 15) ∨ ((r = 53 ∨ r = 54) ∧ k = nf)
def wyR (im : zMem) (nf : Nat) (g : List (List (Nat × Nat))) : Prop := ∀ w k, w < 3 → k < 5 → (k < (g.getD w []).length → im 51 0 (15 * nf + 5 * w + k) = nI ((g.getD w []).getD k (0, 0)).1 ∧ im 52 0 (15 * nf + 5 * w + k) = nI ((g.getD w []).getD k (0, 0)).2) ∧ ((g.getD w []).length ≤ k → im 52 0 (15 * nf + 5 * w + k) = 0)
def flR (im : zMem) (f : Nat) (d : zFl) : Prop := (im 50 0 (5 * f) = nI d.1.1 ∧ im 50 0 (5 * f + 1) = nI d.1.2.1 ∧ im 50 0 (5 * f + 2) = nI d.1.2.2.1 ∧ im 50 0 (5 * f + 3) = nI d.1.2.2.2 ∧ im 50 0 (5 * f + 4) = nI d.2.length) ∧ (im 53 0 f = 0 ∧ im 54 0 f = 0) ∧ wyR im f d.2
theorem gW_l {l k : List (List (Nat × Nat))} {i : Nat} (h : i < l.length) : (l ++ k).getD i [] = l.getD i [] := by
  rw [List.getD_eq_getElem?_getD, List.getD_eq_getElem?_getD, List.getElem?_append_left h]
theorem gW_m {l k : List (List (Nat × Nat))} {a : List (Nat × Nat)} : (l ++ a :: k).getD l.length [] = a := by
  rw [List.getD_eq_getElem?_getD, List.getElem?_append_right (Nat.le_refl _), Nat.sub_self]
  rfl
theorem gW_o {l : List (List (Nat × Nat))} {i : Nat} (h : l.length ≤ i) : l.getD i [] = [] := by
  rw [List.getD_eq_getElem?_getD, List.getElem?_eq_none h]
  rfl
theorem w64 {a b : Nat} (ha : a < 2 ^ 63) (hb : b < 2 ^ 63) : lg_cmp (Int64.ofNat a) (Int64.ofNat b) = 0 ↔ a = b := by
  rw [lg_eq]
  constructor
  · intro h
    have := congrArg Int64.toInt h
    rw [Int64.toInt_ofNat_of_lt ha, Int64.toInt_ofNat_of_lt hb] at this
    omega
  · intro h; rw [h]
theorem wd_lt {m : zMem} (hT : WT m) {a : Nat} (ha : a ≤ tn m) : wd m a < 2 ^ 48 := by
  unfold wd
  split
  · rename_i h
    have hle := te_le ha
    have hge := te_ge m a
    have h1 := wvP_lt (fun j hj => (hT.2 j hj).2) (te m a - a) a 0 (by omega)
    have h2 : 256 ^ (te m a - a) ≤ 256 ^ 6 := Nat.pow_le_pow_right (by decide) (kd_1.mp h).2.2
    omega
  · decide
/-- from the head of the ways on -/
def fwR (m im im' : zMem) (nf : Nat) (Q : (Nat × Nat) × List (List (Nat × Nat))) : Prop := Fr (Sfl nf) im im' ∧ (∀ k, 5 * nf ≤ k → k < 5 * nf + 4 → im' 50 0 k = im 50 0 k) ∧ RS m im' Q.1 ∧ im' 43 0 26 = nI (nf + 1) ∧ (Q.1.2 = 0 → im' 50 0 (5 * nf + 4) = nI Q.2.length ∧ (im' 53 0 nf = 0 ∧ im' 54 0 nf = 0) ∧ wyR im' nf Q.2)
theorem rf_95 {x : zX} {w : zWd} {m im : zMem} {lv : Int64} {P : zMem → Int64 → Prop} (hO : zOK x w zyX12_readFlight 7) (hR : zRetV x w zyX12_readFlight P) (hN : zN x 126 126) (hT : WT m) {nf : Nat} (hnf : nf < 12) {s : Nat × Nat} (hS : RS m im s) (h26 : im 43 0 26 = nI nf) (h52 : wyR im nf []) (Q : (Nat × Nat) × List (List (Nat × Nat))) (hQ : Q = if s.2 = 0 then (if wd m s.1 = wWy then wyS m 3 s.1 else ((s.1, 1), [])) else (s, [])) (out : ∀ im', fwR m im im' nf Q → P im' lv) : zW x w 95 [(0, vR 43 0), (1, vI (nI (5 * nf))), (2, vI 0)] [] im lv := by
  have f0 : ∀ {im' : zMem} {s : Nat × Nat}, RS m im' s → (im' 43 0 24 = 0 ↔ s.2 = 0) := fun {im' s} h => by
    have h1 : im' 43 0 24 = nI s.2 := h.2.2.1
    have h2 : s.2 ≤ 4 := h.2.2.2.2.2
    rw [h1]; exact nI_eq (b := 0) (by omega) (by decide)
  have i4 : nI (5 * nf) + 4 = nI (5 * nf + 4) := nI_add _ 4
  have ci4 : Int32.toNatClampNeg (nI (5 * nf + 4)) = 5 * nf + 4 := nI_clamp (by omega)
  have cnf : Int32.toNatClampNeg (nI nf) = nf := nI_clamp (by omega)
  have v4 : vp_in (nI (5 * nf + 4)) 60 := vp_in_nI (by omega) (by decide)
  have vn : vp_in (nI nf) 12 := vp_in_nI (by omega) (by decide)
  have hw : ∀ {a : Nat}, a ≤ tn m → (lg_cmp (Int64.ofNat (wd m a)) (7823737 : Int64) = 0 ↔ wd m a = wWy) := fun ha => w64 (b := 7823737) (by have := wd_lt hT ha; omega) (by decide)
  -- what is kept
  let I : zMem → Prop := fun im1 => Fr (Sfl nf) im im1 ∧ (∀ k, 5 * nf ≤ k → k < 5 * nf + 4 → im1 50 0 k = im 50 0 k) ∧ im1 43 0 26 = nI nf
  have I0 : I im := ⟨Fr.refl, fun _ _ _ => rfl, h26⟩
  have If : ∀ {a b : zMem}, I a → f43 20 25 a b → I b := fun h1 h2 => ⟨h1.1.trans (Fr.mono h2 (fun r i k z => Or.inl (by omega))), fun k g1 g2 => (zck h2 (by decide)).trans (h1.2.1 k g1 g2), (h2 43 0 26 (by omega)).trans h1.2.2⟩
  -- the last row
  have last : ∀ (im1 : zMem) (n : Nat) (s : Nat × Nat), I im1 → RS m im1 s → Q.1 = s → (s.2 = 0 → Q.2.length = n ∧ wyR im1 nf Q.2) → P (zwr (zwr (zwr (zwr im1 50 0 (5 * nf + 4) (nI n)) 53 0 nf 0) 54 0 nf 0) 43 0 26 (nI (nf + 1))) lv := by
    intro im1 n s h1 h2 h3 h4
    refine out _ ⟨(((h1.1.wr (Or.inr (Or.inl ⟨rfl, by omega, by omega⟩))).wr (Or.inr (Or.inr (Or.inr ⟨Or.inl rfl, rfl⟩)))).wr (Or.inr (Or.inr (Or.inr ⟨Or.inr rfl, rfl⟩)))).wr (Or.inl ⟨rfl, by omega, by omega⟩), fun k g1 g2 => ?_, ?_, zwr_eq, fun z => ?_⟩
    · rw [zwr_r (by decide), zwr_r (by decide), zwr_r (by decide), zwr_k (by omega)]
      exact h1.2.1 k g1 g2
    · rw [h3]
      exact (((h2.wr (by decide) (by omega)).wr (by decide) (by omega)).wr (by decide) (by omega)).wr (by decide) (by omega)
    · obtain ⟨h5, h6⟩ := h4 (by rw [← h3]; exact z)
      refine ⟨?_, ⟨?_, ?_⟩, ?_⟩
      · rw [zwr_r (by decide), zwr_r (by decide), zwr_r (by decide), zwr_eq, h5]
      · rw [zwr_r (by decide), zwr_r (by decide), zwr_eq]
      · rw [zwr_r (by decide), zwr_eq]
      · unfold wyR
        rw [zwr_r (r' := 51) (by decide), zwr_r (r' := 51) (by decide), zwr_r (r' := 51) (by decide), zwr_r (r' := 51) (by decide), zwr_r (r' := 52) (by decide), zwr_r (r' := 52) (by decide), zwr_r (r' := 52) (by decide), zwr_r (r' := 52) (by decide)]
        exact h6
  -- the head, where no way follows
  have endW : ∀ (im1 : zMem) (n : Nat) (s : Nat × Nat), n < 1000 → I im1 → RS m im1 s → (¬ s.2 = 0 ∨ (¬ n = 0 ∧ ¬ wd m s.1 = wWy)) → Q.1 = s → (s.2 = 0 → Q.2.length = n ∧ wyR im1 nf Q.2) → zW x w 95 [(0, vR 43 0), (1, vI (nI (5 * nf))), (2, vI (nI n))] [] im1 lv := by
    intro im1 n s hn h1 h2 h3 h4 h5
    have hl := last im1 n s h1 h2 h4 h5
    refine rX12_readFlight_95 hO hR hN ?_
    have en : nI n = 0 ↔ n = 0 := nI_eq (b := 0) (by omega) (by decide)
    rw [f0 h2, i4, ci4, h1.2.2, cnf, nI_1, en]
    refine ⟨fun z => ⟨v4, vn, hl⟩, fun z => ⟨fun y => ?_, fun y => ?_⟩⟩
    · rcases h3 with h3 | h3
      · exact absurd z h3
      · exact absurd y h3.1
    · have hnw : ¬ wd m s.1 = wWy := by
        rcases h3 with h3 | h3
        · exact absurd z h3
        · exact h3.2
      refine ⟨_, C_X12_word _ _ _ hT h2, ?_⟩
      rintro _ im2 lv2 ⟨rfl, rfl, rfl⟩
      rw [hw h2.2.2.2.2.1, h1.2.2, cnf, nI_1]
      exact ⟨fun _ => ⟨v4, vn, hl⟩, fun z => absurd z hnw⟩
  -- one way
  have go : ∀ (im1 : zMem) (n a : Nat), n < 3 → I im1 → RS m im1 (a, 0) → (∀ im2, I im2 → RS m im2 (lgS m 5 (nx m a)).1 → Fr (Swy (15 * nf + 5 * n)) im1 im2 → ((lgS m 5 (nx m a)).1.2 = 0 → lgR im1 im2 (15 * nf + 5 * n) (lgS m 5 (nx m a)).2) → zW x w 95 [(0, vR 43 0), (1, vI (nI (5 * nf))), (2, vI (nI (n + 1)))] [] im2 lv) → (∃ P6 : zMem → Int64 → Prop, zSpecV x.2.1 w 4 zyX12_need [vR 43 0, vI 1] im1 lv P6 ∧ ∀ (im6 : zMem) (lv6 : Int64), P6 im6 lv6 → (∃ P7 : zMem → Int64 → Prop, zSpecV x.2.1 w 6 zyX12_readWay [vR 43 0, vI (nI n)] im6 lv6 P7 ∧ ∀ (im7 : zMem) (lv7 : Int64), P7 im7 lv7 → zW x w 95 [(0, vR 43 0), (1, vI (nI (5 * nf))), (2, vI (nI n + 1))] [] im7 lv7)) := by
    intro im1 n a hn h1 h2 cont
    refine ⟨_, C_X12_need _ _ _ hT h2 True (by simp), ?_⟩
    rintro im2 lv2 ⟨⟨g1, g2⟩, rfl⟩
    have hd : ndS m True (a, 0) = (nx m a, 0) := by unfold ndS; rw [if_pos rfl, if_pos trivial]
    rw [hd] at g2
    have h1' := If h1 g1
    refine ⟨_, C_X12_readWay _ _ _ hT g2 hnf hn h1'.2.2, ?_⟩
    rintro im3 lv3 ⟨h, rfl⟩
    rcases h with ⟨h, -⟩ | ⟨-, k1, k2, k3⟩
    · exact absurd rfl h
    rw [nI_1]
    have e51 : im2 51 = im1 51 := Fr.row g1 (fun i k z => absurd z.1 (by decide))
    have e52 : im2 52 = im1 52 := Fr.row g1 (fun i k z => absurd z.1 (by decide))
    refine cont im3 ⟨h1'.1.trans (Fr.mono k1 (fun r i k z => ?_)), fun k y1 y2 => ?_, ?_⟩ k2 ?_ (fun z => ?_)
    · unfold Swy at z
      unfold Sfl
      omega
    · rw [k1 50 0 k (by unfold Swy; omega)]; exact h1'.2.1 k y1 y2
    · rw [k1 43 0 26 (by unfold Swy; omega)]; exact h1'.2.2
    · exact (Fr.mono g1 (fun r i k z => Or.inl z)).trans k1
    · have := k3 z
      unfold lgR at this ⊢
      rw [e52] at this
      exact this
  -- the rows behind one way
  have rows : ∀ (im1 im2 : zMem) (pf : List (List (Nat × Nat))) (g : List (Nat × Nat)), pf.length < 3 → wyR im1 nf pf → Fr (Swy (15 * nf + 5 * pf.length)) im1 im2 → lgR im1 im2 (15 * nf + 5 * pf.length) g → wyR im2 nf (pf ++ [g]) := by
    intro im1 im2 pf g hl h1 h2 h3 y k hy hk
    by_cases hyl : y = pf.length
    · subst hyl
      rw [gW_m]
      refine ⟨fun z => h3.1 k z, fun z => ?_⟩
      rw [h3.2 k z hk]
      exact (h1 pf.length k hy hk).2 (by rw [gW_o (Nat.le_refl _)]; exact Nat.zero_le _)
    · have e : (pf ++ [g]).getD y [] = pf.getD y [] := by
        by_cases hlt : y < pf.length
        · exact gW_l hlt
        · rw [gW_o (by rw [List.length_append, List.length_singleton]; omega), gW_o (by omega)]
      rw [e, h2 51 0 _ (by unfold Swy; omega), h2 52 0 _ (by unfold Swy; omega)]
      exact h1 y k hy hk
  have body : ∀ k a (im1 : zMem) (pf : List (List (Nat × Nat))), pf.length + (k + 1) = 3 → I im1 → RS m im1 (a, 0) → wd m a = wWy → Q = ((wyS m (k + 1) a).1, pf ++ (wyS m (k + 1) a).2) → wyR im1 nf pf →
      (∀ a' g (im2 : zMem), ¬ k = 0 → I im2 → RS m im2 (a', 0) → wd m a' = wWy → Q = ((wyS m k a').1, (pf ++ [g]) ++ (wyS m k a').2) → wyR im2 nf (pf ++ [g]) → zW x w 95 [(0, vR 43 0), (1, vI (nI (5 * nf))), (2, vI (nI (pf.length + 1)))] [] im2 lv) → zW x w 95 [(0, vR 43 0), (1, vI (nI (5 * nf))), (2, vI (nI pf.length))] [] im1 lv := by
    intro k a im1 pf hn h1 h2 hwa hq hr cont
    have hgo := go im1 pf.length a (by omega) h1 h2 (fun im2 k1 k2 k3 k4 => ?_)
    · refine rX12_readFlight_95 hO hR hN ?_
      have en : nI pf.length = 0 ↔ pf.length = 0 := nI_eq (b := 0) (by omega) (by decide)
      have en3 : nI pf.length = 3 ↔ pf.length = 3 := nI_eq (b := 3) (by omega) (by decide)
      rw [f0 h2, en, en3]
      refine ⟨fun z => absurd rfl z, fun _ => ⟨fun z => ?_, fun z => ?_⟩⟩
      · refine ⟨_, C_X12_word _ _ _ hT h2, ?_⟩
        rintro _ im2 lv2 ⟨rfl, rfl, rfl⟩
        rw [hw h2.2.2.2.2.1]
        exact ⟨fun y => absurd hwa y, fun _ => hgo⟩
      · refine ⟨_, C_X12_word _ _ _ hT h2, ?_⟩
        rintro _ im2 lv2 ⟨rfl, rfl, rfl⟩
        rw [hw h2.2.2.2.2.1]
        refine ⟨fun y => absurd hwa y, fun _ => ⟨fun _ => ⟨_, C_X12_word _ _ _ hT h2, ?_⟩, fun y => by omega⟩⟩
        rintro _ im3 lv3 ⟨rfl, rfl, rfl⟩
        rw [hw h2.2.2.2.2.1]
        exact ⟨fun y => absurd hwa y, fun _ => hgo⟩
    · generalize hL : lgS m 5 (nx m a) = L at *
      have hwy : wyS m (k + 1) a = if L.1.2 = 0 ∧ wd m L.1.1 = wWy then (if k = 0 then ((L.1.1, 3), [L.2]) else ((wyS m k L.1.1).1, L.2 :: (wyS m k L.1.1).2)) else (L.1, [L.2]) := by
        rw [wyS, hL]
      by_cases hc : L.1.2 = 0 ∧ wd m L.1.1 = wWy
      · have hr2 := rows im1 im2 pf L.2 (by omega) hr k3 (k4 hc.1)
        have k2' : RS m im2 (L.1.1, 0) := by
          have : L.1 = (L.1.1, 0) := by rw [← hc.1]
          rw [← this]; exact k2
        by_cases hk : k = 0
        · -- a fourth way: too long
          have hq' : Q = ((L.1.1, 3), pf ++ [L.2]) := by rw [hq, hwy, if_pos hc, if_pos hk]
          refine rX12_readFlight_95 hO hR hN ?_
          have en : nI (pf.length + 1) = 0 ↔ pf.length + 1 = 0 := nI_eq (b := 0) (by omega) (by decide)
          have en3 : nI (pf.length + 1) = 3 ↔ pf.length + 1 = 3 := nI_eq (b := 3) (by omega) (by decide)
          rw [f0 k2', en, en3]
          refine ⟨fun z => absurd rfl z, fun _ => ⟨fun z => by omega, fun _ => ⟨_, C_X12_word _ _ _ hT k2', ?_⟩⟩⟩
          rintro _ im3 lv3 ⟨rfl, rfl, rfl⟩
          rw [hw k2'.2.2.2.2.1]
          refine ⟨fun y => absurd hc.2 y, fun _ => ⟨fun y => by omega, fun _ => ⟨_, C_X12_bad _ _ _ k2' (k := 3) (by decide) (by decide) rfl, ?_⟩⟩⟩
          rintro im4 lv4 ⟨⟨d1, d2⟩, rfl⟩
          have d2 : RS m im4 (L.1.1, 3) := d2
          exact endW im4 (pf.length + 1) (L.1.1, 3) (by omega) (If k1 d1) d2 (Or.inl (by simp)) (by rw [hq']) (fun z => absurd z (by simp))
        · refine cont L.1.1 L.2 im2 hk k1 k2' hc.2 ?_ hr2
          rw [hq, hwy, if_pos hc, if_neg hk, List.append_assoc]
          rfl
      · have hq' : Q = (L.1, pf ++ [L.2]) := by rw [hq, hwy, if_neg hc]
        refine endW im2 (pf.length + 1) L.1 (by omega) k1 k2 ?_ (by rw [hq']) (fun z => ⟨?_, ?_⟩)
        · by_cases z : L.1.2 = 0
          · exact Or.inr ⟨by omega, fun y => hc ⟨z, y⟩⟩
          · exact Or.inl z
        · rw [hq', List.length_append]; rfl
        · rw [hq']
          exact rows im1 im2 pf L.2 (by omega) hr k3 (k4 z)
  have key : ∀ k a (im1 : zMem) (pf : List (List (Nat × Nat))), pf.length + (k + 1) = 3 → I im1 → RS m im1 (a, 0) → wd m a = wWy → Q = ((wyS m (k + 1) a).1, pf ++ (wyS m (k + 1) a).2) → wyR im1 nf pf → zW x w 95 [(0, vR 43 0), (1, vI (nI (5 * nf))), (2, vI (nI pf.length))] [] im1 lv := by
    intro k
    induction k with
    | zero =>
      intro a im1 pf hn h1 h2 h3 h4 h5
      exact body 0 a im1 pf hn h1 h2 h3 h4 h5 (fun _ _ _ z => absurd rfl z)
    | succ k ih =>
      intro a im1 pf hn h1 h2 h3 h4 h5
      refine body (k + 1) a im1 pf hn h1 h2 h3 h4 h5 (fun a' g im2 _ c1 c2 c3 c4 c5 => ?_)
      have hl : (pf ++ [g]).length = pf.length + 1 := by rw [List.length_append]; rfl
      have := ih a' im2 (pf ++ [g]) (by omega) c1 c2 c3 c4 c5
      rw [hl] at this
      exact this
  -- the beginning
  by_cases hs : s.2 = 0
  rotate_left
  · rw [if_neg hs] at hQ
    exact endW im 0 s (by decide) I0 hS (Or.inl hs) (by rw [hQ]) (fun z => absurd z hs)
  rw [if_pos hs] at hQ
  have es : s = (s.1, 0) := by rw [← hs]
  rw [es] at hS
  by_cases hwa : wd m s.1 = wWy
  · rw [if_pos hwa] at hQ
    exact key 2 s.1 im [] rfl I0 hS hwa (by rw [hQ]; rfl) h52
  · rw [if_neg hwa] at hQ
    refine rX12_readFlight_95 hO hR hN ?_
    rw [f0 hS]
    refine ⟨fun z => absurd rfl z, fun _ => ⟨fun _ => ⟨_, C_X12_word _ _ _ hT hS, ?_⟩, fun z => absurd rfl z⟩⟩
    rintro _ im2 lv2 ⟨rfl, rfl, rfl⟩
    rw [hw hS.2.2.2.2.1]
    refine ⟨fun _ => ⟨_, C_X12_need _ _ _ hT hS False (by simp), ?_⟩, fun y => absurd y hwa⟩
    rintro im3 lv3 ⟨⟨g1, g2⟩, rfl⟩
    have hd : ndS m False (s.1, 0) = (s.1, 1) := by unfold ndS; rw [if_pos rfl, if_neg (fun z => z)]
    rw [hd] at g2
    refine ⟨_, C_X12_readWay (wy := 0) _ _ _ hT g2 hnf (by decide) (If I0 g1).2.2, ?_⟩
    rintro im4 lv4 ⟨h, rfl⟩
    rcases h with ⟨-, rfl⟩ | ⟨h, -⟩
    · exact endW im4 1 (s.1, 1) (by decide) (If I0 g1) g2 (Or.inl (by simp)) (by rw [hQ]) (fun z => absurd z (by simp))
    · exact absurd h (by simp)
theorem C_X12_readFlight (l : Launch) (w : zWd) {m im : zMem} (lv : Int64) (hT : WT m) {a nf : Nat} (hS : RS m im (a, 0)) (hnf : nf < 12) (h26 : im 43 0 26 = nI nf) : zSpecV l w 7 zyX12_readFlight [vR 43 0] im lv (fun im' lv' => (Fr (Sfl nf) im im' ∧ RS m im' (flS m a).1 ∧ im' 43 0 26 = nI (nf + 1) ∧ ((flS m a).1.2 = 0 → flR im' nf (flS m a).2)) ∧ lv' = lv) := by
  refine ze_V (by decide) (Nat.le_of_ble_eq_true rfl) (fun x hO hR hN => rX12_readFlight_0 hO hR hN ?_)
  have i0 : (5 : Int32) * nI nf = nI (5 * nf) := pk_mul 5 nf
  have i1 : nI (5 * nf) + 1 = nI (5 * nf + 1) := nI_add _ 1
  have i2 : nI (5 * nf) + 2 = nI (5 * nf + 2) := nI_add _ 2
  have i3 : nI (5 * nf) + 3 = nI (5 * nf + 3) := nI_add _ 3
  rw [h26, i0, i1, i2, i3, nI_clamp (show 5 * nf < 2 ^ 31 by omega), nI_clamp (show 5 * nf + 1 < 2 ^ 31 by omega), nI_clamp (show 5 * nf + 2 < 2 ^ 31 by omega), nI_clamp (show 5 * nf + 3 < 2 ^ 31 by omega)]
  have mo : ∀ {A B : zMem}, f43 20 25 A B → Fr (Sfl nf) A B := fun h => Fr.mono h (fun r i k z => Or.inl (by omega))
  have S50 : ∀ k, 5 * nf ≤ k → k < 5 * nf + 5 → Sfl nf 50 0 k := fun k h1 h2 => Or.inr (Or.inl ⟨rfl, h1, h2⟩)
  refine ⟨_, C_X12_numberIn _ _ _ hT hS (lo := 0) (hi := 3) (fun _ => ⟨rfl, rfl, by decide, by decide⟩), ?_⟩
  rintro v1 im1 lv1 ⟨⟨a1, b1, c1⟩, rfl⟩
  have B1 := b1.wr (r := 50) (k := 5 * nf) (v := v1) (by decide) (by omega)
  have A1 : Fr (Sfl nf) im (zwr im1 50 0 (5 * nf) v1) := (mo a1).wr (S50 _ (by omega) (by omega))
  refine ⟨vp_in_nI (by omega) (by decide), _, C_X12_numberIn _ _ _ hT B1 (lo := 1) (hi := 9) (fun _ => ⟨rfl, rfl, by decide, by decide⟩), ?_⟩
  rintro v2 im2 lv2 ⟨⟨a2, b2, c2⟩, rfl⟩
  have B2 := b2.wr (r := 50) (k := 5 * nf + 1) (v := v2) (by decide) (by omega)
  have A2 : Fr (Sfl nf) im (zwr im2 50 0 (5 * nf + 1) v2) := (A1.trans (mo a2)).wr (S50 _ (by omega) (by omega))
  refine ⟨vp_in_nI (by omega) (by decide), _, C_X12_numberIn _ _ _ hT B2 (lo := 0) (hi := 40) (fun _ => ⟨rfl, rfl, by decide, by decide⟩), ?_⟩
  rintro v3 im3 lv3 ⟨⟨a3, b3, c3⟩, rfl⟩
  have B3 := b3.wr (r := 50) (k := 5 * nf + 2) (v := v3) (by decide) (by omega)
  have A3 : Fr (Sfl nf) im (zwr im3 50 0 (5 * nf + 2) v3) := (A2.trans (mo a3)).wr (S50 _ (by omega) (by omega))
  refine ⟨vp_in_nI (by omega) (by decide), _, C_X12_numberIn _ _ _ hT B3 (lo := 0) (hi := 99) (fun _ => ⟨rfl, rfl, by decide, by decide⟩), ?_⟩
  rintro v4 im4 lv4 ⟨⟨a4, b4, c4⟩, rfl⟩
  have B4 := b4.wr (r := 50) (k := 5 * nf + 3) (v := v4) (by decide) (by omega)
  have A4 : Fr (Sfl nf) im (zwr im4 50 0 (5 * nf + 3) v4) := (A3.trans (mo a4)).wr (S50 _ (by omega) (by omega))
  refine ⟨vp_in_nI (by omega) (by decide), ?_⟩
  have q1 : flS m a = ((if (nmS m 0 99 (nmS m 0 40 (nmS m 1 9 (nmS m 0 3 (a, 0))))).2 = 0 then (if wd m (nmS m 0 99 (nmS m 0 40 (nmS m 1 9 (nmS m 0 3 (a, 0))))).1 = wWy then wyS m 3 (nmS m 0 99 (nmS m 0 40 (nmS m 1 9 (nmS m 0 3 (a, 0))))).1 else (((nmS m 0 99 (nmS m 0 40 (nmS m 1 9 (nmS m 0 3 (a, 0))))).1, 1), [])) else (nmS m 0 99 (nmS m 0 40 (nmS m 1 9 (nmS m 0 3 (a, 0)))), [])).1, ((nv m a, nv m (nmS m 0 3 (a, 0)).1, nv m (nmS m 1 9 (nmS m 0 3 (a, 0))).1, nv m (nmS m 0 40 (nmS m 1 9 (nmS m 0 3 (a, 0)))).1), (if (nmS m 0 99 (nmS m 0 40 (nmS m 1 9 (nmS m 0 3 (a, 0))))).2 = 0 then (if wd m (nmS m 0 99 (nmS m 0 40 (nmS m 1 9 (nmS m 0 3 (a, 0))))).1 = wWy then wyS m 3 (nmS m 0 99 (nmS m 0 40 (nmS m 1 9 (nmS m 0 3 (a, 0))))).1 else (((nmS m 0 99 (nmS m 0 40 (nmS m 1 9 (nmS m 0 3 (a, 0))))).1, 1), [])) else (nmS m 0 99 (nmS m 0 40 (nmS m 1 9 (nmS m 0 3 (a, 0)))), [])).2)) := rfl
  rw [q1] at hR
  generalize hs1 : nmS m 0 3 (a, 0) = s1 at *
  generalize hs2 : nmS m 1 9 s1 = s2 at *
  generalize hs3 : nmS m 0 40 s2 = s3 at *
  generalize hs4 : nmS m 0 99 s3 = s4 at *
  generalize hQ : (if s4.2 = 0 then (if wd m s4.1 = wWy then wyS m 3 s4.1 else ((s4.1, 1), [])) else (s4, [])) = Q at *
  have e26 : (zwr im4 50 0 (5 * nf + 3) v4) 43 0 26 = nI nf := by
    have k1 := a1 43 0 26 (by omega)
    have k2 := a2 43 0 26 (by omega)
    have k3 := a3 43 0 26 (by omega)
    have k4 := a4 43 0 26 (by omega)
    rw [zwr_r (by decide)] at k2 k3 k4
    rw [zwr_r (by decide), k4, k3, k2, k1, h26]
  -- the four numbers
  have nums : s4.2 = 0 → (zwr im4 50 0 (5 * nf + 3) v4) 50 0 (5 * nf) = nI (nv m a) ∧ (zwr im4 50 0 (5 * nf + 3) v4) 50 0 (5 * nf + 1) = nI (nv m s1.1) ∧ (zwr im4 50 0 (5 * nf + 3) v4) 50 0 (5 * nf + 2) = nI (nv m s2.1) ∧ (zwr im4 50 0 (5 * nf + 3) v4) 50 0 (5 * nf + 3) = nI (nv m s3.1) := by
    intro z4
    have z4' : (nmS m 0 99 s3).2 = 0 := by rw [hs4]; exact z4
    have z3 : (nmS m 0 40 s2).2 = 0 := by rw [hs3]; exact (nmS_0 z4').1
    have z2 : (nmS m 1 9 s1).2 = 0 := by rw [hs2]; exact (nmS_0 z3).1
    have z1 : (nmS m 0 3 (a, 0)).2 = 0 := by rw [hs1]; exact (nmS_0 z2).1
    rw [hs3] at z3
    rw [hs2] at z2
    rw [hs1] at z1
    have k2 : ∀ k, im2 50 0 k = (zwr im1 50 0 (5 * nf) v1) 50 0 k := fun k => zck a2 (by decide)
    have k3 : ∀ k, im3 50 0 k = (zwr im2 50 0 (5 * nf + 1) v2) 50 0 k := fun k => zck a3 (by decide)
    have k4 : ∀ k, im4 50 0 k = (zwr im3 50 0 (5 * nf + 2) v3) 50 0 k := fun k => zck a4 (by decide)
    refine ⟨?_, ?_, ?_, ?_⟩
    · rw [zwr_k (by omega), k4, zwr_k (by omega), k3, zwr_k (by omega), k2, zwr_eq]; exact c1 z1
    · rw [zwr_k (by omega), k4, zwr_k (by omega), k3, zwr_eq]; exact c2 z2
    · rw [zwr_k (by omega), k4, zwr_eq]; exact c3 z3
    · rw [zwr_eq]; exact c4 z4
  generalize zwr im4 50 0 (5 * nf + 3) v4 = imA at *
  -- the legs are cleared
  have key : ∀ n k (im5 : zMem), n + k = 15 → Fr (Sfl nf) im im5 → (∀ j, im5 50 0 j = imA 50 0 j) → RS m im5 s4 → im5 43 0 26 = nI nf → (∀ j, j < k → im5 52 0 (15 * nf + j) = 0) → zW x w 66 [(0, vR 43 0), (1, vI (nI (5 * nf))), (2, vI (nI k))] [] im5 lv4 := by
    intro n
    induction n with
    | zero =>
      intro k im5 hk g1 g2 g3 g4 g5
      have hkk : k = 15 := by omega
      subst hkk
      refine rX12_readFlight_66 hO hR hN ⟨fun _ => ?_, fun z => absurd (by decide) z⟩
      refine rf_95 hO hR hN hT hnf g3 g4 (fun y k hy hk => ⟨fun z => absurd z (by rw [gW_o (Nat.zero_le _)]; exact Nat.not_lt_zero _), fun _ => ?_⟩) Q hQ.symm (fun im' h => ?_)
      · have := g5 (5 * y + k) (by omega)
        rw [← Nat.add_assoc] at this
        exact this
      · obtain ⟨h1, h2, h3, h4, h5⟩ := h
        refine ⟨⟨g1.trans h1, h3, h4, fun z => ?_⟩, rfl⟩
        have z4 : s4.2 = 0 := by
          have hz : Q.1.2 = 0 := z
          rw [← hQ] at hz
          by_cases y : s4.2 = 0
          · exact y
          · rw [if_neg y] at hz; exact absurd hz y
        obtain ⟨n1, n2, n3, n4⟩ := nums z4
        obtain ⟨o1, o2, o3⟩ := h5 z
        refine ⟨⟨?_, ?_, ?_, ?_, o1⟩, o2, o3⟩
        · rw [h2 _ (by omega) (by omega), g2]; exact n1
        · rw [h2 _ (by omega) (by omega), g2]; exact n2
        · rw [h2 _ (by omega) (by omega), g2]; exact n3
        · rw [h2 _ (by omega) (by omega), g2]; exact n4
    | succ n ih =>
      intro k im5 hk g1 g2 g3 g4 g5
      have eI : (15 : Int32) * nI nf + nI k = nI (15 * nf + k) := by rw [show (15 : Int32) * nI nf = nI (15 * nf) from pk_mul 15 nf, nI_add]
      refine rX12_readFlight_66 hO hR hN ?_
      rw [g4, eI, nI_clamp (show 15 * nf + k < 2 ^ 31 by omega), nI_1, show (15 : Int32) = nI 15 from rfl, nI_leI (by omega) (by omega)]
      refine ⟨fun z => by omega, fun _ => ⟨vp_in_nI (by omega) (by decide), ?_⟩⟩
      refine ih (k + 1) _ (by omega) (g1.wr (Or.inr (Or.inr (Or.inl ⟨Or.inr rfl, by omega, by omega⟩)))) (fun j => by rw [zwr_r (by decide)]; exact g2 j) (g3.wr (by decide) (by omega)) (by rw [zwr_r (by decide)]; exact g4) (fun j hj => ?_)
      rw [zwr_app]
      split
      · rfl
      · exact g5 j (by omega)
  exact key 15 0 imA (by omega) A4 (fun _ => rfl) B4 e26 (fun j hj => absurd hj (Nat.not_lt_zero _))
