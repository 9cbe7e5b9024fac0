def Srd (m : zMem) : Nat → Nat → Nat → Prop := fun r _ k => (r = 43 ∧ (k = 17 ∨ (19 ≤ k ∧ k ≤ 28))) ∨ (r = 49 ∧ 5 * nst m ≤ k) ∨ (r = 50 ∧ 5 * nfl m ≤ k) ∨ ((r = 51 ∨ r = 52) ∧ 15 * nfl m ≤ k) ∨ ((r = 53 ∨ r = 54) ∧ nfl m ≤ k) ∨ r = 56 ∨ r = 57
def dF : zFl := ((0, 0, 0, 0), [])
def dS : Nat × Nat × Nat × Nat × Nat := (0, 0, 0, 0, 0)
def rowsR (m im : zMem) (q : zTx) : Prop := (∀ j, j < q.1.length → flR im (nfl m + j) (q.1.getD j dF)) ∧ (∀ j, j < q.2.1.length → smR im (nst m + j) (q.2.1.getD j dS)) ∧ ∀ j, j < q.2.2.length → im 56 0 j = nI (q.2.2.getD j (0, 0)).1 ∧ im 57 0 j = nI (q.2.2.getD j (0, 0)).2
theorem gA_l {α : Type} {d : α} {l k : List α} {i : Nat} (h : i < l.length) : (l ++ k).getD i d = l.getD i d := by
  rw [List.getD_eq_getElem?_getD, List.getD_eq_getElem?_getD, List.getElem?_append_left h]
theorem gA_m {α : Type} {d : α} {l k : List α} {a : α} : (l ++ a :: k).getD l.length d = a := by
  rw [List.getD_eq_getElem?_getD, List.getElem?_append_right (Nat.le_refl _), Nat.sub_self]
  rfl
theorem flR_fr {im im' : zMem} {f : Nat} {d : zFl} (h : flR im f d) (h50 : ∀ k, 5 * f ≤ k → k < 5 * f + 5 → im' 50 0 k = im 50 0 k) (h5 : ∀ k, 15 * f ≤ k → k < 15 * f + 15 → im' 51 0 k = im 51 0 k ∧ im' 52 0 k = im 52 0 k) (h53 : im' 53 0 f = im 53 0 f) (h54 : im' 54 0 f = im 54 0 f) : flR im' f d := by
  obtain ⟨⟨a1, a2, a3, a4, a5⟩, ⟨b1, b2⟩, c⟩ := h
  refine ⟨⟨?_, ?_, ?_, ?_, ?_⟩, ⟨h53.trans b1, h54.trans b2⟩, fun w k hw hk => ?_⟩
  · exact (h50 _ (by omega) (by omega)).trans a1
  · exact (h50 _ (by omega) (by omega)).trans a2
  · exact (h50 _ (by omega) (by omega)).trans a3
  · exact (h50 _ (by omega) (by omega)).trans a4
  · exact (h50 _ (by omega) (by omega)).trans a5
  · obtain ⟨e1, e2⟩ := h5 (15 * f + 5 * w + k) (by omega) (by omega)
    rw [e1, e2]
    exact c w k hw hk
theorem smR_fr {im im' : zMem} {k : Nat} {d : Nat × Nat × Nat × Nat × Nat} (h : smR im k d) (h49 : ∀ j, 5 * k ≤ j → j < 5 * k + 5 → im' 49 0 j = im 49 0 j) : smR im' k d := by
  obtain ⟨a1, a2, a3, a4, a5⟩ := h
  exact ⟨(h49 _ (by omega) (by omega)).trans a1, (h49 _ (by omega) (by omega)).trans a2, (h49 _ (by omega) (by omega)).trans a3, (h49 _ (by omega) (by omega)).trans a4, (h49 _ (by omega) (by omega)).trans a5⟩
theorem rowsR_fr {m im im' : zMem} {q : zTx} (h : rowsR m im q) (hr : ∀ r, (49 ≤ r ∧ r ≤ 54) ∨ r = 56 ∨ r = 57 → im' r = im r) : rowsR m im' q := by
  refine ⟨fun j hj => flR_fr (h.1 j hj) (fun k _ _ => by rw [hr 50 (by omega)]) (fun k _ _ => by rw [hr 51 (by omega), hr 52 (by omega)]; exact ⟨rfl, rfl⟩) (by rw [hr 53 (by omega)]) (by rw [hr 54 (by omega)]), fun j hj => smR_fr (h.2.1 j hj) (fun k _ _ => by rw [hr 49 (by omega)]), fun j hj => ?_⟩
  rw [hr 56 (by omega), hr 57 (by omega)]
  exact h.2.2 j hj
/-- what the reader has in hand -/
def InvR (m im : zMem) (q : zTx) (a : Nat) : Prop := (im 43 0 26 = nI (nfl m + q.1.length) ∧ im 43 0 27 = nI (nst m + q.2.1.length) ∧ im 43 0 28 = nI q.2.2.length) ∧ rowsR m im q ∧ 8 * q.2.2.length ≤ a ∧ okT' m q
theorem InvR_fr {m im im' : zMem} {q : zTx} {a a' : Nat} (h : InvR m im q a) (hf : f43 20 25 im im') (ha : a ≤ a') : InvR m im' q a' := by
  obtain ⟨⟨h1, h2, h3⟩, h4, h5, h6⟩ := h
  refine ⟨⟨(hf 43 0 26 (by omega)).trans h1, (hf 43 0 27 (by omega)).trans h2, (hf 43 0 28 (by omega)).trans h3⟩, rowsR_fr h4 (fun r hr => Fr.row hf (fun i k z => by omega)), by omega, h6⟩
def rdF (m : zMem) (v : Int32) (im' : zMem) : Prop := ¬ (txS m).1.2 = 0 ∧ (txS m).1.1 ≤ 500 ∧ (txS m).1.2 ≤ 4 ∧ v = -1000100 - nI (txS m).1.1 ∧ (∀ r i k, ¬ (Srd m r i k ∨ (r = 43 ∧ k = 18)) → im' r i k = m r i k) ∧ im' 43 0 17 = 0 ∧ im' 43 0 18 = nI (txS m).1.2
def rdE (m : zMem) (v : Int32) (im' : zMem) : Prop := (txS m).1.2 = 0 ∧ v = nI (nfl m + (txS m).2.1.length) ∧ (∀ r i k, ¬ (Srd m r i k ∨ (r = 43 ∧ (k = 8 ∨ k = 10)) ∨ r = 47) → im' r i k = m r i k) ∧ im' 43 0 17 = 0 ∧ im' 43 0 10 = nI (nfl m + (txS m).2.1.length) ∧ im' 43 0 8 = nI (nst m + (txS m).2.2.1.length) ∧ (∀ j, j < (txS m).2.1.length → flR im' (nfl m + j) ((txS m).2.1.getD j dF)) ∧ (∀ j, j < (txS m).2.2.1.length → smR im' (nst m + j) ((txS m).2.2.1.getD j dS)) ∧ ∀ k, k < 384 → im' 47 0 k = bsR m (txS m).2.2.2 k
theorem mSrd {m im : zMem} (h : Fr (Srd m) m im) {im' : zMem} (hf : f43 20 25 im im') : Fr (Srd m) m im' := h.trans (Fr.mono hf (fun r i k z => Or.inl ⟨z.1, Or.inr (by omega)⟩))
/-- the carrying out -/
theorem rd_299 {x : zX} {w : zWd} {m im : zMem} {lv : Int64} {P : Int32 → zMem → Int64 → Prop} (hO : zOK x w zyX12_read 8) (hR : zRetI x w zyX12_read P) (hN : zN x 126 126) {l : List (Nat × Nat)} (h28 : im 43 0 28 = nI l.length) (h62 : l.length ≤ 62) (hok : ∀ d ∈ l, okB d) (h56 : ∀ j, j < l.length → im 56 0 j = nI (l.getD j (0, 0)).1 ∧ im 57 0 j = nI (l.getD j (0, 0)).2) (h47 : im 47 = m 47) (out : ∀ im', (∀ r, ¬ r = 47 → im' r = im r) → (∀ k, k < 384 → im' 47 0 k = bsR m l k) → P (im 43 0 10) im' lv) : zW x w 299 [(0, vR 43 0), (1, vI 0)] [] im lv := by
  have tk : ∀ j, j < l.length → l.take (j + 1) = l.take j ++ [l.getD j (0, 0)] := fun j hj => by
    rw [List.take_succ, List.getD_eq_getElem?_getD, List.getElem?_eq_getElem hj]
    rfl
  have key : ∀ n j (im1 : zMem), n + j = l.length → (∀ r, ¬ r = 47 → im1 r = im r) → (∀ k, k < 384 → im1 47 0 k = bsR m (l.take j) k) → zW x w 299 [(0, vR 43 0), (1, vI (nI j))] [] im1 lv := by
    intro n
    induction n with
    | zero =>
      intro j im1 hj g1 g2
      have hjl : j = l.length := by omega
      subst hjl
      rw [List.take_length] at g2
      refine rX12_read_299 hO hR hN ?_
      rw [g1 43 (by decide), h28]
      exact ⟨fun _ => out im1 g1 g2, fun z => absurd (Int32.le_refl _) z⟩
    | succ n ih =>
      intro j im1 hj g1 g2
      have hjl : j < l.length := by omega
      have hmem : l.getD j (0, 0) ∈ l := by
        rw [List.getD_eq_getElem?_getD, List.getElem?_eq_getElem hjl]
        exact List.getElem_mem hjl
      obtain ⟨o1, o2⟩ := hok _ hmem
      obtain ⟨e56, e57⟩ := h56 j hjl
      have tkj := tk j hjl
      generalize l.getD j (0, 0) = d at *
      refine rX12_read_299 hO hR hN ?_
      rw [g1 43 (by decide), h28, nI_leI (by omega) (by omega)]
      refine ⟨fun z => by omega, fun _ => ?_⟩
      have inner : ∀ n t (im2 : zMem), n + t = 48 → (∀ r, ¬ r = 47 → im2 r = im r) → (∀ k, k < 384 → im2 47 0 k = if k / 48 = d.1 ∧ k % 48 < t then nI d.2 else bsR m (l.take j) k) → zW x w 309 [(0, vR 43 0), (1, vI (nI j)), (2, vI (nI t))] [] im2 lv := by
        intro n
        induction n with
        | zero =>
          intro t im2 ht k1 k2
          have htt : t = 48 := by omega
          subst htt
          refine rX12_read_309 hO hR hN ⟨fun _ => ?_, fun z => absurd (by decide) z⟩
          rw [nI_1]
          refine ih (j + 1) im2 (by omega) k1 (fun k hk => ?_)
          rw [k2 k hk, tkj]
          unfold bsR
          rw [lsB_app]
          by_cases hd : d.1 = k / 48
          · rw [if_pos ⟨hd.symm, Nat.mod_lt _ (by decide)⟩, if_pos hd]
          · rw [if_neg (fun z => hd z.1.symm), if_neg hd]
        | succ n ih2 =>
          intro t im2 ht k1 k2
          have cj : Int32.toNatClampNeg (nI j) = j := nI_clamp (by omega)
          have e1 : im2 56 0 j = nI d.1 := by rw [k1 56 (by decide)]; exact e56
          have e2 : im2 57 0 j = nI d.2 := by rw [k1 57 (by decide)]; exact e57
          have eI : (48 : Int32) * nI d.1 + nI t = nI (48 * d.1 + t) := by rw [show (48 : Int32) * nI d.1 = nI (48 * d.1) from pk_mul 48 _, nI_add]
          refine rX12_read_309 hO hR hN ?_
          rw [cj, e1, e2, eI, nI_clamp (show 48 * d.1 + t < 2 ^ 31 by omega), nI_1 t, show (48 : Int32) = nI 48 from rfl, nI_leI (by omega) (by omega)]
          refine ⟨fun z => by omega, fun _ => ⟨vp_in_nI (by omega) (by decide), vp_in_nI (by omega) (by decide), ih2 (t + 1) _ (by omega) (fun r hr => by rw [zwr_r hr]; exact k1 r hr) (fun k hk => ?_)⟩⟩
          rw [zwr_app, k2 k hk]
          by_cases hkk : k = 48 * d.1 + t
          · rw [if_pos ⟨rfl, rfl, hkk⟩, if_pos (by omega)]
          · rw [if_neg (fun z => hkk z.2.2)]
            by_cases hc : k / 48 = d.1 ∧ k % 48 < t
            · rw [if_pos hc, if_pos (by omega)]
            · rw [if_neg hc, if_neg (by omega)]
      exact inner 48 0 im1 (by omega) g1 (fun k hk => by rw [if_neg (by omega)]; exact g2 k hk)
  exact key l.length 0 im (by omega) (fun _ _ => rfl) (fun k _ => by rw [h47]; rfl)
theorem C_X12_read (l : Launch) (w : zWd) {m : zMem} (lv : Int64) (hW : WF m) (hT : WT m) (h0 : m 43 0 0 = 0) : zSpecI l w 8 zyX12_read [vR 43 0] m lv (fun v im' lv' => (rdF m v im' ∨ rdE m v im') ∧ lv' = lv) := by
  refine ze_I (by decide) (Nat.le_of_ble_eq_true rfl) (fun x hO hR hN => rX12_read_0 hO hR hN ?_)
  have h12 := hW.1.2
  have h20 := hW.2.2.1.2
  have h5 := hT.1.2
  have hbb : ∀ j, j < tn m → tb m j ≤ 255 := fun j hj => (hT.2 j hj).2
  rw [zwr_id h0, hW.1.1, hW.2.2.1.1, hT.1.1]
  have f0 : ∀ {im' : zMem} {s : Nat × Nat}, RS m im' s → (im' 43 0 24 = 0 ↔ s.2 = 0) := fun {im' s} h => by
    have h1 : im' 43 0 24 = nI s.2 := h.2.2.1
    have h2 : s.2 ≤ 4 := h.2.2.2.2.2
    rw [h1]; exact nI_eq (b := 0) (by omega) (by decide)
  have l0 : ∀ {im' : zMem} {s : Nat × Nat}, RS m im' s → (im' 43 0 24 ≤ 0 ↔ s.2 = 0) := fun {im' s} h => by
    have h1 : im' 43 0 24 = nI s.2 := h.2.2.1
    have h2 : s.2 ≤ 4 := h.2.2.2.2.2
    rw [h1, show (0 : Int32) = nI 0 from rfl, nI_leI (by omega) (by decide)]; omega
  have wE : ∀ {a b : Nat}, a ≤ tn m → b < 2 ^ 63 → (lg_cmp (Int64.ofNat (wd m a)) (Int64.ofNat b) = 0 ↔ wd m a = b) := fun ha hb => w64 (by have := wd_lt hT ha; omega) hb
  generalize hTX : txS m = TX at *
  -- the end with a fault
  have headF : ∀ (im1 : zMem) (s : Nat × Nat), ¬ s.2 = 0 → Fr (Srd m) m im1 → RS m im1 s → im1 43 0 17 = 0 → TX.1 = s → zW x w 53 [(0, vR 43 0)] [] im1 lv := by
    intro im1 s hs k1 k2 k3 k4
    refine rX12_read_53 hO hR hN ?_
    rw [f0 k2, l0 k2]
    refine ⟨fun _ => ⟨fun z => absurd z hs, fun _ => ⟨Or.inl ⟨?_, ?_, ?_, ?_, ?_, ?_, ?_⟩, rfl⟩⟩, fun z => absurd z hs⟩
    · rw [hTX, k4]; exact hs
    · rw [hTX, k4]; have := k2.2.2.2.2.1; omega
    · rw [hTX, k4]; exact k2.2.2.2.2.2
    · rw [hTX, k4, k2.2.2.2.1 hs]
    · intro r i k hk
      rw [zwr_app, if_neg (fun z => hk (Or.inr ⟨z.1, z.2.2⟩))]
      exact k1 r i k (fun z => hk (Or.inl z))
    · rw [zwk (by decide)]; exact k3
    · rw [zwr_eq, hTX, k4]; exact k2.2.2.1
  -- the end without one
  have headE : ∀ (im1 : zMem) (a : Nat) (q : zTx), kd m a = 0 → Fr (Srd m) m im1 → RS m im1 (a, 0) → im1 43 0 17 = 0 → InvR m im1 q a → TX = ((a, 0), q) → zW x w 53 [(0, vR 43 0)] [] im1 lv := by
    intro im1 a q hk k1 k2 k3 k4 k5
    obtain ⟨⟨n1, n2, n3⟩, n4, n5, n6⟩ := k4
    have ha : a ≤ tn m := k2.2.2.2.2.1
    have go : zW x w 299 [(0, vR 43 0), (1, vI 0)] [] (zwr (zwr im1 43 0 10 (im1 43 0 26)) 43 0 8 (im1 43 0 27)) lv := by
      refine rd_299 (m := m) (l := q.2.2) hO hR hN (by rw [zwk (by decide), zwk (by decide)]; exact n3) (by omega) n6.2.2 (fun j hj => by rw [zwr_r (by decide), zwr_r (by decide), zwr_r (by decide), zwr_r (by decide)]; exact n4.2.2 j hj) (by rw [zwr_r (by decide), zwr_r (by decide)]; exact Fr.row k1 (fun i k z => by unfold Srd at z; omega)) (fun im2 c1 c2 => ⟨Or.inr ?_, rfl⟩)
      unfold rdE
      rw [hTX, k5]
      refine ⟨rfl, ?_, ?_, ?_, ?_, ?_, ?_, ?_, c2⟩
      · rw [zwk (by decide), zwr_eq]; exact n1
      · intro r i k hk'
        rw [c1 r (fun z => hk' (Or.inr (Or.inr z))), zwr_app, if_neg (fun z => hk' (Or.inr (Or.inl ⟨z.1, Or.inl z.2.2⟩))), zwr_app, if_neg (fun z => hk' (Or.inr (Or.inl ⟨z.1, Or.inr z.2.2⟩)))]
        exact k1 r i k (fun z => hk' (Or.inl z))
      · rw [c1 43 (by decide), zwk (by decide), zwk (by decide)]; exact k3
      · rw [c1 43 (by decide), zwk (by decide), zwr_eq]; exact n1
      · rw [c1 43 (by decide), zwr_eq]; exact n2
      · have hr : ∀ r, (49 ≤ r ∧ r ≤ 54) ∨ r = 56 ∨ r = 57 → im2 r = im1 r := fun r hr => by rw [c1 r (by omega), zwr_r (by omega), zwr_r (by omega)]
        exact (rowsR_fr n4 hr).1
      · have hr : ∀ r, (49 ≤ r ∧ r ≤ 54) ∨ r = 56 ∨ r = 57 → im2 r = im1 r := fun r hr => by rw [c1 r (by omega), zwr_r (by omega), zwr_r (by omega)]
        exact (rowsR_fr n4 hr).2.1
    refine rX12_read_53 hO hR hN ?_
    have e21 : im1 43 0 21 = 1 ↔ kd m a = 0 := by
      have h21 : im1 43 0 21 = nI (cod m a) := k2.2.1.2.1
      have := cod_le (m := m) (a := a)
      rw [h21, ← cod_k.2.2.2]; exact nI_eq (b := 1) (by omega) (by decide)
    rw [f0 k2, l0 k2, e21]
    exact ⟨fun z => absurd rfl z, fun _ => ⟨fun _ => ⟨fun _ => go, fun z => absurd rfl z⟩, fun z => absurd hk z⟩⟩
  -- the semicolon
  have t238 : ∀ (im1 : zMem) (y1 : Int64) (s : Nat × Nat), RS m im1 s → (∀ im2, f43 20 25 im1 im2 → RS m im2 (semS m s) → zW x w 53 [(0, vR 43 0)] [] im2 lv) → zW x w 238 [(0, vR 43 0), (1, vL y1)] [] im1 lv := by
    intro im1 y1 s k1 cont
    refine rX12_read_238 hO hR hN ?_
    rw [f0 k1]
    refine ⟨fun z => cont im1 Fr.refl (by unfold semS ndS; rw [if_neg z]; exact k1), fun z => ⟨_, C_X12_is _ _ _ hT k1 (c := 59) (k := 4) (Or.inr ⟨rfl, rfl⟩) rfl, ?_⟩⟩
    rintro _ im2 lv2 ⟨rfl, rfl, rfl⟩
    refine ⟨_, C_X12_need _ _ _ hT k1 (kd m s.1 = 4) vB_0, ?_⟩
    rintro im3 lv3 ⟨⟨d1, d2⟩, rfl⟩
    exact cont im3 d1 d2
  -- a fault goes through
  have skip : ∀ (im1 : zMem) (y1 : Int64) (s : Nat × Nat), RS m im1 s → ¬ s.2 = 0 → zW x w 53 [(0, vR 43 0)] [] im1 lv → zW x w 145 [(0, vR 43 0), (1, vL y1)] [] im1 lv := by
    intro im1 y1 s k1 hs h
    refine rX12_read_145 hO hR hN ?_
    rw [f0 k1]
    refine ⟨fun _ => rX12_read_238 hO hR hN ?_, fun z => absurd z hs⟩
    rw [f0 k1]
    exact ⟨fun _ => h, fun z => absurd z hs⟩
  have body : ∀ k a (im1 : zMem) (q : zTx), ¬ kd m a = 0 → Fr (Srd m) m im1 → RS m im1 (a, 0) → im1 43 0 17 = 0 → InvR m im1 q a →
      (∀ (im2 : zMem), Fr (Srd m) m im2 → RS m im2 (oneS m q a).1 → im2 43 0 17 = 0 → ((oneS m q a).1.2 = 0 → InvR m im2 (oneS m q a).2 (oneS m q a).1.1) → zW x w 53 [(0, vR 43 0)] [] im2 lv) → k = 0 → zW x w 53 [(0, vR 43 0)] [] im1 lv := by
    intro k a im1 q hk k1 k2 k3 k4 cont _
    obtain ⟨⟨n1, n2, n3⟩, n4, n5, n6⟩ := id k4
    have ha : a ≤ tn m := k2.2.2.2.2.1
    have e21 : im1 43 0 21 = 1 ↔ kd m a = 0 := by
      have h21 : im1 43 0 21 = nI (cod m a) := k2.2.1.2.1
      have := cod_le (m := m) (a := a)
      rw [h21, ← cod_k.2.2.2]; exact nI_eq (b := 1) (by omega) (by decide)
    have hlF : nfl m + q.1.length ≤ 12 := n6.1.1
    have hlS : nst m + q.2.1.length ≤ 20 := n6.2.1.1
    have e26 : im1 43 0 26 = 12 ↔ nfl m + q.1.length = 12 := by rw [n1]; exact nI_eq (b := 12) (by omega) (by decide)
    have e27 : im1 43 0 27 = 20 ↔ nst m + q.2.1.length = 20 := by rw [n2]; exact nI_eq (b := 20) (by omega) (by decide)
    have E1 : lg_cmp (Int64.ofNat (wd m a)) (112615810885748 : Int64) = 0 ↔ wd m a = wFl := wE ha (b := 112615810885748) (by decide)
    have E2 : lg_cmp (Int64.ofNat (wd m a)) (495874699885 : Int64) = 0 ↔ wd m a = wSt := wE ha (b := 495874699885) (by decide)
    have E3 : lg_cmp (Int64.ofNat (wd m a)) (1650811250 : Int64) = 0 ↔ wd m a = wBr := wE ha (b := 1650811250) (by decide)
    have d12 : wd m a = wFl → ¬ wd m a = wSt := fun h => by rw [h]; decide
    -- no room
    have full : (oneS m q a).1 = (a, 4) → (wd m a = wFl ∨ wd m a = wSt) → (∃ P2 : zMem → Int64 → Prop, zSpecV x.2.1 w 2 zyX12_bad [vR 43 0, vI 4] im1 lv P2 ∧ ∀ (im2 : zMem) (lv2 : Int64), P2 im2 lv2 → zW x w 112 [(0, vR 43 0), (1, vL (Int64.ofNat (wd m a)))] [] im2 lv2) := by
      intro ho hww
      refine ⟨_, C_X12_bad _ _ _ k2 (k := 4) (by decide) (by decide) rfl, ?_⟩
      rintro im2 lv2 ⟨⟨c1, c2⟩, rfl⟩
      have c2 : RS m im2 (a, 4) := c2
      have hend := cont im2 (mSrd k1 c1) (by rw [ho]; exact c2) ((c1 43 0 17 (by omega)).trans k3) (fun z => absurd z (by rw [ho]; simp))
      have goN : (∃ P1 : zMem → Int64 → Prop, zSpecV x.2.1 w 4 zyX12_need [vR 43 0, vI 1] im2 lv2 P1 ∧ ∀ (im3 : zMem) (lv3 : Int64), P1 im3 lv3 → zW x w 145 [(0, vR 43 0), (1, vL (Int64.ofNat (wd m a)))] [] im3 lv3) := by
        refine ⟨_, C_X12_need _ _ _ hT c2 True (by simp), ?_⟩
        rintro im3 lv3 ⟨⟨b1, b2⟩, rfl⟩
        have b2 : RS m im3 (a, 4) := b2
        exact skip im3 _ (a, 4) b2 (by simp) (cont im3 (mSrd (mSrd k1 c1) b1) (by rw [ho]; exact b2) ((b1 43 0 17 (by omega)).trans ((c1 43 0 17 (by omega)).trans k3)) (fun z => absurd z (by rw [ho]; simp)))
      refine rX12_read_112 hO hR hN ?_
      rw [E1, E2, E3]
      exact ⟨fun _ => goN, fun z => ⟨fun _ => goN, fun _ => ⟨fun y => absurd (hww.resolve_left z) y, fun _ => goN⟩⟩⟩
    -- from 112 on, with room
    have g112 : (wd m a = wFl → ¬ nfl m + q.1.length = 12) → (wd m a = wSt → ¬ nst m + q.2.1.length = 20) → zW x w 112 [(0, vR 43 0), (1, vL (Int64.ofNat (wd m a)))] [] im1 lv := by
      intro hF hS
      have goN : (wd m a = wFl ∨ wd m a = wSt ∨ wd m a = wBr) → (∃ P1 : zMem → Int64 → Prop, zSpecV x.2.1 w 4 zyX12_need [vR 43 0, vI 1] im1 lv P1 ∧ ∀ (im3 : zMem) (lv3 : Int64), P1 im3 lv3 → zW x w 145 [(0, vR 43 0), (1, vL (Int64.ofNat (wd m a)))] [] im3 lv3) := by
        intro hww
        refine ⟨_, C_X12_need _ _ _ hT k2 True (by simp), ?_⟩
        rintro im3 lv3 ⟨⟨b1, b2⟩, rfl⟩
        have b2 : RS m im3 (nx m a, 0) := b2
        have b3 := mSrd k1 b1
        have b4 : im3 43 0 17 = 0 := (b1 43 0 17 (by omega)).trans k3
        have b5 := InvR_fr k4 b1 (nx_ge m a)
        obtain ⟨⟨p1, p2, p3⟩, p4, p5, p6⟩ := id b5
        refine rX12_read_145 hO hR hN ?_
        rw [f0 b2, E1, E2]
        refine ⟨fun z => absurd rfl z, fun _ => ⟨fun hnF => ⟨fun hnS => ?_, fun hSt => ?_⟩, fun hFl => ?_⟩⟩
        · -- bear
          have hB : wd m a = wBr := (hww.resolve_left hnF).resolve_left hnS
          have ho : oneS m q a = (semS m (brS m (nx m a)).1, (q.1, q.2.1, q.2.2 ++ [(brS m (nx m a)).2])) := by unfold oneS; rw [if_neg hnF, if_neg hnS, if_pos hB]; rfl
          rw [ho] at cont
          have h8 : (semS m (brS m (nx m a)).1).2 = 0 → a + 8 ≤ (semS m (brS m (nx m a)).1).1 := fun z => bear_8 hbb hB z
          have hok := oneS_ok (m := m) (q := q) (a := a) n6
          rw [ho] at hok
          have hqb : brS m (nx m a) = (nmS m 0 99 (nmS m 0 7 (nx m a, 0)), (nv m (nx m a), nv m (nmS m 0 7 (nx m a, 0)).1)) := rfl
          rw [hqb] at cont h8 hok
          have c28 : Int32.toNatClampNeg (nI q.2.2.length) = q.2.2.length := nI_clamp (by omega)
          refine ⟨_, C_X12_numberIn _ _ _ hT b2 (lo := 0) (hi := 7) (fun _ => ⟨rfl, rfl, by decide, by decide⟩), ?_⟩
          rintro v1 im4 lv4 ⟨⟨a1, a2, a3⟩, rfl⟩
          generalize hs1 : nmS m 0 7 (nx m a, 0) = s1 at *
          have e28 : im4 43 0 28 = nI q.2.2.length := (a1 43 0 28 (by omega)).trans p3
          rw [p3, c28]
          have A2 := a2.wr (r := 56) (k := q.2.2.length) (v := v1) (by decide) (by omega)
          refine ⟨vp_in_nI (by omega) (by decide), _, C_X12_numberIn _ _ _ hT A2 (lo := 0) (hi := 99) (fun _ => ⟨rfl, rfl, by decide, by decide⟩), ?_⟩
          rintro v2 im5 lv5 ⟨⟨d1, d2, d3⟩, rfl⟩
          generalize hs2 : nmS m 0 99 s1 = s2 at *
          have e28' : im5 43 0 28 = nI q.2.2.length := by rw [d1 43 0 28 (by omega), zwr_r (by decide)]; exact e28
          rw [e28, c28, e28', nI_1]
          have D2 : RS m (zwr (zwr im5 57 0 q.2.2.length v2) 43 0 28 (nI (q.2.2.length + 1))) s2 := (d2.wr (by decide) (by omega)).wr (by decide) (by omega)
          refine ⟨vp_in_nI (by omega) (by decide), t238 _ _ s2 D2 (fun im6 c1 c2 => ?_)⟩
          have F6 : Fr (Srd m) m (zwr (zwr im5 57 0 q.2.2.length v2) 43 0 28 (nI (q.2.2.length + 1))) := ((mSrd ((mSrd b3 a1).wr (Or.inr (Or.inr (Or.inr (Or.inr (Or.inr (Or.inl rfl))))))) d1).wr (Or.inr (Or.inr (Or.inr (Or.inr (Or.inr (Or.inr rfl))))))).wr (Or.inl ⟨rfl, Or.inr (by omega)⟩)
          refine cont im6 (mSrd F6 c1) c2 ?_ (fun z => ?_)
          · rw [c1 43 0 17 (by omega), zwk (by decide), zwr_r (by decide), d1 43 0 17 (by omega), zwr_r (by decide), a1 43 0 17 (by omega)]
            exact b4
          · have z2 : s2.2 = 0 := (semS_0 z).1
            have z1 : s1.2 = 0 := by rw [← hs2] at z2; exact (nmS_0 z2).1
            have hlen : (q.2.2 ++ [(nv m (nx m a), nv m s1.1)]).length = q.2.2.length + 1 := by rw [List.length_append]; rfl
            have r6 : ∀ r, ¬ r = 43 → im6 r = (zwr im5 57 0 q.2.2.length v2) r := fun r hr => by rw [Fr.row c1 (fun i k y => hr y.1), zwr_r hr]
            have r5 : ∀ r, ¬ r = 43 → im5 r = (zwr im4 56 0 q.2.2.length v1) r := fun r hr => Fr.row d1 (fun i k y => hr y.1)
            have r4 : ∀ r, ¬ r = 43 → im4 r = im3 r := fun r hr => Fr.row a1 (fun i k y => hr y.1)
            have rr : ∀ r, 49 ≤ r ∧ r ≤ 54 → im6 r = im3 r := fun r hr => by rw [r6 r (by omega), zwr_r (by omega), r5 r (by omega), zwr_r (by omega), r4 r (by omega)]
            refine ⟨⟨?_, ?_, ?_⟩, ⟨fun j hj => ?_, fun j hj => ?_, fun j hj => ?_⟩, ?_, hok z⟩
            · rw [c1 43 0 26 (by omega), zwk (by decide), zwr_r (by decide), d1 43 0 26 (by omega), zwr_r (by decide), a1 43 0 26 (by omega)]; exact p1
            · rw [c1 43 0 27 (by omega), zwk (by decide), zwr_r (by decide), d1 43 0 27 (by omega), zwr_r (by decide), a1 43 0 27 (by omega)]; exact p2
            · rw [c1 43 0 28 (by omega), zwr_eq, hlen]
            · exact flR_fr (p4.1 j hj) (fun k _ _ => by rw [rr 50 (by omega)]) (fun k _ _ => by rw [rr 51 (by omega), rr 52 (by omega)]; exact ⟨rfl, rfl⟩) (by rw [rr 53 (by omega)]) (by rw [rr 54 (by omega)])
            · exact smR_fr (p4.2.1 j hj) (fun k _ _ => by rw [rr 49 (by omega)])
            · dsimp only at hj ⊢
              rw [hlen] at hj
              rw [r6 56 (by decide), zwr_r (by decide), r5 56 (by decide), r6 57 (by decide)]
              by_cases hjl : j = q.2.2.length
              · subst hjl
                rw [gA_m, zwr_eq, zwr_eq]
                exact ⟨a3 z1, d3 z2⟩
              · rw [gA_l (by omega), zwr_k hjl, zwr_k hjl, r4 56 (by decide), r5 57 (by decide), zwr_r (by decide), r4 57 (by decide)]
                exact p4.2.2 j (by omega)
            · dsimp only
              rw [hlen]
              have := h8 z
              dsimp only at this
              omega
        · -- storm
          have ho : oneS m q a = (semS m (smS m (nx m a)).1, (q.1, q.2.1 ++ [(smS m (nx m a)).2], q.2.2)) := by unfold oneS; rw [if_neg hnF, if_pos hSt, if_neg (hS hSt)]; rfl
          have hok := oneS_ok (m := m) (q := q) (a := a) n6
          have hgt := oneS_gt (m := m) (q := q) (a := a)
          rw [ho] at cont hok hgt
          have hl20 := hS hSt
          refine ⟨_, C_X12_readStorm _ _ _ hT b2 (ns := nst m + q.2.1.length) (by omega) p2, ?_⟩
          rintro im4 lv4 ⟨⟨a1, a2, a3, a4⟩, rfl⟩
          generalize smS m (nx m a) = S at *
          have hlen : (q.2.1 ++ [S.2]).length = q.2.1.length + 1 := by rw [List.length_append]; rfl
          refine t238 _ _ S.1 a2 (fun im6 c1 c2 => ?_)
          have F4 : Fr (Srd m) m im4 := b3.trans (Fr.mono a1 (fun r i k z => by unfold Ssm at z; unfold Srd; omega))
          refine cont im6 (mSrd F4 c1) c2 ?_ (fun z => ?_)
          · rw [c1 43 0 17 (by omega), a1 43 0 17 (by unfold Ssm; omega)]; exact b4
          · have hz := semS_0 z
            have r6 : ∀ r, ¬ r = 43 → im6 r = im4 r := fun r hr => Fr.row c1 (fun i k y => hr y.1)
            have r4 : ∀ r, ¬ r = 43 → ¬ r = 49 → im4 r = im3 r := fun r h1 h2 => Fr.row a1 (fun i k y => by unfold Ssm at y; omega)
            refine ⟨⟨?_, ?_, ?_⟩, ⟨fun j hj => ?_, fun j hj => ?_, fun j hj => ?_⟩, ?_, hok z⟩
            · rw [c1 43 0 26 (by omega), a1 43 0 26 (by unfold Ssm; omega)]; exact p1
            · rw [c1 43 0 27 (by omega), a3]; dsimp only; rw [hlen]; rfl
            · rw [c1 43 0 28 (by omega), a1 43 0 28 (by unfold Ssm; omega)]; exact p3
            · exact flR_fr (p4.1 j hj) (fun k _ _ => by rw [r6 50 (by decide), r4 50 (by decide) (by decide)]) (fun k _ _ => by rw [r6 51 (by decide), r4 51 (by decide) (by decide), r6 52 (by decide), r4 52 (by decide) (by decide)]; exact ⟨rfl, rfl⟩) (by rw [r6 53 (by decide), r4 53 (by decide) (by decide)]) (by rw [r6 54 (by decide), r4 54 (by decide) (by decide)])
            · dsimp only at hj ⊢
              rw [hlen] at hj
              by_cases hjl : j = q.2.1.length
              · subst hjl
                rw [gA_m]
                exact smR_fr (a4 hz.1) (fun k _ _ => by rw [r6 49 (by decide)])
              · rw [gA_l (by omega)]
                exact smR_fr (p4.2.1 j (by omega)) (fun k g1 g2 => by rw [r6 49 (by decide), a1 49 0 k (by unfold Ssm; omega)])
            · rw [r6 56 (by decide), r4 56 (by decide) (by decide), r6 57 (by decide), r4 57 (by decide) (by decide)]
              exact p4.2.2 j hj
            · have := hgt z
              dsimp only at this ⊢
              omega
        · -- flight
          have ho : oneS m q a = (semS m (flS m (nx m a)).1, (q.1 ++ [(flS m (nx m a)).2], q.2.1, q.2.2)) := by unfold oneS; rw [if_pos hFl, if_neg (hF hFl)]; rfl
          have hok := oneS_ok (m := m) (q := q) (a := a) n6
          have hgt := oneS_gt (m := m) (q := q) (a := a)
          rw [ho] at cont hok hgt
          have hl12 := hF hFl
          refine ⟨_, C_X12_readFlight _ _ _ hT b2 (nf := nfl m + q.1.length) (by omega) p1, ?_⟩
          rintro im4 lv4 ⟨⟨a1, a2, a3, a4⟩, rfl⟩
          generalize flS m (nx m a) = S at *
          have hlen : (q.1 ++ [S.2]).length = q.1.length + 1 := by rw [List.length_append]; rfl
          refine t238 _ _ S.1 a2 (fun im6 c1 c2 => ?_)
          have F4 : Fr (Srd m) m im4 := b3.trans (Fr.mono a1 (fun r i k z => by unfold Sfl at z; unfold Srd; omega))
          refine cont im6 (mSrd F4 c1) c2 ?_ (fun z => ?_)
          · rw [c1 43 0 17 (by omega), a1 43 0 17 (by unfold Sfl; omega)]; exact b4
          · have hz := semS_0 z
            have r6 : ∀ r, ¬ r = 43 → im6 r = im4 r := fun r hr => Fr.row c1 (fun i k y => hr y.1)
            have r4 : ∀ r, r = 49 ∨ r = 56 ∨ r = 57 → im4 r = im3 r := fun r h1 => Fr.row a1 (fun i k y => by unfold Sfl at y; omega)
            refine ⟨⟨?_, ?_, ?_⟩, ⟨fun j hj => ?_, fun j hj => ?_, fun j hj => ?_⟩, ?_, hok z⟩
            · rw [c1 43 0 26 (by omega), a3]; dsimp only; rw [hlen]; rfl
            · rw [c1 43 0 27 (by omega), a1 43 0 27 (by unfold Sfl; omega)]; exact p2
            · rw [c1 43 0 28 (by omega), a1 43 0 28 (by unfold Sfl; omega)]; exact p3
            · dsimp only at hj ⊢
              rw [hlen] at hj
              by_cases hjl : j = q.1.length
              · subst hjl
                rw [gA_m]
                exact flR_fr (a4 hz.1) (fun k _ _ => by rw [r6 50 (by decide)]) (fun k _ _ => by rw [r6 51 (by decide), r6 52 (by decide)]; exact ⟨rfl, rfl⟩) (by rw [r6 53 (by decide)]) (by rw [r6 54 (by decide)])
              · rw [gA_l (by omega)]
                exact flR_fr (p4.1 j (by omega)) (fun k g1 g2 => by rw [r6 50 (by decide), a1 50 0 k (by unfold Sfl; omega)]) (fun k g1 g2 => by rw [r6 51 (by decide), r6 52 (by decide), a1 51 0 k (by unfold Sfl; omega), a1 52 0 k (by unfold Sfl; omega)]; exact ⟨rfl, rfl⟩) (by rw [r6 53 (by decide), a1 53 0 _ (by unfold Sfl; omega)]) (by rw [r6 54 (by decide), a1 54 0 _ (by unfold Sfl; omega)])
            · exact smR_fr (p4.2.1 j hj) (fun k _ _ => by rw [r6 49 (by decide), r4 49 (by decide)])
            · rw [r6 56 (by decide), r4 56 (by decide), r6 57 (by decide), r4 57 (by decide)]
              exact p4.2.2 j hj
            · have := hgt z
              dsimp only at this ⊢
              omega
      refine rX12_read_112 hO hR hN ?_
      rw [E1, E2, E3]
      refine ⟨fun z => goN (Or.inl z), fun z1 => ⟨fun z => goN (Or.inr (Or.inr z)), fun z3 => ⟨fun z2 => ?_, fun z => goN (Or.inr (Or.inl z))⟩⟩⟩
      have ho : oneS m q a = ((a, 1), q) := by unfold oneS; rw [if_neg z1, if_neg z2, if_neg z3]
      refine ⟨_, C_X12_need _ _ _ hT k2 False (by simp), ?_⟩
      rintro im3 lv3 ⟨⟨b1, b2⟩, rfl⟩
      have hd : ndS m False (a, 0) = (a, 1) := by unfold ndS; rw [if_pos rfl, if_neg (fun z => z)]
      rw [hd] at b2
      exact skip im3 _ (a, 1) b2 (by simp) (cont im3 (mSrd k1 b1) (by rw [ho]; exact b2) ((b1 43 0 17 (by omega)).trans k3) (fun z => absurd z (by rw [ho]; simp)))
    refine rX12_read_53 hO hR hN ?_
    rw [f0 k2, e21]
    refine ⟨fun z => absurd rfl z, fun _ => ⟨fun z => absurd z hk, fun _ => ⟨_, C_X12_word _ _ _ hT k2, ?_⟩⟩⟩
    rintro _ im2 lv2 ⟨rfl, rfl, rfl⟩
    dsimp only
    rw [E1, E2, e26, e27]
    refine ⟨fun z1 => ⟨fun z2 => g112 (fun z => absurd z z1) (fun z => absurd z z2), fun z2 => ⟨fun z3 => g112 (fun z => absurd z z1) (fun _ => z3), fun z3 => full ?_ (Or.inr z2)⟩⟩, fun z1 => ⟨fun z3 => full ?_ (Or.inl z1), fun z3 => ⟨fun z2 => g112 (fun _ => z3) (fun z => absurd z z2), fun z2 => absurd z2 (d12 z1)⟩⟩⟩
    · unfold oneS; rw [if_neg z1, if_pos z2, if_pos z3]
    · unfold oneS; rw [if_pos z1, if_pos z3]
  have key : ∀ k a (im1 : zMem) (q : zTx), tn m < a + k → Fr (Srd m) m im1 → RS m im1 (a, 0) → im1 43 0 17 = 0 → InvR m im1 q a → TX = allS m k q a → zW x w 53 [(0, vR 43 0)] [] im1 lv := by
    intro k
    induction k with
    | zero =>
      intro a im1 q hk k1 k2 k3 k4 k5
      exact headE im1 a q (kd_0 (by omega)) k1 k2 k3 k4 k5
    | succ k ih =>
      intro a im1 q hk k1 k2 k3 k4 k5
      rw [allS] at k5
      by_cases h1 : kd m a = 0
      · rw [if_pos h1] at k5
        exact headE im1 a q h1 k1 k2 k3 k4 k5
      · rw [if_neg h1] at k5
        have hgt := oneS_gt (m := m) (q := q) (a := a)
        refine body 0 a im1 q h1 k1 k2 k3 k4 (fun im2 c1 c2 c3 c4 => ?_) rfl
        generalize oneS m q a = o at *
        by_cases h2 : o.1.2 = 0
        · rw [if_pos h2] at k5
          have := hgt h2
          have e : o.1 = (o.1.1, 0) := by rw [← h2]
          exact ih o.1.1 im2 o.2 (by omega) c1 (by rw [← e]; exact c2) c3 (c4 h2) k5
        · rw [if_neg h2] at k5
          exact headF im2 o.1 h2 c1 c2 c3 (by rw [k5])
  -- the beginning
  have B0 : Fr (Srd m) m (zwr (zwr (zwr (zwr (zwr (zwr (zwr m 43 0 19 (nI (tn m))) 43 0 17 0) 43 0 20 0) 43 0 24 0) 43 0 26 (nI (nfl m))) 43 0 27 (nI (nst m))) 43 0 28 0) := ((((((Fr.refl.wr (Or.inl ⟨rfl, by omega⟩)).wr (Or.inl ⟨rfl, by omega⟩)).wr (Or.inl ⟨rfl, by omega⟩)).wr (Or.inl ⟨rfl, by omega⟩)).wr (Or.inl ⟨rfl, by omega⟩)).wr (Or.inl ⟨rfl, by omega⟩)).wr (Or.inl ⟨rfl, by omega⟩)
  refine ⟨_, C_X12_step _ _ _ hT (c := 0) ⟨Fr.row B0 (fun i k z => by unfold Srd at z; omega), ?_⟩ ?_ (Nat.zero_le _), ?_⟩
  · rw [zwk (by decide), zwk (by decide), zwk (by decide), zwk (by decide), zwk (by decide), zwk (by decide), zwr_eq]
  · rw [zwk (by decide), zwk (by decide), zwk (by decide), zwk (by decide), zwr_eq]; rfl
  rintro im1 lv1 ⟨⟨c1, c2⟩, rfl⟩
  have c1' := c1.wid (lo' := 20) (hi' := 25) (by omega)
  refine key 501 (sk m 0) im1 ([], [], []) (by omega) (mSrd B0 c1') ⟨⟨?_, ?_⟩, c2, ?_, fun z => absurd rfl z, sk_le (Nat.zero_le _), Nat.zero_le 4⟩ ?_ ⟨⟨?_, ?_, ?_⟩, ⟨fun j hj => absurd hj (Nat.not_lt_zero _), fun j hj => absurd hj (Nat.not_lt_zero _), fun j hj => absurd hj (Nat.not_lt_zero _)⟩, Nat.zero_le _, ⟨⟨h12, fun d hd => by cases hd⟩, ⟨h20, fun d hd => by cases hd⟩, fun d hd => by cases hd⟩⟩ ?_
  · rw [Fr.row c1 (r := 55) (fun i k z => absurd z.1 (by decide))]; exact Fr.row B0 (fun i k z => by unfold Srd at z; omega)
  · rw [c1 43 0 19 (by omega), zwk (by decide), zwk (by decide), zwk (by decide), zwk (by decide), zwk (by decide), zwk (by decide), zwr_eq]
  · rw [c1 43 0 24 (by omega), zwk (by decide), zwk (by decide), zwk (by decide), zwr_eq]; rfl
  · rw [c1 43 0 17 (by omega), zwk (by decide), zwk (by decide), zwk (by decide), zwk (by decide), zwk (by decide), zwr_eq]
  · rw [c1 43 0 26 (by omega), zwk (by decide), zwk (by decide), zwr_eq]; rfl
  · rw [c1 43 0 27 (by omega), zwk (by decide), zwr_eq]; rfl
  · rw [c1 43 0 28 (by omega), zwr_eq]; rfl
  · rw [← hTX]; rfl
