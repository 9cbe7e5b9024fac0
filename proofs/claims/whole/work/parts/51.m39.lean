/-! what holds of class and reference between two calls -/
theorem WF.frm {m m' : zMem} (hW : WF m) (hM : RM m m') : WF m' := by
  obtain ⟨a, b, c, d⟩ := hM
  unfold WF WFf WFs nfl own wgt sta rat wys way dly lsl lrm nst stw str sta1 stb stv bas stf lok at *
  rw [a 47 (by decide) (by decide), a 48 (by decide) (by decide), a 49 (by decide) (by decide), a 50 (by decide) (by decide), a 51 (by decide) (by decide), a 52 (by decide) (by decide), a 53 (by decide) (by decide), a 54 (by decide) (by decide), b, c, d]
  exact hW
theorem RC.frm {m m' im : zMem} (h : RC m im) (hM : RM m m') : RC m' im := by
  obtain ⟨a, b, c, d⟩ := hM
  unfold RC RCf RCw RCs nfl own wgt sta rat wys way dly lsl lrm nst stw str sta1 stb stv bas stf lok at *
  rw [a 47 (by decide) (by decide), a 48 (by decide) (by decide), a 49 (by decide) (by decide), a 50 (by decide) (by decide), a 51 (by decide) (by decide), a 52 (by decide) (by decide), a 53 (by decide) (by decide), a 54 (by decide) (by decide), b, c, d]
  exact h
theorem RM.refl {m : zMem} : RM m m := ⟨fun _ _ _ => rfl, rfl, rfl, rfl⟩
def G1 (m : zMem) : Prop := WF m ∧ RC m m
def G2 (m : zMem) : Prop := WS m ∧ SHR m m
def G3 (m : zMem) : Prop := WT m ∧ TD m m
def G4 (m : zMem) : Prop := ∃ n, n ≤ 16 ∧ m 43 0 41 = nI n ∧ m 39 0 2 = nI n ∧ ∀ i, i < n → m 40 0 i = m 67 0 i
def G5 (m : zMem) : Prop := m 0 0 10 = m 43 0 1 ∧ m 0 0 11 = m 43 0 18 ∧ m 43 0 0 = 0
def INV (m : zMem) : Prop := G1 m ∧ G2 m ∧ G3 m ∧ G4 m ∧ G5 m
theorem G1.fr {m m' : zMem} (h : G1 m) (hf : ∀ r, (2 ≤ r ∧ r ≤ 15) ∨ (47 ≤ r ∧ r ≤ 54) → m' r = m r) (h7 : m' 43 0 7 = m 43 0 7) (h8 : m' 43 0 8 = m 43 0 8) (h10 : m' 43 0 10 = m 43 0 10) : G1 m' := by
  have hM : RM m m' := ⟨fun r g1 g2 => hf r (Or.inr ⟨g1, g2⟩), h7, h8, h10⟩
  refine ⟨h.1.frm hM, ?_⟩
  have h2 := h.2.frm hM
  unfold RC RCf RCw RCs at *
  rw [hf 2 (by decide), hf 3 (by decide), hf 4 (by decide), hf 5 (by decide), hf 6 (by decide), hf 7 (by decide), hf 8 (by decide), hf 9 (by decide), hf 10 (by decide), hf 12 (by decide), hf 13 (by decide), hf 14 (by decide), hf 15 (by decide)]
  exact h2
theorem G2.fr {m m' : zMem} (h : G2 m) (hf : ∀ r, (41 ≤ r ∧ r ≤ 46) ∧ ¬ r = 43 → m' r = m r) : G2 m' := by
  unfold G2 WS SHR mny at *
  rw [hf 41 (by decide), hf 42 (by decide), hf 44 (by decide), hf 45 (by decide), hf 46 (by decide)]
  exact h
theorem G3.fr {m m' : zMem} (h : G3 m) (h17 : m' 43 0 17 = m 43 0 17) (h55 : m' 55 = m 55) (h16 : m' 16 0 1 = m 16 0 1) (hr17 : m' 17 = m 17) : G3 m' := by
  unfold G3 WT TD tn tb at *
  rw [h17, h55, h16, hr17]
  exact h
theorem G4.fr {m m' : zMem} (h : G4 m) (h41 : m' 43 0 41 = m 43 0 41) (h39 : m' 39 0 2 = m 39 0 2) (h40 : m' 40 = m 40) (h67 : m' 67 = m 67) : G4 m' := by
  unfold G4 at *
  rw [h41, h39, h40, h67]
  exact h
theorem G5.fr {m m' : zMem} (h : G5 m) (h0 : m' 0 = m 0) (h1 : m' 43 0 1 = m 43 0 1) (h18 : m' 43 0 18 = m 43 0 18) (h00 : m' 43 0 0 = m 43 0 0) : G5 m' := by
  unfold G5 at *
  rw [h0, h1, h18, h00]
  exact h
/-- nothing but the reference's scratch -/
def Rf (im im' : zMem) : Prop := ∀ r, ¬ (56 ≤ r ∧ r ≤ 66) → im' r = im r
theorem Rf.refl {im : zMem} : Rf im im := fun _ _ => rfl
def Ns (m m' : zMem) : Prop := ∀ r, ¬ (20 ≤ r ∧ r ≤ 38) → ¬ (56 ≤ r ∧ r ≤ 66) → m' r = m r
theorem Ns.of {a b c : zMem} (h1 : Fc a b) (h2 : Rf b c) : Ns a c := fun r g1 g2 => (h2 r g2).trans (h1 r g1)
theorem INV.fr {m m' : zMem} (h : INV m) (hf : Ns m m') : INV m' := by
  obtain ⟨g1, g2, g3, g4, g5⟩ := h
  have h43 := hf 43 (by decide) (by decide)
  refine ⟨g1.fr (fun r hr => hf r (by omega) (by omega)) (by rw [h43]) (by rw [h43]) (by rw [h43]), g2.fr (fun r hr => hf r (by omega) (by omega)), g3.fr (by rw [h43]) (hf 55 (by decide) (by decide)) (by rw [hf 16 (by decide) (by decide)]) (hf 17 (by decide) (by decide)), g4.fr (by rw [h43]) (by rw [hf 39 (by decide) (by decide)]) (hf 40 (by decide) (by decide)) (hf 67 (by decide) (by decide)), g5.fr (hf 0 (by decide) (by decide)) (by rw [h43]) (by rw [h43]) (by rw [h43])⟩
/-- class, then reference: one answer, and all holds again -/
def JS (l : Launch) (w : zWd) (dC : Nat) (yC : zY) (aC : List zV) (dR : Nat) (yR : zY) (aR : List zV) (m : zMem) (lv : Int64) : Prop := ∃ P1 : Int32 → zMem → Int64 → Prop, zSpecI l w dC yC aC m lv P1 ∧ ∀ (v1 : Int32) (im1 : zMem) (lv1 : Int64), P1 v1 im1 lv1 → ∃ P2 : Int32 → zMem → Int64 → Prop, zSpecI l w dR yR aR im1 lv1 P2 ∧ ∀ (v2 : Int32) (im2 : zMem) (lv2 : Int64), P2 v2 im2 lv2 → v1 = v2 ∧ INV im2
theorem RM.fc {m im : zMem} (h : Fc m im) : RM m im := RM.refl.fr (fun r _ _ => h r (by omega))
theorem J_told {l : Launch} {w : zWd} {m : zMem} {lv : Int64} (h : INV m) (a b : Int32) : JS l w 4 zyX11_told [vR 0 0, vI a, vI b] 4 zyX12_told [vR 43 0, vI a, vI b] m lv := by
  refine ⟨_, C_X11_told _ _ _ h.1.1 h.1.2 a b, ?_⟩
  rintro v1 im1 lv1 ⟨rfl, rfl, rfl⟩
  refine ⟨_, C_X12_told _ _ _ h.1.1 RM.refl h.2.2.2.2.2.2 a b, ?_⟩
  rintro v2 im2 lv2 ⟨rfl, rfl, rfl⟩
  exact ⟨rfl, h⟩
theorem J_leg {l : Launch} {w : zWd} {m : zMem} {lv : Int64} (h : INV m) (a b c d : Int32) : JS l w 3 zyX11_leg [vR 0 0, vI a, vI b, vI c, vI d] 4 zyX12_leg [vR 43 0, vI a, vI b, vI c, vI d] m lv := by
  refine ⟨_, C_X11_leg _ _ _ h.1.1 h.1.2 a b c d, ?_⟩
  rintro v1 im1 lv1 ⟨rfl, rfl, rfl⟩
  refine ⟨_, C_X12_leg _ _ _ h.1.1 RM.refl h.2.2.2.2.2.2 a b c d, ?_⟩
  rintro v2 im2 lv2 ⟨rfl, rfl, rfl⟩
  exact ⟨rfl, h⟩
theorem J_at {l : Launch} {w : zWd} {m : zMem} {lv : Int64} (h : INV m) (a b : Int32) : JS l w 3 zyX11_at [vR 0 0, vI a, vI b] 4 zyX12_at [vR 43 0, vI a, vI b] m lv := by
  refine ⟨_, C_X11_at _ _ _ h.1.1 h.1.2 a b, ?_⟩
  rintro v1 im1 lv1 ⟨rfl, rfl, rfl⟩
  refine ⟨_, C_X12_at _ _ _ h.1.1 RM.refl h.2.2.2.2.2.2 a b, ?_⟩
  rintro v2 im2 lv2 ⟨rfl, rfl, rfl⟩
  exact ⟨rfl, h⟩
theorem J_known {l : Launch} {w : zWd} {m : zMem} {lv : Int64} (h : INV m) (a b c : Int32) : JS l w 4 zyX11_known [vR 0 0, vI a, vI b, vI c] 4 zyX12_known [vR 43 0, vI a, vI b, vI c] m lv := by
  refine ⟨_, C_X11_known _ _ _ h.1.1 h.1.2 a b c, ?_⟩
  rintro v1 im1 lv1 ⟨rfl, rfl, rfl⟩
  refine ⟨_, C_X12_known _ _ _ h.1.1 RM.refl h.2.2.2.2.2.2 a b c, ?_⟩
  rintro v2 im2 lv2 ⟨rfl, rfl, rfl⟩
  exact ⟨rfl, h⟩
theorem J_safe {l : Launch} {w : zWd} {m : zMem} {lv : Int64} (h : INV m) (a b c : Int32) : JS l w 4 zyX11_safe [vR 0 0, vI a, vI b, vI c] 4 zyX12_safe [vR 43 0, vI a, vI b, vI c] m lv := by
  refine ⟨_, C_X11_safe _ _ _ h.1.1 h.1.2 a b c, ?_⟩
  rintro v1 im1 lv1 ⟨rfl, rfl, rfl⟩
  refine ⟨_, C_X12_safe _ _ _ h.1.1 RM.refl h.2.2.2.2.2.2 a b c, ?_⟩
  rintro v2 im2 lv2 ⟨rfl, rfl, rfl⟩
  exact ⟨rfl, h⟩
theorem J_status {l : Launch} {w : zWd} {m : zMem} {lv : Int64} (h : INV m) : JS l w 2 zyX11_status [vR 0 0] 2 zyX12_status [vR 43 0] m lv := by
  refine ⟨_, C_X11_status _ _ _, ?_⟩
  rintro v1 im1 lv1 ⟨rfl, rfl, rfl⟩
  refine ⟨_, C_X12_status _ _ _ h.2.2.2.2.2.2, ?_⟩
  rintro v2 im2 lv2 ⟨rfl, rfl, rfl⟩
  exact ⟨h.2.2.2.2.1, h⟩
theorem J_fault {l : Launch} {w : zWd} {m : zMem} {lv : Int64} (h : INV m) : JS l w 2 zyX11_fault [vR 0 0] 2 zyX12_fault [vR 43 0] m lv := by
  refine ⟨_, C_X11_fault _ _ _, ?_⟩
  rintro v1 im1 lv1 ⟨rfl, rfl, rfl⟩
  refine ⟨_, C_X12_fault _ _ _ h.2.2.2.2.2.2, ?_⟩
  rintro v2 im2 lv2 ⟨rfl, rfl, rfl⟩
  exact ⟨h.2.2.2.2.2.1, h⟩
theorem J_trace {l : Launch} {w : zWd} {m : zMem} {lv : Int64} (h : INV m) (a : Int32) : JS l w 2 zyX11_trace [vR 0 0, vI a] 3 zyX12_trace [vR 43 0, vI a] m lv := by
  obtain ⟨n, hn, e1, e2, e3⟩ := h.2.2.2.1
  refine ⟨_, C_X11_trace _ _ _ e2 hn a, ?_⟩
  rintro v1 im1 lv1 ⟨rfl, rfl, rfl⟩
  refine ⟨_, C_X12_trace _ _ _ h.2.2.2.2.2.2 e1 hn a, ?_⟩
  rintro v2 im2 lv2 ⟨rfl, rfl, rfl⟩
  refine ⟨?_, h⟩
  unfold aTrace
  by_cases hc : 0 ≤ a ∧ a < nI n
  · rw [if_pos hc, if_pos hc]
    obtain ⟨i, hi, rfl⟩ := zrx (by omega) hc
    rw [cNn (by omega)]
    exact e3 i hi
  · rw [if_neg hc, if_neg hc]
theorem J_load {l : Launch} {w : zWd} {m : zMem} {lv : Int64} (h : INV m) (a b c : Int32) : JS l w 6 zyX11_load [vR 0 0, vI a, vI b, vI c] 5 zyX12_load [vR 43 0, vI a, vI b, vI c] m lv := by
  refine ⟨_, C_X11_load _ _ _ h.1.1 h.1.2 a b c, ?_⟩
  rintro v1 im1 lv1 ⟨rfl, fc, rfl⟩
  refine ⟨_, C_X12_load _ _ _ h.1.1 (RM.fc fc) (by rw [fc 43 (by decide)]; exact h.2.2.2.2.2.2) a b c, ?_⟩
  rintro v2 im2 lv2 ⟨rfl, rfl, rfl⟩
  exact ⟨rfl, h.fr (Ns.of fc Rf.refl)⟩
theorem J_all {l : Launch} {w : zWd} {m : zMem} {lv : Int64} (h : INV m) (a : Int32) : JS l w 6 zyX11_all [vR 0 0, vI a] 6 zyX12_all [vR 43 0, vI a] m lv := by
  refine ⟨_, C_X11_all _ _ _ h.1.1 h.1.2 a, ?_⟩
  rintro v1 im1 lv1 ⟨rfl, fc, rfl⟩
  refine ⟨_, C_X12_all _ _ _ h.1.1 (RM.fc fc) (by rw [fc 43 (by decide)]; exact h.2.2.2.2.2.2) a, ?_⟩
  rintro v2 im2 lv2 ⟨rfl, g, rfl⟩
  exact ⟨rfl, h.fr (Ns.of fc (fun r hr => g r (by omega) (by omega)))⟩
theorem J_split {l : Launch} {w : zWd} {m : zMem} {lv : Int64} (h : INV m) (a : Int32) : JS l w 8 zyX11_split [vR 0 0, vI a] 5 zyX12_split [vR 43 0, vI a] m lv := by
  refine ⟨_, C_X11_split _ _ _ h.1.1 h.1.2 a, ?_⟩
  rintro v1 im1 lv1 ⟨rfl, fc, rfl⟩
  refine ⟨_, C_X12_split _ _ _ h.1.1 (RM.fc fc) (by rw [fc 43 (by decide)]; exact h.2.2.2.2.2.2) a, ?_⟩
  rintro v2 im2 lv2 ⟨rfl, g, rfl⟩
  exact ⟨rfl, h.fr (Ns.of fc (fun r hr => g r (by omega) (by omega) (by omega)))⟩
theorem J_harmless {l : Launch} {w : zWd} {m : zMem} {lv : Int64} (h : INV m) (a b : Int32) : JS l w 7 zyX11_harmless [vR 0 0, vI a, vI b] 7 zyX12_harmless [vR 43 0, vI a, vI b] m lv := by
  refine ⟨_, C_X11_harmless _ _ _ h.1.1 h.1.2 a b, ?_⟩
  rintro v1 im1 lv1 ⟨rfl, fc, rfl⟩
  refine ⟨_, C_X12_harmless _ _ _ h.1.1 (RM.fc fc) (by rw [fc 43 (by decide)]; exact h.2.2.2.2.2.2) a b, ?_⟩
  rintro v2 im2 lv2 ⟨rfl, rfl, rfl⟩
  exact ⟨rfl, h.fr (Ns.of fc Rf.refl)⟩
theorem J_airline {l : Launch} {w : zWd} {m : zMem} {lv : Int64} (h : INV m) (a b : Int32) : JS l w 6 zyX11_airline [vR 0 0, vI a, vI b] 6 zyX12_airline [vR 43 0, vI a, vI b] m lv := by
  refine ⟨_, C_X11_airline _ _ _ h.1.1 h.1.2 a b, ?_⟩
  rintro v1 im1 lv1 ⟨rfl, fc, rfl⟩
  refine ⟨_, C_X12_airline _ _ _ h.1.1 (RM.fc fc) (by rw [fc 43 (by decide)]; exact h.2.2.2.2.2.2) a b, ?_⟩
  rintro v2 im2 lv2 ⟨rfl, g, rfl⟩
  exact ⟨rfl, h.fr (Ns.of fc (fun r hr => g r (by omega) (by omega)))⟩
theorem J_kind {l : Launch} {w : zWd} {m : zMem} {lv : Int64} (h : INV m) (a : Int32) : JS l w 6 zyX11_kind [vR 0 0, vI a] 6 zyX12_kind [vR 43 0, vI a] m lv := by
  refine ⟨_, C_X11_kind _ _ _ h.1.1 h.1.2 a, ?_⟩
  rintro v1 im1 lv1 ⟨rfl, fc, rfl⟩
  refine ⟨_, C_X12_kind _ _ _ h.1.1 (RM.fc fc) (by rw [fc 43 (by decide)]; exact h.2.2.2.2.2.2) a, ?_⟩
  rintro v2 im2 lv2 ⟨rfl, rfl, rfl⟩
  exact ⟨rfl, h.fr (Ns.of fc Rf.refl)⟩
theorem J_count {l : Launch} {w : zWd} {m : zMem} {lv : Int64} (h : INV m) (a : Int32) : JS l w 7 zyX11_count [vR 0 0, vI a] 6 zyX12_count [vR 43 0, vI a] m lv := by
  refine ⟨_, C_X11_count _ _ _ h.1.1 h.2.1.1 h.1.2 (fun s hs => (h.2.1.2 s hs).1) a, ?_⟩
  rintro v1 im1 lv1 ⟨rfl, fc, rfl⟩
  refine ⟨_, C_X12_count _ _ _ h.1.1 (RM.fc fc) (fc 44 (by decide)) (by rw [fc 43 (by decide)]; exact h.2.2.2.2.2.2) a, ?_⟩
  rintro v2 im2 lv2 ⟨rfl, rfl, rfl⟩
  refine ⟨?_, h.fr (Ns.of fc Rf.refl)⟩
  rw [fc 43 (by decide), h.2.2.1.2.1, h.2.2.1.1.1.1]
/-- findings -/
theorem INV.fnd {m im1 im2 : zMem} (h : INV m) {k : Int32} (fc : Fc (zwr m 0 0 10 k) im1) (e : im2 = zwr im1 43 0 1 k) : INV im2 := by
  subst e
  obtain ⟨g1, g2, g3, g4, g5⟩ := h
  have hr : ∀ r, ¬ (20 ≤ r ∧ r ≤ 38) → ¬ r = 0 → ¬ r = 43 → (zwr im1 43 0 1 k) r = m r := fun r q1 q2 q3 => by rw [zwr_r q3, fc r q1, zwr_r q2]
  have h43 : ∀ j, ¬ j = 1 → (zwr im1 43 0 1 k) 43 0 j = m 43 0 j := fun j hj => by rw [zwr_k hj, fc 43 (by decide), zwr_r (by decide)]
  have e0 : (zwr im1 43 0 1 k) 0 = (zwr m 0 0 10 k) 0 := by rw [zwr_r (by decide), fc 0 (by decide)]
  refine ⟨g1.fr (fun r q => hr r (by omega) (by omega) (by omega)) (h43 7 (by decide)) (h43 8 (by decide)) (h43 10 (by decide)), g2.fr (fun r q => hr r (by omega) (by omega) q.2), g3.fr (h43 17 (by decide)) (hr 55 (by decide) (by decide) (by decide)) (by rw [hr 16 (by decide) (by decide) (by decide)]) (hr 17 (by decide) (by decide) (by decide)), g4.fr (h43 41 (by decide)) (by rw [hr 39 (by decide) (by decide) (by decide)]) (hr 40 (by decide) (by decide) (by decide)) (hr 67 (by decide) (by decide) (by decide)), ?_, ?_, ?_⟩
  · rw [e0, zwr_eq, zwr_eq]
  · rw [e0, zwr_k (by decide), h43 18 (by decide)]; exact g5.2.1
  · rw [h43 0 (by decide)]; exact g5.2.2
theorem J_as {l : Launch} {w : zWd} {m : zMem} {lv : Int64} (h : INV m) (a b : Int32) : JS l w 6 zyX11_as [vR 0 0, vI a, vI b] 6 zyX12_as [vR 43 0, vI a, vI b] m lv := by
  refine ⟨_, C_X11_as _ _ _ h.1.1 h.1.2 a b, ?_⟩
  rintro v1 im1 lv1 ⟨h1, rfl⟩
  have hcl : RM m im1 ∧ im1 43 0 0 = 0 := by
    by_cases hc : (0 ≤ a ∧ a < nI (nfl m)) ∧ (0 ≤ b ∧ b < nI 4)
    · rw [if_pos hc] at h1
      have : ∀ {k : Int32}, Fc (zwr m 0 0 10 k) im1 → RM m im1 ∧ im1 43 0 0 = 0 := fun fc => ⟨RM.refl.fr (fun r q1 q2 => by rw [fc r (by omega), zwr_r (by omega)]), by rw [fc 43 (by decide), zwr_r (by decide)]; exact h.2.2.2.2.2.2⟩
      split at h1
      · exact this h1.2
      · exact this h1.2
    · rw [if_neg hc] at h1
      rw [h1.2]
      exact ⟨RM.refl, h.2.2.2.2.2.2⟩
  refine ⟨_, C_X12_as _ _ _ h.1.1 hcl.1 hcl.2 a b, ?_⟩
  rintro v2 im2 lv2 ⟨h2, rfl⟩
  by_cases hc : (0 ≤ a ∧ a < nI (nfl m)) ∧ (0 ≤ b ∧ b < nI 4)
  · rw [if_pos hc] at h1 h2
    by_cases hk : isK (knd m (cN a)) (cN b) = true
    · rw [if_pos hk] at h1 h2
      exact ⟨h1.1.trans h2.1.symm, h.fnd h1.2 h2.2⟩
    · rw [if_neg hk] at h1 h2
      exact ⟨h1.1.trans h2.1.symm, h.fnd h1.2 h2.2⟩
  · rw [if_neg hc] at h1 h2
    refine ⟨h1.1.trans h2.1.symm, ?_⟩
    rw [h2.2, h1.2]
    exact h
theorem apL_r {r : Nat} (h1 : ¬ r = 67) (h2 : ¬ r = 43) : ∀ {im : zMem} {n : Nat} {L : List Nat}, apL im n L r = im r
  | im, n, [] => rfl
  | im, n, b :: L => by
    show apL _ (n + 1) L r = _
    rw [apL_r h1 h2, zwr_r h2, zwr_r h1]
theorem apL_43 {k : Nat} (h : ¬ k = 41) : ∀ {im : zMem} {n : Nat} {L : List Nat}, apL im n L 43 0 k = im 43 0 k
  | im, n, [] => rfl
  | im, n, b :: L => by
    show apL _ (n + 1) L 43 0 k = _
    rw [apL_43 h, zwr_k h, zwr_r (by decide)]
theorem apL_lo : ∀ {im : zMem} {n i : Nat} {L : List Nat}, i < n → apL im n L 67 0 i = im 67 0 i
  | im, n, i, [], h => rfl
  | im, n, i, b :: L, h => by
    show apL _ (n + 1) L 67 0 i = _
    rw [apL_lo (by omega), zwr_r (by decide), zwr_app, if_neg (by omega)]
theorem apL_at : ∀ {im : zMem} {n i : Nat} {L : List Nat}, i < L.length → apL im n L 67 0 (n + i) = nI (L.getD i 0)
  | im, n, i, [], h => by cases h
  | im, n, 0, b :: L, h => by
    show apL _ (n + 1) L 67 0 n = _
    rw [apL_lo (by omega), zwr_r (by decide), zwr_eq]
    rfl
  | im, n, i + 1, b :: L, h => by
    show apL _ (n + 1) L 67 0 (n + (i + 1)) = _
    rw [show n + (i + 1) = (n + 1) + i by omega, apL_at (by simpa using h)]
    rfl
theorem INV.trc {m im1 im2 : zMem} (h : INV m) {L : List Nat} (hL : L.length ≤ 16) (h1 : TRa L m im1) (e : im2 = apL (zwr im1 43 0 41 0) 0 L) : INV im2 := by
  subst e
  obtain ⟨g1, g2, g3, g4, g5⟩ := h
  obtain ⟨t1, t2, t3⟩ := h1
  have hr : ∀ r, ¬ (20 ≤ r ∧ r ≤ 40) → ¬ r = 67 → ¬ r = 43 → (apL (zwr im1 43 0 41 0) 0 L) r = m r := fun r q1 q2 q3 => by rw [apL_r q2 q3, zwr_r q3, t1 r q1]
  have h43 : ∀ j, ¬ j = 41 → (apL (zwr im1 43 0 41 0) 0 L) 43 0 j = m 43 0 j := fun j hj => by rw [apL_43 hj, zwr_k hj, t1 43 (by decide)]
  refine ⟨g1.fr (fun r q => hr r (by omega) (by omega) (by omega)) (h43 7 (by decide)) (h43 8 (by decide)) (h43 10 (by decide)), g2.fr (fun r q => hr r (by omega) (by omega) q.2), g3.fr (h43 17 (by decide)) (hr 55 (by decide) (by decide) (by decide)) (by rw [hr 16 (by decide) (by decide) (by decide)]) (hr 17 (by decide) (by decide) (by decide)), ⟨L.length, hL, ?_, ?_, fun i hi => ?_⟩, g5.fr (hr 0 (by decide) (by decide) (by decide)) (h43 1 (by decide)) (h43 18 (by decide)) (h43 0 (by decide))⟩
  · have := apL_n (im := zwr im1 43 0 41 0) (n := 0) (L := L) zwr_eq
    rw [Nat.zero_add] at this
    exact this
  · rw [apL_r (by decide) (by decide), zwr_r (by decide)]; exact t2
  · have := apL_at (im := zwr im1 43 0 41 0) (n := 0) hi
    rw [Nat.zero_add] at this
    rw [this, apL_r (by decide) (by decide), zwr_r (by decide)]
    exact t3 i hi
theorem J_ask {l : Launch} {w : zWd} {m : zMem} {lv : Int64} (h : INV m) (a b : Int32) : JS l w 8 zyX11_ask [vR 0 0, vI a, vI b] 6 zyX12_ask [vR 43 0, vI a, vI b] m lv := by
  refine ⟨_, C_X11_ask _ _ _ h.1.1 h.1.2 a b, ?_⟩
  rintro v1 im1 lv1 ⟨h1, rfl⟩
  have hcl : RM m im1 ∧ im1 43 0 0 = 0 := by
    by_cases hc : (0 ≤ a ∧ a < nI (nfl m)) ∧ (0 ≤ b ∧ b < nI 2)
    · rw [if_pos hc] at h1
      have : ∀ {L : List Nat}, TRa L m im1 → RM m im1 ∧ im1 43 0 0 = 0 := fun t => ⟨RM.refl.fr (fun r q1 q2 => t.1 r (by omega)), by rw [t.1 43 (by decide)]; exact h.2.2.2.2.2.2⟩
      split at h1
      · exact this h1.2
      · exact this h1.2
    · rw [if_neg hc] at h1
      rw [h1.2]
      exact ⟨RM.refl, h.2.2.2.2.2.2⟩
  refine ⟨_, C_X12_ask _ _ _ h.1.1 hcl.1 hcl.2 a b, ?_⟩
  rintro v2 im2 lv2 ⟨h2, rfl⟩
  have l1 : ∀ k, (szL k).length ≤ 16 := fun k => by unfold szL; split <;> (try split) <;> (try split) <;> decide
  have l2 : ∀ k, (mkL k).length ≤ 16 := fun k => by unfold mkL; split <;> (try split) <;> decide
  by_cases hc : (0 ≤ a ∧ a < nI (nfl m)) ∧ (0 ≤ b ∧ b < nI 2)
  · rw [if_pos hc] at h1 h2
    by_cases hk : b = 0
    · rw [if_pos hk] at h1 h2
      exact ⟨h1.1.trans h2.1.symm, h.trc (l1 _) h1.2 h2.2⟩
    · rw [if_neg hk] at h1 h2
      exact ⟨h1.1.trans h2.1.symm, h.trc (l2 _) h1.2 h2.2⟩
  · rw [if_neg hc] at h1 h2
    refine ⟨h1.1.trans h2.1.symm, ?_⟩
    rw [h2.2, h1.2]
    exact h
