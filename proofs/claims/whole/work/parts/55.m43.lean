/-! joint step: reading -/
theorem rnP_c {m m' : zMem} (e1 : tn m' = tn m) (e2 : tb m' = tb m) {p : Nat → Bool} : ∀ k a, rnP p m' k a = rnP p m k a
  | 0, _ => rfl
  | k + 1, a => by rw [rnP, rnP, e1, e2, rnP_c e1 e2 k]
theorem rnE_c {m m' : zMem} (e1 : tn m' = tn m) (e2 : tb m' = tb m) {p : Nat → Bool} : rnE p m' = rnE p m := by
  funext a
  unfold rnE
  rw [e1, rnP_c e1 e2]
theorem te_c {m m' : zMem} (e1 : tn m' = tn m) (e2 : tb m' = tb m) : te m' = te m := by
  funext a
  unfold te
  rw [e1, e2, rnE_c e1 e2, rnE_c e1 e2]
theorem kd_c {m m' : zMem} (e1 : tn m' = tn m) (e2 : tb m' = tb m) : kd m' = kd m := by
  funext a
  unfold kd
  rw [e1, e2, te_c e1 e2]
theorem sk_c {m m' : zMem} (e1 : tn m' = tn m) (e2 : tb m' = tb m) : sk m' = sk m := by
  funext a
  unfold sk
  rw [rnE_c e1 e2]
theorem nx_c {m m' : zMem} (e1 : tn m' = tn m) (e2 : tb m' = tb m) : nx m' = nx m := by
  funext a
  unfold nx
  rw [sk_c e1 e2, te_c e1 e2]
theorem nvP_c {m m' : zMem} (e2 : tb m' = tb m) : ∀ k a v, nvP m' k a v = nvP m k a v
  | 0, _, _ => rfl
  | k + 1, a, v => by rw [nvP, nvP, e2, nvP_c e2 k]
theorem wvP_c {m m' : zMem} (e2 : tb m' = tb m) : ∀ k a v, wvP m' k a v = wvP m k a v
  | 0, _, _ => rfl
  | k + 1, a, v => by rw [wvP, wvP, e2, wvP_c e2 k]
theorem nv_c {m m' : zMem} (e1 : tn m' = tn m) (e2 : tb m' = tb m) : nv m' = nv m := by
  funext a
  unfold nv
  rw [te_c e1 e2, nvP_c e2]
theorem wd_c {m m' : zMem} (e1 : tn m' = tn m) (e2 : tb m' = tb m) : wd m' = wd m := by
  funext a
  unfold wd
  rw [kd_c e1 e2, te_c e1 e2, wvP_c e2]
theorem nmS_c {m m' : zMem} (e1 : tn m' = tn m) (e2 : tb m' = tb m) {lo hi : Nat} {s : Nat × Nat} : nmS m' lo hi s = nmS m lo hi s := by
  unfold nmS
  rw [kd_c e1 e2, nv_c e1 e2, nx_c e1 e2]
theorem semS_c {m m' : zMem} (e1 : tn m' = tn m) (e2 : tb m' = tb m) {s : Nat × Nat} : semS m' s = semS m s := by
  unfold semS ndS
  rw [kd_c e1 e2, nx_c e1 e2]
theorem lgS_c {m m' : zMem} (e1 : tn m' = tn m) (e2 : tb m' = tb m) : ∀ k a, lgS m' k a = lgS m k a
  | 0, _ => rfl
  | k + 1, a => by
    have ih := fun a => lgS_c e1 e2 k a
    simp only [lgS, nmS_c e1 e2, kd_c e1 e2, nv_c e1 e2, nx_c e1 e2, ih]
theorem wyS_c {m m' : zMem} (e1 : tn m' = tn m) (e2 : tb m' = tb m) : ∀ k a, wyS m' k a = wyS m k a
  | 0, _ => rfl
  | k + 1, a => by
    have ih := fun a => wyS_c e1 e2 k a
    simp only [wyS, lgS_c e1 e2, wd_c e1 e2, nx_c e1 e2, ih]
theorem flS_c {m m' : zMem} (e1 : tn m' = tn m) (e2 : tb m' = tb m) {a : Nat} : flS m' a = flS m a := by
  simp only [flS, nmS_c e1 e2, wd_c e1 e2, nv_c e1 e2, wyS_c e1 e2]
theorem smS_c {m m' : zMem} (e1 : tn m' = tn m) (e2 : tb m' = tb m) {a : Nat} : smS m' a = smS m a := by
  simp only [smS, nmS_c e1 e2, nv_c e1 e2]
theorem brS_c {m m' : zMem} (e1 : tn m' = tn m) (e2 : tb m' = tb m) {a : Nat} : brS m' a = brS m a := by
  simp only [brS, nmS_c e1 e2, nv_c e1 e2]
theorem oneS_c {m m' : zMem} (e1 : tn m' = tn m) (e2 : tb m' = tb m) (e3 : nfl m' = nfl m) (e4 : nst m' = nst m) {q : zTx} {a : Nat} : oneS m' q a = oneS m q a := by
  unfold oneS
  rw [wd_c e1 e2, nx_c e1 e2, e3, e4, flS_c e1 e2, smS_c e1 e2, brS_c e1 e2, semS_c e1 e2, semS_c e1 e2, semS_c e1 e2]
theorem allS_c {m m' : zMem} (e1 : tn m' = tn m) (e2 : tb m' = tb m) (e3 : nfl m' = nfl m) (e4 : nst m' = nst m) : ∀ k q a, allS m' k q a = allS m k q a
  | 0, _, _ => rfl
  | k + 1, q, a => by rw [allS, allS, kd_c e1 e2, oneS_c e1 e2 e3 e4, allS_c e1 e2 e3 e4 k]
theorem txS_c {m m' : zMem} (e1 : tn m' = tn m) (e2 : tb m' = tb m) (e3 : nfl m' = nfl m) (e4 : nst m' = nst m) : txS m' = txS m := by
  unfold txS
  exact (allS_c e1 e2 e3 e4 501 _ _).trans (congrArg (allS m 501 _) (congrFun (sk_c e1 e2) 0))

theorem WFf_old {m M : zMem} {f : Nat} (hW : WFf m f) (h50 : ∀ j, j < 5 → M 50 0 (5 * f + j) = m 50 0 (5 * f + j)) (h51 : ∀ j, j < 15 → M 51 0 (15 * f + j) = m 51 0 (15 * f + j)) (h52 : ∀ j, j < 15 → M 52 0 (15 * f + j) = m 52 0 (15 * f + j)) (h53 : M 53 0 f = m 53 0 f) (h54 : M 54 0 f = m 54 0 f) : WFf M f ∧ (own M f = own m f ∧ wgt M f = wgt m f ∧ sta M f = sta m f ∧ rat M f = rat m f ∧ wys M f = wys m f ∧ way M f = way m f ∧ dly M f = dly m f) ∧ ∀ w k, w < 3 → k < 5 → lsl M f w k = lsl m f w k ∧ lrm M f w k = lrm m f w k := by
  have e0 := h50 0 (by decide)
  rw [Nat.add_zero] at e0
  have e1 := h50 1 (by decide)
  have e2 := h50 2 (by decide)
  have e3 := h50 3 (by decide)
  have e4 := h50 4 (by decide)
  have el : ∀ w k, w < 3 → k < 5 → M 52 0 (15 * f + 5 * w + k) = m 52 0 (15 * f + 5 * w + k) ∧ M 51 0 (15 * f + 5 * w + k) = m 51 0 (15 * f + 5 * w + k) := fun w k hw hk => by
    have a := h52 (5 * w + k) (by omega)
    have b := h51 (5 * w + k) (by omega)
    rw [← Nat.add_assoc] at a b
    exact ⟨a, b⟩
  have h7 : own M f = own m f ∧ wgt M f = wgt m f ∧ sta M f = sta m f ∧ rat M f = rat m f ∧ wys M f = wys m f ∧ way M f = way m f ∧ dly M f = dly m f := by
    unfold own wgt sta rat wys way dly
    rw [e0, e1, e2, e3, e4, h53, h54]
    exact ⟨rfl, rfl, rfl, rfl, rfl, rfl, rfl⟩
  have hl : ∀ w k, w < 3 → k < 5 → lsl M f w k = lsl m f w k ∧ lrm M f w k = lrm m f w k := fun w k hw hk => by
    unfold lsl lrm
    rw [(el w k hw hk).1, (el w k hw hk).2]
    exact ⟨rfl, rfl⟩
  refine ⟨?_, h7, hl⟩
  obtain ⟨q0, q1, q2, q3, q4, q5, q6⟩ := h7
  unfold WFf at *
  rw [q0, q1, q2, q3, q4, q5, q6, e0, e1, e2, e3, e4, h53, h54]
  obtain ⟨a0, a1, a2, a3, a4, a5, a6, a7⟩ := hW
  refine ⟨a0, a1, a2, a3, a4, a5, a6, fun w k hw hk => ?_⟩
  rw [(hl w k hw hk).1, (hl w k hw hk).2, (el w k hw hk).1, (el w k hw hk).2]
  exact a7 w k hw hk
theorem RCf_old {m M : zMem} {f : Nat} (h12 : wys m f ≤ 3) (hC : RCf m m f) (h7 : own M f = own m f ∧ wgt M f = wgt m f ∧ sta M f = sta m f ∧ rat M f = rat m f ∧ wys M f = wys m f ∧ way M f = way m f ∧ dly M f = dly m f) (hl : ∀ w k, w < 3 → k < 5 → lsl M f w k = lsl m f w k ∧ lrm M f w k = lrm m f w k) (hc : ∀ r k, 12 ≤ r → r ≤ 15 → M r f k = m r f k) : RCf M M f := by
  obtain ⟨q0, q1, q2, q3, q4, q5, q6⟩ := h7
  unfold RCf RCw at *
  rw [q0, q1, q2, q3, q4, q5, q6]
  obtain ⟨a0, a1, a2, a3, a4, a5, a6, a7⟩ := hC
  refine ⟨by rw [hc 12 _ (by decide) (by decide)]; exact a0, by rw [hc 12 _ (by decide) (by decide)]; exact a1, by rw [hc 12 _ (by decide) (by decide)]; exact a2, by rw [hc 12 _ (by decide) (by decide)]; exact a3, by rw [hc 12 _ (by decide) (by decide)]; exact a4, by rw [hc 12 _ (by decide) (by decide)]; exact a5, by rw [hc 12 _ (by decide) (by decide)]; exact a6, fun w hw => ?_⟩
  obtain ⟨c, g1, g2, g3, g4⟩ := a7 w hw
  refine ⟨c, g1, by rw [hc 13 _ (by decide) (by decide)]; exact g2, fun k hk => ?_, fun k k1 k2 => by rw [(hl w k (by omega) k2).1]; exact g4 k k1 k2⟩
  rw [(hl w k (by omega) (by omega)).1, (hl w k (by omega) (by omega)).2, hc 14 _ (by decide) (by decide), hc 15 _ (by decide) (by decide)]
  exact g3 k hk
theorem gW_mem {l : List (List (Nat × Nat))} {i : Nat} (h : i < l.length) : l.getD i [] ∈ l := by
  rw [List.getD_eq_getElem?_getD, List.getElem?_eq_getElem h]
  exact List.getElem_mem h
theorem gP_mem {l : List (Nat × Nat)} {i : Nat} (h : i < l.length) : l.getD i (0, 0) ∈ l := by
  rw [List.getD_eq_getElem?_getD, List.getElem?_eq_getElem h]
  exact List.getElem_mem h
theorem F_new {M : zMem} {f : Nat} {d : zFl} (hR : flR M f d) (hC : flC M f d) (ok : okF d) : WFf M f ∧ RCf M M f := by
  obtain ⟨⟨r0, r1, r2, r3, r4⟩, ⟨r5, r6⟩, r7⟩ := hR
  obtain ⟨⟨c0, c1, c2, c3⟩, ⟨c8, c9⟩, c4, cw⟩ := hC
  obtain ⟨⟨o0, o1, o2, o3⟩, o4, o5, o6⟩ := ok
  have q0 : own M f = d.1.1 := by unfold own; rw [r0, cNn (by omega)]
  have q1 : wgt M f = d.1.2.1 := by unfold wgt; rw [r1, cNn (by omega)]
  have q2 : sta M f = d.1.2.2.1 := by unfold sta; rw [r2, cNn (by omega)]
  have q3 : rat M f = d.1.2.2.2 := by unfold rat; rw [r3, cNn (by omega)]
  have q4 : wys M f = d.2.length := by unfold wys; rw [r4, cNn (by omega)]
  have q5 : way M f = 0 := by unfold way; rw [r5]; rfl
  have q6 : dly M f = 0 := by unfold dly; rw [r6]; rfl
  have hin : ∀ w k, w < 3 → k < 5 → k < (d.2.getD w []).length → ((d.2.getD w []).getD k (0, 0)).1 ≤ 7 ∧ 1 ≤ ((d.2.getD w []).getD k (0, 0)).2 ∧ ((d.2.getD w []).getD k (0, 0)).2 ≤ 4 := fun w k hw hk h => by
    by_cases hwl : w < d.2.length
    · exact (o6 _ (gW_mem hwl)).2.2 _ (gP_mem h)
    · rw [gW_o (by omega)] at h; cases h
  have hl : ∀ w k, w < 3 → k < 5 → lsl M f w k = (if k < (d.2.getD w []).length then ((d.2.getD w []).getD k (0, 0)).2 else 0) := fun w k hw hk => by
    obtain ⟨a, b⟩ := r7 w k hw hk
    unfold lsl
    by_cases h : k < (d.2.getD w []).length
    · have := hin w k hw hk h
      rw [if_pos h, (a h).2, cNn (by omega)]
    · rw [if_neg h, b (by omega)]
      rfl
  constructor
  · unfold WFf
    rw [q0, q1, q2, q3, q4, q5, q6]
    refine ⟨⟨r0, o0⟩, ⟨r1, o1⟩, ⟨r2, o2⟩, ⟨r3, o3⟩, ⟨r4, o4, o5⟩, ⟨r5, by omega⟩, ⟨r6, by omega⟩, fun w k hw hk => ?_⟩
    obtain ⟨a, b⟩ := r7 w k hw hk
    rw [hl w k hw hk]
    by_cases h : k < (d.2.getD w []).length
    · have hi := hin w k hw hk h
      rw [if_pos h]
      refine ⟨(a h).2, hi.2.2, fun _ => ?_⟩
      unfold lrm
      rw [(a h).1, cNn (by omega)]
      exact ⟨rfl, hi.1⟩
    · rw [if_neg h]
      exact ⟨b (by omega), by omega, fun z => by omega⟩
  · unfold RCf
    rw [q0, q1, q2, q3, q4, q5, q6]
    refine ⟨c0, c1, c2, c3, c4, c8, c9, fun w hw => ?_⟩
    obtain ⟨⟨k1, k2⟩, k3⟩ := cw w hw
    refine ⟨(d.2.getD w []).length, k2, k1, fun k hk => ?_, fun k g1 g2 => ?_⟩
    · have hi := hin w k (by omega) (by omega) hk
      obtain ⟨a, -⟩ := r7 w k (by omega) (by omega)
      rw [hl w k (by omega) (by omega), if_pos hk]
      refine ⟨hi.2.1, ?_, (k3 k hk).2⟩
      unfold lrm
      rw [(k3 k hk).1, (a hk).1, cNn (by omega)]
    · rw [hl w k (by omega) g2, if_neg (by omega)]
theorem S_old {m M : zMem} {k : Nat} (hW : WFs m k) (hC : RCs m m k) (h49 : ∀ j, j < 5 → M 49 0 (5 * k + j) = m 49 0 (5 * k + j)) (hc : ∀ r, 5 ≤ r → r ≤ 9 → M r 0 k = m r 0 k) : WFs M k ∧ RCs M M k := by
  have e0 := h49 0 (by decide)
  rw [Nat.add_zero] at e0
  have e1 := h49 1 (by decide)
  have e2 := h49 2 (by decide)
  have e3 := h49 3 (by decide)
  have e4 := h49 4 (by decide)
  unfold WFs RCs stw str sta1 stb stv at *
  rw [e0, e1, e2, e3, e4, hc 5 (by decide) (by decide), hc 6 (by decide) (by decide), hc 7 (by decide) (by decide), hc 8 (by decide) (by decide), hc 9 (by decide) (by decide)]
  exact ⟨hW, hC⟩
theorem S_new {M : zMem} {k : Nat} {d : Nat × Nat × Nat × Nat × Nat} (hR : smR M k d) (hC : smC M k d) (ok : okS d) : WFs M k ∧ RCs M M k := by
  obtain ⟨r0, r1, r2, r3, r4⟩ := hR
  obtain ⟨c0, c1, c2, c3, c4⟩ := hC
  obtain ⟨o0, o1, o2, o3, o4⟩ := ok
  unfold WFs RCs stw str sta1 stb stv
  rw [r0, r1, r2, r3, r4, cNn (show d.1 < 2 ^ 31 by omega), cNn (show d.2.1 < 2 ^ 31 by omega), cNn (show d.2.2.1 < 2 ^ 31 by omega), cNn (show d.2.2.2.1 < 2 ^ 31 by omega), cNn (show d.2.2.2.2 < 2 ^ 31 by omega)]
  exact ⟨⟨⟨rfl, o0⟩, ⟨rfl, o1⟩, ⟨rfl, o2⟩, ⟨rfl, o3⟩, rfl, o4⟩, c0, c1, c2, c3, c4⟩
theorem gA_mem {α : Type} {d : α} {l : List α} {i : Nat} (h : i < l.length) : l.getD i d ∈ l := by
  rw [List.getD_eq_getElem?_getD, List.getElem?_eq_getElem h]
  exact List.getElem_mem h
theorem G1.rd {m M : zMem} (h : G1 m) {F : List zFl} {S : List (Nat × Nat × Nat × Nat × Nat)} (h10 : M 43 0 10 = nI (nfl m + F.length)) (k10 : M 10 0 1 = nI (nfl m + F.length)) (hN : nfl m + F.length ≤ 12) (h8 : M 43 0 8 = nI (nst m + S.length)) (k8 : M 2 0 7 = nI (nst m + S.length)) (hS : nst m + S.length ≤ 20) (h7 : M 43 0 7 = m 43 0 7) (k7 : M 2 0 8 = m 2 0 8) (h50 : ∀ k, k < 5 * nfl m → M 50 0 k = m 50 0 k) (h51 : ∀ k, k < 15 * nfl m → M 51 0 k = m 51 0 k) (h52 : ∀ k, k < 15 * nfl m → M 52 0 k = m 52 0 k) (h53 : ∀ f, f < nfl m → M 53 0 f = m 53 0 f) (h54 : ∀ f, f < nfl m → M 54 0 f = m 54 0 f) (hcf : ∀ r f k, 12 ≤ r → r ≤ 15 → f < nfl m → M r f k = m r f k) (h49 : ∀ k, k < 5 * nst m → M 49 0 k = m 49 0 k) (hcs : ∀ r k, 5 ≤ r → r ≤ 9 → k < nst m → M r 0 k = m r 0 k) (fR : ∀ j, j < F.length → flR M (nfl m + j) (F.getD j dF)) (fC : ∀ j, j < F.length → flC M (nfl m + j) (F.getD j dF)) (okf : ∀ d ∈ F, okF d) (sR : ∀ j, j < S.length → smR M (nst m + j) (S.getD j dS)) (sC : ∀ j, j < S.length → smC M (nst m + j) (S.getD j dS)) (oks : ∀ d ∈ S, okS d) (hb : ∀ k, k < 384 → M 3 0 k = M 47 0 k ∧ ∃ c, c ≤ 99 ∧ M 47 0 k = nI c) (h48 : M 48 = m 48) (k4 : M 4 = m 4) : G1 M := by
  obtain ⟨⟨a1, a2, a3, a4, a5, a6, a7⟩, c1, c2, c3, c4, c5, c6, c7⟩ := h
  have en : nfl M = nfl m + F.length := by unfold nfl; rw [h10, cNn (by omega)]; rfl
  have es : nst M = nst m + S.length := by unfold nst; rw [h8, cNn (by omega)]; rfl
  have el : lok M = lok m := by unfold lok; rw [h7]
  have ef : ∀ k, stf M k = stf m k := fun k => by unfold stf; rw [h48]
  have hB : ∀ k, k < 384 → M 47 0 k = nI (bas M k) ∧ bas M k ≤ 99 := fun k hk => by
    obtain ⟨-, c, hc, e⟩ := hb k hk
    unfold bas
    rw [e, cNn (by omega)]
    exact ⟨rfl, hc⟩
  have hF : ∀ f, f < nfl M → WFf M f ∧ RCf M M f := fun f hf => by
    rw [en] at hf
    by_cases hfo : f < nfl m
    · obtain ⟨q1, q2, q3⟩ := WFf_old (M := M) (a2 f hfo) (fun j hj => h50 _ (by omega)) (fun j hj => h51 _ (by omega)) (fun j hj => h52 _ (by omega)) (h53 f hfo) (h54 f hfo)
      exact ⟨q1, RCf_old (a2 f hfo).2.2.2.2.1.2.2 (c2 f hfo) q2 q3 (fun r k g1 g2 => hcf r f k g1 g2 hfo)⟩
    · have := F_new (fR (f - nfl m) (by omega)) (fC (f - nfl m) (by omega)) (okf _ (gA_mem (by omega)))
      rw [show nfl m + (f - nfl m) = f by omega] at this
      exact this
  have hSt : ∀ k, k < nst M → WFs M k ∧ RCs M M k := fun k hk => by
    rw [es] at hk
    by_cases hko : k < nst m
    · exact S_old (a4 k hko) (c4 k hko) (fun j hj => h49 _ (by omega)) (fun r g1 g2 => hcs r k g1 g2 hko)
    · have := S_new (sR (k - nst m) (by omega)) (sC (k - nst m) (by omega)) (oks _ (gA_mem (by omega)))
      rw [show nst m + (k - nst m) = k by omega] at this
      exact this
  refine ⟨⟨⟨by rw [en]; exact h10, by rw [en]; exact hN⟩, fun f hf => (hF f hf).1, ⟨by rw [es]; exact h8, by rw [es]; exact hS⟩, fun k hk => (hSt k hk).1, hB, fun k hk => by rw [ef, h48]; exact a6 k hk, by rw [el, h7]; exact a7⟩, by rw [en]; exact k10, fun f hf => (hF f hf).2, by rw [es]; exact k8, fun k hk => (hSt k hk).2, fun k hk => (hb k hk).1.trans (hB k hk).1, fun k hk => by rw [ef, k4]; exact c6 k hk, by rw [el, k7]; exact c7⟩
