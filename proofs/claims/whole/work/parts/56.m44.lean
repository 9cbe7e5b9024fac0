/-! joint step: reading -/
theorem G3.emp {M : zMem} (h1 : M 43 0 17 = 0) (h2 : M 16 0 1 = 0) : G3 M := by
  have et : tn M = 0 := by unfold tn; rw [h1]; rfl
  refine ⟨⟨⟨by rw [et, h1]; rfl, by rw [et]; decide⟩, fun k hk => by rw [et] at hk; omega⟩, by rw [et, h2]; rfl, fun k hk => by rw [et] at hk; omega⟩
theorem J_read {l : Launch} {w : zWd} {m : zMem} {lv : Int64} (h : INV m) : JS l w 9 zyX11_read [vR 0 0] 8 zyX12_read [vR 43 0] m lv := by
  obtain ⟨g1, g2, g3, g4, g5⟩ := h
  have h12 := g1.1.1.2
  have h20 := g1.1.2.2.1.2
  refine ⟨_, C_X11_read _ _ _ g1.1 g3.1 g1.2 g3.2, ?_⟩
  intro v1 im1 lv1 h1
  have hcl : ∀ r, 39 ≤ r → im1 r = m r := by
    intro r hr
    funext i k
    rcases h1 with ⟨-, -, hf, -⟩ | ⟨-, -, hf, -⟩
    · exact hf r i k (by omega)
    · exact hf r i k (by unfold Sco; omega)
  have hM : RM m im1 := RM.refl.fr (fun r q1 q2 => hcl r (by omega))
  have hW1 := g1.1.frm hM
  have e43 := hcl 43 (by decide)
  have e55 := hcl 55 (by decide)
  have etn : tn im1 = tn m := by unfold tn; rw [e43]
  have etb : tb im1 = tb m := by funext k; unfold tb; rw [e55]
  have enf : nfl im1 = nfl m := by unfold nfl; rw [e43]
  have ens : nst im1 = nst m := by unfold nst; rw [e43]
  have hT1 : WT im1 := by
    have := g3.1
    unfold WT at *
    rw [etn, etb, e43, e55]
    exact this
  have etx : txS im1 = txS m := txS_c etn etb enf ens
  refine ⟨_, C_X12_read _ _ _ hW1 hT1 (by rw [e43]; exact g5.2.2), ?_⟩
  rintro v2 im2 lv2 ⟨h2, rfl⟩
  have hB0 : ∀ k, k < 384 → m 3 0 k = m 47 0 k ∧ ∃ c, c ≤ 99 ∧ m 47 0 k = nI c := fun k hk => by
    obtain ⟨b1, b2⟩ := g1.1.2.2.2.2.1 k hk
    exact ⟨(g1.2.2.2.2.2.1 k hk).trans b1.symm, _, b2, b1⟩
  unfold rdF rdE at h2
  rw [etx, enf, ens] at h2
  have hSrd : Srd im1 = Srd m := by unfold Srd; rw [enf, ens]
  rw [hSrd] at h2
  rcases h1 with ⟨n0, rfl, f1, z16, z11⟩ | ⟨n0, rfl, f1, z16, k10, k7, rF, rS, r3⟩
  · rcases h2 with ⟨-, -, hf4, rfl, f2, z17, z18⟩ | ⟨n0', -⟩
    · refine ⟨rfl, ?_⟩
      -- all cells that count
      have cc : ∀ r i k, r < 39 → ¬ (Srt m r i k ∨ (r = 16 ∧ k = 1) ∨ (r = 0 ∧ k = 11)) → im2 r i k = m r i k := fun r i k q1 q2 => by
        rw [f2 r i k (by unfold Srd; omega)]
        exact f1 r i k q2
      have cr : ∀ r i k, 39 ≤ r → ¬ (Srd m r i k ∨ (r = 43 ∧ k = 18)) → im2 r i k = m r i k := fun r i k q1 q2 => by
        rw [f2 r i k q2, hcl r q1]
      have row : ∀ r, 39 ≤ r → (∀ i k, ¬ (Srd m r i k ∨ (r = 43 ∧ k = 18))) → im2 r = m r := fun r q1 q2 => by
        funext i k
        exact cr r i k q1 (q2 i k)
      have rowc : ∀ r, r < 39 → (∀ i k, ¬ (Srt m r i k ∨ (r = 16 ∧ k = 1) ∨ (r = 0 ∧ k = 11))) → im2 r = m r := fun r q1 q2 => by
        funext i k
        exact cc r i k q1 (q2 i k)
      have e43' : ∀ j, j < 17 ∨ 28 < j → im2 43 0 j = m 43 0 j := fun j hj => cr 43 0 j (by decide) (by unfold Srd; omega)
      refine ⟨?_, g2.fr (fun r q => row r (by omega) (fun i k => by unfold Srd; omega)), G3.emp z17 (by rw [f2 16 0 1 (by unfold Srd; omega)]; exact z16), g4.fr (e43' 41 (by decide)) (cr 39 0 2 (by decide) (by unfold Srd; omega)) (row 40 (by decide) (fun i k => by unfold Srd; omega)) (row 67 (by decide) (fun i k => by unfold Srd; omega)), ?_, ?_, ?_⟩
      · refine g1.rd (F := []) (S := []) ?_ ?_ h12 ?_ ?_ h20 (e43' 7 (by decide)) (cc 2 0 8 (by decide) (by omega)) (fun k hk => cr 50 0 k (by decide) (by unfold Srd; omega)) (fun k hk => cr 51 0 k (by decide) (by unfold Srd; omega)) (fun k hk => cr 52 0 k (by decide) (by unfold Srd; omega)) (fun f hf => cr 53 0 f (by decide) (by unfold Srd; omega)) (fun f hf => cr 54 0 f (by decide) (by unfold Srd; omega)) (fun r f k q1 q2 q3 => cc r f k (by omega) (by omega)) (fun k hk => cr 49 0 k (by decide) (by unfold Srd; omega)) (fun r k q1 q2 q3 => cc r 0 k (by omega) (by omega)) (fun j hj => absurd hj (Nat.not_lt_zero _)) (fun j hj => absurd hj (Nat.not_lt_zero _)) (fun d hd => absurd hd List.not_mem_nil) (fun j hj => absurd hj (Nat.not_lt_zero _)) (fun j hj => absurd hj (Nat.not_lt_zero _)) (fun d hd => absurd hd List.not_mem_nil) (fun k hk => ?_) (row 48 (by decide) (fun i k => by unfold Srd; omega)) (rowc 4 (by decide) (fun i k => by omega))
        · rw [e43' 10 (by decide)]; exact g1.1.1.1
        · rw [cc 10 0 1 (by decide) (by omega)]; exact g1.2.1
        · rw [e43' 8 (by decide)]; exact g1.1.2.2.1.1
        · rw [cc 2 0 7 (by decide) (by omega)]; exact g1.2.2.2.1
        · rw [cc 3 0 k (by decide) (by omega), cr 47 0 k (by decide) (by unfold Srd; omega)]
          exact hB0 k hk
      · rw [cc 0 0 10 (by decide) (by omega), e43' 1 (by decide)]; exact g5.1
      · rw [z18, f2 0 0 11 (by unfold Srd; omega)]; exact z11
      · rw [e43' 0 (by decide)]; exact g5.2.2
    · exact absurd n0' n0
  · rcases h2 with ⟨n0', -⟩ | ⟨-, rfl, f2, z17, y10, y8, sF, sS, s3⟩
    · exact absurd n0 n0'
    · refine ⟨rfl, ?_⟩
      have ok := txS_ok g1.1 n0
      have cc : ∀ r i k, r < 39 → ¬ (Srt m r i k ∨ (r = 16 ∧ k = 1) ∨ Sco r i k) → im2 r i k = m r i k := fun r i k q1 q2 => by
        rw [f2 r i k (by unfold Srd; omega)]
        exact f1 r i k q2
      have c1 : ∀ r i k, r < 39 → im2 r i k = im1 r i k := fun r i k q1 => f2 r i k (by unfold Srd; omega)
      have cr : ∀ r i k, 39 ≤ r → ¬ (Srd m r i k ∨ (r = 43 ∧ (k = 8 ∨ k = 10)) ∨ r = 47) → im2 r i k = m r i k := fun r i k q1 q2 => by
        rw [f2 r i k q2, hcl r q1]
      have row : ∀ r, 39 ≤ r → (∀ i k, ¬ (Srd m r i k ∨ (r = 43 ∧ (k = 8 ∨ k = 10)) ∨ r = 47)) → im2 r = m r := fun r q1 q2 => by
        funext i k
        exact cr r i k q1 (q2 i k)
      have rowc : ∀ r, r < 39 → (∀ i k, ¬ (Srt m r i k ∨ (r = 16 ∧ k = 1) ∨ Sco r i k)) → im2 r = m r := fun r q1 q2 => by
        funext i k
        exact cc r i k q1 (q2 i k)
      have e43' : ∀ j, (j < 17 ∨ 28 < j ∨ j = 18) → ¬ j = 8 → ¬ j = 10 → im2 43 0 j = m 43 0 j := fun j hj h1 h2 => cr 43 0 j (by decide) (by unfold Srd; omega)
      refine ⟨?_, g2.fr (fun r q => row r (by omega) (fun i k => by unfold Srd; omega)), G3.emp z17 (by rw [c1 16 0 1 (by decide)]; exact z16), g4.fr (e43' 41 (by decide) (by decide) (by decide)) (cr 39 0 2 (by decide) (by unfold Srd; omega)) (row 40 (by decide) (fun i k => by unfold Srd; omega)) (row 67 (by decide) (fun i k => by unfold Srd; omega)), ?_, ?_, ?_⟩
      · refine g1.rd (F := (txS m).2.1) (S := (txS m).2.2.1) y10 (by rw [c1 10 0 1 (by decide)]; exact k10) ok.1.1 y8 (by rw [c1 2 0 7 (by decide)]; exact k7) ok.2.1.1 (e43' 7 (by decide) (by decide) (by decide)) (cc 2 0 8 (by decide) (by unfold Sco; omega)) (fun k hk => cr 50 0 k (by decide) (by unfold Srd; omega)) (fun k hk => cr 51 0 k (by decide) (by unfold Srd; omega)) (fun k hk => cr 52 0 k (by decide) (by unfold Srd; omega)) (fun f hf => cr 53 0 f (by decide) (by unfold Srd; omega)) (fun f hf => cr 54 0 f (by decide) (by unfold Srd; omega)) (fun r f k q1 q2 q3 => cc r f k (by omega) (by unfold Sco; omega)) (fun k hk => cr 49 0 k (by decide) (by unfold Srd; omega)) (fun r k q1 q2 q3 => cc r 0 k (by omega) (by unfold Sco; omega)) sF (fun j hj => flC_fr (rF j hj) (fun r k q1 q2 => c1 r _ k (by omega))) ok.1.2 sS (fun j hj => smC_fr (rS j hj) (fun r q1 q2 => c1 r 0 _ (by omega))) ok.2.1.2 (fun k hk => ?_) (row 48 (by decide) (fun i k => by unfold Srd; omega)) (rowc 4 (by decide) (fun i k => by unfold Sco; omega))
        rw [c1 3 0 k (by decide), r3 k hk, s3 k hk]
        unfold bsR
        cases e : lsB (txS m).2.2.2 (k / 48) with
        | none =>
          dsimp only
          rw [hcl 47 (by decide)]
          exact hB0 k hk
        | some v =>
          dsimp only
          obtain ⟨d, q1, q2⟩ := lsB_mem e
          have := (ok.2.2 d q1).2
          exact ⟨rfl, v, by omega, rfl⟩
      · rw [cc 0 0 10 (by decide) (by unfold Sco; omega), e43' 1 (by decide) (by decide) (by decide)]; exact g5.1
      · rw [cc 0 0 11 (by decide) (by unfold Sco; omega), e43' 18 (by decide) (by decide) (by decide)]; exact g5.2.1
      · rw [e43' 0 (by decide) (by decide) (by decide)]; exact g5.2.2
