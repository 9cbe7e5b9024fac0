/-! the class's splitter: the plan -/
def Hh (m : zMem) (t s : Nat) : Nat := match hsO m t s with
  | none => 100000000
  | some h => h + lsJ m (47 - t) s
theorem Hh_le {m : zMem} (hW : WF m) {t s : Nat} (ht : t < 48) : Hh m t s ≤ 100000000 := by
  unfold Hh
  cases e : hsO m t s with
  | none => exact Nat.le_refl _
  | some h =>
    have := hsO_le hW e
    have := lsJ_le hW (47 - t) s
    dsimp only
    omega
/-- least over the sets: no set does better, and one does as well -/
theorem Hh_ge {m : zMem} (hW : WF m) {t a s : Nat} (ht : t < 48) (hs : s < 64) : lsJ m (48 - t) a ≤ Hh m t s + btN (a ^^^ s) 12 := by
  have hm := lsJ_min (m := m) (j := 47 - t) (a := a)
  rw [show 47 - (47 - t) = t by omega, show 47 - t + 1 = 48 - t by omega] at hm
  have hl := lsJ_le hW (48 - t) a
  unfold Hh
  cases e : hsO m t s with
  | none => dsimp only; omega
  | some h =>
    obtain ⟨u, h1, h2⟩ := minS_le (f := fun s => (hsO m t s).map (fun h => h + btN (a ^^^ s) 12 + lsJ m (47 - t) s)) (k := 64) hs (by rw [e]; rfl)
    rw [hm] at h1
    cases h1
    dsimp only at h2 ⊢
    omega
theorem Hh_ex {m : zMem} (hW : WF m) {t a : Nat} (ht : t < 48) : ∃ s, s < 64 ∧ lsJ m (48 - t) a = Hh m t s + btN (a ^^^ s) 12 := by
  have hm := lsJ_min (m := m) (j := 47 - t) (a := a)
  rw [show 47 - (47 - t) = t by omega, show 47 - t + 1 = 48 - t by omega] at hm
  obtain ⟨-, s, h1, h2⟩ := minS_some (N := 100000000) (fun s v hv => by
    cases hs : hsO m t s with
    | none => rw [hs] at hv; cases hv
    | some h =>
      rw [hs] at hv
      cases hv
      have := hsO_le hW hs
      have := btN_le (s := a ^^^ s) 12
      have := lsJ_le hW (47 - t) s
      dsimp only
      omega) hm
  refine ⟨s, h1, ?_⟩
  unfold Hh
  cases hs : hsO m t s with
  | none => rw [hs] at h2; cases h2
  | some h =>
    rw [hs] at h2
    have := Option.some.inj h2
    dsimp only at this ⊢
    omega
theorem ac_Hh {m : zMem} (hW : WF m) {t a : Nat} (ht : t < 48) (ha : a < 64) : ac (Hh m t) 6 a = lsJ m (48 - t) a := by
  refine Nat.le_antisymm ?_ ?_
  · obtain ⟨s, h1, h2⟩ := Hh_ex hW (a := a) ht
    have := ac_a 6 (Nat.le_refl _) a (a ^^^ s) (xor_lt a ha s h1) (f := Hh m t)
    rw [xz] at this
    omega
  · obtain ⟨d, h1, h2⟩ := ac_b 6 (Nat.le_refl _) a (f := Hh m t)
    have := Hh_ge hW (a := a) ht (xor_lt a ha d h1)
    rw [xz] at this
    omega
theorem isB_iff {m : zMem} (hW : WF m) {t a s : Nat} (ht : t < 48) : isB m t a s = true ↔ Hh m t s + btN (a ^^^ s) 12 = lsJ m (48 - t) a := by
  have hl := lsJ_le hW (48 - t) a
  unfold isB Hh
  cases hs : hsO m t s with
  | none => dsimp only; exact ⟨fun q => (by cases q), fun q => (by omega)⟩
  | some h => dsimp only; rw [decide_eq_true_iff]; omega
theorem lf_least {P : Nat → Bool} : ∀ {n k u : Nat}, lf P n k = some u → ∀ j, k ≤ j → j < u → ¬ P j = true
  | 0, k, u, h => by cases h
  | n + 1, k, u, h => by
    intro j h1 h2
    rw [lf] at h
    by_cases hk : P k = true
    · rw [if_pos hk] at h; cases h; omega
    · rw [if_neg hk] at h
      by_cases hj : j = k
      · rw [hj]; exact hk
      · exact lf_least h j (by omega) h2
theorem bst_is {m : zMem} (hW : WF m) {t a b : Nat} (ht : t < 48) (hb : b < 64) (h1 : Hh m t b + btN (a ^^^ b) 12 = lsJ m (48 - t) a) (h2 : ∀ s, s < b → ¬ Hh m t s + btN (a ^^^ s) 12 = lsJ m (48 - t) a) : bstS m t a = b := by
  have e := bstS_eq hW (a := a) ht
  obtain ⟨-, -, h5⟩ := lf_spec e
  have h6 := lf_least e
  rcases Nat.lt_trichotomy (bstS m t a) b with q | q | q
  · exact absurd ((isB_iff hW ht).mp h5) (h2 _ q)
  · exact q
  · exact absurd ((isB_iff hW ht).mpr h1) (h6 b (Nat.zero_le _) q)
theorem C_X9_bestSetBehind (l : Launch) (w : zWd) {m im : zMem} (lv : Int64) (hW : WF m) {a t : Nat} (ha : a < 64) (ht : t < 48) (hH : ∀ s, s < 64 → im 25 0 (t * 64 + s) = nI (Hh m t s)) : zSpecI l w 3 zyX9_bestSetBehind [vR 24 0, vI (nI a), vI (nI t)] im lv (fun v im' lv' => v = nI (bstS m t a) ∧ im' = im ∧ lv' = lv) := by
  refine ze_I (by decide) (Nat.le_of_ble_eq_true rfl) (fun x hO hR hN => rX9_bestSetBehind_0 hO hR hN ?_)
  have key : ∀ n k b L, n + k = 64 → L ≤ 100000000 → (∀ s, s < k → L ≤ Hh m t s + btN (a ^^^ s) 12) → ((L = 100000000 ∧ b = 0) ∨ (b < k ∧ Hh m t b + btN (a ^^^ b) 12 = L ∧ L < 100000000 ∧ ∀ s, s < b → L < Hh m t s + btN (a ^^^ s) 12)) → zW x w 9 [(0, vR 24 0), (1, vI (nI a)), (2, vI (nI t)), (3, vI (nI b)), (4, vI (nI L)), (5, vI (nI k))] [] im lv := by
    intro n
    induction n with
    | zero =>
      intro k b L hk hL h1 h2
      have : k = 64 := by omega
      subst this
      refine rX9_bestSetBehind_9 hO hR hN ⟨fun _ => ⟨?_, rfl, rfl⟩, fun q => absurd (by decide) q⟩
      obtain ⟨s, e1, e2⟩ := Hh_ex hW (a := a) ht
      have hl := lsJ_le hW (48 - t) a
      have := h1 s e1
      rcases h2 with ⟨q1, q2⟩ | ⟨q1, q2, q3, q4⟩
      · omega
      · have := Hh_ge hW (a := a) ht q1
        rw [bst_is hW ht q1 (by omega) (fun s' hs' => by have := q4 s' hs'; omega)]
    | succ n ih =>
      intro k b L hk hL h1 h2
      have hx := xor_lt k (by omega) a ha
      have hb := btN_le (s := a ^^^ k) 12
      have hhl := Hh_le hW (s := k) ht
      refine rX9_bestSetBehind_9 hO hR hN ?_
      rw [zxor, show nI t * 64 + nI k = nI (t * 64 + k) by simp only [zlit, nI_add, pk_mul], nI_clamp (show t * 64 + k < 2 ^ 31 by omega), hH k (by omega), nI_1 k]
      refine ⟨fun q => ?_, fun _ => ⟨vp_in_nI (by omega) (by decide), _, C_J6_bitCount _ _ _ _ (n := k ^^^ a) (by omega), ?_⟩⟩
      · exfalso
        have : nI 64 ≤ nI k := q
        rw [nI_leI (by omega) (by omega)] at this
        omega
      · rintro _ _ _ ⟨rfl, rfl, rfl⟩
        rw [Nat.xor_comm k a, nI_add, nI_leI (by omega) (by omega)]
        refine ⟨fun q => ih (k + 1) b L (by omega) hL (fun s hs => ?_) (h2.imp id (fun z => ⟨by omega, z.2⟩)), fun q => ih (k + 1) k _ (by omega) (by omega) (fun s hs => ?_) (Or.inr ⟨by omega, rfl, by omega, fun s hs => ?_⟩)⟩
        · by_cases hsk : s = k
          · subst hsk; exact q
          · exact h1 s (by omega)
        · by_cases hsk : s = k
          · subst hsk; exact Nat.le_refl _
          · have := h1 s (by omega); omega
        · have := h1 s hs
          omega
  exact key 64 0 0 100000000 rfl (Nat.le_refl _) (fun s hs => by omega) (Or.inl ⟨rfl, rfl⟩)
theorem C_X9_weighSlot (l : Launch) (w : zWd) {m im : zMem} (lv : Int64) (hW : WF m) (hC : RC m im) (hS : SKY m im) {t : Nat} (ht : t < 48) (h26 : ∀ s, s < 64 → im 26 0 s = nI (lsJ m (47 - t) s)) : zSpecV l w 6 zyX9_weighSlot [vR 24 0, vI (nI t)] im lv (fun im' lv' => ((∀ r, ¬ r = 25 → ¬ r = 27 → im' r = im r) ∧ (∀ k, ¬ (t * 64 ≤ k ∧ k < t * 64 + 64) → im' 25 0 k = im 25 0 k) ∧ ∀ s, s < 64 → im' 25 0 (t * 64 + s) = nI (Hh m t s)) ∧ lv' = lv) := by
  refine ze_V (by decide) (Nat.le_of_ble_eq_true rfl) (fun x hO hR hN => rX9_weighSlot_0 hO hR hN ?_)
  have hcrew := hC.2.2.2.2.2.1 t ht
  have hst := (hW.2.2.2.2.2.1 t ht).2
  have key2 : ∀ n k (im1 : zMem), n + k = 64 → (∀ r, ¬ r = 25 → ¬ r = 27 → im1 r = im r) → (∀ s, s < 64 → im1 27 0 s = nI (rlN m t s 6)) → (∀ j, ¬ (t * 64 ≤ j ∧ j < t * 64 + 64) → im1 25 0 j = im 25 0 j) → (∀ s, s < k → im1 25 0 (t * 64 + s) = nI (Hh m t s)) → zW x w 38 [(0, vR 24 0), (1, vI (nI t)), (2, vI (nI (usN m t 8))), (3, vI (nI k))] [] im1 lv := by
    intro n
    induction n with
    | zero =>
      intro k im1 hk h1 h2 h3 h4
      have : k = 64 := by omega
      subst this
      exact rX9_weighSlot_38 hO hR hN ⟨fun _ => ⟨⟨h1, h3, h4⟩, rfl⟩, fun q => absurd (by decide) q⟩
    | succ n ih =>
      intro k im1 hk h1 h2 h3 h4
      refine rX9_weighSlot_38 hO hR hN ⟨fun q => ?_, fun _ => ⟨_, C_J6_bitCount _ _ _ _ (n := k) (by omega), ?_⟩⟩
      · exfalso
        have : nI 64 ≤ nI k := q
        rw [nI_leI (by omega) (by omega)] at this
        omega
      · rintro v9 im9 lv9 ⟨rfl, rfl, rfl⟩
        have hb := btN_le (s := k) 12
        have hus := usN_le hW (t := t) 8
        have hrl := Nat.le_trans (rlN_le (m := m) (t := t) (s := k) 6) (show usN m t 6 ≤ usN m t 8 by show _ ≤ usN m t 6 + over m 6 t + over m 7 t; omega)
        rw [nI_clamp (show t < 2 ^ 31 by omega), h1 4 (by decide) (by decide), h1 26 (by decide) (by decide), hcrew, nI_ltI (by omega) (by omega), show nI t * 64 + nI k = nI (t * 64 + k) by simp only [zlit, nI_add, pk_mul], nI_clamp (show t * 64 + k < 2 ^ 31 by omega), nI_clamp (show k < 2 ^ 31 by omega), nI_1 k, h2 k (by omega), h26 k (by omega), pk_sub hrl, show (10 : Int32) * nI (usN m t 8 - rlN m t k 6) = nI (10 * (usN m t 8 - rlN m t k 6)) from pk_mul 10 _, nI_add]
        have vt : vp_in (nI t) 48 := vp_in_nI ht (by decide)
        have vk : vp_in (nI k) 64 := vp_in_nI (by omega) (by decide)
        have vtk : vp_in (nI (t * 64 + k)) 3072 := vp_in_nI (by omega) (by decide)
        have fin : ∀ v, v = nI (Hh m t k) → zW x w 38 [(0, vR 24 0), (1, vI (nI t)), (2, vI (nI (usN m t 8))), (3, vI (nI (k + 1)))] [] (zwr im9 25 0 (t * 64 + k) v) lv9 := by
          intro v hv
          refine ih (k + 1) _ (by omega) (fun r q1 q2 => by rw [zwr_r q1]; exact h1 r q1 q2) (fun s hs => by rw [zwr_r (by decide)]; exact h2 s hs) (fun j hj => by rw [zwr_app, if_neg (by omega)]; exact h3 j hj) (fun s hs => ?_)
          rw [zwr_app]
          by_cases hsk : s = k
          · subst hsk; rw [if_pos ⟨rfl, rfl, rfl⟩]; exact hv
          · rw [if_neg (by omega)]; exact h4 s (by omega)
        refine ⟨vt, fun q => ⟨vk, vtk, fin _ ?_⟩, fun q => ⟨vk, vtk, fin _ ?_⟩⟩
        · unfold Hh hsO
          rw [if_neg (by omega)]
          rfl
        · unfold Hh hsO
          rw [if_pos (by omega), sp_8]
  have key : ∀ n k, n + k = 8 → zW x w 4 [(0, vR 24 0), (1, vI (nI t)), (2, vI (nI (usN m t k))), (3, vI (nI k))] [] im lv := by
    intro n
    induction n with
    | zero =>
      intro k hk
      have : k = 8 := by omega
      subst this
      refine rX9_weighSlot_4 hO hR hN ⟨fun _ => ⟨_, C_X9_fillRelieved _ _ _ hW hS ht, ?_⟩, fun q => absurd (by decide) q⟩
      rintro im1 lv1 ⟨⟨g1, g2⟩, rfl⟩
      exact key2 64 0 im1 rfl (fun r _ q2 => g1 r q2) g2 (fun j _ => by rw [g1 25 (by decide)]) (fun s hs => by omega)
    | succ n ih =>
      intro k hk
      refine rX9_weighSlot_4 hO hR hN ?_
      have htm := hS.tm hW (c := k * 48 + t) (by omega)
      rw [show (k * 48 + t) / 48 = k by omega, show (k * 48 + t) % 48 = t by omega] at htm
      have ih := ih (k + 1) (by omega)
      rw [usN] at ih
      rw [show nI k * 48 + nI t = nI (k * 48 + t) by simp only [zlit, nI_add, pk_mul], nI_clamp (show k * 48 + t < 2 ^ 31 by omega), htm, nI_add, nI_1 k]
      refine ⟨fun q => ?_, fun _ => ⟨vp_in_nI (by omega) (by decide), ih⟩⟩
      exfalso
      have : nI 8 ≤ nI k := q
      rw [nI_leI (by omega) (by omega)] at this
      omega
  exact key 8 0 rfl
theorem nm1 (n : Nat) : nI n + (-1) = nI n - 1 := by
  cases n with
  | zero => decide
  | succ n => rw [pk_m1, nI_pred]
theorem C_X9_makePlan (l : Launch) (w : zWd) {m im : zMem} (lv : Int64) (hW : WF m) (hC : RC m im) (hS : SKY m im) : zSpecV l w 7 zyX9_makePlan [vR 24 0] im lv (fun im' lv' => ((∀ r, ¬ (24 ≤ r ∧ r ≤ 28) → im' r = im r) ∧ im' 24 0 6 = nI (lsJ m 48 0) ∧ ∀ t, t < 48 → im' 28 0 t = nI (plN m (t + 1))) ∧ lv' = lv) := by
  refine ze_V (by decide) (Nat.le_of_ble_eq_true rfl) (fun x hO hR hN => rX9_makePlan_0 hO hR hN ?_)
  have key2 : ∀ n t (im1 : zMem), n + t = 48 → (∀ r, ¬ (24 ≤ r ∧ r ≤ 28) → im1 r = im r) → im1 24 0 6 = nI (lsJ m 48 0) → (∀ t', t' < 48 → ∀ s, s < 64 → im1 25 0 (t' * 64 + s) = nI (Hh m t' s)) → (∀ t', t' < t → im1 28 0 t' = nI (plN m (t' + 1))) → zW x w 62 [(0, vR 24 0), (1, vI (nI (plN m t))), (2, vI (nI t))] [] im1 lv := by
    intro n
    induction n with
    | zero =>
      intro t im1 hk h1 h2 h3 h4
      have : t = 48 := by omega
      subst this
      exact rX9_makePlan_62 hO hR hN ⟨fun _ => ⟨⟨h1, h2, h4⟩, rfl⟩, fun q => absurd (by decide) q⟩
    | succ n ih =>
      intro t im1 hk h1 h2 h3 h4
      have ht : t < 48 := by omega
      refine rX9_makePlan_62 hO hR hN ⟨fun q => ?_, fun _ => ⟨_, C_X9_bestSetBehind _ _ _ hW (plN_lt hW t (by omega)) ht (h3 t ht), ?_⟩⟩
      · exfalso
        have : nI 48 ≤ nI t := q
        rw [nI_leI (by omega) (by omega)] at this
        omega
      · rintro v9 im9 lv9 ⟨rfl, rfl, rfl⟩
        rw [nI_clamp (show t < 2 ^ 31 by omega), nI_1 t]
        have ih := ih (t + 1) (zwr im9 28 0 t (nI (bstS m t (plN m t)))) (by omega) (fun r hr => by rw [zwr_r (by omega)]; exact h1 r hr) (by rw [zwr_r (by decide)]; exact h2) (fun t' ht' s hs => by rw [zwr_r (by decide)]; exact h3 t' ht' s hs) (fun t' ht' => ?_)
        · rw [plN] at ih
          exact ⟨vp_in_nI ht (by decide), ih⟩
        · rw [zwr_app]
          by_cases htt : t' = t
          · subst htt; rw [if_pos ⟨rfl, rfl, rfl⟩, plN]
          · rw [if_neg (fun z => htt z.2.2)]; exact h4 t' (by omega)
  have key : ∀ n (im1 : zMem), n ≤ 48 → (∀ r, ¬ (24 ≤ r ∧ r ≤ 28) → im1 r = im r) → (∀ t', n ≤ t' → t' < 48 → ∀ s, s < 64 → im1 25 0 (t' * 64 + s) = nI (Hh m t' s)) → (∀ a, a < 64 → im1 26 0 a = nI (lsJ m (48 - n) a)) → zW x w 11 [(0, vR 24 0), (1, vI (nI n - 1))] [] im1 lv := by
    intro n
    induction n with
    | zero =>
      intro im1 hn h1 h2 h3
      refine rX9_makePlan_11 hO hR hN ⟨fun _ => ⟨vp_in_nI (n := 0) (by decide) (by decide), ?_⟩, fun q => absurd (by decide) q⟩
      refine key2 48 0 _ rfl (fun r hr => by rw [zwr_r (by omega)]; exact h1 r hr) ?_ (fun t' ht' s hs => by rw [zwr_r (by decide)]; exact h2 t' (by omega) ht' s hs) (fun t' ht' => by omega)
      rw [zwr_eq]
      exact h3 0 (by decide)
    | succ n ih =>
      intro im1 hn h1 h2 h3
      have hn48 : n < 48 := by omega
      have hC1 : RC m im1 := hC.fr (fun r hr => h1 r (by omega))
      have hS1 : SKY m im1 := hS.fr (h1 21 (by decide)) (h1 22 (by decide))
      rw [nI_pred]
      refine rX9_makePlan_11 hO hR hN ⟨fun q => absurd q (nI_pos (by omega)), fun _ => ⟨_, C_X9_weighSlot _ _ _ hW hC1 hS1 hn48 (fun s hs => by rw [h3 s hs, show 48 - (n + 1) = 47 - n by omega]), ?_⟩⟩
      rintro im2 lv2 ⟨⟨g1, g2, g3⟩, rfl⟩
      rw [show nI n * 64 = nI (n * 64) from pk_mul n 64, nI_clamp (show n * 64 < 2 ^ 31 by omega)]
      refine ⟨nI_pos (by omega), by decide, by decide, ?_, by decide, ?_⟩
      · rw [show Int32.toNatClampNeg 64 = 64 from rfl]; omega
      rw [show Int32.toNatClampNeg 64 = 64 from rfl, show Int32.toNatClampNeg 0 = 0 from rfl]
      refine ⟨_, C_X9_addChangesAhead _ _ _ (f := Hh m n) (fun a ha => ⟨?_, Hh_le hW hn48⟩), ?_⟩
      · rw [zset_eq, pk_cpy_in (by omega) (by omega), show n * 64 + (a - 0) = n * 64 + a by omega, g3 a ha]
      · rintro im3 lv3 ⟨⟨g4, g5⟩, rfl⟩
        have zs : ∀ r, ¬ r = 26 → (zset im2 26 0 (va_cpy (im2 25 0) (im2 26 0) (n * 64) 0 64)) r = im2 r := fun r hr => by unfold zset; rw [if_neg hr]
        rw [nm1 n]
        refine ih im3 (by omega) (fun r hr => ?_) (fun t' q1 q2 s hs => ?_) (fun a ha => ?_)
        · rw [g4 r (by omega), zs r (by omega), g1 r (by omega) (by omega)]; exact h1 r hr
        · rw [g4 25 (by decide), zs 25 (by decide)]
          by_cases htn : t' = n
          · subst htn; exact g3 s hs
          · rw [g2 _ (by omega)]; exact h2 t' (by omega) q2 s hs
        · rw [g5 a ha, ac_Hh hW hn48 ha]
  refine ⟨_, C_J7_fill _ _ _ _ (ra := 26) (ia := 0) rfl (by decide) (by decide), ?_⟩
  rintro im0 lv0 ⟨⟨g1, -, g2⟩, rfl⟩
  exact key 48 im0 (Nat.le_refl _) (fun r hr => g1 r (by omega)) (fun t' q1 q2 => by omega) (fun a ha => by rw [g2 a ha]; rfl)
