/-! the class's flights: rooms, paths -/
theorem rmGo_before {sl rm : Nat → Nat} {t : Nat} : ∀ {n k b : Nat}, t < b → rmGo sl rm t n k b = none
  | 0, _, _, _ => rfl
  | n + 1, k, b, h => by
    rw [rmGo, if_neg (by omega)]
    exact rmGo_before (by omega)
theorem rmGo_zero {sl rm : Nat → Nat} {t : Nat} : ∀ {n k b : Nat}, (∀ j, k ≤ j → j < k + n → sl j = 0) → rmGo sl rm t n k b = none
  | 0, _, _, _ => rfl
  | n + 1, k, b, h => by
    have h0 := h k (Nat.le_refl _) (by omega)
    rw [rmGo, if_neg (by omega)]
    exact rmGo_zero (fun j h1 h2 => h j (by omega) (by omega))
theorem C_X2_roomIn (l : Launch) (w : zWd) {m im : zMem} (lv : Int64) (hW : WF m) (hC : RC m im) {f wy d t : Nat} (hf : f < nfl m) (hw : wy < wys m f) (hd : d < 1000) (ht : t < 1000) : zSpecI l w 2 zyX2_roomIn [vR 12 f, vI (nI t), vI (nI wy), vI (nI d)] im lv (fun v im' lv' => v = zOp (room m f wy d t) ∧ im' = im ∧ lv' = lv) := by
  refine ze_I (by decide) (Nat.le_of_ble_eq_true rfl) (fun x hO hR hN => ?_)
  have h12 := hW.1.2
  obtain ⟨-, -, f2, -, f4, -, -, f7⟩ := hW.2.1 f hf
  obtain ⟨-, -, c2, -, -, -, -, cw⟩ := hC.2.1 f hf
  obtain ⟨c, hc5, e13, hk, hz⟩ := cw wy hw
  have cwy : Int32.toNatClampNeg (nI wy) = wy := nI_clamp (by omega)
  have vwy : vp_in (nI wy) 3 := vp_in_nI (by omega) (by decide)
  have key : ∀ n k b, n + k = 5 → k ≤ c → b ≤ t → rmGo (lsl m f wy) (lrm m f wy) t n k b = room m f wy d t → zW x w 21 [(0, vR 12 f), (1, vI (nI t)), (2, vI (nI wy)), (3, vI (nI d)), (4, vI (nI (t - b))), (5, vI (nI k))] [] im lv := by
    intro n
    induction n with
    | zero =>
      intro k b hn hkc hb e
      refine rX2_roomIn_21 hO hR hN (by omega) ?_
      have : k = c := by omega
      subst this
      rw [cwy, e13]
      exact ⟨vwy, fun _ => ⟨by rw [← e]; rfl, rfl, rfl⟩, fun q => absurd (Int32.le_refl _) q⟩
    | succ n ih =>
      intro k b hn hkc hb e
      refine rX2_roomIn_21 hO hR hN (by omega) ?_
      rw [cwy, e13]
      by_cases hkc2 : k = c
      · subst hkc2
        exact ⟨vwy, fun _ => ⟨by rw [← e, rmGo_zero (fun j h1 h2 => hz j h1 (by omega))]; rfl, rfl, rfl⟩, fun q => absurd (Int32.le_refl _) q⟩
      · obtain ⟨k1, k2, k3⟩ := hk k (by omega)
        have l4 := (f7 wy k (by omega) (by omega)).2.1
        rw [rmGo] at e
        simp (disch := omega) only [zlit, nI_add, pk_mul, nI_clamp, nI_leI, k2, k3]
        refine ⟨vwy, fun q => by omega, fun _ => ⟨vp_in_nI (by omega) (by decide), fun q => ?_, fun q => ?_⟩⟩
        · rw [if_neg (by omega)] at e
          rw [pk_sub (by omega), show t - b - lsl m f wy k = t - (b + lsl m f wy k) by omega]
          exact ih (k + 1) _ (by omega) (by omega) (by omega) e
        · rw [if_pos (by omega)] at e
          exact ⟨by rw [← e]; rfl, trivial, trivial⟩
  refine rX2_roomIn_0 hO hR hN (by omega) ?_
  rw [c2]
  by_cases h : sta m f + d ≤ t
  · rw [pk_sub (by omega), pk_sub (by omega), show t - sta m f - d = t - (sta m f + d) by omega]
    exact ⟨fun _ => key 5 0 _ rfl (by omega) h rfl, fun q => absurd (nI_pos' (by omega)) q⟩
  · have hn : ¬ 0 ≤ nI t - nI (sta m f) - nI d := by
      rw [Int32.le_iff_toInt_le, show nI t - nI (sta m f) - nI d = nI t - nI (sta m f + d) from by rw [← nI_add]; exact Int32.sub_sub _ _ _, pk_sub_toInt (by omega) (by omega)]
      simp only [Int32.reduceToInt]
      omega
    refine ⟨fun q => absurd q hn, fun _ => ⟨?_, rfl, rfl⟩⟩
    unfold room
    rw [rmGo_before (by omega)]
    rfl
theorem slN_zero {m : zMem} {f w c : Nat} (hz : ∀ k, c ≤ k → k < 5 → lsl m f w k = 0) : ∀ j, c + j ≤ 5 → slN m f w (c + j) = slN m f w c
  | 0, _ => rfl
  | j + 1, h => by rw [← Nat.add_assoc, slN, slN_zero hz j (by omega), hz (c + j) (by omega) (by omega)]; rfl
theorem C_X2_slotsOfWay (l : Launch) (w : zWd) {m im : zMem} (lv : Int64) (hW : WF m) (hC : RC m im) {f : Nat} (hf : f < nfl m) : zSpecI l w 2 zyX2_slotsOfWay [vR 12 f] im lv (fun v im' lv' => v = nI (slN m f (way m f) 5) ∧ im' = im ∧ lv' = lv) := by
  refine ze_I (by decide) (Nat.le_of_ble_eq_true rfl) (fun x hO hR hN => ?_)
  have h12 := hW.1.2
  obtain ⟨-, -, f2, -, f4, f5, -, f7⟩ := hW.2.1 f hf
  obtain ⟨-, -, c2, -, -, c8, -, cw⟩ := hC.2.1 f hf
  obtain ⟨c, hc5, e13, hk, hz⟩ := cw (way m f) f5.2
  have cwy : Int32.toNatClampNeg (nI (way m f)) = way m f := nI_clamp (by omega)
  have vwy : vp_in (nI (way m f)) 3 := vp_in_nI (by omega) (by decide)
  have key : ∀ n k, n + k = c → zW x w 4 [(0, vR 12 f), (1, vI (nI (slN m f (way m f) k))), (2, vI (nI k))] [] im lv := by
    intro n
    induction n with
    | zero =>
      intro k hn
      refine rX2_slotsOfWay_4 hO hR hN (by omega) ?_
      have : k = c := by omega
      subst this
      rw [c8, cwy, e13]
      refine ⟨vwy, fun _ => ⟨?_, rfl, rfl⟩, fun q => absurd (Int32.le_refl _) q⟩
      rw [← slN_zero hz (5 - k) (by omega), show k + (5 - k) = 5 by omega]
    | succ n ih =>
      intro k hn
      refine rX2_slotsOfWay_4 hO hR hN (by omega) ?_
      obtain ⟨k1, k2, k3⟩ := hk k (by omega)
      rw [c8, cwy, e13]
      simp (disch := omega) only [zlit, nI_add, pk_mul, nI_clamp, nI_leI, k3]
      exact ⟨vwy, fun q => by omega, fun _ => ⟨vp_in_nI (by omega) (by decide), ih (k + 1) (by omega)⟩⟩
  exact rX2_slotsOfWay_0 hO hR hN (by omega) (key c 0 rfl)
/-- the cells of a leg; of a way -/
def legP (r b : Nat) : Nat → List Nat
  | 0 => []
  | n + 1 => legP r b n ++ (if b + n < 48 then [r * 48 + (b + n)] else [])
def walkP (sl rm : Nat → Nat) : Nat → Nat → Nat → List Nat
  | 0, _, _ => []
  | n + 1, k, b => legP (rm k) b (sl k) ++ walkP sl rm n (k + 1) (b + sl k)
def pth (m : zMem) (f w d : Nat) : List Nat := walkP (lsl m f w) (lrm m f w) 5 0 (sta m f + d)
theorem legP_len {r b : Nat} : ∀ n, (legP r b n).length ≤ n
  | 0 => Nat.le_refl _
  | n + 1 => by
    have := legP_len (r := r) (b := b) n
    rw [legP, List.length_append]
    split <;> simp <;> omega
theorem legP_lt {r b : Nat} (hr : r < 8) : ∀ {n c : Nat}, c ∈ legP r b n → c < 384
  | 0, c, h => by cases h
  | n + 1, c, h => by
    rw [legP, List.mem_append] at h
    rcases h with h | h
    · exact legP_lt hr h
    · split at h
      · rw [List.mem_singleton] at h; omega
      · cases h
theorem legP_count {r b c : Nat} : ∀ n, (legP r b n).count c = if r = c / 48 ∧ b ≤ c % 48 ∧ c % 48 < b + n then 1 else 0
  | 0 => by rw [if_neg (by omega)]; rfl
  | n + 1 => by
    rw [legP, List.count_append, legP_count n]
    by_cases h : b + n < 48
    · have e1 : [r * 48 + (b + n)].count c = if r * 48 + (b + n) = c then 1 else 0 := by
        rw [List.count_singleton]
        simp only [beq_iff_eq]
      rw [if_pos h, e1]
      by_cases h2 : r * 48 + (b + n) = c
      · rw [if_neg (c := r = c / 48 ∧ b ≤ c % 48 ∧ c % 48 < b + n) (by omega), if_pos h2, if_pos (by omega)]
      · rw [if_neg h2, Nat.add_zero]
        by_cases h3 : r = c / 48 ∧ b ≤ c % 48 ∧ c % 48 < b + n
        · rw [if_pos h3, if_pos (by omega)]
        · rw [if_neg h3, if_neg (by omega)]
    · rw [if_neg h, List.count_nil, Nat.add_zero]
      by_cases h3 : r = c / 48 ∧ b ≤ c % 48 ∧ c % 48 < b + n
      · rw [if_pos h3, if_pos (by omega)]
      · rw [if_neg h3, if_neg (by omega)]
theorem walkP_count {sl rm : Nat → Nat} {c : Nat} : ∀ n k b, (walkP sl rm n k b).count c = if rmGo sl rm (c % 48) n k b = some (c / 48) then 1 else 0
  | 0, k, b => rfl
  | n + 1, k, b => by
    rw [walkP, List.count_append, legP_count, walkP_count n, rmGo]
    by_cases h : b ≤ c % 48 ∧ c % 48 < b + sl k
    · rw [if_pos h, rmGo_before (by omega)]
      rw [if_neg (c := none = some (c / 48)) (by intro q; cases q), Nat.add_zero]
      by_cases h2 : rm k = c / 48
      · rw [if_pos ⟨h2, h⟩, if_pos (by rw [h2])]
      · rw [if_neg (fun z => h2 z.1), if_neg (fun z => h2 (by injection z))]
    · rw [if_neg h, if_neg (fun z => h z.2), Nat.zero_add]
theorem walkP_zero {sl rm : Nat → Nat} : ∀ {n k b : Nat}, (∀ j, k ≤ j → j < k + n → sl j = 0) → walkP sl rm n k b = []
  | 0, _, _, _ => rfl
  | n + 1, k, b, h => by
    rw [walkP, h k (Nat.le_refl _) (by omega), walkP_zero (fun j h1 h2 => h j (by omega) (by omega))]
    rfl
theorem walkP_lt {sl rm : Nat → Nat} : ∀ {n k b c : Nat}, (∀ j, k ≤ j → j < k + n → 1 ≤ sl j → rm j < 8) → c ∈ walkP sl rm n k b → c < 384
  | 0, k, b, c, _, h => by cases h
  | n + 1, k, b, c, hr, h => by
    rw [walkP, List.mem_append] at h
    rcases h with h | h
    · by_cases h1 : 1 ≤ sl k
      · exact legP_lt (hr k (Nat.le_refl _) (by omega) h1) h
      · rw [show sl k = 0 by omega] at h; cases h
    · exact walkP_lt (fun j h1 h2 => hr j (by omega) (by omega)) h
theorem pth_count {m : zMem} {f w d : Nat} (c : Nat) : (pth m f w d).count c = if room m f w d (c % 48) = some (c / 48) then 1 else 0 := walkP_count 5 0 _
theorem pth_mem {m : zMem} {f w d c : Nat} : c ∈ pth m f w d ↔ room m f w d (c % 48) = some (c / 48) := by
  rw [← List.count_pos_iff, pth_count]
  split <;> simp_all
theorem pth_lt {m : zMem} (hW : WF m) {f w d c : Nat} (hf : f < nfl m) (hw : w < 3) (h : c ∈ pth m f w d) : c < 384 :=
  walkP_lt (fun j _ h2 h3 => by have := (((hW.2.1 f hf).2.2.2.2.2.2.2 w j hw (by omega)).2.2 h3).2; omega) h
theorem gdA (L : List Nat) (c i : Nat) : (L ++ [c]).getD i 0 = if i < L.length then L.getD i 0 else if i = L.length then c else 0 := by
  by_cases h : i < L.length
  · rw [if_pos h, List.getD_eq_getElem?_getD, List.getD_eq_getElem?_getD, List.getElem?_append_left h]
  · rw [if_neg h, List.getD_eq_getElem?_getD, List.getElem?_append_right (by omega)]
    by_cases h2 : i = L.length
    · rw [if_pos h2, h2, Nat.sub_self]; rfl
    · rw [if_neg h2, List.getElem?_eq_none (by simp; omega)]; rfl
theorem C_X2_walk (l : Launch) (w : zWd) {m im : zMem} (lv : Int64) (hW : WF m) (hC : RC m im) {f wy d ra : Nat} (hf : f < nfl m) (hw : wy < wys m f) (hd : d < 1000) (hk : zkd ra = (1, 20, 0)) (hi : 0 < zcnt ra) (hra : 16 ≤ ra) : zSpecI l w 2 zyX2_walk [vR 12 f, vI (nI wy), vI (nI d), vR ra 0] im lv (fun v im' lv' => (v = nI (pth m f wy d).length ∧ (pth m f wy d).length ≤ 20 ∧ (∀ r, ¬ r = ra → im' r = im r) ∧ ∀ i, i < (pth m f wy d).length → im' ra 0 i = nI ((pth m f wy d).getD i 0)) ∧ lv' = lv) := by
  refine ze_I (by decide) (Nat.le_of_ble_eq_true rfl) (fun x hO hR hN => ?_)
  have h12 := hW.1.2
  obtain ⟨-, -, f2, -, f4, -, -, f7⟩ := hW.2.1 f hf
  obtain ⟨-, -, c2, -, -, -, -, cw⟩ := hC.2.1 f hf
  obtain ⟨c, hc5, e13, hkk, hz⟩ := cw wy hw
  have cwy : Int32.toNatClampNeg (nI wy) = wy := nI_clamp (by omega)
  have vwy : vp_in (nI wy) 3 := vp_in_nI (by omega) (by decide)
  have key : ∀ n k b D (im1 : zMem), n + k = 5 → k ≤ c → b ≤ 1100 + 4 * k → D.length ≤ 4 * k → D ++ walkP (lsl m f wy) (lrm m f wy) n k b = pth m f wy d → (∀ r, ¬ r = ra → im1 r = im r) → (∀ i, i < D.length → im1 ra 0 i = nI (D.getD i 0)) → zW x w 14 [(0, vR 12 f), (1, vI (nI wy)), (2, vI (nI d)), (3, vR ra 0), (4, vI (nI D.length)), (5, vI (nI b)), (6, vI (nI k))] [] im1 lv := by
    intro n
    induction n with
    | zero =>
      intro k b D im1 hn hkc hb hD e hfr hv
      refine rX2_walk_14 hO hR hN (by omega) hk hi ?_
      have : k = c := by omega
      subst this
      rw [walkP, List.append_nil] at e
      subst e
      rw [cwy, hfr 13 (by omega), e13]
      exact ⟨vwy, fun _ => ⟨⟨rfl, by omega, hfr, hv⟩, rfl⟩, fun q => absurd (Int32.le_refl _) q⟩
    | succ n ih =>
      intro k b D im1 hn hkc hb hD e hfr hv
      refine rX2_walk_14 hO hR hN (by omega) hk hi ?_
      rw [cwy, hfr 13 (by omega), e13]
      by_cases hkc2 : k = c
      · subst hkc2
        rw [walkP_zero (fun j h1 h2 => hz j h1 (by omega)), List.append_nil] at e
        subst e
        exact ⟨vwy, fun _ => ⟨⟨rfl, by omega, hfr, hv⟩, rfl⟩, fun q => absurd (Int32.le_refl _) q⟩
      · obtain ⟨k1, k2, k3⟩ := hkk k (by omega)
        have l4 := (f7 wy k (by omega) (by omega)).2.1
        have l7 := ((f7 wy k (by omega) (by omega)).2.2 k1).2
        have inner : ∀ p j (im2 : zMem), p + j = lsl m f wy k → (∀ r, ¬ r = ra → im2 r = im r) → (∀ i, i < (D ++ legP (lrm m f wy k) b j).length → im2 ra 0 i = nI ((D ++ legP (lrm m f wy k) b j).getD i 0)) → zW x w 36 [(0, vR 12 f), (1, vI (nI wy)), (2, vI (nI d)), (3, vR ra 0), (4, vI (nI (D ++ legP (lrm m f wy k) b j).length)), (5, vI (nI (b + j))), (6, vI (nI k)), (7, vI (nI (wy * 5 + k))), (8, vI (nI j))] [] im2 lv := by
          intro p
          induction p with
          | zero =>
            intro j im2 hp hf2 hv2
            refine rX2_walk_36 hO hR hN (by omega) hk hi ?_
            have : j = lsl m f wy k := by omega
            subst this
            rw [nI_clamp (show wy * 5 + k < 2 ^ 31 by omega), hf2 15 (by omega), k3, nI_1]
            refine ⟨vp_in_nI (by omega) (by decide), fun _ => ?_, fun q => absurd (Int32.le_refl _) q⟩
            have hl := legP_len (r := lrm m f wy k) (b := b) (lsl m f wy k)
            exact ih (k + 1) _ _ im2 (by omega) (by omega) (by omega) (by rw [List.length_append]; omega) (by rw [List.append_assoc, ← walkP]; exact e) hf2 hv2
          | succ p ihp =>
            intro j im2 hp hf2 hv2
            refine rX2_walk_36 hO hR hN (by omega) hk hi ?_
            have hl := legP_len (r := lrm m f wy k) (b := b) j
            have hll : (D ++ legP (lrm m f wy k) b j).length < 20 := by rw [List.length_append]; omega
            have ihp := fun im3 => ihp (j + 1) im3 (by omega)
            rw [legP, ← List.append_assoc, ← Nat.add_assoc b j 1] at ihp
            rw [show Int32.ofNat 20 = nI 20 from rfl, nI_clamp (show wy * 5 + k < 2 ^ 31 by omega), hf2 15 (by omega), hf2 14 (by omega), k2, k3, nI_clamp (show (D ++ legP (lrm m f wy k) b j).length < 2 ^ 31 by omega)]
            generalize D ++ legP (lrm m f wy k) b j = E at *
            simp (disch := omega) only [zlit, nI_add, pk_mul, nI_leI]
            refine ⟨vp_in_nI (by omega) (by decide), fun q => by omega, fun _ => ⟨fun q => ?_, fun q => ⟨fun q2 => by omega, fun _ => ⟨vp_in_nI (by omega) (by decide), ?_⟩⟩⟩⟩
            · rw [if_neg (by omega), List.append_nil] at ihp
              exact ihp im2 hf2 hv2
            · rw [if_pos (by omega)] at ihp
              have := ihp (zwr im2 ra 0 E.length (nI (lrm m f wy k * 48 + (b + j)))) (fun r hr => by rw [zwr_r hr]; exact hf2 r hr) (fun i hi2 => ?_)
              · rw [List.length_append, List.length_singleton] at this; exact this
              · rw [zwr_app, gdA]
                by_cases h1 : i < E.length
                · rw [if_neg (by omega), if_pos h1]; exact hv2 i h1
                · rw [List.length_append, List.length_singleton] at hi2
                  rw [if_pos ⟨rfl, rfl, by omega⟩, if_neg h1, if_pos (by omega)]
        simp (disch := omega) only [zlit, nI_add, pk_mul, nI_leI]
        refine ⟨vwy, fun q => by omega, fun _ => ?_⟩
        have := inner (lsl m f wy k) 0 im1 (by omega) hfr
        rw [legP, List.append_nil, Nat.add_zero] at this
        exact this hv
  refine rX2_walk_0 hO hR hN (by omega) hk hi ?_
  rw [c2, nI_add]
  exact key 5 0 _ [] im rfl (by omega) (by omega) (Nat.le_refl _) (by rw [List.nil_append]; unfold pth; rfl) (fun _ _ => rfl) (fun i hi => by cases hi)
