/-! joint steps: copies, land, flights, feeding -/
theorem J_copy {l : Launch} {w : zWd} {m : zMem} {lv : Int64} (h : INV m) (x1 x2 x3 x4 x5 : Int32) : JS l w 3 zyX11_copy [vR 0 0, vI x1, vI x2, vI x3, vI x4, vI x5] 4 zyX12_copy [vR 43 0, vI x1, vI x2, vI x3, vI x4, vI x5] m lv := by
  refine ⟨_, C_X11_copy _ _ _ h.2.1.1 h.2.1.2 x1 x2 x3 x4 x5, ?_⟩
  rintro v1 im1 lv1 ⟨h1, rfl⟩
  have hcl : ∀ r, ¬ r = 0 → ¬ r = 42 → im1 r = m r := by
    rcases h1 with ⟨-, -, e⟩ | ⟨a, b, -, -, -, -, ⟨-, -, e⟩ | ⟨-, -, ⟨-, -, e⟩ | ⟨-, ⟨-, -, e⟩ | ⟨-, -, e⟩⟩⟩⟩
    · rw [e]; exact fun _ _ _ => rfl
    · rw [e]; exact fun r q _ => zwr_r q
    · rw [e]; exact fun r q _ => zwr_r q
    · rw [e]; exact fun r q _ => zwr_r q
    · rw [e]; exact fun r q q2 => by unfold cpC; rw [zwr_r q, zset_r q2]
  have e43 := hcl 43 (by decide) (by decide)
  have e44 := hcl 44 (by decide) (by decide)
  have e45 := hcl 45 (by decide) (by decide)
  have e46 := hcl 46 (by decide) (by decide)
  refine ⟨_, C_X12_copy _ _ _ (h.2.1.1.fr e44 e45) (by rw [e43]; exact h.2.2.2.2.2.2) x1 x2 x3 x4 x5, ?_⟩
  rintro v2 im2 lv2 ⟨h2, rfl⟩
  have em : mny im1 = mny m := by unfold mny; rw [e45]
  rw [e44, em] at h2
  rcases h1 with ⟨hn, rfl, rfl⟩ | ⟨a, b, ha, hb, rfl, rfl, h1⟩
  · rcases h2 with ⟨-, rfl, rfl⟩ | ⟨a, b, ha, hb, rfl, rfl, -⟩
    · exact ⟨rfl, h⟩
    · exfalso
      rcases hn with q | q
      · exact q ⟨nI_pos' (by omega), nI_lt ha (by decide)⟩
      · exact q ⟨nI_pos' (by omega), nI_lt hb (by decide)⟩
  · rcases h2 with ⟨hn, -⟩ | ⟨a', b', ha', hb', ea, eb, h2⟩
    · exfalso
      rcases hn with q | q
      · exact q ⟨nI_pos' (by omega), nI_lt ha (by decide)⟩
      · exact q ⟨nI_pos' (by omega), nI_lt hb (by decide)⟩
    · rw [nI_eq (by omega) (by omega)] at ea eb
      subst ea eb
      rcases h1 with ⟨c1, rfl, rfl⟩ | ⟨n1, n2, h1⟩
      · rcases h2 with ⟨-, rfl, rfl⟩ | ⟨n1, n2, -⟩
        · exact ⟨rfl, h.fnd'⟩
        · exact absurd c1 (fun z => z.elim n1 n2)
      · rcases h2 with ⟨c2, -⟩ | ⟨-, -, h2⟩
        · exact absurd c2 (fun z => z.elim n1 n2)
        · rcases h1 with ⟨c1, rfl, rfl⟩ | ⟨c1, h1⟩
          · rcases h2 with ⟨-, rfl, rfl⟩ | ⟨c2, -⟩
            · exact ⟨rfl, h.fnd'⟩
            · exact absurd c2 c1
          · rcases h2 with ⟨c2, -⟩ | ⟨-, h2⟩
            · exact absurd c1 c2
            · rcases h1 with ⟨p1, rfl, rfl⟩ | ⟨p1, rfl, rfl⟩
              · rcases h2 with ⟨-, rfl, rfl⟩ | ⟨p2, -⟩
                · exact ⟨rfl, h.fnd'⟩
                · exact absurd p2 p1
              · rcases h2 with ⟨p2, -⟩ | ⟨-, rfl, rfl⟩
                · exact absurd p1 p2
                · refine ⟨rfl, ?_⟩
                  obtain ⟨i, n, rfl, rfl, q1, hi31, hn31⟩ := hasP_x p1.1
                  obtain ⟨j, n', rfl, en, q2, hj31, hn31'⟩ := hasP_x p1.2
                  rw [nI_eq hn31 hn31'] at en
                  subst en
                  have a48 := (h.2.1.1 a ha).2.2
                  have b48 := (h.2.1.1 b hb).2.2
                  rw [cNn hi31, cNn hj31, cNn hn31]
                  have f42 : ∀ t k, cpM (cpC m a i b j n) a i b j n 42 t k = if t = b ∧ (j ≤ k ∧ k < j + n) then m 42 a (i + (k - j)) else m 42 t k := fun t k => by
                    unfold cpM cpC
                    rw [zset_r (by decide), zwr_r (by decide), zwr_r (by decide)]
                    by_cases htb : t = b
                    · subst htb
                      rw [zset_eq]
                      by_cases hk : j ≤ k ∧ k < j + n
                      · rw [pk_cpy_in hk.1 hk.2, if_pos ⟨rfl, hk⟩]
                      · rw [pk_cpy_out (by omega), if_neg (fun z => hk z.2)]
                    · rw [zset_i htb, if_neg (fun z => htb z.1)]
                  have f46 : ∀ k, cpM (cpC m a i b j n) a i b j n 46 0 k = if 48 * b + j ≤ k ∧ k < 48 * b + j + n then m 46 0 (48 * a + i + (k - (48 * b + j))) else m 46 0 k := fun k => by
                    have e : cpC m a i b j n 46 = m 46 := by unfold cpC; rw [zwr_r (by decide), zset_r (by decide)]
                    unfold cpM
                    rw [zset_eq, e]
                    by_cases hk : 48 * b + j ≤ k ∧ k < 48 * b + j + n
                    · rw [pk_cpy_in hk.1 hk.2, if_pos hk]
                    · rw [pk_cpy_out (by omega), if_neg hk]
                  have fO : ∀ r, ¬ r = 0 → ¬ r = 42 → ¬ r = 43 → ¬ r = 46 → cpM (cpC m a i b j n) a i b j n r = m r := fun r q1 q2 q3 q4 => by
                    unfold cpM cpC
                    rw [zset_r q4, zwr_r q3, zwr_r q1, zset_r q2]
                  have f43 : ∀ k, cpM (cpC m a i b j n) a i b j n 43 0 k = if k = 1 then 0 else m 43 0 k := fun k => by
                    unfold cpM cpC
                    rw [zset_r (by decide), zwr_app, zwr_r (by decide), zset_r (by decide)]
                    simp only [true_and]
                  have f0 : ∀ k, cpM (cpC m a i b j n) a i b j n 0 0 k = if k = 10 then 0 else m 0 0 k := fun k => by
                    unfold cpM cpC
                    rw [zset_r (by decide), zwr_r (by decide), zwr_app, zset_r (by decide)]
                    simp only [true_and]
                  refine h.sh (fun r q1 q2 => fO r q1 (by omega) (by omega) (by omega)) (fun j hj => by rw [f43, if_neg hj]) (by rw [f0, f43, if_pos rfl, if_pos rfl]) (by rw [f0, if_neg (by decide)]) ⟨h.2.1.1.fr (fO 44 (by decide) (by decide) (by decide) (by decide)) (fO 45 (by decide) (by decide) (by decide) (by decide)), fun t ht => ?_⟩
                  obtain ⟨d1, d2, d3⟩ := h.2.1.2 t ht
                  rw [fO 41 (by decide) (by decide) (by decide) (by decide), fO 44 (by decide) (by decide) (by decide) (by decide), fO 45 (by decide) (by decide) (by decide) (by decide)]
                  refine ⟨d1, d2, fun k hk => ?_⟩
                  rw [f42, f46]
                  by_cases htk : t = b ∧ (j ≤ k ∧ k < j + n)
                  · rw [if_pos htk, if_pos (by omega), (h.2.1.2 a ha).2.2 _ (by omega)]
                    congr 1
                    omega
                  · rw [if_neg htk, if_neg (by omega)]
                    exact d3 k hk
theorem INV.g1 {m im2 : zMem} (h : INV m) (hr : ∀ r, ¬ r = 0 → ¬ (2 ≤ r ∧ r ≤ 15) → ¬ (47 ≤ r ∧ r ≤ 54) → ¬ (20 ≤ r ∧ r ≤ 38) → ¬ (56 ≤ r ∧ r ≤ 66) → ¬ r = 43 → im2 r = m r) (h43 : ∀ j, ¬ j = 1 → ¬ j = 7 → im2 43 0 j = m 43 0 j) (h0 : im2 0 0 10 = im2 43 0 1) (h11 : im2 0 0 11 = m 0 0 11) (g1' : G1 im2) : INV im2 := by
  obtain ⟨g1, g2, g3, g4, g5⟩ := h
  have hr' : ∀ r, ¬ r = 0 → ¬ (2 ≤ r ∧ r ≤ 15) → ¬ (47 ≤ r ∧ r ≤ 54) → ¬ (20 ≤ r ∧ r ≤ 38) → ¬ (56 ≤ r ∧ r ≤ 66) → ¬ r = 43 → im2 r = m r := hr
  refine ⟨g1', g2.fr (fun r q => hr r (by omega) (by omega) (by omega) (by omega) (by omega) q.2), g3.fr (h43 17 (by decide) (by decide)) (hr 55 (by decide) (by decide) (by decide) (by decide) (by decide) (by decide)) (by rw [hr 16 (by decide) (by decide) (by decide) (by decide) (by decide) (by decide)]) (hr 17 (by decide) (by decide) (by decide) (by decide) (by decide) (by decide)), g4.fr (h43 41 (by decide) (by decide)) (by rw [hr 39 (by decide) (by decide) (by decide) (by decide) (by decide) (by decide)]) (hr 40 (by decide) (by decide) (by decide) (by decide) (by decide) (by decide)) (hr 67 (by decide) (by decide) (by decide) (by decide) (by decide) (by decide)), h0, ?_, ?_⟩
  · rw [h11, h43 18 (by decide) (by decide)]; exact g5.2.1
  · rw [h43 0 (by decide) (by decide)]; exact g5.2.2
theorem G1.ofB {m im2 : zMem} (h : G1 m) (hf : ∀ r, (2 ≤ r ∧ r ≤ 15 ∧ ¬ r = 3) ∨ (48 ≤ r ∧ r ≤ 54) → im2 r = m r) (h7 : im2 43 0 7 = m 43 0 7) (h8 : im2 43 0 8 = m 43 0 8) (h10 : im2 43 0 10 = m 43 0 10) (h3 : ∀ k, k < 384 → im2 3 0 k = im2 47 0 k ∧ ∃ c, c ≤ 99 ∧ im2 47 0 k = nI c) : G1 im2 := by
  obtain ⟨hW, hC⟩ := h
  have hb : ∀ k, k < 384 → im2 47 0 k = nI (bas im2 k) ∧ bas im2 k ≤ 99 := fun k hk => by
    obtain ⟨-, c, hc, e⟩ := h3 k hk
    unfold bas
    rw [e, cNn (by omega)]
    exact ⟨rfl, hc⟩
  have hb3 : ∀ k, k < 384 → im2 3 0 k = nI (bas im2 k) := fun k hk => (h3 k hk).1.trans (hb k hk).1
  constructor
  · unfold WF WFf WFs nfl own wgt sta rat wys way dly lsl lrm nst stw str sta1 stb stv stf lok at *
    rw [hf 48 (by decide), hf 49 (by decide), hf 50 (by decide), hf 51 (by decide), hf 52 (by decide), hf 53 (by decide), hf 54 (by decide), h7, h8, h10]
    obtain ⟨a1, a2, a3, a4, a5, a6, a7⟩ := hW
    exact ⟨a1, a2, a3, a4, hb, a6, a7⟩
  · unfold RC RCf RCw RCs nfl own wgt sta rat wys way dly lsl lrm nst stw str sta1 stb stv stf lok at *
    rw [hf 48 (by decide), hf 49 (by decide), hf 50 (by decide), hf 51 (by decide), hf 52 (by decide), hf 53 (by decide), hf 54 (by decide), h7, h8, h10, hf 2 (by decide), hf 4 (by decide), hf 5 (by decide), hf 6 (by decide), hf 7 (by decide), hf 8 (by decide), hf 9 (by decide), hf 10 (by decide), hf 12 (by decide), hf 13 (by decide), hf 14 (by decide), hf 15 (by decide)]
    obtain ⟨a1, a2, a3, a4, a5, a6, a7⟩ := hC
    exact ⟨a1, a2, a3, a4, hb3, a6, a7⟩
theorem G1.ofS {m im2 : zMem} (h : G1 m) (hf : ∀ r, (2 ≤ r ∧ r ≤ 15 ∧ ¬ r = 4) ∨ (47 ≤ r ∧ r ≤ 54 ∧ ¬ r = 48) → im2 r = m r) (h7 : im2 43 0 7 = m 43 0 7) (h8 : im2 43 0 8 = m 43 0 8) (h10 : im2 43 0 10 = m 43 0 10) (h3 : ∀ k, k < 48 → im2 4 0 k = im2 48 0 k ∧ ∃ c, c ≤ 9 ∧ im2 48 0 k = nI c) : G1 im2 := by
  obtain ⟨hW, hC⟩ := h
  have hb : ∀ k, k < 48 → im2 48 0 k = nI (stf im2 k) ∧ stf im2 k ≤ 9 := fun k hk => by
    obtain ⟨-, c, hc, e⟩ := h3 k hk
    unfold stf
    rw [e, cNn (by omega)]
    exact ⟨rfl, hc⟩
  have hb3 : ∀ k, k < 48 → im2 4 0 k = nI (stf im2 k) := fun k hk => (h3 k hk).1.trans (hb k hk).1
  constructor
  · unfold WF WFf WFs nfl own wgt sta rat wys way dly lsl lrm nst stw str sta1 stb stv bas lok at *
    rw [hf 47 (by decide), hf 49 (by decide), hf 50 (by decide), hf 51 (by decide), hf 52 (by decide), hf 53 (by decide), hf 54 (by decide), h7, h8, h10]
    obtain ⟨a1, a2, a3, a4, a5, a6, a7⟩ := hW
    exact ⟨a1, a2, a3, a4, a5, hb, a7⟩
  · unfold RC RCf RCw RCs nfl own wgt sta rat wys way dly lsl lrm nst stw str sta1 stb stv bas lok at *
    rw [hf 47 (by decide), hf 49 (by decide), hf 50 (by decide), hf 51 (by decide), hf 52 (by decide), hf 53 (by decide), hf 54 (by decide), h7, h8, h10, hf 2 (by decide), hf 3 (by decide), hf 5 (by decide), hf 6 (by decide), hf 7 (by decide), hf 8 (by decide), hf 9 (by decide), hf 10 (by decide), hf 12 (by decide), hf 13 (by decide), hf 14 (by decide), hf 15 (by decide)]
    obtain ⟨a1, a2, a3, a4, a5, a6, a7⟩ := hC
    exact ⟨a1, a2, a3, a4, a5, hb3, a7⟩
theorem okN_eq {f g : Nat → Int32} {o o' : Nat} {h : Int32} : ∀ n, (∀ k, k < n → f (o + k) = g (o' + k)) → okN f o h n = okN g o' h n
  | 0, _ => rfl
  | n + 1, hk => by rw [okN, okN, okN_eq n (fun k h => hk k (by omega)), hk n (by omega)]
/-- items of a sheet, told to the land by class and reference -/
theorem it_J {m im1 im2 : zMem} {v1 v2 : Int32} (h : INV m) {ra rb s dp n N : Nat} {x4 hi : Int32} {B : Nat} (hB : hi = nI B) (hB2 : B < 1000) (hab : (ra = 3 ∧ rb = 47) ∨ (ra = 4 ∧ rb = 48)) (hs : s < 8) (hn : 1 ≤ n ∧ n ≤ 48) (h1 : itC m m ra s x4 dp n hi v1 im1) (h2 : itM im1 rb s x4 dp n hi v2 im2) (g : ∀ im2 : zMem, (∀ r, ¬ r = 0 → ¬ r = ra → ¬ r = 43 → ¬ r = rb → im2 r = m r) → (∀ j, ¬ j = 1 → im2 43 0 j = m 43 0 j) → (∀ k, (dp ≤ k ∧ k < dp + n → im2 ra 0 k = im2 rb 0 k ∧ ∃ c, c ≤ B ∧ im2 rb 0 k = nI c) ∧ (¬ (dp ≤ k ∧ k < dp + n) → im2 ra 0 k = m ra 0 k ∧ im2 rb 0 k = m rb 0 k)) → G1 im2) : v1 = v2 ∧ INV im2 := by
  have hcl : ∀ r, ¬ r = 0 → ¬ r = ra → im1 r = m r := by
    unfold itC at h1
    split at h1
    · rw [h1.2]; exact fun r q _ => zwr_r q
    · split at h1
      · split at h1
        · rw [h1.2]; exact fun r q q2 => by rw [zwr_r q, zset_r q2]
        · rw [h1.2]; exact fun _ _ _ => rfl
      · rw [h1.2]; exact fun r q _ => zwr_r q
  have e44 := hcl 44 (by decide) (by omega)
  have e45 := hcl 45 (by decide) (by omega)
  have e46 := hcl 46 (by decide) (by omega)
  have em : mny im1 = mny m := by unfold mny; rw [e45]
  unfold itC at h1
  unfold itM at h2
  rw [e44, em, e46] at h2
  by_cases hm : m 44 0 s = -1
  · rw [if_pos hm] at h1 h2
    obtain ⟨rfl, rfl⟩ := h1
    obtain ⟨rfl, rfl⟩ := h2
    exact ⟨rfl, h.fnd'⟩
  rw [if_neg hm] at h1 h2
  by_cases hp : 0 ≤ x4 ∧ x4 ≤ nI (mny m s) - nI n
  · rw [if_pos hp] at h1 h2
    have a48 := (h.2.1.1 s hs).2.2
    have hpp := (hpn a48 hn.1 hn.2).mpr hp
    obtain ⟨i, n', rfl, en, q1, hi31, hn31⟩ := hasP_x hpp
    rw [nI_eq (by omega) hn31] at en
    subst en
    rw [cNn hi31] at h1 h2
    have hit : ∀ k, k < n → m 42 s (i + k) = m 46 0 (48 * s + i + k) := fun k hk => by
      rw [(h.2.1.2 s hs).2.2 _ (by omega), Nat.add_assoc]
    rw [okN_eq (g := m 46 0) (o' := 48 * s + i) n hit] at h1
    by_cases hok : okN (m 46 0) (48 * s + i) hi n = true
    · rw [if_pos hok] at h1 h2
      obtain ⟨rfl, rfl⟩ := h1
      obtain ⟨rfl, rfl⟩ := h2
      refine ⟨rfl, ?_⟩
      have f43 : ∀ k, (bsM (zwr (zset m ra 0 (va_cpy (m 42 s) (m ra 0) i dp n)) 0 0 10 0) rb s i dp n) 43 0 k = if k = 1 then 0 else m 43 0 k := fun k => by
        unfold bsM
        rw [zset_r (by omega), zwr_app, zwr_r (by decide), zset_r (by omega)]
        simp only [true_and]
      have f0 : ∀ k, (bsM (zwr (zset m ra 0 (va_cpy (m 42 s) (m ra 0) i dp n)) 0 0 10 0) rb s i dp n) 0 0 k = if k = 10 then 0 else m 0 0 k := fun k => by
        unfold bsM
        rw [zset_r (by omega), zwr_r (by decide), zwr_app, zset_r (by omega)]
        simp only [true_and]
      have fO : ∀ r, ¬ r = 0 → ¬ r = ra → ¬ r = 43 → ¬ r = rb → (bsM (zwr (zset m ra 0 (va_cpy (m 42 s) (m ra 0) i dp n)) 0 0 10 0) rb s i dp n) r = m r := fun r q1 q2 q3 q4 => by
        unfold bsM
        rw [zset_r q4, zwr_r q3, zwr_r q1, zset_r q2]
      have fa : (bsM (zwr (zset m ra 0 (va_cpy (m 42 s) (m ra 0) i dp n)) 0 0 10 0) rb s i dp n) ra 0 = va_cpy (m 42 s) (m ra 0) i dp n := by
        unfold bsM
        rw [zset_r (by omega), zwr_r (by omega), zwr_r (by omega), zset_eq]
      have fb : (bsM (zwr (zset m ra 0 (va_cpy (m 42 s) (m ra 0) i dp n)) 0 0 10 0) rb s i dp n) rb 0 = va_cpy (m 46 0) (m rb 0) (48 * s + i) dp n := by
        unfold bsM
        rw [zset_eq, zwr_r (by decide), zset_r (by omega), zwr_r (by omega), zset_r (by omega)]
      refine h.g1 (fun r q1 q2 q3 q4 q5 q6 => fO r q1 (by omega) q6 (by omega)) (fun j hj _ => by rw [f43, if_neg hj]) (by rw [f0, f43, if_pos rfl, if_pos rfl]) (by rw [f0, if_neg (by decide)]) (g _ fO (fun j hj => by rw [f43, if_neg hj]) (fun k => ⟨fun hk => ?_, fun hk => ?_⟩))
      · rw [fa, fb, pk_cpy_in hk.1 hk.2, pk_cpy_in hk.1 hk.2]
        have h46 := hit (k - dp) (by omega)
        refine ⟨h46, ?_⟩
        obtain ⟨o1, o2⟩ := okN_at hok (k - dp) (by omega)
        obtain ⟨c, hc, e⟩ := nI_of (nn0.mpr o1)
        rw [e, hB, nI_leI hc (by omega)] at o2
        exact ⟨c, o2, e⟩
      · rw [fa, fb, pk_cpy_out (by omega), pk_cpy_out (by omega)]
        exact ⟨rfl, rfl⟩
    · rw [if_neg hok] at h1 h2
      obtain ⟨rfl, rfl⟩ := h1
      obtain ⟨rfl, rfl⟩ := h2
      exact ⟨rfl, h⟩
  · rw [if_neg hp] at h1 h2
    obtain ⟨rfl, rfl⟩ := h1
    obtain ⟨rfl, rfl⟩ := h2
    exact ⟨rfl, h.fnd'⟩
theorem itC_cl {m im1 : zMem} {v1 : Int32} {ra s dp n : Nat} {x4 hi : Int32} (h1 : itC m m ra s x4 dp n hi v1 im1) : ∀ r, ¬ r = 0 → ¬ r = ra → im1 r = m r := by
  unfold itC at h1
  split at h1
  · rw [h1.2]; exact fun r q _ => zwr_r q
  · split at h1
    · split at h1
      · rw [h1.2]; exact fun r q q2 => by rw [zwr_r q, zset_r q2]
      · rw [h1.2]; exact fun _ _ _ => rfl
    · rw [h1.2]; exact fun r q _ => zwr_r q
theorem J_bears {l : Launch} {w : zWd} {m : zMem} {lv : Int64} (h : INV m) (x1 x2 x3 x4 x5 : Int32) : JS l w 5 zyX11_bears [vR 0 0, vI x1, vI x2, vI x3, vI x4, vI x5] 4 zyX12_bears [vR 43 0, vI x1, vI x2, vI x3, vI x4, vI x5] m lv := by
  refine ⟨_, C_X11_bears _ _ _ h.2.1.1 h.2.1.2 x1 x2 x3 x4 x5, ?_⟩
  rintro v1 im1 lv1 ⟨h1, rfl⟩
  rcases h1 with ⟨r, t, s, n, ⟨hr, ht, hs, n1, n2⟩, ⟨rfl, rfl, rfl, rfl⟩, h1⟩ | ⟨hn, rfl, rfl⟩
  · have hcl := itC_cl h1
    have e44 := hcl 44 (by decide) (by decide)
    have e45 := hcl 45 (by decide) (by decide)
    refine ⟨_, C_X12_bears _ _ _ (h.2.1.1.fr e44 e45) (by rw [hcl 43 (by decide) (by decide)]; exact h.2.2.2.2.2.2) _ _ _ x4 _, ?_⟩
    rintro v2 im2 lv2 ⟨⟨r', t', s', n', ⟨hr', ht', hs', n1', n2'⟩, ⟨e1, e2, e3, e5⟩, h2⟩ | ⟨hn, -⟩, rfl⟩
    · rw [nI_eq (by omega) (by omega)] at e1 e2 e3 e5
      subst e1 e2 e3 e5
      refine it_J h (ra := 3) (rb := 47) (N := 0) (B := 99) rfl (by decide) (Or.inl ⟨rfl, rfl⟩) hs ⟨n1, by omega⟩ h1 h2 (fun im2 k1 k2 k3 => ?_)
      refine h.1.ofB (fun r q => k1 r (by omega) (by omega) (by omega) (by omega)) (k2 7 (by decide)) (k2 8 (by decide)) (k2 10 (by decide)) (fun k hk => ?_)
      by_cases hkk : 48 * r + t ≤ k ∧ k < 48 * r + t + n
      · exact (k3 k).1 hkk
      · obtain ⟨q1, q2⟩ := (k3 k).2 hkk
        rw [q1, q2]
        obtain ⟨b1, b2⟩ := h.1.1.2.2.2.2.1 k hk
        exact ⟨(h.1.2.2.2.2.2.1 k hk).trans b1.symm, _, b2, b1⟩
    · exact absurd ⟨r, t, s, n, ⟨hr, ht, hs, n1, n2⟩, rfl, rfl, rfl, rfl⟩ hn
  · refine ⟨_, C_X12_bears _ _ _ h.2.1.1 h.2.2.2.2.2.2 x1 x2 x3 x4 x5, ?_⟩
    rintro v2 im2 lv2 ⟨⟨r', t', s', n', q1, q2, -⟩ | ⟨-, rfl, rfl⟩, rfl⟩
    · exact absurd ⟨r', t', s', n', q1, q2⟩ hn
    · exact ⟨rfl, h⟩
theorem J_staff {l : Launch} {w : zWd} {m : zMem} {lv : Int64} (h : INV m) (x2 x3 x4 x5 : Int32) : JS l w 5 zyX11_staff [vR 0 0, vI x2, vI x3, vI x4, vI x5] 4 zyX12_staff [vR 43 0, vI x2, vI x3, vI x4, vI x5] m lv := by
  refine ⟨_, C_X11_staff _ _ _ h.2.1.1 h.2.1.2 x2 x3 x4 x5, ?_⟩
  rintro v1 im1 lv1 ⟨h1, rfl⟩
  rcases h1 with ⟨t, s, n, ⟨ht, hs, n1, n2⟩, ⟨rfl, rfl, rfl⟩, h1⟩ | ⟨hn, rfl, rfl⟩
  · have hcl := itC_cl h1
    have e44 := hcl 44 (by decide) (by decide)
    have e45 := hcl 45 (by decide) (by decide)
    refine ⟨_, C_X12_staff _ _ _ (h.2.1.1.fr e44 e45) (by rw [hcl 43 (by decide) (by decide)]; exact h.2.2.2.2.2.2) _ _ x4 _, ?_⟩
    rintro v2 im2 lv2 ⟨⟨t', s', n', ⟨ht', hs', n1', n2'⟩, ⟨e2, e3, e5⟩, h2⟩ | ⟨hn, -⟩, rfl⟩
    · rw [nI_eq (by omega) (by omega)] at e2 e3 e5
      subst e2 e3 e5
      refine it_J h (ra := 4) (rb := 48) (N := 0) (B := 9) rfl (by decide) (Or.inr ⟨rfl, rfl⟩) hs ⟨n1, by omega⟩ h1 h2 (fun im2 k1 k2 k3 => ?_)
      refine h.1.ofS (fun r q => k1 r (by omega) (by omega) (by omega) (by omega)) (k2 7 (by decide)) (k2 8 (by decide)) (k2 10 (by decide)) (fun k hk => ?_)
      by_cases hkk : t ≤ k ∧ k < t + n
      · exact (k3 k).1 hkk
      · obtain ⟨q1, q2⟩ := (k3 k).2 hkk
        rw [q1, q2]
        obtain ⟨b1, b2⟩ := h.1.1.2.2.2.2.2.1 k hk
        exact ⟨(h.1.2.2.2.2.2.2.1 k hk).trans b1.symm, _, b2, b1⟩
    · exact absurd ⟨t, s, n, ⟨ht, hs, n1, n2⟩, rfl, rfl, rfl⟩ hn
  · refine ⟨_, C_X12_staff _ _ _ h.2.1.1 h.2.2.2.2.2.2 x2 x3 x4 x5, ?_⟩
    rintro v2 im2 lv2 ⟨⟨t', s', n', q1, q2, -⟩ | ⟨-, rfl, rfl⟩, rfl⟩
    · exact absurd ⟨t', s', n', q1, q2⟩ hn
    · exact ⟨rfl, h⟩
