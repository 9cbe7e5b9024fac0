/-! the law's start: its makings, what holds behind them -/
section ZLN
variable {x : zX} {w : zWd} {n n' : Nat} {rf : zRef} {pc : Nat} {L L' : List (Nat × Value)} {st : List Value} {im : zMem} {lv : Int64} {Y : zY} {dd : Nat} {post : zV → zRef → zMem → Int64 → Prop}
theorem zl_new {idx ci r i N : Nat} {C : String} {T : u_T} (hO : zOK x w Y dd) (hNN : zN x n n') (hn : n' = n + 1) (h127 : n' ≤ 126) (hd : decode Y.2.1 pc = .ok (.new idx, 3)) (hcl : Cond.classLink Y.1.cls idx C ∈ zT) (hc : vwCl[ci]? = some (C, T, N)) (hky : zkey n = (r, i)) (hk : zkd r = (0, ci, N)) (h0 : im r i = fun _ => 0) (hr : rf r i = fun _ => none) (hlv : lv = 0) (hci : ci < 13) (hfk : N = (zFk.getD ci []).length)
    (kk : zLr x w n' rf (pc + 3) L (.ref (w.1 + zad r i) :: st) im lv) : zLr x w n rf pc L st im lv := by
  subst hn
  have hfk := zdef hci hfk
  obtain ⟨p, l, e, R, s, m, args, below, meth, c, Q, n0, nm⟩ := x
  obtain ⟨hx, hb, hml, hown, hts, hU, hsz, hfr, hlo, hce, hsl, hnn⟩ := hO
  obtain ⟨g0, g1, g2⟩ := hNN
  intro h126 H locs ls hP hS hl
  refine W_size (fun hup => ?_)
  have hge := zH_ge hP (n0 := n0) (by have := hS.1; omega) g0
  have hsH : H.size = w.1 + n := by omega
  have hm1 := zsl_mono g0
  have hm3 := zsl_mono g2
  have hzs : zsl (n + 1) = zsl n + N := by
    show zsl n + zsz (zkey n).1 = _
    rw [hky]
    unfold zsz
    rw [hk]
    rfl
  have hz := zcl hc
  have hKn := hU.1.1 ci _ hc
  have hsd : (w.1 + n) = w.1 + zad r i := by
    have := zkey_inj (by omega : n < 126) hky
    omega
  refine W.newcK hx hb hown (hts _ hcl) (hts _ hz.2.2.2.2.1) (hts _ hz.2.2.2.2.2) rfl hd (by omega) (by omega) hKn.2.1 hsH fun H1 kC hkC e1 z1 o1 => ?_
  have hat : va_at w.2.1 vwCl (w.1 + n, zE w rf im lv (zkey n).1 (zkey n).2) H1 := by
    rw [hky]
    dsimp only
    rw [zE_obj hk]
    refine ⟨_, hc, (u_born (zty ci) hts hz.2.1 hKn hkC e1 hz.2.2.2.1).to (fun j hj => ?_)⟩
    rw [hfk j hj]
    have hj2 : j < N := hj
    unfold vp_V
    rw [List.getD_eq_getElem?_getD, List.getElem?_map, List.getElem?_range hj2]
    simp only [Option.map_some, Option.getD_some]
    unfold zfv
    rw [h0, hr, hlv]
    rfl
  have h5 := kk h127 H1 locs ls (zPush hP hsH o1 hat) (zS_push hS hsH z1 o1) hl
  have e6 : n + 1 - n0 = n - n0 + 1 := by omega
  have e7 : zsl (n + 1) - zsl n0 = zsl n - zsl n0 + N := by omega
  rw [e6, e7, ← hsd] at h5
  exact h5
theorem zl_init {Y' : zY} {d n2 idx r i : Nat} {st0 : List Value} (hO : zOK x w Y dd) (hNN : zN x n n2) (h126 : n2 ≤ 126) (hd : decode Y.2.1 pc = .ok (.invokespecial idx, 3)) (hk : zLkI Y.1.cls idx Y' 0) (hdd : d + 1 ≤ dd) (hroom : (st.map fun v => v.category).sum ≤ 8) (hst : st0 = .ref (w.1 + zad r i) :: st)
    (hM : zSpecg x.2.1 w d Y' n rf n2 [vR r i] im lv post) (kk : ∀ (v : zV) (rf' : zRef) (im' : zMem) (lv' : Int64), post v rf' im' lv' → zLr x w n2 rf' (pc + 3) L st im' lv') : zLr x w n rf pc L st0 im lv := by
  obtain ⟨p, l, e, R, s, m, args, below, meth, c, Q, n0, nm⟩ := x
  obtain ⟨hx, hb, hml, hown, hts, hU, hsz, hfr, hlo, hce, hsl, hnn⟩ := hO
  obtain ⟨g0, g1, g2⟩ := hNN
  subst hst
  intro _ H locs ls hP hS hl
  refine W_size (fun hup => ?_)
  have hge := zH_ge hP (n0 := n0) (by have := hS.1; omega) g0
  have hsH : H.size = w.1 + n := by omega
  have hm1 := zsl_mono g0
  have hm2 := zsl_mono g1
  have hm3 := zsl_mono g2
  obtain ⟨y', c', l', r'⟩ := Y'
  obtain ⟨hk0, hk1, hk2, hk3⟩ := hk
  dsimp only at hk3
  subst hk3
  have hcb := zcallB (n := n) (n2 := n2) (R := R) hts hk0 (by omega : d + 1 ≤ R.frames) (by omega : 40 * (d + 1) ≤ R.locals)
  refine zl_callC (nm := nm) (va_runI (n := 0) (b := w.1 + zad r i) (As := []) (rest := st) (nL := Y.2.2.1) (Ts := zT) ⟨hx, hb, hml, hown, hts⟩ hM ⟨hcb, hk2, hts _ hk1⟩
      ⟨zblind, fun U hUH hW => ⟨rfl, by rw [hUH]; exact hsH, by rw [hUH]; exact hP, zUp_moved hU hW⟩⟩ rfl rfl (by rw [← hml]; exact hl.1) rfl (lv_room hroom) hd ⟨by omega, by omega⟩) hS hl g0 g1 h126 kk
end ZLN
/-! all references stand -/
theorem arrV_cg {cA : ClassId} {N : Nat} {f g : Nat → Value} (h : ∀ j, j < N → f j = g j) : arrV cA N f = arrV cA N g := by
  unfold arrV
  have : (fun j : Fin N => f j.val) = (fun j : Fin N => g j.val) := funext fun j => h j.val j.isLt
  rw [this]
theorem zP_RF {w : zWd} {rf : zRef} {im : zMem} {lv : Int64} {H : Heap} (h : ∀ k, k < 126 → ¬ (zkd (zkey k).1).1 = 1 → ∀ j, j < zsz (zkey k).1 → rf (zkey k).1 (zkey k).2 j = zRF (zkey k).1 (zkey k).2 j) (hP : va_P w.2.1 vwCl (zws w 126 rf im lv) H) : va_P w.2.1 vwCl (zws w 126 zRF im lv) H := by
  intro k q hq
  have hk : k < 126 := by
    have := (List.getElem?_eq_some_iff.mp hq).1
    simpa [zws] using this
  have e1 : ∀ rf' : zRef, (zws w 126 rf' im lv)[k]? = some (w.1 + k, zE w rf' im lv (zkey k).1 (zkey k).2) := fun rf' => by
    unfold zws
    rw [List.getElem?_map, List.getElem?_range hk]
    rfl
  have h1 := hP k _ (e1 rf)
  rw [e1 zRF] at hq
  cases hq
  have hh := h k hk
  generalize (zkey k).1 = r at h1 hh ⊢
  generalize (zkey k).2 = i at h1 hh ⊢
  unfold zsz at hh
  unfold zE at h1 ⊢
  by_cases c0 : (zkd r).1 = 0
  · rw [if_pos c0] at h1 ⊢
    rw [if_pos c0] at hh
    have : (List.range (zkd r).2.2).map (zfv w.1 rf im lv (zkd r).2.1 r i) = (List.range (zkd r).2.2).map (zfv w.1 zRF im lv (zkd r).2.1 r i) := by
      apply List.map_congr_left
      intro j hj
      unfold zfv
      rw [hh (by omega) j (List.mem_range.mp hj)]
    rw [this] at h1
    exact h1
  · rw [if_neg c0] at h1 ⊢
    rw [if_neg c0] at hh
    by_cases c1 : (zkd r).1 = 1
    · rw [if_pos c1] at h1 ⊢
      exact h1
    · rw [if_neg c1] at h1 ⊢
      have h2 : H[w.1 + k]? = some (vp_cell (if (zkd r).1 = 2 then w.2.2.2.1 else w.2.2.2.2) ((zkd r).2.1, .inr (.inr (.inr (.inr (zrefs w.1 rf r i)))))) := h1
      show H[w.1 + k]? = some (vp_cell (if (zkd r).1 = 2 then w.2.2.2.1 else w.2.2.2.2) ((zkd r).2.1, .inr (.inr (.inr (.inr (zrefs w.1 zRF r i))))))
      rw [h2, vp_cell_q, vp_cell_q]
      congr 1
      apply arrV_cg
      intro j hj
      unfold zrefs
      rw [hh c1 j hj]
theorem zl_RF {x : zX} {w : zWd} {rf : zRef} {im : zMem} {lv : Int64} {pc : Nat} {L : List (Nat × Value)} {st : List Value} (h : ∀ k, k < 126 → ¬ (zkd (zkey k).1).1 = 1 → ∀ j, j < zsz (zkey k).1 → rf (zkey k).1 (zkey k).2 j = zRF (zkey k).1 (zkey k).2 j) (kk : zLr x w 126 zRF pc L st im lv) : zLr x w 126 rf pc L st im lv := by
  obtain ⟨p, l, e, R, s, m, args, below, meth, c, Q, n0, nm⟩ := x
  intro h126 H locs ls hP hS hl
  exact kk h126 H locs ls (zP_RF h hP) hS hl
def rf0 : zRef := fun _ _ _ => none
def im0 : zMem := fun _ _ _ => 0
def rfF : zRef := RX12_init (RX11_init rf0)
def imF : zMem := IX12_init (IX11_init im0)
theorem rfF_ok : ∀ k, k < 126 → ¬ (zkd (zkey k).1).1 = 1 → ∀ j, j < zsz (zkey k).1 → rfF (zkey k).1 (zkey k).2 j = zRF (zkey k).1 (zkey k).2 j := by decide +kernel
theorem imF_a : (imF 43 0 10 = 0 ∧ imF 43 0 8 = 0 ∧ imF 43 0 7 = 1 ∧ imF 43 0 17 = 0 ∧ imF 43 0 41 = 0 ∧ imF 43 0 1 = 0 ∧ imF 43 0 18 = 0 ∧ imF 43 0 0 = 0) ∧ (imF 10 0 1 = 0 ∧ imF 2 0 7 = 0 ∧ imF 2 0 8 = 1 ∧ imF 16 0 1 = 0 ∧ imF 39 0 2 = 0 ∧ imF 0 0 10 = 0 ∧ imF 0 0 11 = 0) := by decide +kernel
theorem imF_b : (∀ k, k < 384 → imF 47 0 k = 9 ∧ imF 3 0 k = 9) ∧ (∀ t, t < 48 → imF 48 0 t = 0 ∧ imF 4 0 t = 0) ∧ (∀ s, s < 8 → imF 44 0 s = -1 ∧ imF 45 0 s = 0 ∧ imF 41 s 0 = -1 ∧ imF 41 s 1 = 0 ∧ ∀ k, k < 48 → imF 42 s k = imF 46 0 (48 * s + k)) := by decide +kernel
theorem INV0 : INV imF := by
  obtain ⟨⟨a10, a8, a7, a17, a41, a1, a18, a0⟩, b10, b27, b28, b16, b39, b010, b011⟩ := imF_a
  obtain ⟨c1, c2, c3⟩ := imF_b
  have c0 : cN 0 = 0 := by decide
  have z0 : (0 : Int32) = nI 0 := rfl
  have hn : nfl imF = 0 := by unfold nfl; rw [a10]; exact c0
  have hs : nst imF = 0 := by unfold nst; rw [a8]; exact c0
  have hl : lok imF = 1 := by unfold lok; rw [a7]; decide
  have ht : tn imF = 0 := by unfold tn; rw [a17]; exact c0
  have hb : ∀ k, k < 384 → bas imF k = 9 := fun k hk => by unfold bas; rw [(c1 k hk).1]; decide
  have hf : ∀ t, t < 48 → stf imF t = 0 := fun t h => by unfold stf; rw [(c2 t h).1]; exact c0
  have hm : ∀ s, s < 8 → mny imF s = 0 := fun s h => by unfold mny; rw [(c3 s h).2.1]; exact c0
  refine ⟨⟨⟨⟨by rw [hn, a10]; rfl, by omega⟩, fun f q => absurd q (by omega), ⟨by rw [hs, a8]; rfl, by omega⟩, fun k q => absurd q (by omega), fun k hk => ⟨by rw [hb k hk, (c1 k hk).1]; rfl, by rw [hb k hk]; decide⟩, fun t h => ⟨by rw [hf t h, (c2 t h).1]; rfl, by rw [hf t h]; decide⟩, ⟨by rw [hl, a7]; rfl, by omega, by omega⟩⟩, ⟨by rw [hn, b10]; rfl, fun f q => absurd q (by omega), by rw [hs, b27]; rfl, fun k q => absurd q (by omega), fun k hk => by rw [hb k hk, (c1 k hk).2]; rfl, fun t h => by rw [hf t h, (c2 t h).2]; rfl, by rw [hl, b28]; rfl⟩⟩, ⟨fun s h => ⟨Or.inl (c3 s h).1, by rw [hm s h, (c3 s h).2.1]; rfl, by rw [hm s h]; decide⟩, fun s h => ⟨by rw [(c3 s h).1, (c3 s h).2.2.1], by rw [(c3 s h).2.1, (c3 s h).2.2.2.1], (c3 s h).2.2.2.2⟩⟩, ⟨⟨⟨by rw [ht, a17]; rfl, by omega⟩, fun k q => absurd q (by omega)⟩, ⟨by rw [ht, b16]; rfl, fun k q => absurd q (by omega)⟩⟩, ⟨0, by decide, a41, b39, fun i q => absurd q (by omega)⟩, ⟨by rw [b010, a1], by rw [b011, a18], a0⟩⟩
/-! the tables' word at the start -/
theorem zUp_start {s : State} {args : Array Value} (hts : ∀ w ∈ lw_tbl, w.before args s = true) : ∃ (D : va_G) (cI cS cF : ClassId), ∀ b : Nat, zUp (b, D, cI, cS, cF) s := by
  have hz : ∀ t ∈ zT, t.before args s = true := fun t ht => hts t (zT_tbl ht)
  obtain ⟨cI, kI, compI, f1, f2, f3⟩ := Cond.arrayClass_spec (hz _ q_ai)
  have oS : va_AO "RoomsOfAir$Sheet" s := va_AO.of (hts _ (tb1 (List.mem_of_getElem? (i := 27) rfl)))
  have oF : va_AO "RoomsOfAir$Flight" s := va_AO.of (hts _ (tb1 (List.mem_of_getElem? (i := 84) rfl)))
  obtain ⟨compS, cS, kS, s1, s2, s3, s4, s5⟩ := Cond.arrayOver_spec oS
  obtain ⟨compF, cF, kF, t1, t2, t3, t4, t5⟩ := Cond.arrayOver_spec oF
  have h : ∀ ci : Nat, ∃ q : ClassId × (Nat → Nat), ∀ (C : String) (T : u_T) (N : Nat), vwCl[ci]? = some (C, T, N) → u_Kn s C T N q.1 q.2 := by
    intro ci
    cases hc : vwCl[ci]? with
    | none => exact ⟨(cI, fun _ => 0), fun C T N q => by cases q⟩
    | some q =>
      obtain ⟨C, T, N⟩ := q
      have hq := zcl hc
      obtain ⟨cC, iS, hK⟩ := u_known (ws := zT) hz hq.2.1 (hz _ hq.2.2.2.2.1)
      exact ⟨(cC, iS), fun C' T' N' e => by cases e; exact hK⟩
  refine ⟨(fun ci => (Classical.choose (h ci)).1, fun ci => (Classical.choose (h ci)).2), cI, cS, cF, fun b => ⟨⟨fun ci q hq => Classical.choose_spec (h ci) q.1 q.2.1 q.2.2 hq, fun k q hq => ?_⟩, fun t ht => ?_, oS, oF⟩⟩
  · match k, hq with
    | 0, hq => cases hq; exact ⟨fun N z => ⟨(fun k h => by cases h), kI, f2, compI, f3⟩, f1⟩
    | 1, hq => cases hq; exact ⟨fun N z => ⟨(fun k h => by cases h), kS, s3, compS, s4⟩, kS, compS, s3, s4, s1, s5⟩
    | 2, hq => cases hq; exact ⟨fun N z => ⟨(fun k h => by cases h), kF, t3, compF, t4⟩, kF, compF, t3, t4, t1, t5⟩
    | k + 3, hq => simp at hq
  · simp only [zNs, List.mem_cons, List.mem_nil_iff, or_false] at ht
    rcases ht with rfl | rfl | rfl | rfl | rfl | rfl
    · exact va_Nw.of rfl (hts _ (tb1 (List.mem_of_getElem? (i := 86) rfl)))
    · exact va_Nw.of rfl (hts _ (tb1 (List.mem_of_getElem? (i := 172) rfl)))
    · exact va_Nw.of rfl (hts _ (tb2 (List.mem_of_getElem? (i := 125) rfl)))
    · exact va_Nw.of rfl (hts _ (tb3 (List.mem_of_getElem? (i := 39) rfl)))
    · exact va_Nw.of rfl (hts _ (tb4 (List.mem_of_getElem? (i := 48) rfl)))
    · exact va_Nw.of rfl (hts _ (tb4 (List.mem_of_getElem? (i := 145) rfl)))
