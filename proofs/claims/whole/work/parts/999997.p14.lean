/-! the invariant of class and reference; expanded by px.py out of p14.src -/
theorem RW_congr {T : Nat} {r r2 : Nat → Int32} (h : ∀ x, x < 140 → r2 x = r x) (H : RW T r) : RW T r2 := by
  obtain ⟨n, nx, late, work, ⟨h1, h2, h3, h4, h5, h6, h7, h8, h9⟩, aS, aH, aB, aE, aJ⟩ := H
  exact ⟨n, nx, late, work, ⟨h1, h2, h3, h4, by rw [h 0 (by omega)]; exact h5, by rw [h 1 (by omega)]; exact h6, by rw [h 2 (by omega)]; exact h7, by rw [h 3 (by omega)]; exact h8, by rw [h 4 (by omega)]; exact h9⟩, aS.congr (fun j hj => h _ (by omega)), aH.congr (fun j hj => h _ (by omega)), fun w hw => (aB w hw).congr (fun j hj => h _ (by omega)) (Nat.le_refl _), aE.congr (fun j hj => h _ (by omega)), aJ.congr (fun i hi k hk => h _ (by omega)) (Nat.le_refl _)⟩
theorem CL.row {m : mm} {b : Nat} {r r2 : Nat → Int32} (hN : nO r ≤ 12) (h : ∀ x, x < 140 → r2 x = r x) (H : CL m b r) : CL m b r2 := by
  obtain ⟨⟨a1, a2, a3, a4, a5⟩, a6, a7, a8, a9⟩ := H
  have hnO : nO r2 = nO r := by unfold nO; rw [h 0 (by omega)]
  refine ⟨⟨by rw [h 0 (by omega)]; exact a1, by rw [h 1 (by omega)]; exact a2, by rw [h 2 (by omega)]; exact a3, by rw [h 3 (by omega)]; exact a4, by rw [h 4 (by omega)]; exact a5⟩, fun j hj => by rw [h _ (by omega)]; exact a6 j hj, fun j hj => by rw [h _ (by omega)]; exact a7 j hj, fun w hw => ⟨fun o ho => by rw [h _ (by omega)]; exact (a8 w hw).1 o ho, fun j hj => by rw [h _ (by omega)]; exact (a8 w hw).2 j hj⟩, fun i hi k hk => ?_⟩
  rw [hnO] at hi
  rw [h _ (by omega)]
  exact a9 i hi k hk
section P14
variable {m m2 : mm} {b c T : Nat} {r : Nat → Int32}
/-- a state copied -/
theorem cpM_CL (hJ : JV m b) (hC : CL m c r) (hN : nO r ≤ 12) : CL (cpM m b c) b r := by
  obtain ⟨⟨a1, a2, a3, a4, a5⟩, a6, a7, a8, a9⟩ := hC
  have hri : ∀ q, ri (cpM m b c) q = ri (wi (wa (wa (cB (cpA m b c) m b c 3) (b + 3) (cpf 4 (ri m (c + 3)) (ri m (b + 3)))) (b + 4) (cpf 6 (ri m (c + 4)) (ri m (b + 4)))) b 6 (ri m c 6)) q := fun _ => rfl
  have hcJb : ri (cJ m b c 12) b = ri m b := cJ_ri 12 (fun j hj => by have := hJ.1 j hj; omega)
  have hcAb : ri (cpA m b c) b = upd (upd (ri m b) 1 (ri m c 1)) 2 (ri m c 2) := by
    unfold cpA
    rw [ri_ws, ri_ws, hcJb]
  have hb : ri (cpM m b c) b = upd (upd (upd (ri m b) 1 (ri m c 1)) 2 (ri m c 2)) 6 (ri m c 6) := by
    rw [hri, ri_ws, ri_an _ _ (by omega), ri_an _ _ (by omega), cB_ri 3 (by omega), hcAb]
  refine ⟨⟨?_, ?_, ?_, ?_, ?_⟩, ?_, ?_, ?_, ?_⟩
  · rw [hb, upd_n _ _ (by decide), upd_n _ _ (by decide), upd_s]
    exact a1
  · rw [hb, upd_n _ _ (by decide), upd_s]
    exact a2
  · rw [hb, upd_s]
    exact a3
  · show rl (cpM m b c) b 8 = _
    unfold cpM
    rw [rl_wl, if_pos ⟨rfl, rfl⟩]
    exact a4
  · show rl (cpM m b c) b 7 = _
    unfold cpM
    rw [rl_wl, if_neg (by omega), rl_wl, if_pos ⟨rfl, rfl⟩]
    exact a5
  · intro j hj
    rw [hri, ri_wn _ _ _ (by omega), ri_an _ _ (by omega), ri_as]
    unfold cpf
    rw [if_pos hj]
    exact a6 j hj
  · intro j hj
    rw [hri, ri_wn _ _ _ (by omega), ri_as]
    unfold cpf
    rw [if_pos hj]
    exact a7 j hj
  · intro w hw
    obtain ⟨e1, e2⟩ := cB_at (m := m) (b := b) (c := c) (m0 := cpA m b c) 3 hw
    refine ⟨fun o ho => ?_, fun j hj => ?_⟩
    · rw [hri, ri_wn _ _ _ (by omega), ri_an _ _ (by omega), ri_an _ _ (by omega), e1]
      unfold cpf
      rw [if_pos ho]
      exact (a8 w hw).1 o ho
    · rw [hri, ri_wn _ _ _ (by omega), ri_an _ _ (by omega), ri_an _ _ (by omega), e2]
      unfold cpf
      rw [if_pos hj]
      exact (a8 w hw).2 j hj
  · intro i hi k hk
    have hbi := hJ.1 i (by omega)
    have e : rp (cpM m b c) (b + 1) i = rp m (b + 1) i := by rw [cpM_rp]
    rw [e, hri, ri_wn _ _ _ (by omega), ri_an _ _ (by omega), ri_an _ _ (by omega), cB_ri 3 (by omega)]
    unfold cpA
    rw [ri_wn _ _ _ (by omega), ri_wn _ _ _ (by omega), cJ_at hJ 12 (Nat.le_refl _) (by omega)]
    unfold cpf
    rw [if_pos hk]
    exact a9 i hi k hk
theorem cpM_out (hJ : JV m b) : eqS b (b + 23) m (cpM m b c) := fun q hq => ⟨cpM_ri hJ hq, by rw [cpM_rp], by funext j; exact cpM_rl (by omega) j, by rw [cpM_rd]⟩
theorem CL.out {lo hi : Nat} (hE : eqS lo hi m m2) (hd : b + 23 ≤ lo ∨ hi ≤ b) (hJ : JV m b) (hN : nO r ≤ 12) (hC : CL m b r) : CL m2 b r := hC.congr hN hJ (fun q h1 h2 => by
  have := hE q (by omega)
  exact ⟨this.1, this.2.1, this.2.2.1⟩)
end P14
def hx (nx cnt i : Nat) : Nat := (nx + 9 - cnt + i) % 9
def hr (m : mm) (i : Nat) : Nat → Int32 := fun x => ri m 296 (140 * i + x)
def HI (T : Nat) (m : mm) (nx cnt : Nat) : Prop := nx < 9 ∧ cnt ≤ 8 ∧ ri m 47 1 = ic nx ∧ ri m 47 2 = ic cnt ∧ ri m 292 7 = ic cnt ∧ ∀ i, i < cnt → RW T (hr m i) ∧ CL m (49 + 23 * hx nx cnt i) (hr m i)
def SI (T : Nat) (m : mm) : Prop := (ri m 0 2 = ic 0 ∧ ri m 292 12 = ic 0) ∨ (ri m 0 2 = ic 1 ∧ ri m 292 12 = ic 1 ∧ RW T (ri m 295) ∧ CL m 24 (ri m 295))
def EI (a b : Int32) : Prop := a = b ∧ (a = -ic 1 ∨ isN a 999)
def XI (m : mm) (L : Nat) : Prop := L ≤ 60 ∧ ri m 269 1 = ic L ∧ ri m 292 18 = ic L ∧ ∀ q, q < L → ri m 270 q = ri m 300 q
def JA (m : mm) : Prop := JV m 1 ∧ JV m 24 ∧ (∀ q, q < 9 → JV m (49 + 23 * q)) ∧ JP m
def NI (T : Nat) (m : mm) : Prop := RW T (ri m 293) ∧ CL m 1 (ri m 293)
def PI6 (m : mm) : Prop := (∀ i, i < 6 → ri m 258 i = ic 0) ∧ ∃ U0 : Nat → Nat, ri m 297 = fun i => ic (U0 i)
def Core (T L nx cnt : Nat) (m : mm) : Prop := JA m ∧ PI6 m ∧ EI (ri m 0 7) (ri m 292 8) ∧ EI (ri m 0 8) (ri m 292 9) ∧ NI T m ∧ SI T m ∧ HI T m nx cnt ∧ XI m L
def OI (n0 : Nat) (G : sH) (m : mm) (N k c : Nat) (f : Nat → Nat) : Prop := SB n0 G m N k c f ∧ ri m 292 14 = ic c ∧ c ≤ 100 ∧ (ri m 299 = fun i => ic (f i)) ∧ ∀ i, i < c → f i < 128
def Inv (n0 N0 z0 q : Nat) (G : sH) (m : mm) (N z : Nat) : Prop := (∃ T L nx cnt, T + L ≤ q ∧ Core T L nx cnt m) ∧ ∃ k c f, OI n0 G m N k c f ∧ N ≤ N0 + q + k ∧ z ≤ z0 + 6 * q + zcap k
section P14b
variable {m m2 : mm} {T T2 L nx cnt : Nat}
theorem JA.congr (h : ∀ x, x = 2 ∨ x = 25 ∨ (∃ q, q < 9 ∧ x = 50 + 23 * q) ∨ x = 257 → rp m2 x = rp m x) (hJ : JA m) : JA m2 := ⟨hJ.1.congr (h 2 (Or.inl rfl)), hJ.2.1.congr (h 25 (Or.inr (Or.inl rfl))), fun q hq => (hJ.2.2.1 q hq).congr (h _ (Or.inr (Or.inr (Or.inl ⟨q, hq, by omega⟩)))), by
  have := hJ.2.2.2
  unfold JP at this ⊢
  rw [h 257 (Or.inr (Or.inr (Or.inr rfl)))]
  exact this⟩
theorem RW.n12 {T : Nat} {r : Nat → Int32} (H : RW T r) : nO r ≤ 12 := by
  obtain ⟨n, h1, h2, h3⟩ := H.n
  omega
theorem SI.congr (hT : T ≤ T2) (hJ : JV m 24) (h1 : ri m2 0 2 = ri m 0 2) (h2 : ri m2 292 12 = ri m 292 12) (h3 : ri m2 295 = ri m 295) (h4 : ∀ x, 24 ≤ x → x < 47 → ri m2 x = ri m x ∧ rp m2 x = rp m x ∧ rl m2 x = rl m x) (h : SI T m) : SI T2 m2 := by
  unfold SI at h ⊢
  rw [h1, h2, h3]
  rcases h with h | ⟨g1, g2, g3, g4⟩
  · exact Or.inl h
  · exact Or.inr ⟨g1, g2, g3.mono hT, g4.congr g3.n12 hJ (fun q q1 q2 => h4 q q1 (by omega))⟩
theorem hx_lt (nx cnt i : Nat) : hx nx cnt i < 9 := Nat.mod_lt _ (by decide)
theorem hx_ne {i : Nat} (h1 : nx < 9) (h2 : cnt ≤ 8) (h3 : i < cnt) : hx nx cnt i ≠ nx := by
  unfold hx
  omega
theorem HI.congr (hT : T ≤ T2) (hJ : ∀ q, q < 9 → JV m (49 + 23 * q)) (h1 : ri m2 47 = ri m 47) (h2 : ri m2 292 7 = ri m 292 7) (h3 : ri m2 296 = ri m 296) (h4 : ∀ x, 49 ≤ x → x < 256 → (x < 49 + 23 * nx ∨ 49 + 23 * nx + 23 ≤ x) → ri m2 x = ri m x ∧ rp m2 x = rp m x ∧ rl m2 x = rl m x) (h : HI T m nx cnt) : HI T2 m2 nx cnt := by
  obtain ⟨g1, g2, g3, g4, g5, g6⟩ := h
  refine ⟨g1, g2, by rw [h1]; exact g3, by rw [h1]; exact g4, by rw [h2]; exact g5, fun i hi => ?_⟩
  have e : hr m2 i = hr m i := by unfold hr; rw [h3]
  rw [e]
  have hlt := hx_lt nx cnt i
  have hne := hx_ne g1 g2 hi
  exact ⟨(g6 i hi).1.mono hT, (g6 i hi).2.congr (g6 i hi).1.n12 (hJ _ hlt) (fun q q1 q2 => h4 q (by omega) (by omega) (by omega))⟩
theorem XI.congr (h1 : ri m2 269 1 = ri m 269 1) (h2 : ri m2 292 18 = ri m 292 18) (h3 : ri m2 270 = ri m 270) (h4 : ri m2 300 = ri m 300) (h : XI m L) : XI m2 L := by
  unfold XI at h ⊢
  rw [h1, h2, h3, h4]
  exact h
theorem NI.congr (hT : T ≤ T2) (hJ : JV m 1) (h3 : ri m2 293 = ri m 293) (h4 : ∀ x, 1 ≤ x → x < 24 → ri m2 x = ri m x ∧ rp m2 x = rp m x ∧ rl m2 x = rl m x) (h : NI T m) : NI T2 m2 := by
  unfold NI at h ⊢
  rw [h3]
  exact ⟨h.1.mono hT, h.2.congr h.1.n12 hJ (fun q q1 q2 => h4 q q1 (by omega))⟩
/-- nothing that counts has changed -/
theorem Core.congr (hT : T ≤ T2) (hp6 : PI6 m2) (hJP : JP m2) (h1 : ∀ x, x < 256 ∨ x = 269 ∨ x = 270 ∨ (x = 293 ∨ x = 295 ∨ x = 296) ∨ x = 300 → ri m2 x = ri m x) (h2 : ∀ x, x < 256 → rp m2 x = rp m x ∧ rl m2 x = rl m x) (h3 : ∀ i, i = 7 ∨ i = 8 ∨ i = 9 ∨ i = 12 ∨ i = 18 → ri m2 292 i = ri m 292 i) (h : Core T L nx cnt m) : Core T2 L nx cnt m2 := by
  obtain ⟨c1, c2, c3, c4, c5, c6, c7, c8⟩ := h
  have hx : ∀ x, x < 256 → ri m2 x = ri m x ∧ rp m2 x = rp m x ∧ rl m2 x = rl m x := fun x h => ⟨h1 x (by omega), (h2 x h).1, (h2 x h).2⟩
  refine ⟨⟨c1.1.congr (h2 2 (by omega)).1, c1.2.1.congr (h2 25 (by omega)).1, fun q hq => (c1.2.2.1 q hq).congr (h2 _ (by omega)).1, hJP⟩, hp6, ?_, ?_, c5.congr hT c1.1 (h1 _ (by omega)) (fun x _ g => hx x (by omega)), c6.congr hT c1.2.1 (by rw [h1 0 (by omega)]) (h3 12 (by omega)) (h1 _ (by omega)) (fun x _ g => hx x (by omega)), c7.congr hT c1.2.2.1 (h1 _ (by omega)) (h3 7 (by omega)) (h1 _ (by omega)) (fun x _ g _ => hx x g), c8.congr (by rw [h1 269 (by omega)]) (h3 18 (by omega)) (h1 _ (by omega)) (h1 _ (by omega))⟩
  · rw [h1 0 (by omega), h3 8 (by omega)]
    exact c3
  · rw [h1 0 (by omega), h3 9 (by omega)]
    exact c4
theorem OI.congr {n0 N N2 k c : Nat} {G : sH} {f : Nat → Nat} (hN : N ≤ N2) (h1 : ri m2 290 = ri m 290) (h2 : rp m2 290 = rp m 290) (h3 : ri m2 292 14 = ri m 292 14) (h4 : ri m2 299 = ri m 299) (h : OI n0 G m N k c f) : OI n0 G m2 N2 k c f := by
  obtain ⟨o1, o2, o3, o4, o5⟩ := h
  obtain ⟨g, b1, b2, b3, b4, b5, b6, b7, b8, b9, b10⟩ := SB_m h1 h2 o1
  exact ⟨⟨g, b1, by omega, b3, b4, b5, b6, b7, b8, b9, by omega⟩, by rw [h3]; exact o2, o3, by rw [h4]; exact o4, o5⟩
/-- the row of the history that is made ready -/
theorem Core.prep (h : Core T L nx cnt m) : Core T L nx cnt (cpM m (49 + 23 * nx) 1) := by
  obtain ⟨c1, c2, c3, c4, c5, c6, c7, c8⟩ := h
  have hnx := c7.1
  have hE := cpM_out (c := 1) (c1.2.2.1 nx hnx)
  have e : ∀ x, x < 49 + 23 * nx ∨ 49 + 23 * nx + 23 ≤ x → ri (cpM m (49 + 23 * nx) 1) x = ri m x ∧ rp (cpM m (49 + 23 * nx) 1) x = rp m x ∧ rl (cpM m (49 + 23 * nx) 1) x = rl m x := fun x hx => ⟨(hE x hx).1, (hE x hx).2.1, (hE x hx).2.2.1⟩
  refine ⟨c1.congr (fun x _ => by rw [cpM_rp]), ?_, ?_, ?_, c5.congr (Nat.le_refl _) c1.1 (e _ (by omega)).1 (fun x _ g => e x (by omega)), c6.congr (Nat.le_refl _) c1.2.1 (by rw [(e 0 (by omega)).1]) (by rw [(e 292 (by omega)).1]) (e _ (by omega)).1 (fun x _ g => e x (by omega)), c7.congr (Nat.le_refl _) c1.2.2.1 (e _ (by omega)).1 (by rw [(e 292 (by omega)).1]) (e _ (by omega)).1 (fun x _ _ g => e x g), c8.congr (by rw [(e 269 (by omega)).1]) (by rw [(e 292 (by omega)).1]) (e _ (by omega)).1 (e _ (by omega)).1⟩
  · unfold PI6
    rw [(e 258 (by omega)).1, (e 297 (by omega)).1]
    exact c2
  · rw [(e 0 (by omega)).1, (e 292 (by omega)).1]
    exact c3
  · rw [(e 0 (by omega)).1, (e 292 (by omega)).1]
    exact c4
end P14b
