/-! type, undo, save, restore: class against reference; expanded by px.py out of p19.src -/
def e2 (_ : Nat) : Nat := 2
section P19
variable {n0 N z N0 z0 q T L nx cnt : Nat} {S0 : Nat → Value} {G : sH} {m m2 mF : mm} {r : Nat → Int32}
theorem P_type (hI : Inv n0 N0 z0 q G m N z) (hq : q ≤ 512) {c : Int32} (hc0 : sNar .char c = c) : Pr n0 S0 N0 z0 q Int32.toInt64 119 [.int c] 226 [.int c] (1, e2) G m N z := by
  obtain ⟨⟨T, L, nx, cnt, hTL, hc⟩, hO⟩ := id hI
  obtain ⟨x1, x2, x3, x4⟩ := hc.2.2.2.2.2.2.2
  by_cases g : L < 60
  · have hcl := c_type (n0 := n0) (S0 := S0) (G := G) (N := N) (z := z) (d := 38) (c := c) x2 g
    rw [hc0] at hcl
    have hrf := m_type (n0 := n0) (S0 := S0) (G := G) (N := N) (z := z) (d := 39) (c := c) (l := L) (m := wl (wi (wi m 270 L c) 269 1 (ic (L + 1))) 303 0 (ic (L + 1)).toInt64) (by
      show ri (wi (wi m 270 L c) 269 1 (ic (L + 1))) 292 18 = _
      rw [ri_wn _ _ _ (by decide), ri_wn _ _ _ (by decide)]
      exact x3) g
    have hA : ∀ x, x ≠ 292 → x ≠ 300 → x ≠ 269 → x ≠ 270 → ri (wi (wi (tM (wl (wi (wi m 270 L c) 269 1 (ic (L + 1))) 303 0 (ic (L + 1)).toInt64) 0) 300 L c) 292 18 (ic (L + 1))) x = ri m x := fun x h1 h2 h3 h4 => by
      rw [ri_wn _ _ _ h1, ri_wn _ _ _ h2, ri_wn _ _ _ h1]
      show ri (wi (wi m 270 L c) 269 1 (ic (L + 1))) x = _
      rw [ri_wn _ _ _ h3, ri_wn _ _ _ h4]
    have hB : ∀ i, i ≠ 18 → i ≠ 6 → ri (wi (wi (tM (wl (wi (wi m 270 L c) 269 1 (ic (L + 1))) 303 0 (ic (L + 1)).toInt64) 0) 300 L c) 292 18 (ic (L + 1))) 292 i = ri m 292 i := fun i h1 h2 => by
      rw [ri_ws, upd_n _ _ h1, ri_wn _ _ _ (by decide), ri_ws, upd_n _ _ h2]
      show ri (wi (wi m 270 L c) 269 1 (ic (L + 1))) 292 i = _
      rw [ri_wn _ _ _ (by decide), ri_wn _ _ _ (by decide)]
    have hrl : ∀ x, x < 256 → rl (wi (wi (tM (wl (wi (wi m 270 L c) 269 1 (ic (L + 1))) 303 0 (ic (L + 1)).toInt64) 0) 300 L c) 292 18 (ic (L + 1))) x = rl m x := fun x hx => by
      show rl (wl (wi (wi m 270 L c) 269 1 (ic (L + 1))) 303 0 (ic (L + 1)).toInt64) x = _
      funext j
      rw [rl_wl, if_neg (by omega)]
      rfl
    obtain ⟨c1, c2, c3, c4, c5, c6, c7, c8⟩ := hc
    refine Or.inr ⟨G, _, N, z, _, _, hcl, fun _ _ => rfl, hrf, ?_, ?_, Inv_up hO ⟨T, L + 1, nx, cnt, by omega, c1.congr (fun _ _ => rfl), ⟨by rw [hA 258 (by decide) (by decide) (by decide) (by decide)]; exact c2.1, by rw [hA 297 (by decide) (by decide) (by decide) (by decide)]; exact c2.2⟩, ?_, ?_, c5.congr (Nat.le_refl _) c1.1 (hA 293 (by decide) (by decide) (by decide) (by decide)) (fun x h1 h2 => ⟨hA x (by omega) (by omega) (by omega) (by omega), rfl, hrl x (by omega)⟩), c6.congr (Nat.le_refl _) c1.2.1 (by rw [hA 0 (by decide) (by decide) (by decide) (by decide)]) (hB 12 (by decide) (by decide)) (hA 295 (by decide) (by decide) (by decide) (by decide)) (fun x h1 h2 => ⟨hA x (by omega) (by omega) (by omega) (by omega), rfl, hrl x (by omega)⟩), c7.congr (Nat.le_refl _) c1.2.2.1 (hA 47 (by decide) (by decide) (by decide) (by decide)) (hB 7 (by decide) (by decide)) (hA 296 (by decide) (by decide) (by decide) (by decide)) (fun x h1 h2 _ => ⟨hA x (by omega) (by omega) (by omega) (by omega), rfl, hrl x (by omega)⟩), ⟨by omega, ?_, ?_, fun j hj => ?_⟩⟩ (hA 290 (by decide) (by decide) (by decide) (by decide)) rfl (hB 14 (by decide) (by decide)) (hA 299 (by decide) (by decide) (by decide) (by decide)) (Nat.le_refl _) (by omega) (by omega)⟩
    · rw [ri_ws, upd_n _ _ (by decide), ri_wn _ _ _ (by decide), ri_ws, upd_s]
    · show rl (wl (wi (wi m 270 L c) 269 1 (ic (L + 1))) 303 0 (ic (L + 1)).toInt64) 303 0 = _
      rw [rl_wl, if_pos ⟨rfl, rfl⟩]
    · rw [hA 0 (by decide) (by decide) (by decide) (by decide), hB 8 (by decide) (by decide)]
      exact c3
    · rw [hA 0 (by decide) (by decide) (by decide) (by decide), hB 9 (by decide) (by decide)]
      exact c4
    · rw [ri_wn _ _ _ (by decide), ri_wn _ _ _ (by decide), ri_wn _ _ _ (by decide)]
      show ri (wi (wi m 270 L c) 269 1 (ic (L + 1))) 269 1 = _
      rw [ri_ws, upd_s]
    · rw [ri_ws, upd_s]
    · have e1 : ri (wi (wi (tM (wl (wi (wi m 270 L c) 269 1 (ic (L + 1))) 303 0 (ic (L + 1)).toInt64) 0) 300 L c) 292 18 (ic (L + 1))) 270 = upd (ri m 270) L c := by
        rw [ri_wn _ _ _ (by decide), ri_wn _ _ _ (by decide), ri_wn _ _ _ (by decide)]
        show ri (wi (wi m 270 L c) 269 1 (ic (L + 1))) 270 = _
        rw [ri_wn _ _ _ (by decide), ri_ws]
      have e2' : ri (wi (wi (tM (wl (wi (wi m 270 L c) 269 1 (ic (L + 1))) 303 0 (ic (L + 1)).toInt64) 0) 300 L c) 292 18 (ic (L + 1))) 300 = upd (ri m 300) L c := by
        rw [ri_wn _ _ _ (by decide), ri_ws, ri_wn _ _ _ (by decide)]
        show upd (ri (wi (wi m 270 L c) 269 1 (ic (L + 1))) 300) L c = _
        rw [ri_wn _ _ _ (by decide), ri_wn _ _ _ (by decide)]
      rw [e1, e2', upd_at, upd_at]
      by_cases e : j = L
      · rw [if_pos e, if_pos e]
      · rw [if_neg e, if_neg e]
        exact x4 j (by omega)
  · exact get_no (why := 1) (b := ic 0) hI (by decide) (by decide) (fun d => c_typeFull (d := d + 12) (by rw [x2, ic_lt (by omega) (by omega)]; exact g)) (fun d N z => m_typeFull (d := d + 12) (by rw [x3, ic_lt (by omega) (by omega)]; exact g))
theorem Q_save (hI : Inv n0 N0 z0 q G m N z) (hq : q ≤ 512) : ∃ V : Int32, Pq n0 S0 N0 z0 q 72 [] 245 [] (.int V) G m N z := by
  obtain ⟨⟨T, L, nx, cnt, hTL, hc⟩, hO⟩ := id hI
  obtain ⟨c1, c2, c3, c4, c5, c6, c7, c8⟩ := hc
  have hE := cpM_out (c := 1) c1.2.1
  have hcl := c_save (n0 := n0) (S0 := S0) (G := G) (N := N) (z := z) (d := 38) c1.1 c1.2.1
  have hrf := m_save (n0 := n0) (S0 := S0) (G := G) (N := N) (z := z) (d := 39) (m := wi (cpM m 24 1) 0 2 (ic 1))
  have e : ∀ x, x ≠ 0 → x < 24 ∨ 47 ≤ x → ri (wi (cpM m 24 1) 0 2 (ic 1)) x = ri m x := fun x h1 h2 => by
    rw [ri_wn _ _ _ h1]
    exact (hE x (by omega)).1
  have ev : ri (cpM m 24 1) 1 1 = ri m 293 0 := by
    rw [(hE 1 (by omega)).1]
    exact c5.2.1.1
  rw [ev] at hcl
  rw [e 293 (by decide) (by decide)] at hrf
  have hA : ∀ x, x ≠ 292 → x ≠ 295 → ri (wi (wa (tM (wi (cpM m 24 1) 0 2 (ic 1)) 0) 295 (cpR 140 0 0 (ri m 293) (ri (wi (cpM m 24 1) 0 2 (ic 1)) 295))) 292 12 (ic 1)) x = ri (wi (cpM m 24 1) 0 2 (ic 1)) x := fun x h1 h2 => by
    rw [ri_wn _ _ _ h1, ri_an _ _ h2, ri_wn _ _ _ h1]
  have hB : ∀ i, i ≠ 12 → i ≠ 6 → ri (wi (wa (tM (wi (cpM m 24 1) 0 2 (ic 1)) 0) 295 (cpR 140 0 0 (ri m 293) (ri (wi (cpM m 24 1) 0 2 (ic 1)) 295))) 292 12 (ic 1)) 292 i = ri m 292 i := fun i h1 h2 => by
    rw [ri_ws, upd_n _ _ h1, ri_an _ _ (by decide), ri_ws, upd_n _ _ h2, e 292 (by decide) (by decide)]
  have h0 : ∀ i, i ≠ 2 → ri (wi (cpM m 24 1) 0 2 (ic 1)) 0 i = ri m 0 i := fun i hi => by
    rw [ri_ws, upd_n _ _ hi, (hE 0 (by omega)).1]
  have hs : ∀ x, x ≠ 0 → x ≠ 292 → x ≠ 295 → x < 24 ∨ 47 ≤ x → ri (wi (wa (tM (wi (cpM m 24 1) 0 2 (ic 1)) 0) 295 (cpR 140 0 0 (ri m 293) (ri (wi (cpM m 24 1) 0 2 (ic 1)) 295))) 292 12 (ic 1)) x = ri m x := fun x h1 h2 h3 h4 => by
    rw [hA x h2 h3, e x h1 h4]
  have hrp : ∀ x, rp (wi (wa (tM (wi (cpM m 24 1) 0 2 (ic 1)) 0) 295 (cpR 140 0 0 (ri m 293) (ri (wi (cpM m 24 1) 0 2 (ic 1)) 295))) 292 12 (ic 1)) x = rp m x := fun x => by
    show rp (cpM m 24 1) x = _
    rw [cpM_rp]
  have hrl : ∀ x, x ≠ 24 → rl (wi (wa (tM (wi (cpM m 24 1) 0 2 (ic 1)) 0) 295 (cpR 140 0 0 (ri m 293) (ri (wi (cpM m 24 1) 0 2 (ic 1)) 295))) 292 12 (ic 1)) x = rl m x := fun x hx => by
    show rl (cpM m 24 1) x = _
    funext j
    exact cpM_rl hx j
  have hrow : ∀ x, x < 140 → ri (wi (wa (tM (wi (cpM m 24 1) 0 2 (ic 1)) 0) 295 (cpR 140 0 0 (ri m 293) (ri (wi (cpM m 24 1) 0 2 (ic 1)) 295))) 292 12 (ic 1)) 295 x = ri m 293 x := fun x hx => by
    rw [ri_wn _ _ _ (by decide), ri_as]
    unfold cpR
    rw [if_pos (by omega), show 0 + (x - 0) = x by omega]
  refine ⟨_, _, _, hcl, hrf, Inv_up hO ⟨T, L, nx, cnt, by omega, c1.congr (fun x _ => hrp x), ⟨by rw [hs 258 (by decide) (by decide) (by decide) (by decide)]; exact c2.1, by rw [hs 297 (by decide) (by decide) (by decide) (by decide)]; exact c2.2⟩, ?_, ?_, c5.congr (Nat.le_refl _) c1.1 (hs 293 (by decide) (by decide) (by decide) (by decide)) (fun x h1 h2 => ⟨hs x (by omega) (by omega) (by omega) (by omega), hrp x, hrl x (by omega)⟩), Or.inr ⟨?_, ?_, RW_congr hrow c5.1, ?_⟩, c7.congr (Nat.le_refl _) c1.2.2.1 (hs 47 (by decide) (by decide) (by decide) (by decide)) (hB 7 (by decide) (by decide)) (hs 296 (by decide) (by decide) (by decide) (by decide)) (fun x h1 h2 _ => ⟨hs x (by omega) (by omega) (by omega) (by omega), hrp x, hrl x (by omega)⟩), c8.congr (by rw [hs 269 (by decide) (by decide) (by decide) (by decide)]) (hB 18 (by decide) (by decide)) (hs 270 (by decide) (by decide) (by decide) (by decide)) (hs 300 (by decide) (by decide) (by decide) (by decide))⟩ (hs 290 (by decide) (by decide) (by decide) (by decide)) (hrp 290) (hB 14 (by decide) (by decide)) (hs 299 (by decide) (by decide) (by decide) (by decide)) (Nat.le_refl _) (by omega) (by omega)⟩
  · rw [hA 0 (by decide) (by decide), h0 7 (by decide), hB 8 (by decide) (by decide)]
    exact c3
  · rw [hA 0 (by decide) (by decide), h0 8 (by decide), hB 9 (by decide) (by decide)]
    exact c4
  · rw [hA 0 (by decide) (by decide), ri_ws, upd_s]
  · rw [ri_ws, upd_s]
  · have h1 := cpM_CL c1.2.1 c5.2 c5.1.n12
    refine CL.row c5.1.n12 hrow (h1.congr c5.1.n12 (JV_cpM c1.2.1) (fun x h1 h2 => ⟨?_, ?_, rfl⟩))
    · rw [hA x (by omega) (by omega), ri_wn _ _ _ (by omega)]
    · rw [hrp x, cpM_rp]
theorem P_restore (hI : Inv n0 N0 z0 q G m N z) (hq : q ≤ 512) : Pr n0 S0 N0 z0 q Int32.toInt64 126 [] 246 [] (1, e2) G m N z := by
  obtain ⟨⟨T, L, nx, cnt, hTL, hc⟩, hO⟩ := id hI
  obtain ⟨c1, c2, c3, c4, c5, c6, c7, c8⟩ := hc
  rcases id c6 with ⟨s1, s2⟩ | ⟨s1, s2, s3, s4⟩
  · exact get_no (why := 1) (b := ic 0) hI (by decide) (by decide) (fun d => c_restoreNo (d := d + 11) s1) (fun d N z => m_restoreNo (d := d + 12) s2)
  · have hE := cpM_out (c := 24) c1.1
    have hcl := c_restoreOk (n0 := n0) (S0 := S0) (G := G) (N := N) (z := z) (d := 37) c1.1 c1.2.1 (by rw [s1]; decide)
    have hC1 := cpM_CL c1.1 s4 s3.n12
    rw [hC1.1.1] at hcl
    have e : ∀ x, x ≠ 47 → x < 1 ∨ 24 ≤ x → ri (wl (wi (cpM m 1 24) 47 2 (ic 0)) 303 0 (ri m 295 0).toInt64) x = ri m x := fun x h1 h2 => by
      show ri (wi (cpM m 1 24) 47 2 (ic 0)) x = _
      rw [ri_wn _ _ _ h1]
      exact (hE x (by omega)).1
    have hrf := m_restore (n0 := n0) (S0 := S0) (G := G) (N := N) (z := z) (d := 39) (m := wl (wi (cpM m 1 24) 47 2 (ic 0)) 303 0 (ri m 295 0).toInt64) (by rw [e 292 (by decide) (by decide)]; exact s2)
    rw [e 295 (by decide) (by decide), e 293 (by decide) (by decide)] at hrf
    have h00 : cpR 140 0 0 (ri m 295) (ri m 293) 0 = ri m 295 0 := by
      unfold cpR
      rw [if_pos (by omega)]
    rw [h00] at hrf
    generalize hF : wi (wa (tM (wl (wi (cpM m 1 24) 47 2 (ic 0)) 303 0 (ri m 295 0).toInt64) 0) 293 (cpR 140 0 0 (ri m 295) (ri m 293))) 292 7 (ic 0) = mF at hrf
    have hs : ∀ x, x ≠ 292 → x ≠ 293 → ri mF x = ri (wi (cpM m 1 24) 47 2 (ic 0)) x := fun x h1 h2 => by
      rw [← hF, ri_wn _ _ _ h1, ri_an _ _ h2, ri_wn _ _ _ h1]
      rfl
    have hs2 : ∀ x, x ≠ 292 → x ≠ 293 → x ≠ 47 → x < 1 ∨ 24 ≤ x → ri mF x = ri m x := fun x h1 h2 h3 h4 => by
      rw [hs x h1 h2]
      exact e x h3 h4
    have hB : ∀ i, i ≠ 7 → i ≠ 6 → ri mF 292 i = ri m 292 i := fun i h1 h2 => by
      rw [← hF, ri_ws, upd_n _ _ h1, ri_an _ _ (by decide), ri_ws, upd_n _ _ h2, e 292 (by decide) (by decide)]
    have hrp : ∀ x, rp mF x = rp m x := fun x => by
      rw [← hF]
      show rp (cpM m 1 24) x = _
      rw [cpM_rp]
    have hrl0 : ∀ x, x < 256 → rl mF x = rl (cpM m 1 24) x := fun x hx => by
      rw [← hF]
      show rl (wl (wi (cpM m 1 24) 47 2 (ic 0)) 303 0 (ri m 295 0).toInt64) x = _
      funext j
      rw [rl_wl, if_neg (by omega)]
      rfl
    have hrl : ∀ x, x ≠ 1 → x < 256 → rl mF x = rl m x := fun x hx h2 => by
      rw [hrl0 x h2]
      funext j
      exact cpM_rl hx j
    have hrow : ∀ x, x < 140 → ri mF 293 x = ri m 295 x := fun x hx => by
      rw [← hF, ri_wn _ _ _ (by decide), ri_as]
      unfold cpR
      rw [if_pos (by omega), show 0 + (x - 0) = x by omega]
    have h47 : ri mF 47 1 = ic nx ∧ ri mF 47 2 = ic 0 := by
      rw [hs 47 (by decide) (by decide)]
      refine ⟨?_, by rw [ri_ws, upd_s]⟩
      rw [ri_ws, upd_n _ _ (by decide), (hE 47 (by omega)).1]
      exact c7.2.2.1
    refine Or.inr ⟨G, _, N, z, _, mF, hcl, fun _ _ => rfl, hrf, ?_, ?_, Inv_up hO ⟨T, L, nx, 0, by omega, c1.congr (fun x _ => hrp x), ⟨by rw [hs2 258 (by decide) (by decide) (by decide) (by decide)]; exact c2.1, by rw [hs2 297 (by decide) (by decide) (by decide) (by decide)]; exact c2.2⟩, ?_, ?_, ⟨RW_congr hrow s3, ?_⟩, c6.congr (Nat.le_refl _) c1.2.1 (by rw [hs2 0 (by decide) (by decide) (by decide) (by decide)]) (hB 12 (by decide) (by decide)) (hs2 295 (by decide) (by decide) (by decide) (by decide)) (fun x h1 h2 => ⟨hs2 x (by omega) (by omega) (by omega) (by omega), hrp x, hrl x (by omega) (by omega)⟩), ⟨c7.1, by decide, h47.1, h47.2, by rw [← hF, ri_ws, upd_s], fun i hi => absurd hi (Nat.not_lt_zero _)⟩, c8.congr (by rw [hs2 269 (by decide) (by decide) (by decide) (by decide)]) (hB 18 (by decide) (by decide)) (hs2 270 (by decide) (by decide) (by decide) (by decide)) (hs2 300 (by decide) (by decide) (by decide) (by decide))⟩ (hs2 290 (by decide) (by decide) (by decide) (by decide)) (hrp 290) (hB 14 (by decide) (by decide)) (hs2 299 (by decide) (by decide) (by decide) (by decide)) (Nat.le_refl _) (by omega) (by omega)⟩
    · rw [← hF, ri_ws, upd_n _ _ (by decide), ri_an _ _ (by decide), ri_ws, upd_s]
    · rw [← hF]
      show rl (wl (wi (cpM m 1 24) 47 2 (ic 0)) 303 0 (ri m 295 0).toInt64) 303 0 = _
      rw [rl_wl, if_pos ⟨rfl, rfl⟩]
    · rw [hs2 0 (by decide) (by decide) (by decide) (by decide), hB 8 (by decide) (by decide)]
      exact c3
    · rw [hs2 0 (by decide) (by decide) (by decide) (by decide), hB 9 (by decide) (by decide)]
      exact c4
    · refine CL.row s3.n12 hrow (hC1.congr s3.n12 (JV_cpM c1.1) (fun x h1 h2 => ⟨?_, by rw [hrp x, cpM_rp], hrl0 x (by omega)⟩))
      rw [hs x (by omega) (by omega), ri_wn _ _ _ (by omega)]
theorem P_undo (hI : Inv n0 N0 z0 q G m N z) (hq : q ≤ 512) : Pr n0 S0 N0 z0 q Int32.toInt64 125 [] 244 [] (1, e2) G m N z := by
  obtain ⟨⟨T, L, nx, cnt, hTL, hc⟩, hO⟩ := id hI
  obtain ⟨c1, c2, c3, c4, c5, c6, c7, c8⟩ := hc
  obtain ⟨g1, g2, g3, g4, g5, g6⟩ := id c7
  by_cases g : cnt = 0
  · subst g
    exact get_no (why := 1) (b := ic 0) hI (by decide) (by decide) (fun d => c_undoNo (d := d + 10) g4) (fun d N z => m_undoNo (d := d + 12) g5)
  · obtain ⟨dp, rfl⟩ : ∃ dp, cnt = dp + 1 := ⟨cnt - 1, by omega⟩
    have hcl := c_undoOk (n0 := n0) (S0 := S0) (G := G) (N := N) (z := z) (d := 36) g1 g3 c1.2.2.1 c1.1 (by rw [g4, ic_eq (by omega) (by omega)]; omega)
    have hqb : tbQ nx < 9 := by unfold tbQ; split <;> omega
    have hxq : hx nx (dp + 1) dp = tbQ nx := by unfold hx tbQ; split <;> omega
    obtain ⟨s3, s4⟩ := g6 dp (by omega)
    rw [hxq] at s4
    have hJb : JV (wi (wi m 47 1 (ic (tbQ nx))) 47 2 (ri m 47 2 - ic 1)) 1 := c1.1
    have hE := cpM_out (c := 49 + 23 * tbQ nx) hJb
    have s4' : CL (wi (wi m 47 1 (ic (tbQ nx))) 47 2 (ri m 47 2 - ic 1)) (49 + 23 * tbQ nx) (hr m dp) := s4.congr s3.n12 (c1.2.2.1 _ hqb) (fun x h1 h2 => ⟨by rw [ri_wn _ _ _ (by omega), ri_wn _ _ _ (by omega)], rfl, rfl⟩)
    have hC1 := cpM_CL hJb s4' s3.n12
    have htb : tbM m nx = cpM (wi (wi m 47 1 (ic (tbQ nx))) 47 2 (ri m 47 2 - ic 1)) 1 (49 + 23 * tbQ nx) := rfl
    rw [htb] at hcl
    have e47 : ri (cpM (wi (wi m 47 1 (ic (tbQ nx))) 47 2 (ri m 47 2 - ic 1)) 1 (49 + 23 * tbQ nx)) 47 1 = ic (tbQ nx) ∧ ri (cpM (wi (wi m 47 1 (ic (tbQ nx))) 47 2 (ri m 47 2 - ic 1)) 1 (49 + 23 * tbQ nx)) 47 2 = ic dp := by
      rw [(hE 47 (by omega)).1]
      refine ⟨by rw [ri_ws, upd_n _ _ (by decide), ri_ws, upd_s], ?_⟩
      rw [ri_ws, upd_s, g4, ic_sub (by omega)]
      rfl
    rw [e47.2] at hcl
    have e : ∀ x, x ≠ 47 → x < 1 ∨ 24 ≤ x → ri (cpM (wi (wi m 47 1 (ic (tbQ nx))) 47 2 (ri m 47 2 - ic 1)) 1 (49 + 23 * tbQ nx)) x = ri m x := fun x h1 h2 => by
      rw [(hE x (by omega)).1, ri_wn _ _ _ h1, ri_wn _ _ _ h1]
    generalize hmC : cpM (wi (wi m 47 1 (ic (tbQ nx))) 47 2 (ri m 47 2 - ic 1)) 1 (49 + 23 * tbQ nx) = mC at hcl e e47 hC1
    have hCrp : rp mC = rp m := by rw [← hmC, cpM_rp]; rfl
    have hCrl : ∀ x, x ≠ 1 → rl mC x = rl m x := fun x hx => by
      rw [← hmC]
      funext j
      rw [cpM_rl hx j]
      rfl
    have hrf := m_undo (n0 := n0) (S0 := S0) (G := G) (N := N) (z := z) (d := 39) (m := wl mC 303 0 (ic dp).toInt64) (dp := dp) (by
      show ri mC 292 7 = _
      rw [e 292 (by decide) (by decide)]
      exact g5) (by omega)
    have e293 : ri (wl mC 303 0 (ic dp).toInt64) 293 = ri m 293 := e 293 (by decide) (by decide)
    have e296 : ri (wl mC 303 0 (ic dp).toInt64) 296 = ri m 296 := e 296 (by decide) (by decide)
    rw [e293, e296] at hrf
    generalize hF : wa (wi (tM (wl mC 303 0 (ic dp).toInt64) 0) 292 7 (ic dp)) 293 (cpR 140 (140 * dp) 0 (ri m 296) (ri m 293)) = mF at hrf
    have hs : ∀ x, x ≠ 292 → x ≠ 293 → ri mF x = ri mC x := fun x h1 h2 => by
      rw [← hF, ri_an _ _ h2, ri_wn _ _ _ h1, ri_wn _ _ _ h1]
      rfl
    have hs2 : ∀ x, x ≠ 292 → x ≠ 293 → x ≠ 47 → x < 1 ∨ 24 ≤ x → ri mF x = ri m x := fun x h1 h2 h3 h4 => by
      rw [hs x h1 h2]
      exact e x h3 h4
    have hB : ∀ i, i ≠ 7 → i ≠ 6 → ri mF 292 i = ri m 292 i := fun i h1 h2 => by
      rw [← hF, ri_an _ _ (by decide), ri_ws, upd_n _ _ h1, ri_ws, upd_n _ _ h2]
      show ri mC 292 i = _
      rw [e 292 (by decide) (by decide)]
    have hrp : ∀ x, rp mF x = rp m x := fun x => by
      rw [← hF]
      show rp mC x = _
      rw [hCrp]
    have hrl0 : ∀ x, x < 256 → rl mF x = rl mC x := fun x hx => by
      rw [← hF]
      show rl (wl mC 303 0 (ic dp).toInt64) x = _
      funext j
      rw [rl_wl, if_neg (by omega)]
    have hrl : ∀ x, x ≠ 1 → x < 256 → rl mF x = rl m x := fun x hx h2 => by rw [hrl0 x h2, hCrl x hx]
    have hrow : ∀ x, x < 140 → ri mF 293 x = hr m dp x := fun x hx => by
      rw [← hF, ri_as]
      unfold cpR hr
      rw [if_pos (by omega), show 140 * dp + (x - 0) = 140 * dp + x by omega]
    have hH : HI T mF (tbQ nx) dp := by
      refine ⟨hqb, by omega, by rw [hs 47 (by decide) (by decide)]; exact e47.1, by rw [hs 47 (by decide) (by decide)]; exact e47.2, by rw [← hF, ri_an _ _ (by decide), ri_ws, upd_s], fun i hi => ?_⟩
      have ei : hx (tbQ nx) dp i = hx nx (dp + 1) i := by unfold hx tbQ; split <;> omega
      have eh : hr mF i = hr m i := by unfold hr; rw [hs2 296 (by decide) (by decide) (by decide) (by decide)]
      have hlt := hx_lt nx (dp + 1) i
      rw [ei, eh]
      obtain ⟨a1, a2⟩ := g6 i (by omega)
      exact ⟨a1, a2.congr a1.n12 (c1.2.2.1 _ hlt) (fun x h1 h2 => ⟨hs2 x (by omega) (by omega) (by omega) (by omega), hrp x, hrl x (by omega) (by omega)⟩)⟩
    refine Or.inr ⟨G, mC, N, z, ic dp, mF, hcl, fun _ _ => rfl, hrf, ?_, ?_, Inv_up hO ⟨T, L, tbQ nx, dp, by omega, c1.congr (fun x _ => hrp x), ⟨by rw [hs2 258 (by decide) (by decide) (by decide) (by decide)]; exact c2.1, by rw [hs2 297 (by decide) (by decide) (by decide) (by decide)]; exact c2.2⟩, ?_, ?_, ⟨RW_congr hrow s3, ?_⟩, c6.congr (Nat.le_refl _) c1.2.1 (by rw [hs2 0 (by decide) (by decide) (by decide) (by decide)]) (hB 12 (by decide) (by decide)) (hs2 295 (by decide) (by decide) (by decide) (by decide)) (fun x h1 h2 => ⟨hs2 x (by omega) (by omega) (by omega) (by omega), hrp x, hrl x (by omega) (by omega)⟩), hH, c8.congr (by rw [hs2 269 (by decide) (by decide) (by decide) (by decide)]) (hB 18 (by decide) (by decide)) (hs2 270 (by decide) (by decide) (by decide) (by decide)) (hs2 300 (by decide) (by decide) (by decide) (by decide))⟩ (hs2 290 (by decide) (by decide) (by decide) (by decide)) (hrp 290) (hB 14 (by decide) (by decide)) (hs2 299 (by decide) (by decide) (by decide) (by decide)) (Nat.le_refl _) (by omega) (by omega)⟩
    · rw [← hF, ri_an _ _ (by decide), ri_ws, upd_n _ _ (by decide), ri_ws, upd_s]
    · rw [← hF]
      show rl (wl mC 303 0 (ic dp).toInt64) 303 0 = _
      rw [rl_wl, if_pos ⟨rfl, rfl⟩]
    · rw [hs2 0 (by decide) (by decide) (by decide) (by decide), hB 8 (by decide) (by decide)]
      exact c3
    · rw [hs2 0 (by decide) (by decide) (by decide) (by decide), hB 9 (by decide) (by decide)]
      exact c4
    · refine CL.row s3.n12 hrow (hC1.congr s3.n12 (by unfold JV; rw [hCrp]; exact c1.1) (fun x h1 h2 => ⟨?_, by rw [hrp x, hCrp], hrl0 x (by omega)⟩))
      rw [hs x (by omega) (by omega)]
end P19
