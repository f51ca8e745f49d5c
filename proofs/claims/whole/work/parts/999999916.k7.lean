/-! the relation at the loop's begin; the law; expanded by px.py out of k7.src -/
section K7
variable {n0 N z d J i b vj s len : Nat} {S0 : Nat → Value} {G : sH} {f g : Nat → sC} {sc : Nat → Int32}
theorem mz_CL (hb : isS b) : CL (mz n0 vj) b (fun _ => ic 0) := by
  have hlt : 0 < b ∧ b + 23 ≤ 256 := by
    rcases hb with rfl | rfl | ⟨r, hr, rfl⟩ <;> omega
  have hz : ∀ o, o < 23 → kS o ≠ 5 ∧ kS o ≠ 6 → mzI (b + o) = fun _ => ic 0 := fun o ho h => mzI_0 (by omega) (by omega) (fun q => h.1 ((kd_S hb ho).symm.trans q.2)) (fun q => h.2 ((kd_S hb ho).symm.trans q))
  have h0 := hz 0 (by decide) (by decide)
  refine ⟨⟨?_, ?_, ?_, rfl, rfl⟩, fun j hj => ?_, fun j hj => ?_, fun w hw => ⟨fun o ho => ?_, fun j hj => ?_⟩, fun i hi => ?_⟩
  · show mzI (b + 0) 1 = _
    rw [h0]
  · show mzI (b + 0) 2 = _
    rw [h0]
  · show mzI (b + 0) 6 = _
    rw [h0]
  · show mzI (b + 3) j = _
    rw [hz 3 (by decide) (by decide)]
  · show mzI (b + 4) j = _
    unfold mzI
    rw [if_neg (by omega), if_neg (by omega), if_pos ⟨by omega, (kd_S hb (show 4 < 23 by decide)).trans rfl⟩, if_pos hj]
    rfl
  · show mzI (b + 2 + (15 + 2 * w)) o = _
    rw [show b + 2 + (15 + 2 * w) = b + (17 + 2 * w) by omega, hz (17 + 2 * w) (by omega) (by rcases (by omega : w = 0 ∨ w = 1 ∨ w = 2) with rfl | rfl | rfl <;> decide)]
  · show mzI (b + 2 + (15 + 2 * w) + 1) j = _
    rw [show b + 2 + (15 + 2 * w) + 1 = b + (17 + 2 * w + 1) by omega, hz (17 + 2 * w + 1) (by omega) (by rcases (by omega : w = 0 ∨ w = 1 ∨ w = 2) with rfl | rfl | rfl <;> decide)]
  · exact absurd hi (by rw [show nO (fun _ => ic 0) = 0 from nO_of (n := 0) rfl (by decide)]; exact Nat.not_lt_zero i)
theorem mz_RW : RW 0 (fun _ => ic 0) := by
  have z0 : ∀ B, isN (ic 0) B := fun B => ⟨0, Nat.zero_le _, rfl⟩
  refine ⟨0, 0, 0, 0, ⟨by decide, by decide, by decide, by decide, rfl, rfl, z0 _, rfl, rfl⟩, fun _ _ => z0 _, fun _ _ => z0 _, fun w _ => ⟨z0 _, z0 _, z0 _, fun _ => 0, fun _ _ => rfl, by decide⟩, ⟨fun _ => 0, fun _ => 0, fun _ _ => (show ic 0 = ic (10 * 0) - ic (2 * 0) by decide), rfl, rfl⟩, fun i hi => absurd hi (Nat.not_lt_zero i), fun i j _ hj => absurd hj (Nat.not_lt_zero j), fun w _ => ?_⟩
  exact Nat.zero_le _
theorem mz_JV (hb : isS b) : JV (mz n0 vj) b := by
  have hlt : 0 < b ∧ b + 23 ≤ 256 := by
    rcases hb with rfl | rfl | ⟨r, hr, rfl⟩ <;> omega
  have hp : ∀ i, rp (mz n0 vj) (b + 1) i = b + 1 + (4 + i) := fun i => by
    show mzP n0 vj (b + 1) i = _
    unfold mzP
    rw [if_neg (by omega), if_neg (by omega), if_neg (by omega)]
  refine ⟨fun i hi => ?_, fun i hi j hj h => ?_⟩
  · rw [hp]; omega
  · rw [hp, hp] at h; omega
theorem mz_Inv : Inv n0 (n0 + 305) z 0 (hset G (n0 + 291) byZ) (mz n0 vj) (n0 + 305) z := by
  have r293 : ri (mz n0 vj) 293 = fun _ => ic 0 := mzI_0 (k := 293) (by decide) (by decide) (by decide) (by decide)
  refine ⟨⟨0, 0, 0, 0, Nat.le_refl _, ⟨mz_JV (Or.inl rfl), mz_JV (Or.inr (Or.inl rfl)), fun q hq => mz_JV (Or.inr (Or.inr ⟨q, hq, rfl⟩)), ⟨fun i hi => ?_, fun i hi j hj h => ?_⟩⟩, ⟨fun i hi => ?_, fun _ => 0, ?_⟩, ⟨rfl, Or.inl rfl⟩, ⟨rfl, Or.inl rfl⟩, ⟨?_, ?_⟩, Or.inl ⟨rfl, rfl⟩, ⟨by decide, by decide, ?_, ?_, ?_, fun i hi => absurd hi (Nat.not_lt_zero i)⟩, ⟨by decide, ?_, ?_, fun q hq => absurd hq (Nat.not_lt_zero q)⟩⟩, 0, 0, fun _ => 0, ⟨⟨fun _ => 0, ?_, ?_, ?_, fun _ => (show 0 < 128 by decide), fun i hi => rfl, ?_, ?_, by decide, by decide, Nat.le_refl _⟩, ?_, by decide, ?_, fun i hi => absurd hi (Nat.not_lt_zero i)⟩, by omega, by omega⟩
  · show 263 ≤ 263 + i ∧ 263 + i < 269
    omega
  · have h : 263 + i = 263 + j := h
    omega
  · show mzI 258 i = _
    rw [mzI_0 (by decide) (by decide) (by decide) (by decide)]
  · show mzI 297 = _
    rw [mzI_0 (by decide) (by decide) (by decide) (by decide)]
  · rw [r293]; exact mz_RW
  · rw [r293]; exact mz_CL (Or.inl rfl)
  · rfl
  · rfl
  · rfl
  · rfl
  · rfl
  · exact ⟨Nat.le_add_right _ _, by show kd (n0 + 291 - n0) = 99; rw [Nat.add_sub_cancel_left]; rfl⟩
  · show n0 + 291 < n0 + 305
    omega
  · show hset G (n0 + 291) byZ (n0 + 291) = _
    exact if_pos rfl
  · rfl
  · rfl
  · rfl
  · show mzI 299 = _
    rw [mzI_0 (by decide) (by decide) (by decide) (by decide)]
/-- the law, from its begin to its end -/
theorem law_all (h5 : S0 5 = .ref vj) (hS : Sta n0 S0 G) (hs : Scr n0 s len sc G) (hl : Scl n0 s len G) (hn : len ≤ 3584) : ∃ H N1 z1, (Rx (n0, S0) 41 290 0 [some (.ref s), none, none, none, none, none, none, none, none, none] [] (G, n0, z) = some (.inl (some (.int (ic 1))), (H, N1, z1))) ∧ n0 ≤ N1 ∧ N1 ≤ n0 + 305 + 512 + 3 ∧ z1 ≤ z + 3968 + 6 * 512 + zcap 3 := by
  have h1 := law_init (G := G) (n0 := n0) (z := z) (s := s) (g := wF n0 vj) h5 hS.1 wF_W wF_M
  rw [bk_hp] at h1
  have hG : ∀ x, x < n0 → hset G (n0 + 291) byZ x = G x := fun x hx => if_neg (by omega)
  obtain ⟨G1, m1, N1, z1, e1, e2⟩ := law_loop (n0 := n0) (S0 := S0) (N0 := n0 + 305) (z0 := z + 3968) (s := s) (len := len) (sc := sc) hn (len / 7) 0 (by omega) (l6 := none) (l7 := none) (l8 := none) (l9 := none) (mz_Inv (vj := vj) (G := G)) (Sta_congr hG hS) (fun G' m' h => hs G' m' (fun x hx => (h x hx).trans (hG x hx))) (fun G' m' h => hl G' m' (fun x hx => (h x hx).trans (hG x hx)))
  obtain ⟨-, k, c, f, ⟨⟨g, a1, a2, a3, a4, a5, a6, a7, a8, a9, a10⟩, -⟩, b1, b2⟩ := e2
  refine ⟨hp n0 G1 m1, N1, z1, h1.trans e1, by omega, by omega, ?_⟩
  have hz : zcap k ≤ zcap 3 := by
    rcases (by omega : k = 0 ∨ k = 1 ∨ k = 2 ∨ k = 3) with rfl | rfl | rfl | rfl <;> decide
  omega
end K7
