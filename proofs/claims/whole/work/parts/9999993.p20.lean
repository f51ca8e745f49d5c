/-! a command of a program: class against reference; written by wip/whole/gen_p20.py, expanded by px.py -/
theorem AL_d {w c kn ch : Nat} {a b : Nat → Int32} {cs : List Nat} (h : ch = 35 ∨ ch = 37) (H : AL w c a b (ch :: cs) kn) : a kn = b (6 * c + slF w kn) ∧ AL w c a b cs (kn + 1) := by
  have hAL : AL w c a b (ch :: cs) kn = if isA ch then ((if ch = 63 then a kn = kI (b (6 * c + slF w kn)) ∧ (¬ b (6 * c + slF w kn) < ic 97 ∧ b (6 * c + slF w kn) < ic 101) else a kn = b (6 * c + slF w kn) ∧ isN (a kn) 999) ∧ AL w c a b cs (kn + 1)) else AL w c a b cs kn := rfl
  rw [hAL, if_pos (by omega), if_neg (by omega)] at H
  exact ⟨H.1.1, H.2⟩
theorem AL_k {w c kn : Nat} {a b : Nat → Int32} {cs : List Nat} (H : AL w c a b (63 :: cs) kn) : a kn = kI (b (6 * c + slF w kn)) ∧ AL w c a b cs (kn + 1) := by
  have hAL : AL w c a b (63 :: cs) kn = if isA 63 then ((if (63 : Nat) = 63 then a kn = kI (b (6 * c + slF w kn)) ∧ (¬ b (6 * c + slF w kn) < ic 97 ∧ b (6 * c + slF w kn) < ic 101) else a kn = b (6 * c + slF w kn) ∧ isN (a kn) 999) ∧ AL w c a b cs (kn + 1)) else AL w c a b cs kn := rfl
  rw [hAL, if_pos (by omega), if_pos rfl] at H
  exact ⟨H.1.1, H.2⟩
theorem AL_l {w c kn ch : Nat} {a b : Nat → Int32} {cs : List Nat} (h : ch = 32 ∨ ch = 44 ∨ ch = 62 ∨ ch = 64) (H : AL w c a b (ch :: cs) kn) : AL w c a b cs kn := by
  have hAL : AL w c a b (ch :: cs) kn = if isA ch then ((if ch = 63 then a kn = kI (b (6 * c + slF w kn)) ∧ (¬ b (6 * c + slF w kn) < ic 97 ∧ b (6 * c + slF w kn) < ic 101) else a kn = b (6 * c + slF w kn) ∧ isN (a kn) 999) ∧ AL w c a b cs (kn + 1)) else AL w c a b cs kn := rfl
  rw [hAL, if_neg (by omega)] at H
  exact H
theorem neg_lt {e : Nat} (h1 : 1 ≤ e) (h5 : e ≤ 5) : (-ic e : Int32) < ic 0 := by
  rw [show (ic 0 : Int32) = -ic 0 from by decide, ngl (by omega) (by omega)]
  omega
theorem nn_lt {v : Int32} {B : Nat} (h : isN v B) (hB : B < 2147483648) : ¬ v < ic 0 := by
  obtain ⟨x, h1, rfl⟩ := h
  rw [ic_lt (by omega) (by omega)]
  omega
def stepO (n0 : Nat) (S0 : Nat → Value) (G : sH) (mC : mm) (i W : Nat) (r : Nat → Int32) (T : Nat) (b : Nat → Int32) : Prop := ∃ mC2 ret why r2, (∀ d N z, Mt (n0, S0) (d + 5) 122 [.ref n0, .ref (n0 + (272 + 2 * i))] (hp n0 G mC, N, z) = oI n0 G mC2 N z ret) ∧ ((0 < why ∧ ret < ic 0 ∧ mC2 = mC) ∨ (why = 0 ∧ ¬ ret < ic 0 ∧ CL mC2 1 r2 ∧ JV mC2 1 ∧ eqS 1 24 mC mC2 ∧ RW (T + 1) r2)) ∧ ∀ mR, ri mR 293 = r → ri mR 301 i = ic W → ri mR 302 = b → (0 < why → ∀ d N z, Mt (n0, S0) (d + 5) 240 [.ref (n0 + 292), .int (ic i)] (hp n0 G mR, N, z) = oI n0 G mR N z (ic 1)) ∧ (why = 0 → ∀ d N z, Mt (n0, S0) (d + 5) 240 [.ref (n0 + 292), .int (ic i)] (hp n0 G mR, N, z) = oI n0 G (wa mR 293 r2) N z (ic 0))
section P20
variable {n0 T i w0 : Nat} {S0 : Nat → Value} {G : sH} {mC : mm} {r b : Nat → Int32} {vv : Nat → Nat}
theorem s_0 (hC : CL mC 1 r) (hW : RW T r) (hT : T ≤ 1000) (hJ : JV mC 1) (hw : isSw n0 G S0 vv w0) (hi : i < 9) (hv : rp mC (272 + 2 * i) 0 = vv 0) (hal : AL 0 i (ri mC (272 + 2 * i + 1)) b (tlL 0) 0) : stepO n0 S0 G mC i 0 r T b := by
  rw [show tlL 0 = [32, 35, 44, 35, 32, 63, 37, 32, 37, 64, 35] from by decide] at hal
  have hal := AL_l (by decide) hal
  obtain ⟨e0, hal⟩ := AL_d (by decide) hal
  have hal := AL_l (by decide) hal
  obtain ⟨e1, hal⟩ := AL_d (by decide) hal
  have hal := AL_l (by decide) hal
  obtain ⟨e2, hal⟩ := AL_k hal
  obtain ⟨e3, hal⟩ := AL_d (by decide) hal
  have hal := AL_l (by decide) hal
  obtain ⟨e4, hal⟩ := AL_d (by decide) hal
  have hal := AL_l (by decide) hal
  obtain ⟨e5, hal⟩ := AL_d (by decide) hal
  rw [slF_n (by decide)] at e0
  rw [slF_n (by decide)] at e1
  rw [slF_n (by decide)] at e2
  rw [slF_n (by decide)] at e3
  rw [slF_n (by decide)] at e4
  rw [slF_n (by decide)] at e5
  obtain ⟨hk1, hk2⟩ := kd_cm hi
  obtain ⟨m2, ret, hop, hor⟩ := k_add (n0 := n0) (S0 := S0) (G := G) hC hW hJ (x := b (6 * i)) (y := b (6 * i + 1)) (k := b (6 * i + 2)) (t := b (6 * i + 3)) (w := b (6 * i + 4)) (u := b (6 * i + 5))
  have hex : ∀ d N z, Mt (n0, S0) (d + 5) 122 [.ref n0, .ref (n0 + (272 + 2 * i))] (hp n0 G mC, N, z) = oI n0 G m2 N z ret := fun d N z => c_exec0 hw hk1 hk2 hv (fun d N z => by
    rw [e0, e1, e2, e3, e4, e5]
    exact hop d N z)
  refine ⟨m2, ret, wAdd r (b (6 * i)) (b (6 * i + 1)) (b (6 * i + 2)) (b (6 * i + 3)) (b (6 * i + 4)) (b (6 * i + 5)), nAdd r (b (6 * i)) (b (6 * i + 1)) (b (6 * i + 2)) (b (6 * i + 3)) (b (6 * i + 4)) (b (6 * i + 5)), hex, ?_, ?_⟩
  · rcases hor with ⟨h1, h2, h3⟩ | ⟨h1, h2, g1, g2, g3⟩
    · have hb : 1 ≤ eAdd (wAdd r (b (6 * i)) (b (6 * i + 1)) (b (6 * i + 2)) (b (6 * i + 3)) (b (6 * i + 4)) (b (6 * i + 5))) ∧ eAdd (wAdd r (b (6 * i)) (b (6 * i + 1)) (b (6 * i + 2)) (b (6 * i + 3)) (b (6 * i + 4)) (b (6 * i + 5))) ≤ 5 := by
        have h4 : wAdd r (b (6 * i)) (b (6 * i + 1)) (b (6 * i + 2)) (b (6 * i + 3)) (b (6 * i + 4)) (b (6 * i + 5)) ≤ 2 := by
          unfold wAdd
          repeat' split
          all_goals omega
        unfold eAdd
        refine ⟨?_, ?_⟩
        · first | omega | (repeat' split) <;> omega
        · first | omega | (repeat' split) <;> omega
      exact Or.inl ⟨h1, by rw [h2]; exact neg_lt hb.1 hb.2, h3⟩
    · have hg := g_add hW hT h1
      exact Or.inr ⟨h1, by rw [h2]; exact nn_lt hg.2 (by omega), g1, g2, g3, hg.1⟩
  · intro mR h293 h301 h302
    obtain ⟨q1, q2⟩ := q_add (n0 := n0) (S0 := S0) (G := G) (m := mR) h293 hW (x := b (6 * i)) (y := b (6 * i + 1)) (k := b (6 * i + 2)) (t := b (6 * i + 3)) (w := b (6 * i + 4)) (u := b (6 * i + 5))
    refine ⟨fun hwy d N z => ?_, fun hwy d N z => ?_⟩
    · have h4 : wAdd r (b (6 * i)) (b (6 * i + 1)) (b (6 * i + 2)) (b (6 * i + 3)) (b (6 * i + 4)) (b (6 * i + 5)) ≤ 4 := by
        unfold wAdd
        repeat' split
        all_goals omega
      exact x_no0 (by omega) h301 (a := b (6 * i)) (b := b (6 * i + 1)) (c := b (6 * i + 2)) (d1 := b (6 * i + 3)) (e := b (6 * i + 4)) (f := b (6 * i + 5)) (by rw [h302]) (by rw [h302]) (by rw [h302]) (by rw [h302]) (by rw [h302]) (by rw [h302]) (r := ic (wAdd r (b (6 * i)) (b (6 * i + 1)) (b (6 * i + 2)) (b (6 * i + 3)) (b (6 * i + 4)) (b (6 * i + 5)))) (by rw [ic_lt (by omega) (by omega)]; exact hwy) (q1 (d + 1) N z)
    · rw [hwy] at q1
      exact x_ok0 (by omega) h301 (a := b (6 * i)) (b := b (6 * i + 1)) (c := b (6 * i + 2)) (d1 := b (6 * i + 3)) (e := b (6 * i + 4)) (f := b (6 * i + 5)) (by rw [h302]) (by rw [h302]) (by rw [h302]) (by rw [h302]) (by rw [h302]) (by rw [h302]) (q1 (d + 1) N z) (q2 hwy (d + 3) N z)
theorem s_1 (hC : CL mC 1 r) (hW : RW T r) (hT : T ≤ 1000) (hJ : JV mC 1) (hw : isSw n0 G S0 vv w0) (hi : i < 9) (hv : rp mC (272 + 2 * i) 0 = vv 1) (hal : AL 1 i (ri mC (272 + 2 * i + 1)) b (tlL 1) 0) : stepO n0 S0 G mC i 1 r T b := by
  rw [show tlL 1 = [32, 35] from by decide] at hal
  have hal := AL_l (by decide) hal
  obtain ⟨e0, hal⟩ := AL_d (by decide) hal
  rw [slF_n (by decide)] at e0
  obtain ⟨hk1, hk2⟩ := kd_cm hi
  obtain ⟨m2, ret, hop, hor⟩ := k_cancel (n0 := n0) (S0 := S0) (G := G) hC hW hJ (job := b (6 * i))
  have hex : ∀ d N z, Mt (n0, S0) (d + 5) 122 [.ref n0, .ref (n0 + (272 + 2 * i))] (hp n0 G mC, N, z) = oI n0 G m2 N z ret := fun d N z => c_exec1 hw hk1 hk2 hv (fun d N z => by
    rw [e0]
    exact hop d N z)
  refine ⟨m2, ret, wCan r (b (6 * i)), nCan r (b (6 * i)), hex, ?_, ?_⟩
  · rcases hor with ⟨h1, h2, h3⟩ | ⟨h1, h2, g1, g2, g3⟩
    · have hb : 1 ≤ eCan (wCan r (b (6 * i))) ∧ eCan (wCan r (b (6 * i))) ≤ 5 := by
        have h4 : wCan r (b (6 * i)) ≤ 4 := by
          unfold wCan
          repeat' split
          all_goals omega
        unfold eCan
        refine ⟨?_, ?_⟩
        · first | omega | (repeat' split) <;> omega
        · first | omega | (repeat' split) <;> omega
      exact Or.inl ⟨h1, by rw [h2]; exact neg_lt hb.1 hb.2, h3⟩
    · have hg := g_cancel hW h1
      exact Or.inr ⟨h1, by rw [h2]; exact nn_lt hg.2 (by omega), g1, g2, g3, hg.1⟩
  · intro mR h293 h301 h302
    refine ⟨fun hwy d N z => ?_, fun hwy d N z => ?_⟩
    · have hn : fO r (b (6 * i)) = none := by
        unfold wCan at hwy
        cases hz : fO r (b (6 * i)) with
        | none => rfl
        | some a => rw [hz] at hwy; exact absurd hwy (Nat.lt_irrefl 0)
      exact x_no1 (by omega) h301 (a := b (6 * i)) (b := b (6 * i + 1)) (c := b (6 * i + 2)) (by rw [h302]) (by rw [h302]) (by rw [h302]) (q_findNo h293 hW hn (d + 2) N z)
    · obtain ⟨a, ha1, ha2⟩ := fO_some hwy
      have h12 := hW.n12
      obtain ⟨f1, f2⟩ := q_cancel (n0 := n0) (S0 := S0) (G := G) (m := mR) h293 hW ha1
      exact x_ok1 (by omega) h301 (a := b (6 * i)) (b := b (6 * i + 1)) (c := b (6 * i + 2)) (by rw [h302]) (by rw [h302]) (by rw [h302]) (i := a) (by omega) (f1 (d + 2) N z) (f2 (d + 3) N z)
theorem s_2 (hC : CL mC 1 r) (hW : RW T r) (hT : T ≤ 1000) (hJ : JV mC 1) (hw : isSw n0 G S0 vv w0) (hi : i < 9) (hv : rp mC (272 + 2 * i) 0 = vv 2) (hal : AL 2 i (ri mC (272 + 2 * i + 1)) b (tlL 2) 0) : stepO n0 S0 G mC i 2 r T b := by
  rw [show tlL 2 = [32, 35, 62, 37] from by decide] at hal
  have hal := AL_l (by decide) hal
  obtain ⟨e0, hal⟩ := AL_d (by decide) hal
  have hal := AL_l (by decide) hal
  obtain ⟨e1, hal⟩ := AL_d (by decide) hal
  rw [slF_n (by decide)] at e0
  rw [slF_n (by decide)] at e1
  obtain ⟨hk1, hk2⟩ := kd_cm hi
  obtain ⟨m2, ret, hop, hor⟩ := k_assign (n0 := n0) (S0 := S0) (G := G) hC hW hJ (job := b (6 * i)) (w := b (6 * i + 1))
  have hex : ∀ d N z, Mt (n0, S0) (d + 5) 122 [.ref n0, .ref (n0 + (272 + 2 * i))] (hp n0 G mC, N, z) = oI n0 G m2 N z ret := fun d N z => c_exec2 hw hk1 hk2 hv (fun d N z => by
    rw [e0, e1]
    exact hop d N z)
  refine ⟨m2, ret, wAsg r (b (6 * i)) (b (6 * i + 1)), nAsg r (b (6 * i)) (b (6 * i + 1)), hex, ?_, ?_⟩
  · rcases hor with ⟨h1, h2, h3⟩ | ⟨h1, h2, g1, g2, g3⟩
    · have hb : 1 ≤ eAsg (wAsg r (b (6 * i)) (b (6 * i + 1))) ∧ eAsg (wAsg r (b (6 * i)) (b (6 * i + 1))) ≤ 5 := by
        have h4 : wAsg r (b (6 * i)) (b (6 * i + 1)) ≤ 4 := by
          unfold wAsg
          repeat' split
          all_goals omega
        unfold eAsg
        refine ⟨?_, ?_⟩
        · first | omega | (repeat' split) <;> omega
        · first | omega | (repeat' split) <;> omega
      exact Or.inl ⟨h1, by rw [h2]; exact neg_lt hb.1 hb.2, h3⟩
    · have hg := g_assign hW h1
      exact Or.inr ⟨h1, by rw [h2]; exact nn_lt hg.2 (by omega), g1, g2, g3, hg.1⟩
  · intro mR h293 h301 h302
    obtain ⟨q1, q2⟩ := q_assign (n0 := n0) (S0 := S0) (G := G) (m := mR) h293 hW (job := b (6 * i)) (w := b (6 * i + 1))
    refine ⟨fun hwy d N z => ?_, fun hwy d N z => ?_⟩
    · have h4 : wAsg r (b (6 * i)) (b (6 * i + 1)) ≤ 4 := by
        unfold wAsg
        repeat' split
        all_goals omega
      exact x_no2 (by omega) h301 (a := b (6 * i)) (b := b (6 * i + 1)) (c := b (6 * i + 2)) (by rw [h302]) (by rw [h302]) (by rw [h302]) (r := ic (wAsg r (b (6 * i)) (b (6 * i + 1)))) (by rw [ic_lt (by omega) (by omega)]; exact hwy) (q1 (d + 1) N z)
    · rw [hwy] at q1
      exact x_ok2 (by omega) h301 (a := b (6 * i)) (b := b (6 * i + 1)) (c := b (6 * i + 2)) (by rw [h302]) (by rw [h302]) (by rw [h302]) (q1 (d + 1) N z) (q2 hwy (d + 1) N z)
theorem s_3 (hC : CL mC 1 r) (hW : RW T r) (hT : T ≤ 1000) (hJ : JV mC 1) (hw : isSw n0 G S0 vv w0) (hi : i < 9) (hv : rp mC (272 + 2 * i) 0 = vv 3) (hal : AL 3 i (ri mC (272 + 2 * i + 1)) b (tlL 3) 0) : stepO n0 S0 G mC i 3 r T b := by
  rw [show tlL 3 = [32, 35] from by decide] at hal
  have hal := AL_l (by decide) hal
  obtain ⟨e0, hal⟩ := AL_d (by decide) hal
  rw [slF_n (by decide)] at e0
  obtain ⟨hk1, hk2⟩ := kd_cm hi
  obtain ⟨m2, ret, hop, hor⟩ := k_unassign (n0 := n0) (S0 := S0) (G := G) hC hW hJ (job := b (6 * i))
  have hex : ∀ d N z, Mt (n0, S0) (d + 5) 122 [.ref n0, .ref (n0 + (272 + 2 * i))] (hp n0 G mC, N, z) = oI n0 G m2 N z ret := fun d N z => c_exec3 hw hk1 hk2 hv (fun d N z => by
    rw [e0]
    exact hop d N z)
  refine ⟨m2, ret, wUna r (b (6 * i)), nUna r (b (6 * i)), hex, ?_, ?_⟩
  · rcases hor with ⟨h1, h2, h3⟩ | ⟨h1, h2, g1, g2, g3⟩
    · have hb : 1 ≤ eUna (wUna r (b (6 * i))) ∧ eUna (wUna r (b (6 * i))) ≤ 5 := by
        have h4 : wUna r (b (6 * i)) ≤ 4 := by
          unfold wUna
          repeat' split
          all_goals omega
        unfold eUna
        refine ⟨?_, ?_⟩
        · first | omega | (repeat' split) <;> omega
        · first | omega | (repeat' split) <;> omega
      exact Or.inl ⟨h1, by rw [h2]; exact neg_lt hb.1 hb.2, h3⟩
    · have hg := g_unassign hW h1
      exact Or.inr ⟨h1, by rw [h2]; exact nn_lt hg.2 (by omega), g1, g2, g3, hg.1⟩
  · intro mR h293 h301 h302
    obtain ⟨q1, q2⟩ := q_unassign (n0 := n0) (S0 := S0) (G := G) (m := mR) h293 hW (job := b (6 * i))
    refine ⟨fun hwy d N z => ?_, fun hwy d N z => ?_⟩
    · have h4 : wUna r (b (6 * i)) ≤ 4 := by
        unfold wUna
        repeat' split
        all_goals omega
      exact x_no3 (by omega) h301 (a := b (6 * i)) (b := b (6 * i + 1)) (c := b (6 * i + 2)) (by rw [h302]) (by rw [h302]) (by rw [h302]) (r := ic (wUna r (b (6 * i)))) (by rw [ic_lt (by omega) (by omega)]; exact hwy) (q1 (d + 1) N z)
    · rw [hwy] at q1
      exact x_ok3 (by omega) h301 (a := b (6 * i)) (b := b (6 * i + 1)) (c := b (6 * i + 2)) (by rw [h302]) (by rw [h302]) (by rw [h302]) (q1 (d + 1) N z) (q2 hwy (d + 1) N z)
theorem s_4 (hC : CL mC 1 r) (hW : RW T r) (hT : T ≤ 1000) (hJ : JV mC 1) (hw : isSw n0 G S0 vv w0) (hi : i < 9) (hv : rp mC (272 + 2 * i) 0 = vv 4) (hal : AL 4 i (ri mC (272 + 2 * i + 1)) b (tlL 4) 0) : stepO n0 S0 G mC i 4 r T b := by
  rw [show tlL 4 = [32, 63, 35] from by decide] at hal
  have hal := AL_l (by decide) hal
  obtain ⟨e0, hal⟩ := AL_k hal
  obtain ⟨e1, hal⟩ := AL_d (by decide) hal
  rw [slF_n (by decide)] at e0
  rw [slF_n (by decide)] at e1
  obtain ⟨hk1, hk2⟩ := kd_cm hi
  obtain ⟨m2, ret, hop, hor⟩ := k_stock (n0 := n0) (S0 := S0) (G := G) hC hW hJ (k := b (6 * i)) (c := b (6 * i + 1))
  have hex : ∀ d N z, Mt (n0, S0) (d + 5) 122 [.ref n0, .ref (n0 + (272 + 2 * i))] (hp n0 G mC, N, z) = oI n0 G m2 N z ret := fun d N z => c_exec4 hw hk1 hk2 hv (fun d N z => by
    rw [e0, e1]
    exact hop d N z)
  refine ⟨m2, ret, wStk r (b (6 * i)) (b (6 * i + 1)), nStk r (b (6 * i)) (b (6 * i + 1)), hex, ?_, ?_⟩
  · rcases hor with ⟨h1, h2, h3⟩ | ⟨h1, h2, g1, g2, g3⟩
    · have hb : 1 ≤ eAdd (wStk r (b (6 * i)) (b (6 * i + 1))) ∧ eAdd (wStk r (b (6 * i)) (b (6 * i + 1))) ≤ 5 := by
        have h4 : wStk r (b (6 * i)) (b (6 * i + 1)) ≤ 2 := by
          unfold wStk
          repeat' split
          all_goals omega
        unfold eAdd
        refine ⟨?_, ?_⟩
        · first | omega | (repeat' split) <;> omega
        · first | omega | (repeat' split) <;> omega
      exact Or.inl ⟨h1, by rw [h2]; exact neg_lt hb.1 hb.2, h3⟩
    · have hg := g_stock hW h1
      exact Or.inr ⟨h1, by rw [h2]; exact nn_lt hg.2 (by omega), g1, g2, g3, hg.1⟩
  · intro mR h293 h301 h302
    obtain ⟨q1, q2⟩ := q_stock (n0 := n0) (S0 := S0) (G := G) (m := mR) h293 (k := b (6 * i)) (c := b (6 * i + 1))
    refine ⟨fun hwy d N z => ?_, fun hwy d N z => ?_⟩
    · have h4 : wStk r (b (6 * i)) (b (6 * i + 1)) ≤ 4 := by
        unfold wStk
        repeat' split
        all_goals omega
      exact x_no4 (by omega) h301 (a := b (6 * i)) (b := b (6 * i + 1)) (c := b (6 * i + 2)) (by rw [h302]) (by rw [h302]) (by rw [h302]) (r := ic (wStk r (b (6 * i)) (b (6 * i + 1)))) (by rw [ic_lt (by omega) (by omega)]; exact hwy) (q1 (d + 1) N z)
    · rw [hwy] at q1
      exact x_ok4 (by omega) h301 (a := b (6 * i)) (b := b (6 * i + 1)) (c := b (6 * i + 2)) (by rw [h302]) (by rw [h302]) (by rw [h302]) (q1 (d + 1) N z) (q2 hwy (d + 1) N z)
theorem s_5 (hC : CL mC 1 r) (hW : RW T r) (hT : T ≤ 1000) (hJ : JV mC 1) (hw : isSw n0 G S0 vv w0) (hi : i < 9) (hv : rp mC (272 + 2 * i) 0 = vv 5) (hal : AL 5 i (ri mC (272 + 2 * i + 1)) b (tlL 5) 0) : stepO n0 S0 G mC i 5 r T b := by
  rw [show tlL 5 = [32, 37, 63, 35] from by decide] at hal
  have hal := AL_l (by decide) hal
  obtain ⟨e0, hal⟩ := AL_d (by decide) hal
  obtain ⟨e1, hal⟩ := AL_k hal
  obtain ⟨e2, hal⟩ := AL_d (by decide) hal
  rw [slF_5.1] at e0
  rw [slF_5.2.1] at e1
  rw [slF_5.2.2] at e2
  obtain ⟨hk1, hk2⟩ := kd_cm hi
  obtain ⟨m2, ret, hop, hor⟩ := k_load (n0 := n0) (S0 := S0) (G := G) hC hW hJ (w := b (6 * i)) (k := b (6 * i + 2)) (c := b (6 * i + 1))
  have hex : ∀ d N z, Mt (n0, S0) (d + 5) 122 [.ref n0, .ref (n0 + (272 + 2 * i))] (hp n0 G mC, N, z) = oI n0 G m2 N z ret := fun d N z => c_exec5 hw hk1 hk2 hv (fun d N z => by
    rw [e0, e1, e2]
    exact hop d N z)
  refine ⟨m2, ret, wLod r (b (6 * i)) (b (6 * i + 2)) (b (6 * i + 1)), nLod r (b (6 * i)) (b (6 * i + 2)) (b (6 * i + 1)), hex, ?_, ?_⟩
  · rcases hor with ⟨h1, h2, h3⟩ | ⟨h1, h2, g1, g2, g3⟩
    · have hb : 1 ≤ eLod (wLod r (b (6 * i)) (b (6 * i + 2)) (b (6 * i + 1))) ∧ eLod (wLod r (b (6 * i)) (b (6 * i + 2)) (b (6 * i + 1))) ≤ 5 := by
        have h4 : wLod r (b (6 * i)) (b (6 * i + 2)) (b (6 * i + 1)) ≤ 4 := by
          unfold wLod
          repeat' split
          all_goals omega
        unfold eLod
        refine ⟨?_, ?_⟩
        · first | omega | (repeat' split) <;> omega
        · first | omega | (repeat' split) <;> omega
      exact Or.inl ⟨h1, by rw [h2]; exact neg_lt hb.1 hb.2, h3⟩
    · have hg := g_load hW h1
      exact Or.inr ⟨h1, by rw [h2]; exact nn_lt hg.2 (by omega), g1, g2, g3, hg.1⟩
  · intro mR h293 h301 h302
    obtain ⟨q1, q2⟩ := q_load (n0 := n0) (S0 := S0) (G := G) (m := mR) h293 (w := b (6 * i)) (k := b (6 * i + 2)) (c := b (6 * i + 1))
    refine ⟨fun hwy d N z => ?_, fun hwy d N z => ?_⟩
    · have h4 : wLod r (b (6 * i)) (b (6 * i + 2)) (b (6 * i + 1)) ≤ 4 := by
        unfold wLod
        repeat' split
        all_goals omega
      exact x_no5 (by omega) h301 (a := b (6 * i)) (b := b (6 * i + 1)) (c := b (6 * i + 2)) (by rw [h302]) (by rw [h302]) (by rw [h302]) (r := ic (wLod r (b (6 * i)) (b (6 * i + 2)) (b (6 * i + 1)))) (by rw [ic_lt (by omega) (by omega)]; exact hwy) (q1 (d + 1) N z)
    · rw [hwy] at q1
      exact x_ok5 (by omega) h301 (a := b (6 * i)) (b := b (6 * i + 1)) (c := b (6 * i + 2)) (by rw [h302]) (by rw [h302]) (by rw [h302]) (q1 (d + 1) N z) (q2 hwy (d + 1) N z)
theorem s_6 (hC : CL mC 1 r) (hW : RW T r) (hT : T ≤ 1000) (hJ : JV mC 1) (hw : isSw n0 G S0 vv w0) (hi : i < 9) (hv : rp mC (272 + 2 * i) 0 = vv 6) (hal : AL 6 i (ri mC (272 + 2 * i + 1)) b (tlL 6) 0) : stepO n0 S0 G mC i 6 r T b := by
  rw [show tlL 6 = [32, 37, 37] from by decide] at hal
  have hal := AL_l (by decide) hal
  obtain ⟨e0, hal⟩ := AL_d (by decide) hal
  obtain ⟨e1, hal⟩ := AL_d (by decide) hal
  rw [slF_n (by decide)] at e0
  rw [slF_n (by decide)] at e1
  obtain ⟨hk1, hk2⟩ := kd_cm hi
  obtain ⟨m2, ret, hop, hor⟩ := k_borrow (n0 := n0) (S0 := S0) (G := G) hC hW hJ (w := b (6 * i)) (t := b (6 * i + 1))
  have hex : ∀ d N z, Mt (n0, S0) (d + 5) 122 [.ref n0, .ref (n0 + (272 + 2 * i))] (hp n0 G mC, N, z) = oI n0 G m2 N z ret := fun d N z => c_exec6 hw hk1 hk2 hv (fun d N z => by
    rw [e0, e1]
    exact hop d N z)
  refine ⟨m2, ret, wHnd r (b (6 * i)) (b (6 * i + 1)) (ic 0), nHnd r (b (6 * i + 1)) (b (6 * i) + ic 1), hex, ?_, ?_⟩
  · rcases hor with ⟨h1, h2, h3⟩ | ⟨h1, h2, g1, g2, g3⟩
    · have hb : 1 ≤ eHnd (wHnd r (b (6 * i)) (b (6 * i + 1)) (ic 0)) ∧ eHnd (wHnd r (b (6 * i)) (b (6 * i + 1)) (ic 0)) ≤ 5 := by
        have h4 : wHnd r (b (6 * i)) (b (6 * i + 1)) (ic 0) ≤ 4 := by
          unfold wHnd
          repeat' split
          all_goals omega
        unfold eHnd
        refine ⟨?_, ?_⟩
        · first | omega | (repeat' split) <;> omega
        · first | omega | (repeat' split) <;> omega
      exact Or.inl ⟨h1, by rw [h2]; exact neg_lt hb.1 hb.2, h3⟩
    · have hg3 : isN (b (6 * i) + ic 1) 3 := by
        have hw3 : (¬ b (6 * i) < ic 0 ∧ b (6 * i) < ic 3) := Classical.byContradiction (fun z => by
          unfold wHnd at h1
          rw [if_neg (fun y => z y.1)] at h1
          exact absurd h1 (Nat.succ_ne_zero _))
        obtain ⟨y, hy, ey⟩ := rng_of (by decide) hw3
        rw [ey]
        exact ⟨y + 1, by omega, ic_add _ _⟩
      have hg := g_hand hW h1 hg3
      exact Or.inr ⟨h1, by rw [h2]; exact nn_lt hg.2 (by omega), g1, g2, g3, hg.1⟩
  · intro mR h293 h301 h302
    obtain ⟨q1, q2⟩ := q_hand (n0 := n0) (S0 := S0) (G := G) (m := mR) h293 (w := b (6 * i)) (t := b (6 * i + 1)) (h := ic 0)
    refine ⟨fun hwy d N z => ?_, fun hwy d N z => ?_⟩
    · have h4 : wHnd r (b (6 * i)) (b (6 * i + 1)) (ic 0) ≤ 4 := by
        unfold wHnd
        repeat' split
        all_goals omega
      exact x_no6 (by omega) h301 (a := b (6 * i)) (b := b (6 * i + 1)) (c := b (6 * i + 2)) (by rw [h302]) (by rw [h302]) (by rw [h302]) (r := ic (wHnd r (b (6 * i)) (b (6 * i + 1)) (ic 0))) (by rw [ic_lt (by omega) (by omega)]; exact hwy) (q1 (d + 1) N z)
    · rw [hwy] at q1
      exact x_ok6 (by omega) h301 (a := b (6 * i)) (b := b (6 * i + 1)) (c := b (6 * i + 2)) (by rw [h302]) (by rw [h302]) (by rw [h302]) (q1 (d + 1) N z) (q2 hwy (b (6 * i) + ic 1) (d + 1) N z)
theorem s_7 (hC : CL mC 1 r) (hW : RW T r) (hT : T ≤ 1000) (hJ : JV mC 1) (hw : isSw n0 G S0 vv w0) (hi : i < 9) (hv : rp mC (272 + 2 * i) 0 = vv 7) (hal : AL 7 i (ri mC (272 + 2 * i + 1)) b (tlL 7) 0) : stepO n0 S0 G mC i 7 r T b := by
  rw [show tlL 7 = [32, 37, 37] from by decide] at hal
  have hal := AL_l (by decide) hal
  obtain ⟨e0, hal⟩ := AL_d (by decide) hal
  obtain ⟨e1, hal⟩ := AL_d (by decide) hal
  rw [slF_n (by decide)] at e0
  rw [slF_n (by decide)] at e1
  obtain ⟨hk1, hk2⟩ := kd_cm hi
  obtain ⟨m2, ret, hop, hor⟩ := k_giveBack (n0 := n0) (S0 := S0) (G := G) hC hW hJ (w := b (6 * i)) (t := b (6 * i + 1))
  have hex : ∀ d N z, Mt (n0, S0) (d + 5) 122 [.ref n0, .ref (n0 + (272 + 2 * i))] (hp n0 G mC, N, z) = oI n0 G m2 N z ret := fun d N z => c_exec7 hw hk1 hk2 hv (fun d N z => by
    rw [e0, e1]
    exact hop d N z)
  refine ⟨m2, ret, wHnd r (b (6 * i)) (b (6 * i + 1)) (b (6 * i) + ic 1), nHnd r (b (6 * i + 1)) (ic 0), hex, ?_, ?_⟩
  · rcases hor with ⟨h1, h2, h3⟩ | ⟨h1, h2, g1, g2, g3⟩
    · have hb : 1 ≤ eHnd (wHnd r (b (6 * i)) (b (6 * i + 1)) (b (6 * i) + ic 1)) ∧ eHnd (wHnd r (b (6 * i)) (b (6 * i + 1)) (b (6 * i) + ic 1)) ≤ 5 := by
        have h4 : wHnd r (b (6 * i)) (b (6 * i + 1)) (b (6 * i) + ic 1) ≤ 4 := by
          unfold wHnd
          repeat' split
          all_goals omega
        unfold eHnd
        refine ⟨?_, ?_⟩
        · first | omega | (repeat' split) <;> omega
        · first | omega | (repeat' split) <;> omega
      exact Or.inl ⟨h1, by rw [h2]; exact neg_lt hb.1 hb.2, h3⟩
    · have hg3 : isN (ic 0) 3 := ⟨0, by decide, rfl⟩
      have hg := g_hand hW h1 hg3
      exact Or.inr ⟨h1, by rw [h2]; exact nn_lt hg.2 (by omega), g1, g2, g3, hg.1⟩
  · intro mR h293 h301 h302
    obtain ⟨q1, q2⟩ := q_hand (n0 := n0) (S0 := S0) (G := G) (m := mR) h293 (w := b (6 * i)) (t := b (6 * i + 1)) (h := b (6 * i) + ic 1)
    refine ⟨fun hwy d N z => ?_, fun hwy d N z => ?_⟩
    · have h4 : wHnd r (b (6 * i)) (b (6 * i + 1)) (b (6 * i) + ic 1) ≤ 4 := by
        unfold wHnd
        repeat' split
        all_goals omega
      exact x_no7 (by omega) h301 (a := b (6 * i)) (b := b (6 * i + 1)) (c := b (6 * i + 2)) (by rw [h302]) (by rw [h302]) (by rw [h302]) (r := ic (wHnd r (b (6 * i)) (b (6 * i + 1)) (b (6 * i) + ic 1))) (by rw [ic_lt (by omega) (by omega)]; exact hwy) (q1 (d + 1) N z)
    · rw [hwy] at q1
      exact x_ok7 (by omega) h301 (a := b (6 * i)) (b := b (6 * i + 1)) (c := b (6 * i + 2)) (by rw [h302]) (by rw [h302]) (by rw [h302]) (q1 (d + 1) N z) (q2 hwy (ic 0) (d + 1) N z)
theorem s_8 (hC : CL mC 1 r) (hW : RW T r) (hT : T ≤ 1000) (hJ : JV mC 1) (hw : isSw n0 G S0 vv w0) (hi : i < 9) (hv : rp mC (272 + 2 * i) 0 = vv 8) (hal : AL 8 i (ri mC (272 + 2 * i + 1)) b (tlL 8) 0) : stepO n0 S0 G mC i 8 r T b := by
  rw [show tlL 8 = [32, 37, 32, 35] from by decide] at hal
  have hal := AL_l (by decide) hal
  obtain ⟨e0, hal⟩ := AL_d (by decide) hal
  have hal := AL_l (by decide) hal
  obtain ⟨e1, hal⟩ := AL_d (by decide) hal
  rw [slF_n (by decide)] at e0
  rw [slF_n (by decide)] at e1
  obtain ⟨hk1, hk2⟩ := kd_cm hi
  obtain ⟨m2, ret, hop, hor⟩ := k_repair (n0 := n0) (S0 := S0) (G := G) hC hW hT hJ (w := b (6 * i)) (job := b (6 * i + 1))
  have hex : ∀ d N z, Mt (n0, S0) (d + 5) 122 [.ref n0, .ref (n0 + (272 + 2 * i))] (hp n0 G mC, N, z) = oI n0 G m2 N z ret := fun d N z => c_exec8 hw hk1 hk2 hv (fun d N z => by
    rw [e0, e1]
    exact hop d N z)
  refine ⟨m2, ret, wRep r (b (6 * i)) (b (6 * i + 1)), nRep r (b (6 * i)) (b (6 * i + 1)), hex, ?_, ?_⟩
  · rcases hor with ⟨h1, h2, h3⟩ | ⟨h1, h2, g1, g2, g3⟩
    · have hb : 1 ≤ eRep (wRep r (b (6 * i)) (b (6 * i + 1))) ∧ eRep (wRep r (b (6 * i)) (b (6 * i + 1))) ≤ 5 := by
        have h4 : wRep r (b (6 * i)) (b (6 * i + 1)) ≤ 4 := by
          unfold wRep
          repeat' split
          all_goals omega
        unfold eRep
        refine ⟨?_, ?_⟩
        · first | omega | (repeat' split) <;> omega
        · first | omega | (repeat' split) <;> omega
      exact Or.inl ⟨h1, by rw [h2]; exact neg_lt hb.1 hb.2, h3⟩
    · have hg := g_repair hW hT h1
      exact Or.inr ⟨h1, by rw [h2]; exact nn_lt hg.2 (by omega), g1, g2, g3, hg.1⟩
  · intro mR h293 h301 h302
    obtain ⟨q1, q2⟩ := q_repair (n0 := n0) (S0 := S0) (G := G) (m := mR) h293 hW (w := b (6 * i)) (job := b (6 * i + 1))
    refine ⟨fun hwy d N z => ?_, fun hwy d N z => ?_⟩
    · have h4 : wRep r (b (6 * i)) (b (6 * i + 1)) ≤ 4 := by
        unfold wRep
        repeat' split
        all_goals omega
      exact x_no8 (by omega) h301 (a := b (6 * i)) (b := b (6 * i + 1)) (c := b (6 * i + 2)) (by rw [h302]) (by rw [h302]) (by rw [h302]) (r := ic (wRep r (b (6 * i)) (b (6 * i + 1)))) (by rw [ic_lt (by omega) (by omega)]; exact hwy) (q1 (d + 1) N z)
    · rw [hwy] at q1
      exact x_ok8 (by omega) h301 (a := b (6 * i)) (b := b (6 * i + 1)) (c := b (6 * i + 2)) (by rw [h302]) (by rw [h302]) (by rw [h302]) (q1 (d + 1) N z) (q2 hwy d N z)
theorem s_9 (hC : CL mC 1 r) (hW : RW T r) (hT : T ≤ 1000) (hJ : JV mC 1) (hw : isSw n0 G S0 vv w0) (hi : i < 9) (hv : rp mC (272 + 2 * i) 0 = vv 9) (hal : AL 9 i (ri mC (272 + 2 * i + 1)) b (tlL 9) 0) : stepO n0 S0 G mC i 9 r T b := by
  rw [show tlL 9 = [32, 37] from by decide] at hal
  have hal := AL_l (by decide) hal
  obtain ⟨e0, hal⟩ := AL_d (by decide) hal
  rw [slF_n (by decide)] at e0
  obtain ⟨hk1, hk2⟩ := kd_cm hi
  obtain ⟨m2, ret, hop, hor⟩ := k_goHome (n0 := n0) (S0 := S0) (G := G) hC hW hJ (w := b (6 * i))
  have hex : ∀ d N z, Mt (n0, S0) (d + 5) 122 [.ref n0, .ref (n0 + (272 + 2 * i))] (hp n0 G mC, N, z) = oI n0 G m2 N z ret := fun d N z => c_exec9 hw hk1 hk2 hv (fun d N z => by
    rw [e0]
    exact hop d N z)
  refine ⟨m2, ret, wHom (b (6 * i)), nHom r (b (6 * i)), hex, ?_, ?_⟩
  · rcases hor with ⟨h1, h2, h3⟩ | ⟨h1, h2, g1, g2, g3⟩
    · have hb : 1 ≤ eHom (wHom (b (6 * i))) ∧ eHom (wHom (b (6 * i))) ≤ 5 := by
        have h4 : wHom (b (6 * i)) ≤ 4 := by
          unfold wHom
          repeat' split
          all_goals omega
        unfold eHom
        refine ⟨?_, ?_⟩
        · first | omega | (repeat' split) <;> omega
        · first | omega | (repeat' split) <;> omega
      exact Or.inl ⟨h1, by rw [h2]; exact neg_lt hb.1 hb.2, h3⟩
    · have hg := g_home hW h1
      exact Or.inr ⟨h1, by rw [h2]; exact nn_lt hg.2 (by omega), g1, g2, g3, hg.1⟩
  · intro mR h293 h301 h302
    refine ⟨fun hwy d N z => ?_, fun hwy d N z => ?_⟩
    · have hn : ¬ (¬ b (6 * i) < ic 0 ∧ b (6 * i) < ic 3) := fun z => by
        unfold wHom at hwy
        rw [if_pos z] at hwy
        exact absurd hwy (Nat.lt_irrefl 0)
      exact x_no9 (by omega) h301 (a := b (6 * i)) (b := b (6 * i + 1)) (c := b (6 * i + 2)) (by rw [h302]) (by rw [h302]) (by rw [h302]) hn
    · obtain ⟨f1, f2⟩ := q_home (n0 := n0) (S0 := S0) (G := G) (m := mR) h293 hwy
      exact x_ok9 (by omega) h301 (a := b (6 * i)) (b := b (6 * i + 1)) (c := b (6 * i + 2)) (by rw [h302]) (by rw [h302]) (by rw [h302]) f1 (f2 (d + 2) N z)
theorem s_10 (hC : CL mC 1 r) (hW : RW T r) (hT : T ≤ 1000) (hJ : JV mC 1) (hw : isSw n0 G S0 vv w0) (hi : i < 9) (hv : rp mC (272 + 2 * i) 0 = vv 10) (hal : AL 10 i (ri mC (272 + 2 * i + 1)) b (tlL 10) 0) : stepO n0 S0 G mC i 10 r T b := by
  rw [show tlL 10 = [32, 37, 32, 35] from by decide] at hal
  have hal := AL_l (by decide) hal
  obtain ⟨e0, hal⟩ := AL_d (by decide) hal
  have hal := AL_l (by decide) hal
  obtain ⟨e1, hal⟩ := AL_d (by decide) hal
  rw [slF_n (by decide)] at e0
  rw [slF_n (by decide)] at e1
  obtain ⟨hk1, hk2⟩ := kd_cm hi
  obtain ⟨m2, ret, hop, hor⟩ := k_rest (n0 := n0) (S0 := S0) (G := G) hC hW hJ (w := b (6 * i)) (u := b (6 * i + 1))
  have hex : ∀ d N z, Mt (n0, S0) (d + 5) 122 [.ref n0, .ref (n0 + (272 + 2 * i))] (hp n0 G mC, N, z) = oI n0 G m2 N z ret := fun d N z => c_exec10 hw hk1 hk2 hv (fun d N z => by
    rw [e0, e1]
    exact hop d N z)
  refine ⟨m2, ret, wRst (b (6 * i)) (b (6 * i + 1)), nRst r (b (6 * i)) (b (6 * i + 1)), hex, ?_, ?_⟩
  · rcases hor with ⟨h1, h2, h3⟩ | ⟨h1, h2, g1, g2, g3⟩
    · have hb : 1 ≤ eRst (wRst (b (6 * i)) (b (6 * i + 1))) ∧ eRst (wRst (b (6 * i)) (b (6 * i + 1))) ≤ 5 := by
        have h4 : wRst (b (6 * i)) (b (6 * i + 1)) ≤ 4 := by
          unfold wRst
          repeat' split
          all_goals omega
        unfold eRst
        refine ⟨?_, ?_⟩
        · first | omega | (repeat' split) <;> omega
        · first | omega | (repeat' split) <;> omega
      exact Or.inl ⟨h1, by rw [h2]; exact neg_lt hb.1 hb.2, h3⟩
    · have hg := g_rest hW h1
      exact Or.inr ⟨h1, by rw [h2]; exact nn_lt hg.2 (by omega), g1, g2, g3, hg.1⟩
  · intro mR h293 h301 h302
    obtain ⟨q1, q2⟩ := q_rest (n0 := n0) (S0 := S0) (G := G) (m := mR) h293 (w := b (6 * i)) (u := b (6 * i + 1))
    refine ⟨fun hwy d N z => ?_, fun hwy d N z => ?_⟩
    · have h4 : wRst (b (6 * i)) (b (6 * i + 1)) ≤ 4 := by
        unfold wRst
        repeat' split
        all_goals omega
      exact x_no10 (by omega) h301 (a := b (6 * i)) (b := b (6 * i + 1)) (c := b (6 * i + 2)) (by rw [h302]) (by rw [h302]) (by rw [h302]) (r := ic (wRst (b (6 * i)) (b (6 * i + 1)))) (by rw [ic_lt (by omega) (by omega)]; exact hwy) (q1 (d + 1) N z)
    · rw [hwy] at q1
      exact x_ok10 (by omega) h301 (a := b (6 * i)) (b := b (6 * i + 1)) (c := b (6 * i + 2)) (by rw [h302]) (by rw [h302]) (by rw [h302]) (q1 (d + 1) N z) (q2 hwy (d + 2) N z)
theorem s_all {W : Nat} (hW11 : W < 11) (hC : CL mC 1 r) (hW : RW T r) (hT : T ≤ 1000) (hJ : JV mC 1) (hw : isSw n0 G S0 vv w0) (hi : i < 9) (hv : rp mC (272 + 2 * i) 0 = vv W) (hal : AL W i (ri mC (272 + 2 * i + 1)) b (tlL W) 0) : stepO n0 S0 G mC i W r T b := by
  rcases (by omega : W = 0 ∨ W = 1 ∨ W = 2 ∨ W = 3 ∨ W = 4 ∨ W = 5 ∨ W = 6 ∨ W = 7 ∨ W = 8 ∨ W = 9 ∨ W = 10) with rfl | rfl | rfl | rfl | rfl | rfl | rfl | rfl | rfl | rfl | rfl
  · exact s_0 hC hW hT hJ hw hi hv hal
  · exact s_1 hC hW hT hJ hw hi hv hal
  · exact s_2 hC hW hT hJ hw hi hv hal
  · exact s_3 hC hW hT hJ hw hi hv hal
  · exact s_4 hC hW hT hJ hw hi hv hal
  · exact s_5 hC hW hT hJ hw hi hv hal
  · exact s_6 hC hW hT hJ hw hi hv hal
  · exact s_7 hC hW hT hJ hw hi hv hal
  · exact s_8 hC hW hT hJ hw hi hv hal
  · exact s_9 hC hW hT hJ hw hi hv hal
  · exact s_10 hC hW hT hJ hw hi hv hal
end P20
