/-! the class's recursion goes through the orders; expanded by px.py out of p9.src -/
def keL (L : List Nat → Int32) (o : Option (List Nat)) (l : List Nat) : Option (List Nat) := match o with
  | none => some l
  | some b => some (keB L b l)
theorem keL_some (L : List Nat → Int32) : ∀ (t : List (List Nat)) (b : List Nat), t.foldl (keL L) (some b) = some (t.foldl (keB L) b) := by
  intro t
  induction t with
  | nil => intro b; rfl
  | cons l t ih => intro b; exact ih (keB L b l)
theorem loF_congr {J K : Nat → Nat → Int32} {x y c : Int32} : ∀ n, (∀ i, i < n → J i = K i) → loF J x y c n = loF K x y c n := by
  intro n
  induction n with
  | zero => intro _; rfl
  | succ n ih =>
    intro h
    unfold loF
    rw [ih (fun i hi => h i (by omega)), h n (by omega)]
theorem gl_app1 {l : List Nat} {k i : Nat} (h : i < l.length) : gl (l ++ [k]) i = gl l i := by
  unfold gl
  simp [List.getD_eq_getElem?_getD, List.getElem?_append, h]
theorem gl_app2 {l : List Nat} {k : Nat} : gl (l ++ [k]) l.length = k := by
  unfold gl
  simp [List.getD_eq_getElem?_getD]
section P9
variable {J : Nat → Nat → Int32} {c : Nat} {x0 y0 c0 : Int32}
def ordJ (J : Nat → Nat → Int32) (l : List Nat) : Nat → Nat → Int32 := fun i => J (gl l i)
def ltL (J : Nat → Nat → Int32) (x0 y0 c0 : Int32) (c : Nat) (l : List Nat) : Int32 := (loF (ordJ J l) x0 y0 c0 c).2.2.2
def fiL (J : Nat → Nat → Int32) (x0 y0 c0 : Int32) (l : List Nat) (i : Nat) : Int32 := (loF (ordJ J l) x0 y0 c0 (i + 1)).2.2.1
def bst (J : Nat → Nat → Int32) (x0 y0 c0 : Int32) (c : Nat) (s : pS) (o : Option (List Nat)) : Prop := match o with
  | none => s.1 4 = ic 0
  | some l => s.1 4 = ic 1 ∧ s.1 5 = ltL J x0 y0 c0 c l ∧ ∀ i, i < c → s.2.2.2.2.1 i = J (gl l i) 0 ∧ s.2.2.2.2.2 i = fiL J x0 y0 c0 l i
theorem ch_all (h6 : c ≤ 6) : ∀ (r dp : Nat) (pre : List Nat) (s : pS) (o : Option (List Nat)) (x y cl late : Int32), pre.length = dp → dp + r = c → (∀ i, i < c → s.2.1 i = if i ∈ pre then ic 1 else ic 0) → (∀ i, i < dp → s.2.2.1 i = J (gl pre i) 0 ∧ s.2.2.2.1 i = fiL J x0 y0 c0 pre i) → loF (ordJ J pre) x0 y0 c0 dp = (x, y, cl, late) → bst J x0 y0 c0 c s o →
    bst J x0 y0 c0 c (chF J c r dp x y cl late s) ((dfL c r pre).foldl (keL (ltL J x0 y0 c0 c)) o) ∧ (∀ i, (chF J c r dp x y cl late s).2.1 i = s.2.1 i) ∧ (∀ i, i < dp → (chF J c r dp x y cl late s).2.2.1 i = s.2.2.1 i ∧ (chF J c r dp x y cl late s).2.2.2.1 i = s.2.2.2.1 i) := by
  intro r
  induction r with
  | zero =>
    intro dp pre s o x y cl late hlen hdp hch hpre hlo hb
    have hd : dp = c := by omega
    subst hd
    have hL : ltL J x0 y0 c0 dp pre = late := by unfold ltL; rw [hlo]
    show bst J x0 y0 c0 dp (kpS s late) (keL _ o pre) ∧ (∀ i, (kpS s late).2.1 i = s.2.1 i) ∧ (∀ i, i < dp → (kpS s late).2.2.1 i = s.2.2.1 i ∧ (kpS s late).2.2.2.1 i = s.2.2.2.1 i)
    have hnew : bst J x0 y0 c0 dp (upd (upd s.1 4 (ic 1)) 5 late, s.2.1, s.2.2.1, s.2.2.2.1, cpf 6 s.2.2.1 s.2.2.2.2.1, cpf 6 s.2.2.2.1 s.2.2.2.2.2) (some pre) := by
      refine ⟨by show upd (upd s.1 4 (ic 1)) 5 late 4 = ic 1; rw [upd_n _ _ (by decide), upd_s], by show upd (upd s.1 4 (ic 1)) 5 late 5 = _; rw [upd_s, hL], fun i hi => ?_⟩
      show cpf 6 s.2.2.1 s.2.2.2.2.1 i = _ ∧ cpf 6 s.2.2.2.1 s.2.2.2.2.2 i = _
      unfold cpf
      rw [if_pos (by omega), if_pos (by omega)]
      exact hpre i hi
    unfold kpS
    cases o with
    | none =>
      have hb0 : s.1 4 = ic 0 := hb
      rw [if_pos (Or.inl hb0)]
      exact ⟨hnew, fun _ => rfl, fun _ _ => ⟨rfl, rfl⟩⟩
    | some b =>
      have hg : ¬ s.1 4 = ic 0 := by rw [hb.1]; decide
      by_cases hk : late < s.1 5
      · rw [if_pos (Or.inr hk)]
        have e : keL (ltL J x0 y0 c0 dp) (some b) pre = some pre := by
          unfold keL keB
          dsimp only
          rw [hL, ← hb.2.1, if_pos hk]
        rw [e]
        exact ⟨hnew, fun _ => rfl, fun _ _ => ⟨rfl, rfl⟩⟩
      · rw [if_neg (fun q => q.elim hg hk)]
        have e : keL (ltL J x0 y0 c0 dp) (some b) pre = some b := by
          unfold keL keB
          dsimp only
          rw [hL, ← hb.2.1, if_neg hk]
        rw [e]
        exact ⟨hb, fun _ => rfl, fun _ _ => ⟨rfl, rfl⟩⟩
  | succ r ih =>
    intro dp pre s o x y cl late hlen hdp hch hpre hlo hb
    have key : ∀ k, k ≤ c → bst J x0 y0 c0 c ((List.range k).foldl (chP J dp x y cl late (chF J c r (dp + 1))) s) (((List.range k).flatMap (fun i => if i ∈ pre then [] else dfL c r (pre ++ [i]))).foldl (keL (ltL J x0 y0 c0 c)) o) ∧ (∀ i, ((List.range k).foldl (chP J dp x y cl late (chF J c r (dp + 1))) s).2.1 i = s.2.1 i) ∧ (∀ i, i < dp → ((List.range k).foldl (chP J dp x y cl late (chF J c r (dp + 1))) s).2.2.1 i = s.2.2.1 i ∧ ((List.range k).foldl (chP J dp x y cl late (chF J c r (dp + 1))) s).2.2.2.1 i = s.2.2.2.1 i) := by
      intro k
      induction k with
      | zero => intro _; exact ⟨hb, fun _ => rfl, fun _ _ => ⟨rfl, rfl⟩⟩
      | succ k ihk =>
        intro hk
        obtain ⟨g1, g2, g3⟩ := ihk (by omega)
        rw [List.range_succ, List.foldl_append, List.flatMap_append, List.foldl_append]
        generalize (List.range k).foldl (chP J dp x y cl late (chF J c r (dp + 1))) s = t at g1 g2 g3 ⊢
        generalize ((List.range k).flatMap (fun i => if i ∈ pre then [] else dfL c r (pre ++ [i]))).foldl (keL (ltL J x0 y0 c0 c)) o = o1 at g1 ⊢
        show bst J x0 y0 c0 c (chP J dp x y cl late (chF J c r (dp + 1)) t k) (([k].flatMap (fun i => if i ∈ pre then [] else dfL c r (pre ++ [i]))).foldl (keL (ltL J x0 y0 c0 c)) o1) ∧ (∀ i, (chP J dp x y cl late (chF J c r (dp + 1)) t k).2.1 i = s.2.1 i) ∧ (∀ i, i < dp → (chP J dp x y cl late (chF J c r (dp + 1)) t k).2.2.1 i = s.2.2.1 i ∧ (chP J dp x y cl late (chF J c r (dp + 1)) t k).2.2.2.1 i = s.2.2.2.1 i)
        rw [List.flatMap_singleton]
        have hck : t.2.1 k = if k ∈ pre then ic 1 else ic 0 := (g2 k).trans (hch k (by omega))
        unfold chP
        by_cases hm : k ∈ pre
        · rw [if_pos hm] at hck ⊢
          rw [if_neg (by rw [hck]; decide)]
          exact ⟨g1, g2, g3⟩
        · rw [if_neg hm] at hck ⊢
          rw [if_pos hck]
          have hglk : gl (pre ++ [k]) dp = k := by rw [← hlen]; exact gl_app2
          have hglp : ∀ i, i < dp → gl (pre ++ [k]) i = gl pre i := fun i hi => gl_app1 (by omega)
          have hlo2 : ∀ n, n ≤ dp → loF (ordJ J (pre ++ [k])) x0 y0 c0 n = loF (ordJ J pre) x0 y0 c0 n := fun n hn => loF_congr n (fun i hi => by unfold ordJ; rw [hglp i (by omega)])
          have hlo3 : loF (ordJ J (pre ++ [k])) x0 y0 c0 (dp + 1) = (J k 1, J k 2, fnJ (J k) x y cl, late + ltJ (J k) (fnJ (J k) x y cl)) := by
            show ((ordJ J (pre ++ [k])) dp 1, (ordJ J (pre ++ [k])) dp 2, _, _) = _
            rw [hlo2 dp (Nat.le_refl dp), hlo]
            unfold ordJ
            rw [hglk]
          have hfi : ∀ i, i < dp → fiL J x0 y0 c0 (pre ++ [k]) i = fiL J x0 y0 c0 pre i := fun i hi => by
            unfold fiL
            rw [hlo2 (i + 1) (by omega)]
          have hfk : fiL J x0 y0 c0 (pre ++ [k]) dp = fnJ (J k) x y cl := by
            unfold fiL
            rw [hlo3]
          have := ih (dp + 1) (pre ++ [k]) (t.1, upd t.2.1 k (ic 1), upd t.2.2.1 dp (J k 0), upd t.2.2.2.1 dp (fnJ (J k) x y cl), t.2.2.2.2) o1 (J k 1) (J k 2) (fnJ (J k) x y cl) (late + ltJ (J k) (fnJ (J k) x y cl)) (by simp [hlen]) (by omega) (fun i hi => by
              show upd t.2.1 k (ic 1) i = _
              by_cases e : i = k
              · rw [e, upd_s, if_pos (by simp)]
              · rw [upd_n _ _ e, g2 i, hch i hi]
                by_cases e2 : i ∈ pre
                · rw [if_pos e2, if_pos (by simp [e2])]
                · rw [if_neg e2, if_neg (by simp [e2, e])]) (fun i hi => by
              show upd t.2.2.1 dp (J k 0) i = _ ∧ upd t.2.2.2.1 dp (fnJ (J k) x y cl) i = _
              by_cases e : i = dp
              · rw [e, upd_s, upd_s, hglk, hfk]
                exact ⟨rfl, rfl⟩
              · rw [upd_n _ _ e, upd_n _ _ e, hglp i (by omega), hfi i (by omega), (g3 i (by omega)).1, (g3 i (by omega)).2]
                exact hpre i (by omega)) hlo3 (by
              cases o1 with
              | none => exact g1
              | some b => exact g1)
          obtain ⟨e1, e2, e3⟩ := this
          generalize chF J c r (dp + 1) (J k 1) (J k 2) (fnJ (J k) x y cl) (late + ltJ (J k) (fnJ (J k) x y cl)) (t.1, upd t.2.1 k (ic 1), upd t.2.2.1 dp (J k 0), upd t.2.2.2.1 dp (fnJ (J k) x y cl), t.2.2.2.2) = q at e1 e2 e3 ⊢
          refine ⟨?_, fun i => ?_, fun i hi => ?_⟩
          · generalize (dfL c r (pre ++ [k])).foldl (keL (ltL J x0 y0 c0 c)) o1 = o2 at e1 ⊢
            cases o2 with
            | none => exact e1
            | some b => exact e1
          · show upd q.2.1 k (ic 0) i = s.2.1 i
            by_cases e : i = k
            · rw [e, upd_s, ← g2 k, hck]
            · rw [upd_n _ _ e, e2 i]
              show upd t.2.1 k (ic 1) i = _
              rw [upd_n _ _ e]
              exact g2 i
          · show q.2.2.1 i = _ ∧ q.2.2.2.1 i = _
            rw [(e3 i (by omega)).1, (e3 i (by omega)).2]
            show upd t.2.2.1 dp (J k 0) i = _ ∧ upd t.2.2.2.1 dp _ i = _
            rw [upd_n _ _ (by omega), upd_n _ _ (by omega)]
            exact g3 i hi
    exact key c (Nat.le_refl c)
theorem ch_best (h6 : c ≤ 6) {s : pS} (hg : s.1 4 = ic 0) (hch : ∀ i, i < c → s.2.1 i = ic 0) : bst J x0 y0 c0 c (chF J c c 0 x0 y0 c0 (ic 0) s) (some (bstL (ltL J x0 y0 c0 c) c)) ∧ ∀ i, (chF J c c 0 x0 y0 c0 (ic 0) s).2.1 i = s.2.1 i := by
  have := ch_all (J := J) (x0 := x0) (y0 := y0) (c0 := c0) h6 c 0 [] s none x0 y0 c0 (ic 0) rfl (by omega) (fun i hi => by rw [hch i hi]; rfl) (fun i hi => absurd hi (by omega)) rfl hg
  refine ⟨?_, this.2.1⟩
  have h1 := this.1
  rw [← (nx_df c (by omega)).2.1, nxA_cons, List.foldl_cons] at h1
  have e : keL (ltL J x0 y0 c0 c) none (List.range c) = some (List.range c) := rfl
  rw [e, keL_some] at h1
  exact h1
end P9
