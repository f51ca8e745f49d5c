/-! orders: what class and reference find in them; expanded by px.py out of p8.src -/
theorem nxA_cons (c f : Nat) (l : List Nat) : nxA c f l = l :: (nxA c f l).tail := by
  cases f with
  | zero => rfl
  | succ f =>
    unfold nxA
    split <;> rfl
theorem riseF_iso {P p : Nat → Nat} : ∀ n, (∀ i, i ≤ n → ∀ j, j ≤ n → (P i < P j) = (p i < p j)) → riseF P n = riseF p n := by
  intro n
  induction n with
  | zero => intro _; rfl
  | succ n ih =>
    intro h
    unfold riseF
    have e := h (n + 1) (by omega) n (by omega)
    rw [ih (fun i hi j hj => h i (by omega) j (by omega))]
    by_cases hq : p (n + 1) < p n
    · rw [if_pos hq, if_pos (e ▸ hq)]
    · rw [if_neg hq, if_neg (fun z => hq (e ▸ z))]
theorem grF_iso {P p : Nat → Nat} {a : Nat} : ∀ n, a ≤ n → (∀ i, i ≤ n → ∀ j, j ≤ n → (P i < P j) = (p i < p j)) → grF P a n = grF p a n := by
  intro n
  induction n with
  | zero => intro _ _; rfl
  | succ n ih =>
    intro ha h
    unfold grF
    have e := h (n + 1) (by omega) a ha
    by_cases hq : a < n + 1 ∧ p (n + 1) < p a
    · rw [if_pos hq, if_pos (⟨hq.1, e ▸ hq.2⟩ : a < n + 1 ∧ P (n + 1) < P a)]
      exact ih (by omega) (fun i hi j hj => h i (by omega) j (by omega))
    · rw [if_neg hq, if_neg (fun z => hq ⟨z.1, e ▸ z.2⟩)]
theorem nxU_iso {u P p : Nat → Nat} {c : Nat} (h : ∀ i, i < c → ∀ j, j < c → (P i < P j) = (p i < p j)) : nxU u P c = nxU u p c := by
  unfold nxU
  cases c with
  | zero => rfl
  | succ n =>
    rw [show n + 1 - 1 = n from rfl, riseF_iso n (fun i hi j hj => h i (by omega) j (by omega))]
    cases hr : riseF p n with
    | none => rfl
    | some a =>
      have := riseF_lt hr
      dsimp only
      rw [grF_iso n (by omega) (fun i hi j hj => h i (by omega) j (by omega))]
theorem swF_ag {u v : Nat → Nat} {c a b : Nat} (h : ∀ i, i < c → u i = v i) (ha : a < c) (hb : b < c) : ∀ i, i < c → swF u a b i = swF v a b i := by
  intro i hi
  unfold swF
  rw [h a ha, h b hb, h i hi]
theorem rvF_ag {c : Nat} : ∀ (f : Nat) {u v : Nat → Nat} {l h : Nat}, (∀ i, i < c → u i = v i) → h < c → ∀ i, i < c → rvF f u l h i = rvF f v l h i := by
  intro f
  induction f with
  | zero => intro u v l h hu hh i hi; exact hu i hi
  | succ f ih =>
    intro u v l h hu hh i hi
    unfold rvF
    by_cases e : l < h
    · rw [if_pos e, if_pos e]
      exact ih (swF_ag hu (by omega) hh) (by omega) i hi
    · rw [if_neg e, if_neg e]
      exact hu i hi
theorem nxU_ag {u v p : Nat → Nat} {c : Nat} (h : ∀ i, i < c → u i = v i) : (nxU u p c = none ∧ nxU v p c = none) ∨ ∃ x y, nxU u p c = some x ∧ nxU v p c = some y ∧ ∀ i, i < c → x i = y i := by
  unfold nxU
  cases hr : riseF p (c - 1) with
  | none => exact Or.inl ⟨rfl, rfl⟩
  | some a =>
    have h1 := riseF_lt hr
    have h2 := grF_le (p := p) (a := a) (c - 1)
    exact Or.inr ⟨_, _, rfl, rfl, rvF_ag 3 (swF_ag h (by omega) (by omega)) (by omega)⟩
theorem gl_map (v : Nat → Nat) (c i : Nat) (h : i < c) : gl ((List.range c).map v) i = v i := by
  unfold gl
  simp [List.getD_eq_getElem?_getD, h]
theorem gl_range (c i : Nat) (h : i < c) : gl (List.range c) i = i := by
  unfold gl
  simp [List.getD_eq_getElem?_getD, h]
/-- one step: a function p that stands for the list l -/
theorem nx_step {p : Nat → Nat} {c : Nat} {l : List Nat} (h : ∀ i, i < c → p i = gl l i) (hb : PB c (gl l)) : (nxU p p c = none ∧ nxU (gl l) (gl l) c = none) ∨ ∃ x y, nxU p p c = some x ∧ nxU (gl l) (gl l) c = some y ∧ (∀ i, i < c → x i = gl ((List.range c).map y) i) ∧ PB c (gl ((List.range c).map y)) := by
  have e : nxU p p c = nxU p (gl l) c := nxU_iso (fun i hi j hj => by rw [h i hi, h j hj])
  rcases nxU_ag (p := gl l) h with ⟨h1, h2⟩ | ⟨x, y, h1, h2, h3⟩
  · exact Or.inl ⟨e.trans h1, h2⟩
  · refine Or.inr ⟨x, y, e.trans h1, h2, fun i hi => by rw [gl_map y c i hi]; exact h3 i hi, fun i hi => ?_⟩
    rw [gl_map y c i hi]
    exact nxU_PB (Nat.le_refl c) hb h2 i hi
def keB (L : List Nat → Int32) (b l : List Nat) : List Nat := if L l < L b then l else b
def bstL (L : List Nat → Int32) (c : Nat) : List Nat := (nxA c 720 (List.range c)).tail.foldl (keB L) (List.range c)
theorem keB_mn (L : List Nat → Int32) : ∀ (t : List (List Nat)) (b : List Nat), t.foldl (fun x l => mnN x (L l)) (L b) = L (t.foldl (keB L) b) := by
  intro t
  induction t with
  | nil => intro b; rfl
  | cons l t ih =>
    intro b
    show t.foldl _ (mnN (L b) (L l)) = L (t.foldl (keB L) (keB L b l))
    rw [← ih]
    congr 1
    unfold mnN keB
    split <;> rfl
theorem lb_all {late : (Nat → Nat) → Int32} {L : List Nat → Int32} {c : Nat} (hl : ∀ (p : Nat → Nat) l, (∀ i, i < c → p i = gl l i) → PB c (gl l) → late p = L l) : ∀ (f : Nat) (p : Nat → Nat) (l : List Nat) (x : Int32), (∀ i, i < c → p i = gl l i) → PB c (gl l) → (lbF late c f p x).2 = (nxA c f l).tail.foldl (fun x l => mnN x (L l)) x := by
  intro f
  induction f with
  | zero => intro p l x _ _; rfl
  | succ f ih =>
    intro p l x h hb
    unfold lbF nxA
    rcases nx_step h hb with ⟨h1, h2⟩ | ⟨u, v, h1, h2, h3, h4⟩
    · rw [h1, h2]
      rfl
    · rw [h1, h2]
      show (lbF late c f u (mnN x (late u))).2 = (nxA c f ((List.range c).map v)).foldl _ x
      rw [nxA_cons, ih u _ _ h3 h4, hl u _ h3 h4]
      rfl
theorem lb_best {late : (Nat → Nat) → Int32} {L : List Nat → Int32} {c : Nat} (hc : c < 7) (hl : ∀ (p : Nat → Nat) l, (∀ i, i < c → p i = gl l i) → PB c (gl l) → late p = L l) : (lbF late c 719 id (late id)).2 = L (bstL L c) := by
  have h0 : ∀ i, i < c → id i = gl (List.range c) i := fun i hi => (gl_range c i hi).symm
  have hb : PB c (gl (List.range c)) := fun i hi => by rw [gl_range c i hi]; exact hi
  rw [lb_all hl 719 id (List.range c) _ h0 hb, hl id _ h0 hb, keB_mn]
  unfold bstL
  rw [(nx_df c hc).1, (nx_df c hc).2.1]
theorem mp_all {late : (Nat → Nat) → Int32} {L : List Nat → Int32} {c : Nat} {V : Nat → Nat} (hV : ∀ i, i < c → ∀ j, j < c → (V i < V j) = (i < j)) (hl : ∀ (p : Nat → Nat) l, (∀ i, i < c → p i = gl l i) → PB c (gl l) → late (fun j => V (p j)) = L l) : ∀ (f : Nat) (p : Nat → Nat) (l b : List Nat) (B : Nat → Int32), (∀ i, i < c → p i = gl l i) → PB c (gl l) → (∀ i, i < c → B i = ic (V (gl b i))) → (nxA c f l).length ≤ f → ∃ R, mpF late c f (fun j => V (p j)) (L b) B = some R ∧ R.2.1 = L ((nxA c f l).tail.foldl (keB L) b) ∧ ∀ i, i < c → R.2.2 i = ic (V (gl ((nxA c f l).tail.foldl (keB L) b) i)) := by
  intro f
  induction f with
  | zero =>
    intro p l b B _ _ _ hlen
    exact absurd hlen (by simp [nxA])
  | succ f ih =>
    intro p l b B h hb hB hlen
    have e : nxU (fun j => V (p j)) (fun j => V (p j)) c = (nxU p p c).map (fun q j => V (q j)) := by
      rw [← nxU_comp]
      exact nxU_iso (fun i hi j hj => hV _ (by rw [h i hi]; exact hb i hi) _ (by rw [h j hj]; exact hb j hj))
    unfold mpF
    rw [e]
    unfold nxA at hlen ⊢
    rcases nx_step h hb with ⟨h1, h2⟩ | ⟨u, v, h1, h2, h3, h4⟩
    · rw [h1, h2]
      exact ⟨_, rfl, rfl, hB⟩
    · rw [h1, h2]
      rw [h2] at hlen
      dsimp only [Option.map_some] at hlen ⊢
      have hlen' : (nxA c f ((List.range c).map v)).length ≤ f := by
        simp only [List.length_cons] at hlen
        omega
      rw [hl u _ h3 h4, List.tail_cons, nxA_cons c f ((List.range c).map v)]
      rw [List.foldl_cons]
      by_cases hk : L ((List.range c).map v) < L b
      · rw [if_pos hk]
        have ek : keB L b ((List.range c).map v) = (List.range c).map v := if_pos hk
        rw [ek]
        exact ih u _ _ _ h3 h4 (fun i hi => by
          show cpf c (fun i => ic (V (u i))) B i = _
          unfold cpf
          rw [if_pos hi, ← h3 i hi]) hlen'
      · rw [if_neg hk]
        have ek : keB L b ((List.range c).map v) = b := if_neg hk
        rw [ek]
        exact ih u _ _ _ h3 h4 hB hlen'
theorem mp_best {late : (Nat → Nat) → Int32} {L : List Nat → Int32} {c : Nat} {V : Nat → Nat} (hc : c < 7) (hV : ∀ i, i < c → ∀ j, j < c → (V i < V j) = (i < j)) (hl : ∀ (p : Nat → Nat) l, (∀ i, i < c → p i = gl l i) → PB c (gl l) → late (fun j => V (p j)) = L l) {B : Nat → Int32} : ∃ R, mpF late c 720 V (late V) (cpf c (fun i => ic (V i)) B) = some R ∧ R.2.1 = L (bstL L c) ∧ ∀ i, i < c → R.2.2 i = ic (V (gl (bstL L c) i)) := by
  have h0 : ∀ i, i < c → id i = gl (List.range c) i := fun i hi => (gl_range c i hi).symm
  have hb : PB c (gl (List.range c)) := fun i hi => by rw [gl_range c i hi]; exact hi
  have := mp_all hV hl 720 id (List.range c) (List.range c) (cpf c (fun i => ic (V i)) B) h0 hb (fun i hi => by
    unfold cpf
    rw [if_pos hi]
    dsimp only
    rw [gl_range c i hi]) (nx_df c hc).2.2
  rw [← hl id _ h0 hb] at this
  exact this

theorem nxA_PB {c : Nat} : ∀ (f : Nat) (l : List Nat), PB c (gl l) → ∀ q ∈ nxA c f l, PB c (gl q) := by
  intro f
  induction f with
  | zero =>
    intro l hl q hq
    rw [List.mem_singleton.mp hq]
    exact hl
  | succ f ih =>
    intro l hl q hq
    unfold nxA at hq
    rcases nx_step (p := gl l) (fun _ _ => rfl) hl with ⟨h1, h2⟩ | ⟨u, v, h1, h2, h3, h4⟩
    · rw [h2] at hq
      rw [List.mem_singleton.mp hq]
      exact hl
    · rw [h2] at hq
      rcases List.mem_cons.mp hq with e | e
      · rw [e]; exact hl
      · exact ih _ h4 q e
theorem keB_in (Q : List Nat → Prop) (L : List Nat → Int32) : ∀ (t : List (List Nat)) (b : List Nat), Q b → (∀ q ∈ t, Q q) → Q (t.foldl (keB L) b) := by
  intro t
  induction t with
  | nil => intro b hb _; exact hb
  | cons l t ih =>
    intro b hb ht
    refine ih _ ?_ (fun q hq => ht q (List.mem_cons_of_mem _ hq))
    unfold keB
    split
    · exact ht l List.mem_cons_self
    · exact hb
theorem bstL_PB (L : List Nat → Int32) (c : Nat) : PB c (gl (bstL L c)) := by
  have hb : PB c (gl (List.range c)) := fun i hi => by rw [gl_range c i hi]; exact hi
  exact keB_in (fun l => PB c (gl l)) L _ _ hb (fun q hq => nxA_PB 720 (List.range c) hb q (List.mem_of_mem_tail hq))
