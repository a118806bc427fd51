/-! part 33: which streams precede which -/
theorem lq_rel {σ τ : Type} {n : Nat} {f : Nat → σ → σ} {g : Nat → τ → τ} {x : σ} {y : τ} (R : Nat → σ → τ → Prop) (h0 : R 0 x y) (hs : ∀ i u v, i < n → R i u v → R (i + 1) (f i u) (g i v)) : R n (lp n f x) (lp n g y) := by
  induction n with
  | zero => exact h0
  | succ n ih => exact hs n _ _ (by omega) (ih (fun i u v hi => hs i u v (by omega)))
theorem lpr_full {σ ρ : Type} {g : Nat → σ → ρ ⊕ σ} {d : σ → ρ} {f : Nat → σ → σ} {n : Nat} {x : σ} (h : ∀ i y, i < n → g i y = .inr (f i y)) : lpr g d n 0 x = d (lp n f x) := by
  have key : ∀ r i, i + r = n → lpr g d r i (lp i f x) = d (lp n f x) := by
    intro r
    induction r with
    | zero =>
      intro i hi
      have e : i = n := by omega
      subst e
      rfl
    | succ r ih =>
      intro i hi
      rw [lpr_r (h i _ (by omega))]
      exact ih (i + 1) (by omega)
  exact key n 0 (by omega)
theorem lpr_stop {σ : Type} {g : Nat → σ → σ ⊕ σ} {n : Nat} {x : σ} (h : ∀ i, g i x = .inl x) : lpr g (fun x => x) n 0 x = x := by
  cases n with
  | zero => rfl
  | succ n => exact lpr_l (h 0)
theorem cl1_tb (o : Nat) (P : Nat → Nat) (s b : Nat) : (cl1 o P s).testBit b = ((P s).testBit b || ((P s).testBit o && (P o).testBit b)) := by
  unfold cl1
  by_cases h : (P s).testBit o = true
  · rw [if_pos h, Nat.testBit_or, h, Bool.true_and]
  · rw [if_neg h]
    have : (P s).testBit o = false := by simpa using h
    rw [this, Bool.false_and, Bool.or_false]
theorem cl1_self (o : Nat) (P : Nat → Nat) : cl1 o P o = P o := by
  unfold cl1
  by_cases h : (P o).testBit o = true
  · rw [if_pos h, Nat.or_self]
  · rw [if_neg h]
theorem cl1_lt {o : Nat} {P : Nat → Nat} (ho : o < 8) (h : ∀ s, s < 8 → P s < 256) : ∀ s, s < 8 → cl1 o P s < 256 := by
  intro s hs
  unfold cl1
  by_cases e : (P s).testBit o = true
  · rw [if_pos e]; exact m_or (h s hs) (h o ho)
  · rw [if_neg e]; exact h s hs
theorem clo_lt {N : Nat → Nat} (h : ∀ s, s < 8 → N s < 256) : ∀ s, s < 8 → clo N s < 256 :=
  lp_inv (n := 8) (f := cl1) (x := N) (fun _ P => ∀ s, s < 8 → P s < 256) h (fun i P hi hP => cl1_lt hi hP)
theorem clo_mono (N : Nat → Nat) : ∀ a b, (N a).testBit b = true → (clo N a).testBit b = true :=
  lp_inv (n := 8) (f := cl1) (x := N) (fun _ P => ∀ a b, (N a).testBit b = true → (P a).testBit b = true) (fun _ _ h => h) (fun i P hi hP a b h => by
    rw [cl1_tb, hP a b h]; rfl)
theorem clo_trans (N : Nat → Nat) : ∀ a c b, c < 8 → (clo N a).testBit c = true → (clo N c).testBit b = true → (clo N a).testBit b = true :=
  lp_inv (n := 8) (f := cl1) (x := N) (fun k P => ∀ a c b, c < k → (P a).testBit c = true → (P c).testBit b = true → (P a).testBit b = true) (fun a c b h => absurd h (Nat.not_lt_zero c)) (fun k P hk hP a c b hc h1 h2 => by
    rw [cl1_tb, Bool.or_eq_true, Bool.and_eq_true] at h1 h2 ⊢
    rcases Nat.lt_or_ge c k with q | q
    · rcases h1 with h1 | ⟨h1, h1'⟩ <;> rcases h2 with h2 | ⟨h2, h2'⟩
      · exact Or.inl (hP a c b q h1 h2)
      · exact Or.inr ⟨hP a c k q h1 h2, h2'⟩
      · exact Or.inr ⟨h1, hP k c b q h1' h2⟩
      · exact Or.inr ⟨h1, h2'⟩
    · have e : c = k := by omega
      subst e
      have g1 : (P a).testBit c = true := by rcases h1 with h | ⟨h, -⟩ <;> exact h
      have g2 : (P c).testBit b = true := by rcases h2 with h | ⟨-, h⟩ <;> exact h
      exact Or.inr ⟨g1, g2⟩)
theorem clo_least {N : Nat → Nat} (T : Nat → Nat → Prop) (hN : ∀ a b, a < 8 → (N a).testBit b = true → T a b) (hT : ∀ a c b, a < 8 → c < 8 → T a c → T c b → T a b) : ∀ a b, a < 8 → (clo N a).testBit b = true → T a b :=
  lp_inv (n := 8) (f := cl1) (x := N) (fun _ P => ∀ a b, a < 8 → (P a).testBit b = true → T a b) hN (fun k P hk hP a b ha h => by
    rw [cl1_tb, Bool.or_eq_true, Bool.and_eq_true] at h
    rcases h with h | ⟨h1, h2⟩
    · exact hP a b ha h
    · exact hT a k b ha hk (hP a k ha h1) (hP k b hk h2))
theorem clo_cong {N M : Nat → Nat} (h : ∀ s, s < 8 → N s = M s) : ∀ s, s < 8 → clo N s = clo M s :=
  lq_rel (n := 8) (f := cl1) (g := cl1) (x := N) (y := M) (fun _ P Q => ∀ s, s < 8 → P s = Q s) h (fun k P Q hk hP s hs => by
    unfold cl1
    rw [hP s hs, hP k hk])
/-- no cycle -/
def Acy (N : Nat → Nat) : Prop := ∀ a, a < 8 → (clo N a).testBit a = false
theorem acy_sub {N M : Nat → Nat} (hN : Acy N) (h : ∀ a b, a < 8 → (M a).testBit b = true → (N a).testBit b = true) : Acy M := by
  intro a ha
  cases e : (clo M a).testBit a
  · rfl
  · have := clo_least (N := M) (fun x y => (clo N x).testBit y = true) (fun x y hx hxy => clo_mono N x y (h x y hx hxy)) (fun x c y _ hc h1 h2 => clo_trans N x c y hc h1 h2) a a ha e
    rw [hN a ha] at this
    exact this.symm
theorem acy_add {N M : Nat → Nat} {a0 b0 : Nat} (ha0 : a0 < 8) (hb0 : b0 < 8) (hab : a0 ≠ b0) (hN : Acy N) (hno : (clo N b0).testBit a0 = false) (h : ∀ a b, a < 8 → (M a).testBit b = true → (N a).testBit b = true ∨ (a = a0 ∧ b = b0)) : Acy M := by
  have nb : ¬ (clo N b0).testBit a0 = true := by rw [hno]; decide
  have tr := clo_trans N
  intro a ha
  cases e : (clo M a).testBit a
  · rfl
  · have key := clo_least (N := M) (fun x y => (clo N x).testBit y = true ∨ ((x = a0 ∨ (clo N x).testBit a0 = true) ∧ (b0 = y ∨ (clo N b0).testBit y = true)))
      (fun x y hx hxy => by
        rcases h x y hx hxy with q | ⟨q1, q2⟩
        · exact Or.inl (clo_mono N x y q)
        · exact Or.inr ⟨Or.inl q1, Or.inl q2.symm⟩)
      (fun x c y _ hc h1 h2 => by
        rcases h1 with h1 | ⟨h1, h1'⟩ <;> rcases h2 with h2 | ⟨h2, h2'⟩
        · exact Or.inl (tr x c y hc h1 h2)
        · refine Or.inr ⟨Or.inr ?_, h2'⟩
          rcases h2 with q | q
          · subst q; exact h1
          · exact tr x c a0 hc h1 q
        · refine Or.inr ⟨h1, Or.inr ?_⟩
          rcases h1' with q | q
          · subst q; exact h2
          · exact tr b0 c y hc q h2
        · exact Or.inr ⟨h1, h2'⟩) a a ha e
    rcases key with q | ⟨q1, q2⟩
    · rw [hN a ha] at q; exact q.symm
    · exfalso
      rcases q1 with q1 | q1 <;> rcases q2 with q2 | q2
      · exact hab (q1.symm.trans q2.symm)
      · subst q1; exact nb q2
      · subst q2; exact nb q1
      · exact nb (tr b0 a a0 ha q2 q1)
/-- what has no cycle has a first stream -/
theorem ex_first {N : Nat → Nat} (hN : Acy N) (S : Nat → Prop) : ∀ n, n ≤ 8 → (∃ s, s < n ∧ S s) → ∃ s, s < n ∧ S s ∧ ∀ a, a < n → S a → ¬ (clo N a).testBit s = true := by
  intro n
  induction n with
  | zero => intro _ h; obtain ⟨s, hs, -⟩ := h; exact absurd hs (Nat.not_lt_zero s)
  | succ n ih =>
    intro hn h
    by_cases hx : ∃ s, s < n ∧ S s
    · obtain ⟨s, hs, hS, hmin⟩ := ih (by omega) hx
      by_cases hy : S n ∧ (clo N n).testBit s = true
      · refine ⟨n, by omega, hy.1, fun a ha hSa hc => ?_⟩
        rcases Nat.lt_or_ge a n with q | q
        · exact hmin a q hSa (clo_trans N a n s (by omega) hc hy.2)
        · have e : a = n := by omega
          subst e
          rw [hN a (by omega)] at hc
          exact absurd hc (by decide)
      · refine ⟨s, by omega, hS, fun a ha hSa hc => ?_⟩
        rcases Nat.lt_or_ge a n with q | q
        · exact hmin a q hSa hc
        · have e : a = n := by omega
          subst e
          exact hy ⟨hSa, hc⟩
    · obtain ⟨s, hs, hS⟩ := h
      have e : s = n := by
        rcases Nat.lt_or_ge s n with q | q
        · exact absurd ⟨s, q, hS⟩ hx
        · omega
      subst e
      refine ⟨s, by omega, hS, fun a ha hSa hc => ?_⟩
      rcases Nat.lt_or_ge a s with q | q
      · exact hx ⟨a, q, hSa⟩
      · have e : a = s := by omega
        subst e
        rw [hN a (by omega)] at hc
        exact absurd hc (by decide)
/-! the class finds them, the reference lays them -/
theorem fp_in {x : hm_I} {a o : Nat} {P : Nat → Nat} (ho : o < 8) (h : ∀ s, s < 8 → x (a + 2) s = nI (P s) ∧ P s < 256) :
    (∀ z k, z ≠ a + 2 → lp 8 (fun i36 x36 => if fX3_isIn (x36 (a + 2) i36) (nI o) = true then hm_put x36 (a + 2) i36 ((x36 (a + 2) i36) ||| (x36 (a + 2) o)) else x36) x z k = x z k) ∧
    ∀ s, s < 8 → lp 8 (fun i36 x36 => if fX3_isIn (x36 (a + 2) i36) (nI o) = true then hm_put x36 (a + 2) i36 ((x36 (a + 2) i36) ||| (x36 (a + 2) o)) else x36) x (a + 2) s = nI (cl1 o P s) := by
  have key := lp_inv (n := 8) (f := fun i36 x36 => if fX3_isIn (x36 (a + 2) i36) (nI o) = true then hm_put x36 (a + 2) i36 ((x36 (a + 2) i36) ||| (x36 (a + 2) o)) else x36) (x := x)
    (fun i y => (∀ z k, z ≠ a + 2 → y z k = x z k) ∧ (∀ s, s < 8 → s < i → y (a + 2) s = nI (cl1 o P s)) ∧ ∀ s, s < 8 → i ≤ s → y (a + 2) s = nI (P s))
    ⟨fun _ _ _ => rfl, fun s _ hs => absurd hs (Nat.not_lt_zero s), fun s hs _ => (h s hs).1⟩ ?_
  · exact ⟨key.1, fun s hs => key.2.1 s hs hs⟩
  · intro i y hi hy
    obtain ⟨h1, h2, h3⟩ := hy
    have eo : y (a + 2) o = nI (P o) := by
      rcases Nat.lt_or_ge o i with q | q
      · rw [h2 o ho q, cl1_self]
      · exact h3 o ho q
    have ei : y (a + 2) i = nI (P i) := h3 i hi (Nat.le_refl i)
    simp only [ei, eo, fb_isIn _ (h i hi).2 o ho, fa_or]
    by_cases e : (P i).testBit o = true
    · rw [if_pos e]
      refine ⟨fun z k hz => ?_, fun s hs hsi => ?_, fun s hs hsi => ?_⟩
      · rw [hp_n (Or.inl hz)]; exact h1 z k hz
      · by_cases es : s = i
        · subst es
          rw [hm_put_at]; unfold cl1; rw [if_pos e]
        · rw [hp_n (Or.inr es)]; exact h2 s hs (by omega)
      · rw [hp_n (Or.inr (by omega))]; exact h3 s hs (by omega)
    · rw [if_neg e]
      refine ⟨h1, fun s hs hsi => ?_, fun s hs hsi => h3 s hs (by omega)⟩
      by_cases es : s = i
      · subst es
        rw [ei]; unfold cl1; rw [if_neg e]
      · exact h2 s hs (by omega)
theorem fp_spec {I : hm_I} {a : Nat} {N : Nat → Nat} (h : ∀ s, s < 8 → I (a + 1) s = nI (N s) ∧ N s < 256) :
    (∀ z k, z ≠ a + 2 → fX1_findPreceded I a z k = I z k) ∧ ∀ s, s < 8 → fX1_findPreceded I a (a + 2) s = nI (clo N s) := by
  have r0 := lp_row (a + 2) (fun i2 x2 => x2 (a + 1) i2) I 8 (fun s => I (a + 1) s) (fun i x _ hx _ _ => hx (a + 1) i (by omega))
  have key := lq_rel (n := 8) (f := fun i28 x28 => lp 8 (fun i36 x36 => if fX3_isIn (x36 (a + 2) i36) (nI i28) = true then hm_put x36 (a + 2) i36 ((x36 (a + 2) i36) ||| (x36 (a + 2) i28)) else x36) x28) (g := cl1) (x := lp 8 (fun i2 x2 => hm_put x2 (a + 2) i2 (x2 (a + 1) i2)) I) (y := N)
    (fun _ y P => (∀ z k, z ≠ a + 2 → y z k = I z k) ∧ ∀ s, s < 8 → y (a + 2) s = nI (P s) ∧ P s < 256)
    ⟨r0.1, fun s hs => ⟨(r0.2.1 s hs).trans (h s hs).1, (h s hs).2⟩⟩ ?_
  · exact ⟨key.1, fun s hs => (key.2 s hs).1⟩
  · intro o y P ho hy
    have := fp_in (x := y) (a := a) ho hy.2
    exact ⟨fun z k hz => (this.1 z k hz).trans (hy.1 z k hz), fun s hs => ⟨this.2 s hs, cl1_lt ho (fun s hs => (hy.2 s hs).2) s hs⟩⟩
theorem ord_lt {w : Nat → Int32} {r : Nat} (h : OrdOk w r) : ∀ s, s < 8 → clo (mk w r) s < 256 := clo_lt (fun s hs => (h.1 s hs).2)
theorem RelO_pre {I : hm_I} {o : Nat} {w : Nat → Int32} {r : Nat} (hO : OrdOk w r) (h : RelO I o w r) {x y : Nat} (hx : x < 8) (hy : y < 8) : fX1_precedes_t I o x y = (clo (mk w r) x).testBit y := by
  unfold fX1_precedes_t
  rw [(h x hx).2, fb_isIn _ (ord_lt hO x hx) y hy, bI_ite]
theorem RelO_edge {I : hm_I} {o : Nat} {w : Nat → Int32} {r : Nat} (hO : OrdOk w r) (h : RelO I o w r) {x y : Nat} (hx : x < 8) (hy : y < 8) : fX1_hasEdge_t I o x y = (mk w r x).testBit y := by
  unfold fX1_hasEdge_t
  rw [(h x hx).1, (hO.1 x hx).1, fb_isIn _ (hO.1 x hx).2 y hy, bI_ite]
