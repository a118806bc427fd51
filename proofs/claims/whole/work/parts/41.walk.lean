/-! part 41: shortest walks -/
def Wk (N : Nat → Nat) (g : Nat) : Nat → Nat → Prop
  | 0, s => s = g
  | n + 1, s => ∃ c, c < 8 ∧ (N s).testBit c = true ∧ Wk N g n c
theorem Wk_snoc {N : Nat → Nat} {c g : Nat} (hg : g < 8) (h : (N c).testBit g = true) : ∀ m s, Wk N c m s → Wk N g (m + 1) s := by
  intro m
  induction m with
  | zero =>
    intro s hs
    have e : s = c := hs
    subst e
    exact ⟨g, hg, h, rfl⟩
  | succ m ih =>
    intro s hs
    obtain ⟨d, hd, h1, h2⟩ := hs
    exact ⟨d, hd, h1, ih d h2⟩
theorem Wk_unsnoc {N : Nat → Nat} {g : Nat} : ∀ m s, s < 8 → Wk N g (m + 1) s → ∃ c, c < 8 ∧ Wk N c m s ∧ (N c).testBit g = true := by
  intro m
  induction m with
  | zero =>
    intro s hs h
    obtain ⟨d, hd, h1, h2⟩ := h
    have e : d = g := h2
    subst e
    exact ⟨s, hs, rfl, h1⟩
  | succ m ih =>
    intro s hs h
    obtain ⟨d, hd, h1, h2⟩ := h
    obtain ⟨c, hc, h3, h4⟩ := ih d hd h2
    exact ⟨c, hc, ⟨d, hd, h1, h3⟩, h4⟩
theorem Wk_lev {N : Nat → Nat} {s : Nat} (hs : s < 8) : ∀ n g, g < 8 → Wk N g n s → ∀ i, i < n + 1 → (lev (clo N) 255 i).testBit g = true := by
  intro n
  induction n with
  | zero =>
    intro g hg h i hi
    have e : i = 0 := by omega
    subst e
    exact tb_255 g hg
  | succ n ih =>
    intro g hg h
    obtain ⟨c, hc, h1, h2⟩ := Wk_unsnoc n s hs h
    exact lev_up (clo N) (by decide) hc hg (tb_255 g hg) (clo_mono N c g h2) (ih c hc h1)
theorem Wk_8 {N : Nat → Nat} (hN : Acy N) {s g : Nat} (hs : s < 8) (hg : g < 8) : ¬ Wk N g 8 s := fun h => by
  have h1 := Wk_lev hs 8 g hg h 8 (by omega)
  rw [lev_8 hN (by decide) g hg] at h1
  exact absurd h1 (by decide)
/-- d is the number of edges of a shortest walk from s to g; -9 for none -/
def isD (N : Nat → Nat) (g s : Nat) (d : Int32) : Prop := (∃ n, n < 8 ∧ d = nI n ∧ Wk N g n s ∧ ∀ m, m < n → ¬ Wk N g m s) ∨ (d = -9 ∧ ∀ m, m < 8 → ¬ Wk N g m s)
theorem isD_uniq {N : Nat → Nat} {g s : Nat} {d d' : Int32} (h : isD N g s d) (h' : isD N g s d') : d = d' := by
  rcases h with ⟨n, h1, h2, h3, h4⟩ | ⟨h1, h2⟩ <;> rcases h' with ⟨n', h1', h2', h3', h4'⟩ | ⟨h1', h2'⟩
  · have e : n = n' := by
      rcases Nat.lt_or_ge n n' with q | q
      · exact absurd h3 (h4' n q)
      · rcases Nat.lt_or_ge n' n with q2 | q2
        · exact absurd h3' (h4 n' q2)
        · omega
    rw [h2, h2', e]
  · exact absurd h3 (h2' n h1)
  · exact absurd h3' (h2 n' h1')
  · rw [h1, h1']
def rch (N : Nat → Nat) (x i : Nat) : Nat := lp i (fun _ u => u ||| latN N u) (2 ^ x)
theorem rch_lt {N : Nat → Nat} (hN : ∀ a, a < 8 → N a < 256) {x : Nat} (hx : x < 8) (i : Nat) : rch N x i < 256 :=
  lp_inv (n := i) (f := fun _ u => u ||| latN N u) (x := 2 ^ x) (fun _ u => u < 256) (pow_256 x hx) (fun _ u _ hu => m_or hu (latN_spec hN u).1)
theorem rch_tb {N : Nat → Nat} (hN : ∀ a, a < 8 → N a < 256) {x : Nat} (hx : x < 8) : ∀ i y, y < 8 → ((rch N x i).testBit y = true ↔ ∃ m, m ≤ i ∧ Wk N y m x) := by
  intro i
  induction i with
  | zero =>
    intro y hy
    rw [show rch N x 0 = 2 ^ x from rfl, tb_pow x hx y hy, decide_eq_true_iff]
    constructor
    · intro h; exact ⟨0, Nat.le_refl 0, h⟩
    · rintro ⟨m, hm, h⟩
      have e : m = 0 := by omega
      subst e
      exact h
  | succ i ih =>
    intro y hy
    rw [show rch N x (i + 1) = rch N x i ||| latN N (rch N x i) from rfl, Nat.testBit_or, Bool.or_eq_true, (latN_spec hN _).2 y hy, exB_iff, ih y hy]
    constructor
    · rintro (⟨m, hm, h⟩ | ⟨c, hc, h⟩)
      · exact ⟨m, by omega, h⟩
      · rw [Bool.and_eq_true] at h
        obtain ⟨m, hm, h2⟩ := (ih c hc).mp h.1
        exact ⟨m + 1, by omega, Wk_snoc hy h.2 m x h2⟩
    · rintro ⟨m, hm, h⟩
      rcases Nat.lt_or_ge i m with q | q
      · have e : m = i + 1 := by omega
        subst e
        obtain ⟨c, hc, h1, h2⟩ := Wk_unsnoc i x hx h
        exact Or.inr ⟨c, hc, by rw [(ih c hc).mpr ⟨i, Nat.le_refl i, h1⟩, h2]; rfl⟩
      · exact Or.inl ⟨m, q, h⟩
theorem nextall_X {I : hm_I} {o u : Nat} {N : Nat → Nat} (h : ∀ a, a < 8 → I (o + 1) a = nI (N a) ∧ N a < 256) (hu : u < 256) : fX1_nextOfAll I o (nI u) = nI (latN N u) := by
  unfold fX1_nextOfAll latN
  refine lq_rel (n := 8) (fun _ x y => x = nI y) rfl (fun i x y hi hxy => ?_)
  simp only [fb_isIn u hu i hi, (h i hi).1, hxy, fa_or]
  by_cases q : u.testBit i = true
  · rw [if_pos q, if_pos q]
  · rw [if_neg q, if_neg q]
theorem dist_X {I : hm_I} {o x y : Nat} {N : Nat → Nat} (h : ∀ a, a < 8 → I (o + 1) a = nI (N a) ∧ N a < 256) (hx : x < 8) (hy : y < 8) : isD N y x (fX1_distance I o x y) := by
  have hN : ∀ a, a < 8 → N a < 256 := fun a ha => (h a ha).2
  unfold fX1_distance
  rw [fb_setOf x hx]
  have key : ∀ r i, i + r = 8 → (∀ m, m < i → ¬ Wk N y m x) → isD N y x (lpr (fun (i8 : Nat) (x8 : Int32) => (if fX3_isIn x8 (nI y) = true then Sum.inl (nI i8) else Sum.inr (x8 ||| (fX1_nextOfAll I o x8)) : Int32 ⊕ (Int32))) (fun (x8 : Int32) => ((-9) : Int32)) r i (nI (rch N x i))) := by
    intro r
    induction r with
    | zero =>
      intro i hi hlo
      have e : i = 8 := by omega
      subst e
      exact Or.inr ⟨rfl, hlo⟩
    | succ r ih =>
      intro i hi hlo
      have hl := rch_lt hN hx i
      by_cases q : (rch N x i).testBit y = true
      · rw [lpr_l (v := nI i) (by rw [fb_isIn _ hl y hy, if_pos q])]
        obtain ⟨m, hm, hw⟩ := (rch_tb hN hx i y hy).mp q
        have e : m = i := by
          rcases Nat.lt_or_ge m i with z | z
          · exact absurd hw (hlo m z)
          · omega
        subst e
        exact Or.inl ⟨m, by omega, rfl, hw, hlo⟩
      · rw [lpr_r (y := nI (rch N x (i + 1))) (by rw [fb_isIn _ hl y hy, if_neg q, nextall_X h hl, fa_or]; rfl)]
        refine ih (i + 1) (by omega) (fun m hm hw => q ((rch_tb hN hx i y hy).mpr ⟨m, by omega, hw⟩))
  exact key 8 0 (by omega) (fun m hm => absurd hm (Nat.not_lt_zero m))
/-! the reference's -/
def lvD (N : Nat → Nat) (g n s : Nat) (d : Int32) : Prop := (∃ k, k ≤ n ∧ d = nI k ∧ Wk N g k s ∧ ∀ m, m < k → ¬ Wk N g m s) ∨ (d = -9 ∧ ∀ m, m ≤ n → ¬ Wk N g m s)
theorem lvD_at {N : Nat → Nat} {g n n' t : Nat} {d : Int32} (hn' : n' = n ∨ n' = n + 1) (hn8 : n < 8) (h : lvD N g n' t d) : d = nI n ↔ (Wk N g n t ∧ ∀ m, m < n → ¬ Wk N g m t) := by
  constructor
  · intro e
    rcases h with ⟨k, h1, h2, h3, h4⟩ | ⟨h1, h2⟩
    · have e2 : k = n := nI_inj (by omega) (by omega) (h2.symm.trans e)
      subst e2
      exact ⟨h3, h4⟩
    · exact absurd (e.symm.trans h1) (nI_n9 n hn8)
  · intro hw
    rcases h with ⟨k, h1, h2, h3, h4⟩ | ⟨h1, h2⟩
    · have e2 : k = n := by
        rcases Nat.lt_or_ge k n with q | q
        · exact absurd h3 (hw.2 k q)
        · rcases Nat.lt_or_ge n k with q2 | q2
          · exact absurd hw.1 (h4 n q2)
          · omega
      rw [h2, e2]
    · exact absurd hw.1 (h2 n (by omega))
theorem put_same (y : hm_I) (a k : Nat) : hm_put y a k (y a k) = y := by
  funext c j
  rw [hp]
  by_cases e : c = a ∧ j = k
  · rw [if_pos e, e.1, e.2]
  · rw [if_neg e]
/-- one stream in a round: the streams it leads to are looked at -/
theorem ll_t {X : hm_I} {b g n s : Nat} {N : Nat → Nat} (x33 x41 : hm_I) (hn : n < 8) (hs : s < 8) {y : hm_I} (hN : ∀ a, a < 8 → y (b + 1) (176 + a) = nI (N a) ∧ N a < 256) :
    fX4_layLeft_L41 X b g n x33 s y = y ∧ (y (b + 6) s = -9 → ∀ t, t < 8 → (N s).testBit t = true → ¬ y (b + 6) t = nI n) ∨
    (y (b + 6) s = -9 ∧ (∃ t, t < 8 ∧ (N s).testBit t = true ∧ y (b + 6) t = nI n) ∧ fX4_layLeft_L41 X b g n x33 s y = hm_put y (b + 6) s (nI (n + 1))) := by
  unfold fX4_layLeft_L41
  by_cases h9 : y (b + 6) s = -9
  · have same : hm_put y (b + 6) s (-9) = y := by rw [← h9]; exact put_same y (b + 6) s
    have key : ∀ r i, i + r = 8 → (∀ t, t < i → (N s).testBit t = true → ¬ y (b + 6) t = nI n) →
        lpr (fX4_layLeft_L50 X b g n x33 s y) (fun (x50 : hm_I) => (x50 : hm_I)) r i y = y ∧ (∀ t, t < 8 → (N s).testBit t = true → ¬ y (b + 6) t = nI n) ∨
        ((∃ t, t < 8 ∧ (N s).testBit t = true ∧ y (b + 6) t = nI n) ∧ lpr (fX4_layLeft_L50 X b g n x33 s y) (fun (x50 : hm_I) => (x50 : hm_I)) r i y = hm_put y (b + 6) s (nI (n + 1))) := by
      intro r
      induction r with
      | zero =>
        intro i hi hlo
        have e : i = 8 := by omega
        subst e
        exact Or.inl ⟨rfl, hlo⟩
      | succ r ih =>
        intro i hi hlo
        have hi8 : i < 8 := by omega
        have hg : fX4_layLeft_L50 X b g n x33 s y i y = if (N s).testBit i = true then if y (b + 6) i = nI n then Sum.inr (hm_put y (b + 6) s (nI (n + 1))) else Sum.inr y else Sum.inr y := by
          unfold fX4_layLeft_L50
          rw [if_pos h9, same, (hN s hs).1, fb_has _ (hN s hs).2 i hi8]
        by_cases q1 : (N s).testBit i = true
        · rw [if_pos q1] at hg
          by_cases q2 : y (b + 6) i = nI n
          · rw [if_pos q2] at hg
            right
            refine ⟨⟨i, hi8, q1, q2⟩, ?_⟩
            rw [lpr_r hg]
            cases r with
            | zero => rfl
            | succ r =>
              refine lpr_l ?_
              unfold fX4_layLeft_L50
              have hne : ¬ hm_put y (b + 6) s (nI (n + 1)) (b + 6) s = -9 := by
                rw [hm_put_at]
                exact (by decide +kernel : ∀ n, n < 9 → ¬ nI n = -9) (n + 1) (by omega)
              rw [if_neg hne]
          · rw [if_neg q2] at hg
            rw [lpr_r hg]
            exact ih (i + 1) (by omega) (fun t ht htn => by
              by_cases e : t = i
              · subst e; exact q2
              · exact hlo t (by omega) htn)
        · rw [if_neg q1] at hg
          rw [lpr_r hg]
          exact ih (i + 1) (by omega) (fun t ht htn => by
            by_cases e : t = i
            · subst e; exact absurd htn q1
            · exact hlo t (by omega) htn)
    rcases key 8 0 (by omega) (fun t ht => absurd ht (Nat.not_lt_zero t)) with ⟨h1, h2⟩ | ⟨h1, h2⟩
    · exact Or.inl ⟨h1, fun _ => h2⟩
    · exact Or.inr ⟨h9, h1, h2⟩
  · left
    refine ⟨lpr_l ?_, fun q => absurd q h9⟩
    unfold fX4_layLeft_L50
    rw [if_neg h9]
theorem ll_spec {X : hm_I} {b g : Nat} {N : Nat → Nat} (hA : Acy N) (hg : g < 8) (hN : ∀ a, a < 8 → X (b + 1) (176 + a) = nI (N a) ∧ N a < 256) :
    (∀ z k, z ≠ b + 6 → fX4_layLeft X b g z k = X z k) ∧ ∀ s, s < 8 → isD N g s (fX4_layLeft X b g (b + 6) s) := by
  have fin : (∀ z k, z ≠ b + 6 → fX4_layLeft X b g z k = X z k) ∧ ∀ s, s < 8 → lvD N g 8 s (fX4_layLeft X b g (b + 6) s) := by
    unfold fX4_layLeft
    refine lp_inv (n := 8) (f := fun i33 x33 => fX4_layLeft_L33 X b g i33 x33) (fun n (y : hm_I) => (∀ z k, z ≠ b + 6 → y z k = X z k) ∧ ∀ s, s < 8 → lvD N g n s (y (b + 6) s)) ?_ (fun n y hn hy => ?_)
    · have e0 : (fun i2 (x2 : hm_I) => if i2 = g then hm_put x2 (b + 6) i2 (nI 0) else hm_put x2 (b + 6) i2 (-9)) = (fun i2 (x2 : hm_I) => hm_put x2 (b + 6) i2 (if i2 = g then nI 0 else -9)) := by
        funext i2 x2
        by_cases q : i2 = g
        · rw [if_pos q, if_pos q]
        · rw [if_neg q, if_neg q]
      rw [e0]
      have r := lp_row (b + 6) (fun i2 _ => if i2 = g then nI 0 else -9) X 8 (fun i2 => if i2 = g then nI 0 else -9) (fun i x _ _ _ _ => rfl)
      refine ⟨r.1, fun s hs => ?_⟩
      rw [r.2.1 s hs]
      by_cases q : s = g
      · rw [if_pos q]; exact Or.inl ⟨0, Nat.le_refl 0, rfl, q, fun m hm => absurd hm (Nat.not_lt_zero m)⟩
      · rw [if_neg q]; exact Or.inr ⟨rfl, fun m hm hw => q (by
          have e : m = 0 := by omega
          subst e
          exact hw)⟩
    · obtain ⟨hy1, hy2⟩ := hy
      unfold fX4_layLeft_L33
      have key := lp_inv (n := 8) (f := fun i41 x41 => fX4_layLeft_L41 X b g n y i41 x41) (x := y) (fun i (v : hm_I) => (∀ z k, z ≠ b + 6 → v z k = X z k) ∧ (∀ s, s < 8 → s < i → lvD N g (n + 1) s (v (b + 6) s)) ∧ ∀ s, s < 8 → i ≤ s → lvD N g n s (v (b + 6) s))
        ⟨hy1, fun s _ hs => absurd hs (Nat.not_lt_zero s), fun s hs _ => hy2 s hs⟩ (fun i v hi hv => ?_)
      · exact ⟨key.1, fun s hs => key.2.1 s hs hs⟩
      · obtain ⟨v1, v2, v3⟩ := hv
        have hvN : ∀ a, a < 8 → v (b + 1) (176 + a) = nI (N a) ∧ N a < 256 := fun a ha => by rw [v1 _ _ (by omega)]; exact hN a ha
        have hat : ∀ t, t < 8 → (v (b + 6) t = nI n ↔ (Wk N g n t ∧ ∀ m, m < n → ¬ Wk N g m t)) := fun t ht => by
          rcases Nat.lt_or_ge t i with q | q
          · exact lvD_at (Or.inr rfl) hn (v2 t ht q)
          · exact lvD_at (Or.inl rfl) hn (v3 t ht q)
        have hi3 := v3 i hi (Nat.le_refl i)
        rcases ll_t (X := X) (g := g) (n := n) y v hn hi hvN with ⟨e, hno⟩ | ⟨h9, ⟨t, ht, h1, h2⟩, e⟩
        · rw [e]
          refine ⟨v1, fun s hs hsi => ?_, fun s hs hsi => v3 s hs (by omega)⟩
          by_cases es : s = i
          · subst es
            rcases hi3 with ⟨k, k1, k2, k3, k4⟩ | ⟨k1, k2⟩
            · exact Or.inl ⟨k, by omega, k2, k3, k4⟩
            · refine Or.inr ⟨k1, fun m hm hw => ?_⟩
              rcases Nat.lt_or_ge n m with q | q
              · have em : m = n + 1 := by omega
                subst em
                obtain ⟨c, hc, w1, w2⟩ := hw
                refine hno k1 c hc w1 ((hat c hc).mpr ⟨w2, fun m' hm' hw' => k2 (m' + 1) (by omega) ⟨c, hc, w1, hw'⟩⟩)
              · exact k2 m q hw
          · exact v2 s hs (by omega)
        · rw [e]
          refine ⟨fun z k hz => by rw [hp_n (Or.inl hz)]; exact v1 z k hz, fun s hs hsi => ?_, fun s hs hsi => by rw [hp_n (Or.inr (by omega))]; exact v3 s hs (by omega)⟩
          by_cases es : s = i
          · subst es
            rw [hm_put_at]
            have hw := (hat t ht).mp h2
            refine Or.inl ⟨n + 1, Nat.le_refl _, rfl, ⟨t, ht, h1, hw.1⟩, fun m hm => ?_⟩
            rcases hi3 with ⟨k, k1, k2, k3, k4⟩ | ⟨k1, k2⟩
            · exact absurd (k2.symm.trans h9) (nI_n9 k (by omega))
            · exact k2 m (by omega)
          · rw [hp_n (Or.inr es)]; exact v2 s hs (by omega)
  refine ⟨fin.1, fun s hs => ?_⟩
  rcases fin.2 s hs with ⟨k, h1, h2, h3, h4⟩ | ⟨h1, h2⟩
  · rcases Nat.lt_or_ge k 8 with q | q
    · exact Or.inl ⟨k, q, h2, h3, h4⟩
    · have e : k = 8 := by omega
      subst e
      exact absurd h3 (Wk_8 hA hs hg)
  · exact Or.inr ⟨h1, fun m hm => h2 m (by omega)⟩
/-! the walk that is told -/
def frs (P : Nat → Bool) : Nat := lp 8 (fun i x => if x = 8 ∧ P i = true then i else x) 8
theorem frs_spec {P : Nat → Bool} (h : ∃ t, t < 8 ∧ P t = true) : frs P < 8 ∧ P (frs P) = true ∧ ∀ t, t < frs P → P t = false := by
  have key := lp_inv (n := 8) (f := fun i x => if x = 8 ∧ P i = true then i else x) (x := 8) (fun n x => (x = 8 ∧ ∀ t, t < n → P t = false) ∨ (x < 8 ∧ P x = true ∧ ∀ t, t < x → P t = false)) (Or.inl ⟨rfl, fun t ht => absurd ht (Nat.not_lt_zero t)⟩) (fun i x hi hx => ?_)
  · rcases key with ⟨-, h2⟩ | h2
    · obtain ⟨t, ht, h3⟩ := h
      rw [h2 t ht] at h3
      exact absurd h3 (by decide)
    · exact h2
  · rcases hx with ⟨h1, h2⟩ | ⟨h1, h2, h3⟩
    · by_cases q : P i = true
      · rw [if_pos ⟨h1, q⟩]; exact Or.inr ⟨hi, q, h2⟩
      · rw [if_neg (fun z => q z.2)]
        refine Or.inl ⟨h1, fun t ht => ?_⟩
        by_cases e : t = i
        · subst e; simpa using q
        · exact h2 t (by omega)
    · rw [if_neg (fun z => by omega)]; exact Or.inr ⟨h1, h2, h3⟩
theorem lpr_frs {g : Nat → Unit → Int32 ⊕ Unit} {P : Nat → Bool} (h : ∀ i, i < 8 → g i () = if P i = true then .inl (nI i) else .inr ()) (hx : ∃ t, t < 8 ∧ P t = true) : lpr g (fun _ => (-9 : Int32)) 8 0 () = nI (frs P) := by
  obtain ⟨f1, f2, f3⟩ := frs_spec hx
  have key : ∀ r i, i + r = 8 → i ≤ frs P → lpr g (fun _ => (-9 : Int32)) r i () = nI (frs P) := by
    intro r
    induction r with
    | zero => intro i hi hf; omega
    | succ r ih =>
      intro i hi hf
      by_cases q : i = frs P
      · rw [lpr_l ((h i (by omega)).trans (if_pos (by rw [q]; exact f2))), q]
      · rw [lpr_r ((h i (by omega)).trans (if_neg (by rw [f3 i (by omega)]; decide)))]
        exact ih (i + 1) (by omega) (by omega)
  exact key 8 0 (by omega) (Nat.zero_le _)
def wkF (I : hm_I) (o y n b0 : Nat) (N : Nat → Nat) : Nat → Nat
  | 0 => b0
  | i + 1 => frs (fun t => (N (wkF I o y n b0 N i)).testBit t && decide (fX1_distance I o t y = nI (n - (i + 1))))
theorem wkF_ex {I : hm_I} {o y n s i : Nat} {N : Nat → Nat} (h : ∀ a, a < 8 → I (o + 1) a = nI (N a) ∧ N a < 256) (hs : s < 8) (hy : y < 8) (hn : n < 8) (hi : i < n) (hd : fX1_distance I o s y = nI (n - i)) :
    ∃ t, t < 8 ∧ ((N s).testBit t && decide (fX1_distance I o t y = nI (n - (i + 1)))) = true := by
  rcases dist_X h hs hy with ⟨m, h1, h2, h3, h4⟩ | ⟨h1, h2⟩
  · have e : m = (n - (i + 1)) + 1 := by
      have := nI_inj (show m < 2 ^ 31 by omega) (show n - i < 2 ^ 31 by omega) (h2.symm.trans hd)
      omega
    rw [e] at h3 h4
    obtain ⟨c, hc, w1, w2⟩ := h3
    refine ⟨c, hc, ?_⟩
    rw [w1, Bool.true_and, decide_eq_true_iff]
    refine isD_uniq (dist_X h hc hy) (Or.inl ⟨n - (i + 1), by omega, rfl, w2, fun m' hm' hw' => h4 (m' + 1) (by omega) ⟨c, hc, w1, hw'⟩⟩)
  · exact absurd (hd.symm.trans h1) (nI_n9 _ (by omega))
theorem wkF_spec {I : hm_I} {o y n b0 : Nat} {N : Nat → Nat} (h : ∀ a, a < 8 → I (o + 1) a = nI (N a) ∧ N a < 256) (hb : b0 < 8) (hy : y < 8) (hn : n < 8) (hd : fX1_distance I o b0 y = nI n) :
    ∀ i, i ≤ n → wkF I o y n b0 N i < 8 ∧ fX1_distance I o (wkF I o y n b0 N i) y = nI (n - i) ∧ (lp i (fun i14 (x14 : Int32 × Int32) => (fX1_lowestNextAt I o x14.1 y (x14.2 + (-1)), x14.2 + (-1))) ((nI b0), (fX1_distance I o b0 y))) = (nI (wkF I o y n b0 N i), nI (n - i)) := by
  intro i
  induction i with
  | zero => intro _; exact ⟨hb, hd, by rw [lp_0, hd]; rfl⟩
  | succ i ih =>
    intro hi
    obtain ⟨a1, a2, a3⟩ := ih (by omega)
    have hx := wkF_ex h a1 hy hn (show i < n by omega) a2
    obtain ⟨f1, f2, f3⟩ := frs_spec hx
    rw [Bool.and_eq_true, decide_eq_true_iff] at f2
    refine ⟨f1, f2.2, ?_⟩
    rw [lp_s, a3]
    have em : nI (n - i) + (-1) = nI (n - (i + 1)) := by
      rw [show n - i = (n - (i + 1)) + 1 by omega, pk_m1]
    show (fX1_lowestNextAt I o (nI (wkF I o y n b0 N i)) y (nI (n - i) + (-1)), nI (n - i) + (-1)) = _
    rw [em]
    have el : fX1_lowestNextAt I o (nI (wkF I o y n b0 N i)) y (nI (n - (i + 1))) = nI (wkF I o y n b0 N (i + 1)) := by
      unfold fX1_lowestNextAt
      refine lpr_frs (fun t ht => ?_) hx
      unfold fX1_hasEdge_z fX1_hasEdge_t
      rw [if_pos (st_8 _ a1), nI_clamp (by omega), (h _ a1).1, fb_isIn _ (h _ a1).2 t ht, bI_ite]
      by_cases q1 : (N (wkF I o y n b0 N i)).testBit t = true
      · rw [if_pos q1, q1, Bool.true_and]
        by_cases q2 : fX1_distance I o t y = nI (n - (i + 1))
        · rw [if_pos q2, decide_eq_true q2, if_pos rfl]
        · rw [if_neg q2, decide_eq_false q2, if_neg (by decide)]
      · have q1' : (N (wkF I o y n b0 N i)).testBit t = false := by simpa using q1
        rw [if_neg q1, q1', Bool.false_and, if_neg (by decide)]
    rw [el]
