/-! part 41: shortest walks -/
def Wk (N : Nat → Nat) (g : Nat) : Nat → Nat → Prop
  | 0, s => s = g
  | n + 1, s => ∃ c, c < 8 ∧ (N s).testBit c = true ∧ Wk N g n c
theorem Wk_snoc {N : Nat → Nat} {c g : Nat} (hg : g < 8) (h : (N c).testBit g = true) : ∀ m s, Wk N c m s → Wk N g (m + 1) s := by
  intro m
  induction m with
  | zero =>
    intro s hs
    have e : s = c := hs
    subst e
    exact ⟨g, hg, h, rfl⟩
  | succ m ih =>
    intro s hs
    obtain ⟨d, hd, h1, h2⟩ := hs
    exact ⟨d, hd, h1, ih d h2⟩
theorem Wk_unsnoc {N : Nat → Nat} {g : Nat} : ∀ m s, s < 8 → Wk N g (m + 1) s → ∃ c, c < 8 ∧ Wk N c m s ∧ (N c).testBit g = true := by
  intro m
  induction m with
  | zero =>
    intro s hs h
    obtain ⟨d, hd, h1, h2⟩ := h
    have e : d = g := h2
    subst e
    exact ⟨s, hs, rfl, h1⟩
  | succ m ih =>
    intro s hs h
    obtain ⟨d, hd, h1, h2⟩ := h
    obtain ⟨c, hc, h3, h4⟩ := ih d hd h2
    exact ⟨c, hc, ⟨d, hd, h1, h3⟩, h4⟩
theorem Wk_lev {N : Nat → Nat} {s : Nat} (hs : s < 8) : ∀ n g, g < 8 → Wk N g n s → ∀ i, i < n + 1 → (lev (clo N) 255 i).testBit g = true := by
  intro n
  induction n with
  | zero =>
    intro g hg h i hi
    have e : i = 0 := by omega
    subst e
    exact tb_255 g hg
  | succ n ih =>
    intro g hg h
    obtain ⟨c, hc, h1, h2⟩ := Wk_unsnoc n s hs h
    exact lev_up (clo N) (by decide) hc hg (tb_255 g hg) (clo_mono N c g h2) (ih c hc h1)
theorem Wk_8 {N : Nat → Nat} (hN : Acy N) {s g : Nat} (hs : s < 8) (hg : g < 8) : ¬ Wk N g 8 s := fun h => by
  have h1 := Wk_lev hs 8 g hg h 8 (by omega)
  rw [lev_8 hN (by decide) g hg] at h1
  exact absurd h1 (by decide)
/-- d is the number of edges of a shortest walk from s to g; -9 for none -/
def isD (N : Nat → Nat) (g s : Nat) (d : Int32) : Prop := (∃ n, n < 8 ∧ d = nI n ∧ Wk N g n s ∧ ∀ m, m < n → ¬ Wk N g m s) ∨ (d = -9 ∧ ∀ m, m < 8 → ¬ Wk N g m s)
theorem isD_uniq {N : Nat → Nat} {g s : Nat} {d d' : Int32} (h : isD N g s d) (h' : isD N g s d') : d = d' := by
  rcases h with ⟨n, h1, h2, h3, h4⟩ | ⟨h1, h2⟩ <;> rcases h' with ⟨n', h1', h2', h3', h4'⟩ | ⟨h1', h2'⟩
  · have e : n = n' := by
      rcases Nat.lt_or_ge n n' with q | q
      · exact absurd h3 (h4' n q)
      · rcases Nat.lt_or_ge n' n with q2 | q2
        · exact absurd h3' (h4 n' q2)
        · omega
    rw [h2, h2', e]
  · exact absurd h3 (h2' n h1)
  · exact absurd h3' (h2 n' h1')
  · rw [h1, h1']
def rch (N : Nat → Nat) (x i : Nat) : Nat := lp i (fun _ u => u ||| latN N u) (2 ^ x)
theorem rch_lt {N : Nat → Nat} (hN : ∀ a, a < 8 → N a < 256) {x : Nat} (hx : x < 8) (i : Nat) : rch N x i < 256 :=
  lp_inv (n := i) (f := fun _ u => u ||| latN N u) (x := 2 ^ x) (fun _ u => u < 256) (pow_256 x hx) (fun _ u _ hu => m_or hu (latN_spec hN u).1)
theorem rch_tb {N : Nat → Nat} (hN : ∀ a, a < 8 → N a < 256) {x : Nat} (hx : x < 8) : ∀ i y, y < 8 → ((rch N x i).testBit y = true ↔ ∃ m, m ≤ i ∧ Wk N y m x) := by
  intro i
  induction i with
  | zero =>
    intro y hy
    rw [show rch N x 0 = 2 ^ x from rfl, tb_pow x hx y hy, decide_eq_true_iff]
    constructor
    · intro h; exact ⟨0, Nat.le_refl 0, h⟩
    · rintro ⟨m, hm, h⟩
      have e : m = 0 := by omega
      subst e
      exact h
  | succ i ih =>
    intro y hy
    rw [show rch N x (i + 1) = rch N x i ||| latN N (rch N x i) from rfl, Nat.testBit_or, Bool.or_eq_true, (latN_spec hN _).2 y hy, exB_iff, ih y hy]
    constructor
    · rintro (⟨m, hm, h⟩ | ⟨c, hc, h⟩)
      · exact ⟨m, by omega, h⟩
      · rw [Bool.and_eq_true] at h
        obtain ⟨m, hm, h2⟩ := (ih c hc).mp h.1
        exact ⟨m + 1, by omega, Wk_snoc hy h.2 m x h2⟩
    · rintro ⟨m, hm, h⟩
      rcases Nat.lt_or_ge i m with q | q
      · have e : m = i + 1 := by omega
        subst e
        obtain ⟨c, hc, h1, h2⟩ := Wk_unsnoc i x hx h
        exact Or.inr ⟨c, hc, by rw [(ih c hc).mpr ⟨i, Nat.le_refl i, h1⟩, h2]; rfl⟩
      · exact Or.inl ⟨m, q, h⟩
theorem nextall_X {I : hm_I} {o u : Nat} {N : Nat → Nat} (h : ∀ a, a < 8 → I (o + 1) a = nI (N a) ∧ N a < 256) (hu : u < 256) : fX1_nextOfAll I o (nI u) = nI (latN N u) := by
  unfold fX1_nextOfAll latN
  refine lq_rel (n := 8) (fun _ x y => x = nI y) rfl (fun i x y hi hxy => ?_)
  simp only [fb_isIn u hu i hi, (h i hi).1, hxy, fa_or]
  by_cases q : u.testBit i = true
  · rw [if_pos q, if_pos q]
  · rw [if_neg q, if_neg q]
theorem dist_X {I : hm_I} {o x y : Nat} {N : Nat → Nat} (h : ∀ a, a < 8 → I (o + 1) a = nI (N a) ∧ N a < 256) (hx : x < 8) (hy : y < 8) : isD N y x (fX1_distance I o x y) := by
  have hN : ∀ a, a < 8 → N a < 256 := fun a ha => (h a ha).2
  unfold fX1_distance
  rw [fb_setOf x hx]
  have key : ∀ r i, i + r = 8 → (∀ m, m < i → ¬ Wk N y m x) → isD N y x (lpr (fun (i8 : Nat) (x8 : Int32) => (if fX3_isIn x8 (nI y) = true then Sum.inl (nI i8) else Sum.inr (x8 ||| (fX1_nextOfAll I o x8)) : Int32 ⊕ (Int32))) (fun (x8 : Int32) => ((-9) : Int32)) r i (nI (rch N x i))) := by
    intro r
    induction r with
    | zero =>
      intro i hi hlo
      have e : i = 8 := by omega
      subst e
      exact Or.inr ⟨rfl, hlo⟩
    | succ r ih =>
      intro i hi hlo
      have hl := rch_lt hN hx i
      by_cases q : (rch N x i).testBit y = true
      · rw [lpr_l (v := nI i) (by rw [fb_isIn _ hl y hy, if_pos q])]
        obtain ⟨m, hm, hw⟩ := (rch_tb hN hx i y hy).mp q
        have e : m = i := by
          rcases Nat.lt_or_ge m i with z | z
          · exact absurd hw (hlo m z)
          · omega
        subst e
        exact Or.inl ⟨m, by omega, rfl, hw, hlo⟩
      · rw [lpr_r (y := nI (rch N x (i + 1))) (by rw [fb_isIn _ hl y hy, if_neg q, nextall_X h hl, fa_or]; rfl)]
        refine ih (i + 1) (by omega) (fun m hm hw => q ((rch_tb hN hx i y hy).mpr ⟨m, by omega, hw⟩))
  exact key 8 0 (by omega) (fun m hm => absurd hm (Nat.not_lt_zero m))
/-! the walk that is told -/
def frs (P : Nat → Bool) : Nat := lp 8 (fun i x => if x = 8 ∧ P i = true then i else x) 8
theorem frs_spec {P : Nat → Bool} (h : ∃ t, t < 8 ∧ P t = true) : frs P < 8 ∧ P (frs P) = true ∧ ∀ t, t < frs P → P t = false := by
  have key := lp_inv (n := 8) (f := fun i x => if x = 8 ∧ P i = true then i else x) (x := 8) (fun n x => (x = 8 ∧ ∀ t, t < n → P t = false) ∨ (x < 8 ∧ P x = true ∧ ∀ t, t < x → P t = false)) (Or.inl ⟨rfl, fun t ht => absurd ht (Nat.not_lt_zero t)⟩) (fun i x hi hx => ?_)
  · rcases key with ⟨-, h2⟩ | h2
    · obtain ⟨t, ht, h3⟩ := h
      rw [h2 t ht] at h3
      exact absurd h3 (by decide)
    · exact h2
  · rcases hx with ⟨h1, h2⟩ | ⟨h1, h2, h3⟩
    · by_cases q : P i = true
      · rw [if_pos ⟨h1, q⟩]; exact Or.inr ⟨hi, q, h2⟩
      · rw [if_neg (fun z => q z.2)]
        refine Or.inl ⟨h1, fun t ht => ?_⟩
        by_cases e : t = i
        · subst e; simpa using q
        · exact h2 t (by omega)
    · rw [if_neg (fun z => by omega)]; exact Or.inr ⟨h1, h2, h3⟩
theorem lpr_frs {g : Nat → Unit → Int32 ⊕ Unit} {P : Nat → Bool} (h : ∀ i, i < 8 → g i () = if P i = true then .inl (nI i) else .inr ()) (hx : ∃ t, t < 8 ∧ P t = true) : lpr g (fun _ => (-9 : Int32)) 8 0 () = nI (frs P) := by
  obtain ⟨f1, f2, f3⟩ := frs_spec hx
  have key : ∀ r i, i + r = 8 → i ≤ frs P → lpr g (fun _ => (-9 : Int32)) r i () = nI (frs P) := by
    intro r
    induction r with
    | zero => intro i hi hf; omega
    | succ r ih =>
      intro i hi hf
      by_cases q : i = frs P
      · rw [lpr_l ((h i (by omega)).trans (if_pos (by rw [q]; exact f2))), q]
      · rw [lpr_r ((h i (by omega)).trans (if_neg (by rw [f3 i (by omega)]; decide)))]
        exact ih (i + 1) (by omega) (by omega)
  exact key 8 0 (by omega) (Nat.zero_le _)
def wkF (I : hm_I) (o y n b0 : Nat) (N : Nat → Nat) : Nat → Nat
  | 0 => b0
  | i + 1 => frs (fun t => (N (wkF I o y n b0 N i)).testBit t && decide (fX1_distance I o t y = nI (n - (i + 1))))
theorem wkF_ex {I : hm_I} {o y n s i : Nat} {N : Nat → Nat} (h : ∀ a, a < 8 → I (o + 1) a = nI (N a) ∧ N a < 256) (hs : s < 8) (hy : y < 8) (hn : n < 8) (hi : i < n) (hd : fX1_distance I o s y = nI (n - i)) :
    ∃ t, t < 8 ∧ ((N s).testBit t && decide (fX1_distance I o t y = nI (n - (i + 1)))) = true := by
  rcases dist_X h hs hy with ⟨m, h1, h2, h3, h4⟩ | ⟨h1, h2⟩
  · have e : m = (n - (i + 1)) + 1 := by
      have := nI_inj (show m < 2 ^ 31 by omega) (show n - i < 2 ^ 31 by omega) (h2.symm.trans hd)
      omega
    rw [e] at h3 h4
    obtain ⟨c, hc, w1, w2⟩ := h3
    refine ⟨c, hc, ?_⟩
    rw [w1, Bool.true_and, decide_eq_true_iff]
    refine isD_uniq (dist_X h hc hy) (Or.inl ⟨n - (i + 1), by omega, rfl, w2, fun m' hm' hw' => h4 (m' + 1) (by omega) ⟨c, hc, w1, hw'⟩⟩)
  · exact absurd (hd.symm.trans h1) (nI_n9 _ (by omega))
theorem wkF_spec {I : hm_I} {o y n b0 : Nat} {N : Nat → Nat} (h : ∀ a, a < 8 → I (o + 1) a = nI (N a) ∧ N a < 256) (hb : b0 < 8) (hy : y < 8) (hn : n < 8) (hd : fX1_distance I o b0 y = nI n) :
    ∀ i, i ≤ n → wkF I o y n b0 N i < 8 ∧ fX1_distance I o (wkF I o y n b0 N i) y = nI (n - i) ∧ (lp i (fun i14 (x14 : Int32 × Int32) => (fX1_lowestNextAt I o x14.1 y (x14.2 + (-1)), x14.2 + (-1))) ((nI b0), (fX1_distance I o b0 y))) = (nI (wkF I o y n b0 N i), nI (n - i)) := by
  intro i
  induction i with
  | zero => intro _; exact ⟨hb, hd, by rw [lp_0, hd]; rfl⟩
  | succ i ih =>
    intro hi
    obtain ⟨a1, a2, a3⟩ := ih (by omega)
    have hx := wkF_ex h a1 hy hn (show i < n by omega) a2
    obtain ⟨f1, f2, f3⟩ := frs_spec hx
    rw [Bool.and_eq_true, decide_eq_true_iff] at f2
    refine ⟨f1, f2.2, ?_⟩
    rw [lp_s, a3]
    have em : nI (n - i) + (-1) = nI (n - (i + 1)) := by
      rw [show n - i = (n - (i + 1)) + 1 by omega, pk_m1]
    show (fX1_lowestNextAt I o (nI (wkF I o y n b0 N i)) y (nI (n - i) + (-1)), nI (n - i) + (-1)) = _
    rw [em]
    have el : fX1_lowestNextAt I o (nI (wkF I o y n b0 N i)) y (nI (n - (i + 1))) = nI (wkF I o y n b0 N (i + 1)) := by
      unfold fX1_lowestNextAt
      refine lpr_frs (fun t ht => ?_) hx
      unfold fX1_hasEdge_z fX1_hasEdge_t
      rw [if_pos (st_8 _ a1), nI_clamp (by omega), (h _ a1).1, fb_isIn _ (h _ a1).2 t ht, bI_ite]
      by_cases q1 : (N (wkF I o y n b0 N i)).testBit t = true
      · rw [if_pos q1, q1, Bool.true_and]
        by_cases q2 : fX1_distance I o t y = nI (n - (i + 1))
        · rw [if_pos q2, decide_eq_true q2, if_pos rfl]
        · rw [if_neg q2, decide_eq_false q2, if_neg (by decide)]
      · have q1' : (N (wkF I o y n b0 N i)).testBit t = false := by simpa using q1
        rw [if_neg q1, q1', Bool.false_and, if_neg (by decide)]
    rw [el]
