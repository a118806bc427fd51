/-! part 56: witnesses are walks -/
theorem Wk_lt8 {N : Nat → Nat} (hN : Acy N) {s g m : Nat} (hs : s < 8) (hg : g < 8) (h : Wk N g m s) : m < 8 := by
  rcases Nat.lt_or_ge m 8 with q | q
  · exact q
  · have h1 := Wk_lev hs m g hg h 8 (by omega)
    rw [lev_8 hN (by decide) g hg] at h1
    exact absurd h1 (by decide)
theorem Wk_app {N : Nat → Nat} {c g : Nat} : ∀ m s m', Wk N c m s → Wk N g m' c → Wk N g (m + m') s := by
  intro m
  induction m with
  | zero =>
    intro s m' h1 h2
    have e : s = c := h1
    rw [e, Nat.zero_add]; exact h2
  | succ m ih =>
    intro s m' h1 h2
    obtain ⟨d, hd, h3, h4⟩ := h1
    rw [Nat.succ_add]
    exact ⟨d, hd, h3, ih d m' h4 h2⟩
theorem clo_Wk {N : Nat → Nat} (hN8 : ∀ a, a < 8 → N a < 256) {s g : Nat} (hs : s < 8) (h : (clo N s).testBit g = true) : ∃ m, 0 < m ∧ Wk N g m s := by
  refine clo_least (fun a b => ∃ m, 0 < m ∧ Wk N b m a) (fun a b ha hb => ?_) (fun a c b _ _ h1 h2 => ?_) s g hs h
  · have hb8 : b < 8 := by
      rcases Nat.lt_or_ge b 8 with q | q
      · exact q
      · rw [tb_big (hN8 a ha) q] at hb; exact absurd hb (by decide)
    exact ⟨1, by decide, b, hb8, hb, rfl⟩
  · obtain ⟨m, hm, w1⟩ := h1
    obtain ⟨m', hm', w2⟩ := h2
    exact ⟨m + m', by omega, Wk_app m a m' w1 w2⟩
theorem Wk_clo {N : Nat → Nat} {g : Nat} : ∀ m s, s < 8 → Wk N g (m + 1) s → (clo N s).testBit g = true := by
  intro m
  induction m with
  | zero =>
    intro s hs h
    obtain ⟨c, hc, h1, h2⟩ := h
    have e : c = g := h2
    rw [← e]; exact clo_mono N s c h1
  | succ m ih =>
    intro s hs h
    obtain ⟨c, hc, h1, h2⟩ := h
    exact clo_trans N s c g hc (clo_mono N s c h1) (ih c hc h2)
theorem rel_12 {N : Nat → Nat} {i j : Nat} (h : (clo N i).testBit j = true) : relN N i j = if (N i).testBit j = true then 1 else 2 := by
  unfold relN
  rw [if_pos h]
theorem rel_no {N : Nat → Nat} {i j : Nat} (h : ¬ (clo N i).testBit j = true) : relN N i j ≠ 1 ∧ relN N i j ≠ 2 := by
  unfold relN
  rw [if_neg h]
  repeat' split
  all_goals decide
theorem rel_le (N : Nat → Nat) (i j : Nat) : relN N i j ≤ 4 := by
  unfold relN
  repeat' split
  all_goals decide
/-- there is no walk -/
theorem wit_none {N : Nat → Nat} (hA : Acy N) (hN8 : ∀ a, a < 8 → N a < 256) {a b : Nat} (ha : a < 8) (hb : b < 8) (h : dsN N b a = -9) : relN N b a ≠ 1 ∧ relN N b a ≠ 2 := by
  refine rel_no (fun z => ?_)
  obtain ⟨m, hm, hw⟩ := clo_Wk hN8 hb z
  have h8 := Wk_lt8 hA hb ha hw
  rcases dsN_ok hN8 hb ha with ⟨n, h1, h2, -⟩ | ⟨-, h2⟩
  · exact nI_n9 n h1 (h2.symm.trans h)
  · exact h2 m h8 hw
/-- the walk that is told -/
theorem wit_walk {N : Nat → Nat} (hA : Acy N) (hN8 : ∀ a, a < 8 → N a < 256) {a b : Nat} (ha : a < 8) (hb : b < 8) (hne : a ≠ b) (h : ¬ dsN N b a = -9) :
    ∃ n, 0 < n ∧ n < 8 ∧ dsN N b a = nI n ∧ (clo N b).testBit a = true ∧ (relN N b a = 1 ↔ n = 1) ∧ (∀ k, k ≤ n → wlk N a n b k < 8 ∧ fWit N a b k = nI (wlk N a n b k)) ∧ wlk N a n b 0 = b ∧ wlk N a n b n = a ∧ fWit N a b (n + 1) = -9 ∧
      ∀ k, k < n → wlk N a n b k ≠ wlk N a n b (k + 1) ∧ relN N (wlk N a n b k) (wlk N a n b (k + 1)) = 1 := by
  have hI : ∀ z, z < 8 → cI N (0 + 1) z = nI (N z) ∧ N z < 256 := fun z hz => ⟨rfl, hN8 z hz⟩
  rcases dsN_ok hN8 hb ha with ⟨n, h1, h2, h3, h4⟩ | ⟨h1, -⟩
  · have hn : 0 < n := by
      rcases Nat.eq_zero_or_pos n with q | q
      · subst q
        have e : b = a := h3
        exact absurd e.symm hne
      · exact q
    obtain ⟨n', rfl⟩ : ∃ n', n = n' + 1 := ⟨n - 1, by omega⟩
    have hc := Wk_clo n' b hb h3
    have hw := wkF_spec hI hb ha h1 h2
    refine ⟨n' + 1, hn, h1, h2, hc, ?_, fun k hk => ⟨(hw k hk).1, ?_⟩, rfl, ?_, ?_, fun k hk => ?_⟩
    · rw [rel_12 hc]
      by_cases q : (N b).testBit a = true
      · rw [if_pos q]
        refine ⟨fun _ => ?_, fun _ => rfl⟩
        rcases Nat.lt_or_ge 1 (n' + 1) with z | z
        · exact absurd ⟨a, ha, q, rfl⟩ (h4 1 z)
        · omega
      · rw [if_neg q]
        refine ⟨fun z => absurd z (by decide), fun z => ?_⟩
        rw [z] at h3
        obtain ⟨c, _, w1, w2⟩ := h3
        have e : c = a := w2
        rw [e] at w1
        exact absurd w1 q
    · unfold fWit
      rw [h2, if_neg (nI_n9 _ h1), if_pos (nI_le hk (by omega)), nI_clamp (by omega)]
    · have hd := (hw (n' + 1) (Nat.le_refl _)).2.1
      rw [Nat.sub_self] at hd
      rcases dsN_ok hN8 (hw (n' + 1) (Nat.le_refl _)).1 ha with ⟨m, m1, m2, m3, -⟩ | ⟨m1, -⟩
      · have : m = 0 := nI_inj (by omega) (by decide) (m2.symm.trans hd)
        subst this
        exact m3
      · exact absurd (hd.symm.trans m1) (by decide)
    · unfold fWit
      rw [h2, if_neg (nI_n9 _ h1), if_neg (nI_ge (by omega) (by omega))]
    · have hx := wkF_ex hI (hw k (by omega)).1 ha h1 hk (hw k (by omega)).2.1
      obtain ⟨f1, f2, -⟩ := frs_spec hx
      rw [Bool.and_eq_true] at f2
      have he : (N (wlk N a (n' + 1) b k)).testBit (wlk N a (n' + 1) b (k + 1)) = true := f2.1
      have hcl := clo_mono N _ _ he
      refine ⟨fun z => ?_, ?_⟩
      · have hlt : wlk N a (n' + 1) b k < 8 := (hw k (by omega)).1
        rw [← z, hA _ hlt] at hcl
        exact absurd hcl (by decide)
      · rw [rel_12 hcl, if_pos he]
  · exact absurd h1 h
/-- an edge that would close a cycle -/
theorem op_cycle {i i' n t : Nat} {w : Nat → Int32} {P Q : Nat → Nat → Int32} {kp : Nat → Bool} (hi : i < 8) (hi' : i' < 8) (hne : i ≠ i') (hcy : (clo (mk w 176) i').testBit i = true) : OpX yX3_edge wsX3_edge [.int (nI i), .int (nI i'), .int (nI 1)] t t (n, w, P, Q, kp) (.int (-4)) (n, w, P, Q, kp) := by
  intro l D T L A x Sh I J hI
  have gs := hI
  obtain ⟨p, f, h, m, k, j, hs, im, g⟩ := hI
  change GIx L Sh I x p f h m k j hs im n w P Q kp t at g
  have hWs := c_wfsx g
  obtain ⟨gX, gA, gG, gx, gF⟩ := g
  have hO := gG.2.1.2.2.1.1
  have hx3 := ctX3_edge_c (l := l) (D := D) (T := T) (L := L) (A := A) (Sh := Sh) (J := J) gX gA hWs gx.1 gG.1 hi hi' hne ((RelO_pre hO gx.2.1.2.2.1.1 hi' hi).trans hcy)
  exact ⟨Sh, I, J, CtR.mk hx3 (by decide) (by decide) rfl, gs⟩
/-! relations -/
theorem rel_back {N : Nat → Nat} (hA : Acy N) {i j : Nat} (hi : i < 8) (hj : j < 8) :
    (relN N i j = 0 → relN N j i = 0) ∧ (0 < relN N i j → relN N i j < 3 → relN N j i = relN N i j + 2) ∧ (3 ≤ relN N i j → relN N i j = relN N j i + 2) := by
  have hno : (clo N i).testBit j = true → ¬ (clo N j).testBit i = true := fun h1 h2 => by
    have := clo_trans N i j i hj h1 h2
    rw [hA i hi] at this
    exact absurd this (by decide)
  unfold relN
  by_cases h1 : (clo N i).testBit j = true
  · rw [if_pos h1, if_neg (hno h1), if_pos h1]
    by_cases h2 : (N i).testBit j = true
    · rw [if_pos h2, if_pos h2]; omega
    · rw [if_neg h2, if_neg h2]; omega
  · rw [if_neg h1, if_neg h1]
    by_cases h3 : (clo N j).testBit i = true
    · rw [if_pos h3, if_pos h3]
      by_cases h2 : (N j).testBit i = true
      · rw [if_pos h2, if_pos h2]; omega
      · rw [if_neg h2, if_neg h2]; omega
    · rw [if_neg h3, if_neg h3]; omega
theorem rel_iff {N : Nat → Nat} {i j : Nat} : (0 < relN N i j ∧ relN N i j < 3) ↔ (clo N i).testBit j = true := by
  unfold relN
  by_cases h1 : (clo N i).testBit j = true
  · rw [if_pos h1]
    by_cases h2 : (N i).testBit j = true
    · rw [if_pos h2]; exact ⟨fun _ => h1, fun _ => by omega⟩
    · rw [if_neg h2]; exact ⟨fun _ => h1, fun _ => by omega⟩
  · rw [if_neg h1]
    refine ⟨fun h => ?_, fun h => absurd h h1⟩
    exfalso
    revert h
    repeat' split
    all_goals omega
theorem rel_iff3 {N : Nat → Nat} (hA : Acy N) {i j : Nat} (hi : i < 8) (hj : j < 8) : 3 ≤ relN N i j ↔ (clo N j).testBit i = true := by
  obtain ⟨b1, b2, b3⟩ := rel_back hA hi hj
  obtain ⟨c1, c2, c3⟩ := rel_back hA hj hi
  rw [← rel_iff]
  have := rel_le N i j
  have := rel_le N j i
  constructor
  · intro h; have := b3 h; omega
  · intro h; have := c2 h.1 h.2; omega
