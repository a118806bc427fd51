/-! part 49: relation, order, lists, witness -/
/-- an order that is asked of: the number, and where its row stands -/
def EpOk (w : Nat → Int32) (e0 : Int32) (r : Nat) : Prop := (e0 = -1 ∧ r = 176) ∨ ∃ e, e ≤ epM w ∧ e0 = nI e ∧ r = 185 + 8 * e
theorem EpOk_ord {w : Nat → Int32} {t r : Nat} {e0 : Int32} (hG : Good w t) (hE : EpOk w e0 r) : OrdOk w r := by
  rcases hE with ⟨-, rfl⟩ | ⟨e, he, -, rfl⟩
  · exact hG.2.2.1.1
  · exact hG.2.2.1.2 e he
def relN (N : Nat → Nat) (i j : Nat) : Nat := if (clo N i).testBit j = true then (if (N i).testBit j = true then 1 else 2) else if (clo N j).testBit i = true then (if (N j).testBit i = true then 3 else 4) else 0
theorem rel_of {I : hm_I} {o r : Nat} {w : Nat → Int32} (hO : OrdOk w r) (h : RelO I o w r) {i j : Nat} (hi : i < 8) (hj : j < 8) :
    (if fX1_precedes_t I o i j = true then if fX1_hasEdge_t I o i j = true then nI 1 else nI 2 else if fX1_precedes_t I o j i = true then if fX1_hasEdge_t I o j i = true then nI 3 else nI 4 else nI 0) = nI (relN (mk w r) i j) := by
  rw [RelO_pre hO h hi hj, RelO_pre hO h hj hi, RelO_edge hO h hi hj, RelO_edge hO h hj hi]
  unfold relN
  repeat' split
  all_goals rfl
theorem isIn_ep {e ep : Nat} (hep : ep ≤ 9) (he : e ≤ ep) : fX4_isIn (nI e) (-1) (nI ep) = true := by
  have hm1 : (-1 : Int32).toInt = -1 := by decide
  unfold fX4_isIn
  rw [if_neg (by rw [Int32.lt_iff_toInt_lt, nI_toInt (by omega), hm1]; omega), if_neg (nI_nlt he (by omega))]
theorem isEp_of {e ep : Nat} (hep : ep ≤ 9) (he : e ≤ ep) : fX3_isEpochOrDraft (ep + 1) (nI e) = true := by
  rcases order_cases (nI e) hep with ⟨-, q⟩ | ⟨-, q, -⟩ | ⟨e', -, -, q, -⟩
  · exact absurd ((isIn_ep hep he).symm.trans q) (by decide)
  · exact q
  · exact q
theorem op_relation {e0 : Int32} {r i j : Nat} (hi : i < 8) (hj : j < 8) (hne : i ≠ j) {n t : Nat} {w : Nat → Int32} {P Q : Nat → Nat → Int32} {kp : Nat → Bool} (hE : EpOk w e0 r) : OpX yX3_relation wsX3_relation [.int e0, .int (nI i), .int (nI j)] t t (n, w, P, Q, kp) (.int (nI (relN (mk w r) i j))) (n, w, P, Q, kp) := by
  intro l D T L A x Sh I J hI
  have gs := hI
  obtain ⟨p, f, h, m, k, j, hs, im, g⟩ := hI
  change GIx L Sh I x p f h m k j hs im n w P Q kp t at g
  have hWs := c_wfsx g
  have g0 := g
  obtain ⟨gX, gA, gG, gx, gF⟩ := g
  have hr := gx.2.1
  have hep := good_ep gG.2.1
  rcases hE with ⟨rfl, rfl⟩ | ⟨e, he, rfl, rfl⟩
  · exact ⟨Sh, I, J, CtR.mk (ctX3_relation_d gX gA hWs rfl hi hj hne) (by decide) (by decide) (congrArg (fun v => some (Value.int v)) (rel_of gG.2.1.2.2.1.1 hr.2.2.1.1 hi hj)), gs⟩
  · have o1 := isEp_of hep he
    exact ⟨Sh, I, J, CtR.mk (ctX3_relation_t gX gA hWs (show e < epM w + 1 by omega) o1 hi hj hne) (by decide) (by decide) (congrArg (fun v => some (Value.int v)) (rel_of (gG.2.1.2.2.1.2 e he) (hr.2.2.1.2.1 e he) hi hj)), gs⟩
/-! numbers of an order -/
def pairN (C : Nat → Nat) (U : Nat) : Nat := lp 8 (fun a n => if U.testBit a = true then n + pcN (C a &&& U) else n) 0
theorem pairs_X {I : hm_I} {o U : Nat} {N : Nat → Nat} (h : ClO I o N) (hU : U < 256) : fX1_pairsAmong I o (nI U) = nI (pairN (clo N) U) := by
  unfold fX1_pairsAmong pairN
  refine lq_rel (n := 8) (fun _ x y => x = nI y) rfl (fun i x y hi hxy => ?_)
  have hc := (h i hi).2.2
  rw [fb_isIn _ hU i hi, hc.1, fa_and, fb_cnt _ (m_and hc.2), (pcN_spec _ (m_and hc.2)).1, hxy]
  by_cases q : U.testBit i = true
  · rw [if_pos q, if_pos q, nI_add]
  · rw [if_neg q, if_neg q]
/-- a memory that holds an order -/
def cI (N : Nat → Nat) : hm_I := fun z a => if z = 1 then nI (N a) else nI (clo N a)
theorem cI_ok {N : Nat → Nat} (hN : ∀ a, a < 8 → N a < 256) : ClO (cI N) 0 N := fun a ha => ⟨rfl, hN a ha, rfl, clo_lt hN a ha⟩
def lonN (N : Nat → Nat) (U : Nat) : Int32 := fX1_longestChainAmong (cI N) 0 (nI U)
theorem lev_uniq {C : Nat → Nat} {U k k' : Nat} (h1 : ∀ i, i < k → ¬ lev C U i = 0) (h2 : lev C U k = 0) (h1' : ∀ i, i < k' → ¬ lev C U i = 0) (h2' : lev C U k' = 0) : k = k' := by
  rcases Nat.lt_trichotomy k k' with q | q | q
  · exact absurd h2 (h1' k q)
  · exact q
  · exact absurd h2' (h1 k' q)
theorem lon_X {I : hm_I} {o U : Nat} {N : Nat → Nat} (h : ClO I o N) (hN : Acy N) (hU : U < 256) : fX1_longestChainAmong I o (nI U) = lonN N U := by
  obtain ⟨k, -, e, h1, h2⟩ := long_X h hN hU
  obtain ⟨k', -, e', h1', h2'⟩ := long_X (cI_ok (fun a ha => (h a ha).2.1)) hN hU
  unfold lonN
  rw [e, e', lev_uniq h1 h2 h1' h2']
def widN (C : Nat → Nat) (U : Nat) : Nat := lp 256 (fun i x => if i &&& (255 ^^^ U) = 0 then if pcN i ≤ x then x else if fstN C i = i then pcN i else x else x) 0
theorem wid_X {I : hm_I} {o U : Nat} {N : Nat → Nat} (h : ClO I o N) : fX1_widestChoiceAmong I o (nI U) = nI (widN (clo N) U) := by
  unfold fX1_widestChoiceAmong widN
  refine (lq_rel (n := 256) (fun _ x y => x = nI y ∧ y ≤ 8) ⟨rfl, Nat.zero_le 8⟩ (fun i x y hi hxy => ?_)).1
  have hp := pcN_spec i hi
  have hz : (nI i &&& (nI U ^^^ (-1)) = 0) ↔ i &&& (255 ^^^ U) = 0 := by
    rw [fb_not (b := U) hi]
    have hlt : i &&& (255 ^^^ U) < 256 := m_and hi
    exact ⟨fun q => nI_inj (by omega) (by decide) (q.trans nI_0.symm), fun q => by rw [q]; exact nI_0⟩
  have hf := (fstN_spec (clo N) hi).1
  rw [fb_cnt _ hi, hp.1, first_X h hi, hxy.1]
  by_cases q1 : i &&& (255 ^^^ U) = 0
  · rw [if_pos (hz.mpr q1), if_pos q1]
    by_cases q2 : pcN i ≤ y
    · rw [if_pos (nI_le q2 (by omega)), if_pos q2]; exact ⟨rfl, hxy.2⟩
    · rw [if_neg (nI_ge (by omega) (by omega)), if_neg q2]
      by_cases q3 : fstN (clo N) i = i
      · rw [if_pos (congrArg nI q3), if_pos q3]; exact ⟨rfl, hp.2.1⟩
      · rw [if_neg (fun z => q3 (nI_inj (by omega) (by omega) z)), if_neg q3]; exact ⟨rfl, hxy.2⟩
  · rw [if_neg (fun z => q1 (hz.mp z)), if_neg q1]; exact ⟨rfl, hxy.2⟩
/-- what order answers (but for what 4) -/
def fOrd (N : Nat → Nat) (U q : Nat) : Int32 := match q with
  | 0 => nI (pairN (clo N) U)
  | 1 => lonN N U
  | 2 => nI (widN (clo N) U)
  | _ => nI (pcN (fstN (clo N) U))
theorem fst_X {I : hm_I} {o U : Nat} {N : Nat → Nat} (h : ClO I o N) (hU : U < 256) : fJ6_bitCount_0f7a4 (fX1_firstOf I o (nI U)) = nI (pcN (fstN (clo N) U)) := by
  have hf := (fstN_spec (clo N) hU).1
  rw [first_X h hU, fb_cnt _ hf, (pcN_spec _ hf).1]
theorem op_order {e0 : Int32} {r q : Nat} (hq : q < 4) {n t : Nat} {w : Nat → Int32} {P Q : Nat → Nat → Int32} {kp : Nat → Bool} (hE : EpOk w e0 r) : OpX yX3_order wsX3_order [.int e0, .int (nI q)] t t (n, w, P, Q, kp) (.int (fOrd (mk w r) (osM w) q)) (n, w, P, Q, kp) := by
  intro l D T L A x Sh I J hI
  have gs := hI
  obtain ⟨p, f, h, m, k, j, hs, im, g⟩ := hI
  change GIx L Sh I x p f h m k j hs im n w P Q kp t at g
  have hWs := c_wfsx g
  have g0 := g
  obtain ⟨gX, gA, gG, gx, gF⟩ := g
  have hr := gx.2.1
  have hep := good_ep gG.2.1
  have hp0 := hr.1.1
  have hU := (osM_spec w).1
  have hO := EpOk_ord gG.2.1 hE
  have e : q = 0 ∨ q = 1 ∨ q = 2 ∨ q = 3 := by omega
  rcases hE with ⟨rfl, rfl⟩ | ⟨e', he, rfl, rfl⟩
  · have hCl := ClO_of hO hr.2.2.1.1
    rcases e with e | e | e | e <;> subst e
    · exact ⟨Sh, I, J, CtR.mk (ctX3_order_d0 gX gA hWs rfl) (by decide) (by decide) (by rw [hp0, pairs_X hCl hU]; rfl), gs⟩
    · exact ⟨Sh, I, J, CtR.mk (ctX3_order_d1 gX gA hWs rfl) (by decide) (by decide) (by rw [hp0, lon_X hCl hO.2 hU]; rfl), gs⟩
    · exact ⟨Sh, I, J, CtR.mk (ctX3_order_d2 gX gA hWs rfl) (by decide) (by decide) (by rw [hp0, wid_X hCl]; rfl), gs⟩
    · exact ⟨Sh, I, J, CtR.mk (ctX3_order_d3 gX gA hWs rfl) (by decide) (by decide) (by rw [hp0, fst_X hCl hU]; rfl), gs⟩
  · have hCl := ClO_of hO (hr.2.2.1.2.1 e' he)
    have o1 := isEp_of hep he
    have hec : e' < epM w + 1 := by omega
    rcases e with e | e | e | e <;> subst e
    · exact ⟨Sh, I, J, CtR.mk (ctX3_order_t0 gX gA hWs hec o1) (by decide) (by decide) (by rw [hp0, pairs_X hCl hU]; rfl), gs⟩
    · exact ⟨Sh, I, J, CtR.mk (ctX3_order_t1 gX gA hWs hec o1) (by decide) (by decide) (by rw [hp0, lon_X hCl hO.2 hU]; rfl), gs⟩
    · exact ⟨Sh, I, J, CtR.mk (ctX3_order_t2 gX gA hWs hec o1) (by decide) (by decide) (by rw [hp0, wid_X hCl]; rfl), gs⟩
    · exact ⟨Sh, I, J, CtR.mk (ctX3_order_t3 gX gA hWs hec o1) (by decide) (by decide) (by rw [hp0, fst_X hCl hU]; rfl), gs⟩
/-! lists -/
def lsF (C : Nat → Nat) (U : Nat) : Nat → Nat → Int64
  | 0 => fun s => if s = 0 then 1 else 0
  | n + 1 => fun s => if s = n + 1 then (if (n + 1) &&& (255 ^^^ U) = 0 then lstT C (lsF C U n) (n + 1) 8 else 0) else lsF C U n s
theorem ls_X {I : hm_I} {J : hm_J} {o U ja : Nat} {N : Nat → Nat} (h : ClO I o N) (hU : U < 256) : ∀ n, n ≤ U → ∀ s, s ≤ n → lstX I o U ja n J ja s = lsF (clo N) U n s := by
  intro n
  induction n with
  | zero =>
    intro _ s hs
    have e : s = 0 := by omega
    subst e
    show hm_putJ J ja 0 1 ja 0 = 1
    rw [hpJ, if_pos ⟨rfl, rfl⟩]
  | succ n ih =>
    intro hn s hs
    have ih' := ih (by omega)
    have hn1 : n + 1 < 256 := by omega
    have hz : (nI (n + 1) &&& (nI U ^^^ (-1)) = 0) ↔ (n + 1) &&& (255 ^^^ U) = 0 := by
      rw [fb_not (b := U) hn1]
      have hlt : (n + 1) &&& (255 ^^^ U) < 256 := m_and hn1
      exact ⟨fun q => nI_inj (by omega) (by decide) (q.trans nI_0.symm), fun q => by rw [q]; exact nI_0⟩
    have e : lstX I o U ja (n + 1) J = if (nI (n + 1)) &&& ((nI U) ^^^ (-1)) = 0 then hm_putJ (lstX I o U ja n J) ja (n + 1) (fX1_listsByLast I (lstX I o U ja n J) o (n + 1) ja) else hm_putJ (lstX I o U ja n J) ja (n + 1) 0 := rfl
    have e2 : lsF (clo N) U (n + 1) s = if s = n + 1 then (if (n + 1) &&& (255 ^^^ U) = 0 then lstT (clo N) (lsF (clo N) U n) (n + 1) 8 else 0) else lsF (clo N) U n s := rfl
    rw [e, e2]
    by_cases q : (n + 1) &&& (255 ^^^ U) = 0
    · rw [if_pos (hz.mpr q), if_pos q, hpJ]
      by_cases es : s = n + 1
      · rw [if_pos ⟨rfl, es⟩, if_pos es, lbl_X h hn1]
        exact lstT_cong hn1 (fun s' hs' => ih' s' (by omega))
      · rw [if_neg (fun z => es z.2), if_neg es]; exact ih' s (by omega)
    · rw [if_neg (fun z => q (hz.mp z)), if_neg q, hpJ]
      by_cases es : s = n + 1
      · rw [if_pos ⟨rfl, es⟩, if_pos es]
      · rw [if_neg (fun z => es z.2), if_neg es]; exact ih' s (by omega)
theorem lists_X {I : hm_I} {J : hm_J} {o U ja : Nat} {N : Nat → Nat} (h : ClO I o N) (hU : U < 256) : (fX1_countLists I J o U ja).1 = lsF (clo N) U U U := ls_X h hU U (Nat.le_refl U) U (Nat.le_refl U)
theorem op_lists {e0 : Int32} {r : Nat} {n t : Nat} {w : Nat → Int32} {P Q : Nat → Nat → Int32} {kp : Nat → Bool} (hE : EpOk w e0 r) : OpX yX3_lists wsX3_lists [.int e0] t t (n, w, P, Q, kp) (.long (lsF (clo (mk w r)) (osM w) (osM w) (osM w))) (n, w, P, Q, kp) := by
  intro l D T L A x Sh I J hI
  have gs := hI
  obtain ⟨p, f, h, m, k, j, hs, im, g⟩ := hI
  change GIx L Sh I x p f h m k j hs im n w P Q kp t at g
  have hWs := c_wfsx g
  have g0 := g
  obtain ⟨gX, gA, gG, gx, gF⟩ := g
  have hr := gx.2.1
  have hep := good_ep gG.2.1
  have hp0 := hr.1.1
  have hU := (osM_spec w).1
  have hO := EpOk_ord gG.2.1 hE
  rcases hE with ⟨rfl, rfl⟩ | ⟨e', he, rfl, rfl⟩
  · have hCl := ClO_of hO hr.2.2.1.1
    exact ⟨Sh, I, _, CtR.mk (ctX3_lists_d gX gA hWs rfl hU hp0) (by decide) (by decide) (by rw [lists_X hCl hU]), gs⟩
  · have hCl := ClO_of hO (hr.2.2.1.2.1 e' he)
    exact ⟨Sh, I, _, CtR.mk (ctX3_lists_t gX gA hWs (show e' < epM w + 1 by omega) (isEp_of hep he) hU hp0) (by decide) (by decide) (by rw [lists_X hCl hU]), gs⟩
/-! witness -/
def dsN (N : Nat → Nat) (s g : Nat) : Int32 := fX1_distance (cI N) 0 s g
theorem dsN_ok {N : Nat → Nat} (hN : ∀ a, a < 8 → N a < 256) {s g : Nat} (hs : s < 8) (hg : g < 8) : isD N g s (dsN N s g) := dist_X (fun a ha => ⟨rfl, hN a ha⟩) hs hg
theorem ds_X {I : hm_I} {o s g : Nat} {N : Nat → Nat} (h : ∀ a, a < 8 → I (o + 1) a = nI (N a) ∧ N a < 256) (hs : s < 8) (hg : g < 8) : fX1_distance I o s g = dsN N s g := isD_uniq (dist_X h hs hg) (dsN_ok (fun a ha => (h a ha).2) hs hg)
/-- the walk that is told, from s to g, of n edges -/
def wlk (N : Nat → Nat) (g n s : Nat) : Nat → Nat := wkF (cI N) 0 g n s N
theorem frs_cong {P Q : Nat → Bool} (h : ∀ i, i < 8 → P i = Q i) : frs P = frs Q := by
  unfold frs
  exact lp_cong rfl (fun i z hi => by rw [h i hi])
theorem wlk_X {I : hm_I} {o g n s : Nat} {N : Nat → Nat} (h : ∀ a, a < 8 → I (o + 1) a = nI (N a) ∧ N a < 256) (hg : g < 8) : ∀ i, wkF I o g n s N i = wlk N g n s i := by
  intro i
  induction i with
  | zero => rfl
  | succ i ih =>
    show frs (fun t => (N (wkF I o g n s N i)).testBit t && decide (fX1_distance I o t g = nI (n - (i + 1)))) = frs (fun t => (N (wlk N g n s i)).testBit t && decide (dsN N t g = nI (n - (i + 1))))
    rw [ih]
    exact frs_cong (fun t ht => by rw [ds_X h ht hg])
/-- what witness answers for a place k -/
def fWit (N : Nat → Nat) (a b k : Nat) : Int32 := if dsN N b a = -9 then -9 else if nI k ≤ dsN N b a then nI (wlk N a (dsN N b a).toNatClampNeg b k) else -9
theorem op_witness_b {i : Nat} {k0 : Int32} {n t : Nat} {w : Nat → Int32} {P Q : Nat → Nat → Int32} {kp : Nat → Bool} : OpX yX3_witness wsX3_witness [.int (nI i), .int (nI i), .int k0] t t (n, w, P, Q, kp) (.int (-1)) (n, w, P, Q, kp) := by
  intro l D T L A x Sh I J hI
  have gs := hI
  obtain ⟨p, f, h, m, k, j, hs, im, g⟩ := hI
  change GIx L Sh I x p f h m k j hs im n w P Q kp t at g
  have hWs := c_wfsx g
  have g0 := g
  obtain ⟨gX, gA, gG, gx, gF⟩ := g
  have hr := gx.2.1
  have h1 : fX3_areTwoStreams (nI i) (nI i) = false := by
    unfold fX3_areTwoStreams
    repeat' split
    all_goals first | rfl | (rename_i q; exact absurd rfl q)
  exact ⟨Sh, I, J, CtR.mk (ctX3_witness_b gX gA hWs gx.1 gG.1 (fun q => by rw [h1] at q; exact absurd q (by decide))) (by decide) (by decide) rfl, gs⟩
theorem op_witness_m {i i' : Nat} (hi : i < 8) (hj : i' < 8) (hne : i ≠ i') {n t : Nat} {w : Nat → Int32} {P Q : Nat → Nat → Int32} {kp : Nat → Bool} : OpX yX3_witness wsX3_witness [.int (nI i), .int (nI i'), .int (-1)] t t (n, w, P, Q, kp) (.int (dsN (mk w 176) i' i)) (n, w, P, Q, kp) := by
  intro l D T L A x Sh I J hI
  have gs := hI
  obtain ⟨p, f, h, m, k, j, hs, im, g⟩ := hI
  change GIx L Sh I x p f h m k j hs im n w P Q kp t at g
  have hWs := c_wfsx g
  have g0 := g
  obtain ⟨gX, gA, gG, gx, gF⟩ := g
  have hr := gx.2.1
  have hO := gG.2.1.2.2.1.1
  have hNX : ∀ a, a < 8 → I (p + 44 + 1) a = nI (mk w 176 a) ∧ mk w 176 a < 256 := fun a ha => ⟨(hr.2.2.1.1 a ha).1.trans (hO.1 a ha).1, (hO.1 a ha).2⟩
  refine ⟨Sh, I, J, CtR.mk (ctX3_witness_m gX gA hWs hi hj hne) (by decide) (by decide) ?_, gs⟩
  unfold fX3_witness_m
  rw [ds_X hNX hj hi]
  by_cases q : dsN (mk w 176) i' i = -9
  · rw [if_pos q, q]
  · rw [if_neg q]
theorem op_witness {i i' k0 : Nat} (hi : i < 8) (hj : i' < 8) (hne : i ≠ i') (hk : k0 < 1000) {n t : Nat} {w : Nat → Int32} {P Q : Nat → Nat → Int32} {kp : Nat → Bool} : OpX yX3_witness wsX3_witness [.int (nI i), .int (nI i'), .int (nI k0)] t t (n, w, P, Q, kp) (.int (fWit (mk w 176) i i' k0)) (n, w, P, Q, kp) := by
  intro l D T L A x Sh I J hI
  have gs := hI
  obtain ⟨p, f, h, m, k, j, hs, im, g⟩ := hI
  change GIx L Sh I x p f h m k j hs im n w P Q kp t at g
  have hWs := c_wfsx g
  have g0 := g
  obtain ⟨gX, gA, gG, gx, gF⟩ := g
  have hr := gx.2.1
  have hO := gG.2.1.2.2.1.1
  have hNX : ∀ a, a < 8 → I (p + 44 + 1) a = nI (mk w 176 a) ∧ mk w 176 a < 256 := fun a ha => ⟨(hr.2.2.1.1 a ha).1.trans (hO.1 a ha).1, (hO.1 a ha).2⟩
  have hdi := dist_X hNX hj hi
  have hk8 : ¬ fX1_distance I (p + 44) i' i = (-9) → ¬ fX1_distance I (p + 44) i' i < nI k0 → k0 < 8 := fun q1 q2 => by
    rcases hdi with ⟨nn, z1, z2, -⟩ | ⟨z1, -⟩
    · rw [z2, nI_ltI (by omega) (by omega)] at q2; omega
    · exact absurd z1 q1
  refine ⟨Sh, I, J, CtR.mk (ctX3_witness_n gX gA hWs hi hj hne (show k0 < 2 ^ 31 by omega) hk8) (by decide) (by decide) ?_, gs⟩
  unfold fX3_witness_n fWit
  rw [ds_X hNX hj hi] at hdi
  rw [ds_X hNX hj hi]
  rcases hdi with ⟨nn, z1, z2, z3, z4⟩ | ⟨z1, z2⟩
  · rw [z2, if_neg (nI_n9 nn z1), if_neg (nI_n9 nn z1), nI_clamp (by omega)]
    rcases Nat.lt_or_ge nn k0 with q | q
    · rw [if_neg (nI_ge q (by omega)), if_neg (nI_ge q (by omega))]
    · rw [if_pos (nI_le q (by omega)), if_pos (nI_le q (by omega))]
      have hw := wkF_spec hNX hj hi z1 ((ds_X hNX hj hi).trans z2)
      unfold fX1_streamOfWalk
      rw [(hw k0 q).2.2, wlk_X hNX hi]
  · rw [if_pos z1, if_pos z1]
