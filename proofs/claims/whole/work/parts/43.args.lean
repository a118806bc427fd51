/-! part 43: arguments; small facts of both sides -/
theorem within_iff {v : Int32} {a b : Nat} (ha : a < 2 ^ 31) (hb : b < 2 ^ 31) : fX4_isIn v (nI a) (nI b) = true ↔ ∃ n, a ≤ n ∧ n ≤ b ∧ v = nI n := by
  unfold fX4_isIn
  constructor
  · intro h
    by_cases h1 : v < nI a
    · rw [if_pos h1] at h; exact absurd h (by decide)
    · rw [if_neg h1] at h
      by_cases h2 : nI b < v
      · rw [if_pos h2] at h; exact absurd h (by decide)
      · have h0 : ¬ v < 0 := fun q => h1 (by
          rw [Int32.lt_iff_toInt_lt] at q ⊢
          rw [nI_toInt ha]
          have : (0 : Int32).toInt = 0 := rfl
          omega)
        obtain ⟨j, hj, e⟩ := nI_of h0
        subst e
        rw [nI_ltI hj ha] at h1
        rw [nI_ltI hb hj] at h2
        exact ⟨j, by omega, by omega, rfl⟩
  · rintro ⟨n, h1, h2, e⟩
    subst e
    rw [if_neg (nI_nlt h1 (by omega)), if_neg (nI_nlt h2 hb)]
theorem within_eq (v lo up : Int32) : fX3_isWithin v lo up = fX4_isIn v lo up := rfl
theorem bool_cases (b : Bool) : b = false ∨ b = true := by cases b <;> simp
theorem stream_cases (s0 : Int32) : (fX3_isStream s0 = false ∧ fX4_isStream s0 = false) ∨ ∃ s, s < 8 ∧ s0 = nI s ∧ fX3_isStream s0 = true ∧ fX4_isStream s0 = true := by
  rcases bool_cases (fX4_isStream s0) with h | h
  · left
    refine ⟨?_, h⟩
    unfold fX3_isStream
    rcases pk_ix s0 (n := 8) (by decide) with q | q | ⟨j, hj, q⟩
    · rw [if_pos q]
    · by_cases q0 : s0 < 0
      · rw [if_pos q0]
      · rw [if_neg q0, if_pos q]
    · exfalso
      have : fX4_isStream s0 = true := (within_iff (a := 0) (b := 7) (by decide) (by decide)).mpr ⟨j, Nat.zero_le j, by omega, q⟩
      rw [h] at this
      exact absurd this (by decide)
  · right
    obtain ⟨s, -, h1, e⟩ := (within_iff (a := 0) (b := 7) (by decide) (by decide)).mp h
    subst e
    exact ⟨s, by omega, rfl, st_8 s (by omega), h⟩
theorem two_cases (a b : Int32) : (fX3_areTwoStreams a b = false ∧ (fX4_isStream a = true → fX4_isStream b = true → a = b)) ∨ ∃ i j, i < 8 ∧ j < 8 ∧ i ≠ j ∧ a = nI i ∧ b = nI j ∧ fX3_areTwoStreams a b = true := by
  unfold fX3_areTwoStreams
  rcases stream_cases a with ⟨h1, h2⟩ | ⟨i, hi, e1, h1, h2⟩
  · left
    rw [h1, if_neg (by decide)]
    exact ⟨rfl, fun q => by rw [h2] at q; exact absurd q (by decide)⟩
  · rcases stream_cases b with ⟨g1, g2⟩ | ⟨j, hj, e2, g1, g2⟩
    · left
      rw [h1, if_pos rfl, g1, if_neg (by decide)]
      exact ⟨rfl, fun _ q => by rw [g2] at q; exact absurd q (by decide)⟩
    · rw [h1, g1, if_pos rfl, if_pos rfl]
      by_cases e : a = b
      · left; rw [if_pos e]; exact ⟨rfl, fun _ _ => e⟩
      · right
        rw [if_neg e]
        exact ⟨i, j, hi, hj, fun q => e (by rw [e1, e2, q]), e1, e2, rfl⟩
theorem epoch_cases (e0 : Int32) {ep : Nat} (hep : ep ≤ 9) : (fX3_isEpoch (ep + 1) e0 = false ∧ fX4_isIn e0 (nI 0) (nI ep) = false) ∨ ∃ e, e ≤ ep ∧ e0 = nI e ∧ fX3_isEpoch (ep + 1) e0 = true ∧ fX4_isIn e0 (nI 0) (nI ep) = true := by
  rcases bool_cases (fX4_isIn e0 (nI 0) (nI ep)) with h | h
  · left
    refine ⟨?_, h⟩
    unfold fX3_isEpoch
    rcases pk_ix e0 (n := ep + 1) (by omega) with q | q | ⟨j, hj, q⟩
    · rw [if_pos q]
    · by_cases q0 : e0 < 0
      · rw [if_pos q0]
      · rw [if_neg q0, if_pos q]
    · exfalso
      have : fX4_isIn e0 (nI 0) (nI ep) = true := (within_iff (by decide) (by omega)).mpr ⟨j, Nat.zero_le j, by omega, q⟩
      rw [h] at this
      exact absurd this (by decide)
  · right
    obtain ⟨e, -, h1, q⟩ := (within_iff (by decide) (by omega)).mp h
    subst q
    refine ⟨e, h1, rfl, ?_, h⟩
    unfold fX3_isEpoch
    rw [if_neg (nI_pos (by omega)), if_neg (nI_ge (by omega) (by omega))]
theorem m1_ne : ∀ e, e < 20 → ¬ nI e = -1 := by decide +kernel
theorem order_cases (e0 : Int32) {ep : Nat} (hep : ep ≤ 9) : (fX3_isEpochOrDraft (ep + 1) e0 = false ∧ fX4_isIn e0 (-1) (nI ep) = false) ∨ (e0 = -1 ∧ fX3_isEpochOrDraft (ep + 1) e0 = true ∧ fX4_isIn e0 (-1) (nI ep) = true) ∨ ∃ e, e ≤ ep ∧ e0 = nI e ∧ fX3_isEpochOrDraft (ep + 1) e0 = true ∧ fX4_isIn e0 (-1) (nI ep) = true := by
  have hm1 : (-1 : Int32).toInt = -1 := by decide
  have hz : (nI ep).toInt = (ep : Int) := nI_toInt (by omega)
  have h0 : (nI 0).toInt = 0 := nI_toInt (n := 0) (by decide)
  unfold fX3_isEpochOrDraft
  by_cases e : e0 = -1
  · right; left
    subst e
    refine ⟨rfl, if_pos rfl, ?_⟩
    unfold fX4_isIn
    rw [if_neg (by rw [Int32.lt_iff_toInt_lt]; omega), if_neg (by rw [Int32.lt_iff_toInt_lt, hz, hm1]; omega)]
  · rw [if_neg e]
    rcases epoch_cases e0 hep with ⟨h1, h2⟩ | ⟨e', h1, h2, h3, h4⟩
    · left
      rw [h1, if_neg (by decide)]
      refine ⟨rfl, ?_⟩
      unfold fX4_isIn at h2 ⊢
      by_cases q1 : nI ep < e0
      · rw [if_pos q1]
        by_cases q2 : e0 < -1
        · rw [if_pos q2]
        · rw [if_neg q2]
      · rw [if_neg q1] at h2
        by_cases q2 : e0 < nI 0
        · have q3 : e0 < -1 := by
            rw [Int32.lt_iff_toInt_lt] at q2 ⊢
            have : ¬ e0.toInt = -1 := fun q => e (Int32.toInt_inj.mp (q.trans hm1.symm))
            omega
          rw [if_pos q3]
        · rw [if_neg q2] at h2; exact absurd h2 (by decide)
    · right; right
      rw [h3, if_pos rfl]
      refine ⟨e', h1, h2, rfl, ?_⟩
      subst h2
      unfold fX4_isIn
      rw [if_neg (by rw [Int32.lt_iff_toInt_lt, nI_toInt (by omega), hm1]; omega), if_neg (nI_nlt h1 (by omega))]
/-! contracts with any room within bounds; a call of both -/
def CtR (l : Launch) (y : MethodName) (ws : List Cond) (D : va_G) (T : Nat → ClassId) (A : Nat → Prop) (av : List Value) (P : Heap → Prop) (v : Option Value) (Q : Heap → Prop) : Prop :=
  ∃ rm : Room, rm.cells = 0 ∧ rm.slots = 0 ∧ rm.frames ≤ 7 ∧ rm.locals ≤ 160 ∧ Ct l y ws rm 0 0 D T A av P v Q
theorem CtR.mk {l : Launch} {y : MethodName} {ws : List Cond} {fr lo : Nat} {D : va_G} {T : Nat → ClassId} {A : Nat → Prop} {av : List Value} {P : Heap → Prop} {v v' : Option Value} {Q : Heap → Prop} (h : Ct l y ws { frames := fr, cells := 0, slots := 0, locals := lo } 0 0 D T A av P v Q) (h1 : fr ≤ 7) (h2 : lo ≤ 160) (hv : v = v') : CtR l y ws D T A av P v' Q := by
  subst hv
  exact ⟨_, rfl, rfl, h1, h2, h⟩
def Op (yX : MethodName) (wsX : List Cond) (yM : MethodName) (wsM : List Cond) (args : List Value) (isV : Value → Prop) : Prop :=
  ∀ (l : Launch) (D : va_G) (T : Nat → ClassId) (L : List Nat) (A : Nat → Prop) (x b t : Nat) (Sh : hm_S) (I : hm_I) (J : hm_J), t < 1000 → Inv L x b t Sh I →
    ∃ (v : Value) (Sh1 : hm_S) (I1 : hm_I) (J1 : hm_J) (I2 : hm_I) (J2 : hm_J), isV v ∧ CtR l yX wsX D T A (.ref x :: args) (hm D T L A Sh I J) (some v) (hm D T L A Sh1 I1 J1) ∧ CtR l yM wsM D T A (.ref b :: args) (hm D T L A Sh1 I1 J1) (some v) (hm D T L A Sh1 I2 J2) ∧ Inv L x b (t + 1) Sh1 I2
def isI (v : Value) : Prop := ∃ i : Int32, v = .int i
def isJ (v : Value) : Prop := ∃ i : Int64, v = .long i
theorem Inv_s {L : List Nat} {Sh : hm_S} {I : hm_I} {x p f h m k j b n t : Nat} {hs im : Nat → Nat} {w : Nat → Int32} {P Q : Nat → Nat → Int32} {kp : Nat → Bool} (g : GI L Sh I x p f h m k j b hs im n w P Q kp t) : Inv L x b (t + 1) Sh I :=
  close_q g (fun _ _ _ => rfl) (fun _ _ _ _ => rfl) g.2.2.2.2.2.2.1.2.1
theorem opn_X {I : hm_I} {q : Nat} {w : Nat → Int32} (hW : RelW I q w) {s : Nat} (hs : s < 8) : fX2_isOpen I q (nI s) = decide (w s = nI 1) := by
  unfold fX2_isOpen
  rw [hW.1, fb_isIn _ (osM_spec w).1 s hs, (osM_spec w).2 s hs]
theorem opn_M {I : hm_I} {b : Nat} {w : Nat → Int32} (hR : RowIs I b w) {s : Nat} (hs : s < 8) : fX4_isOpen I b s = decide (w s = nI 1) := by
  unfold fX4_isOpen
  rw [Nat.zero_add, hR _ (by omega)]
  by_cases h : w s = nI 1
  · rw [if_pos h, decide_eq_true h]
  · rw [if_neg h, decide_eq_false h]
theorem opened_eq {w : Nat → Int32} (hO : OpnOk w) : fJ6_bitCount_0f7a4 (nI (osM w)) = lp 8 (fun i x => x + w i) (nI 0) := by
  have ho := osM_spec w
  rw [fb_cnt _ ho.1]
  unfold fX4_size
  refine lp_cong rfl (fun i z hi => ?_)
  rw [sz_bit _ ho.1 i hi, ho.2 i hi]
  rcases (hO i hi).1 with h | h
  · rw [h, decide_eq_false (show ¬ nI 0 = nI 1 by decide), if_neg (by decide)]
  · rw [h, decide_eq_true rfl, if_pos rfl]
theorem openset_eq {I : hm_I} {b : Nat} {w : Nat → Int32} (hR : RowIs I b w) (hO : OpnOk w) : fX4_openSet I b = nI (osM w) := by
  unfold fX4_openSet osM
  refine lq_rel (n := 8) (fun _ x y => x = nI y) rfl (fun i x y hi hxy => ?_)
  rw [Nat.zero_add, hR _ (by omega), hxy]
  rcases (hO i hi).1 with h | h
  · rw [h, if_neg (by decide), (by decide +kernel : ∀ i, i < 8 → nI 0 <<< (nI i &&& 31) = nI 0) i hi, fa_or, Nat.or_zero]
  · rw [h, if_pos rfl, fb_shl i hi, fa_or]
/-- rows that agree behind the streams' own cells -/
theorem WfC_24 {w w' : Nat → Int32} (h : ∀ k, 24 ≤ k → w' k = w k) : (cM w' = cM w ∧ eM w' = eM w ∧ epM w' = epM w ∧ lgM w' = lgM w ∧ numM w' = numM w ∧ szR w' = szR w) := by
  refine ⟨funext fun s => ?_, funext fun s => funext fun k => ?_, ?_, ?_, funext fun s => funext fun k => ?_, funext fun s => funext fun k => ?_⟩
  · unfold cM; rw [h _ (by omega)]
  · unfold eM; rw [h _ (by omega)]
  · unfold epM; rw [h _ (by omega)]
  · unfold lgM; rw [h _ (by omega)]
  · unfold numM; rw [h _ (by omega)]
  · unfold szR; rw [h _ (by omega)]
theorem Good_24 {w w' : Nat → Int32} {t : Nat} (h : ∀ k, 24 ≤ k → w' k = w k) (hO : OpnOk w') (hG : Good w t) : Good w' t := by
  obtain ⟨c1, c2, c3, c4, c5, c6⟩ := WfC_24 h
  obtain ⟨⟨g1, g2, g3, g4, g5, g6⟩, -, ⟨o1, o2⟩, q1, ⟨come, q2, q3, q4⟩, q5, q6⟩ := hG
  refine ⟨?_, hO, ⟨OrdOk_cong (fun a ha => h _ (by omega)) o1, fun e he => OrdOk_cong (fun a ha => h _ (by omega)) (o2 e (by rw [← c3]; exact he))⟩, ?_⟩
  · unfold WfC
    rw [c1, c2, c3, c4]
    refine ⟨fun s hs => ?_, fun s hs k hk => ?_, ?_, g4, ?_, g6⟩
    · rw [h _ (by omega)]; exact g1 s hs
    · rw [h _ (by omega)]; exact g2 s hs k hk
    · rw [h _ (by omega)]; exact g3
    · rw [h _ (by omega)]; exact g5
  · unfold QueOk
    rw [c1, c2, c5, c6]
    refine ⟨q1, ⟨come, ?_, q3, fun s hs k hk => ?_⟩, q5, fun s hs k hk => ?_⟩
    · rw [h _ (by omega)]; exact q2
    · rw [h _ (by omega)]; exact q4 s hs k hk
    · rw [h _ (by omega)]; exact q6 s hs k hk
theorem Rel_24 {I : hm_I} {q : Nat} {w w' : Nat → Int32} (h : ∀ k, 24 ≤ k → w' k = w k) (hW : RelW I q w') (hQ : RelQ I q w) (hE : RelE I q w) (hL : RelL I q w) (h7 : I q 7 = w 265) (h8 : I q 8 = w 266) : Rel I q w' := by
  obtain ⟨c1, c2, c3, c4, c5, c6⟩ := WfC_24 h
  refine ⟨hW, ⟨fun s hs => ?_, fun s hs k hk => ?_⟩, ⟨RelO_cong (fun a ha => h _ (by omega)) hE.1, fun e he => RelO_cong (fun a ha => h _ (by omega)) (hE.2.1 e (by rw [← c3]; exact he)), by rw [c3]; exact hE.2.2⟩, ⟨?_, fun k hk => ?_⟩, ?_, ?_⟩
  · rw [h _ (by omega)]; exact hQ.1 s hs
  · rw [c1] at hk
    rw [h _ (by omega), h _ (by omega), h _ (by omega)]; exact hQ.2 s hs k hk
  · rw [h _ (by omega)]; exact hL.1
  · rw [c4] at hk
    rw [h _ (by omega), h _ (by omega), h _ (by omega), h _ (by omega)]; exact hL.2 k hk
  · rw [h _ (by omega)]; exact h7
  · rw [h _ (by omega)]; exact h8
