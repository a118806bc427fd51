/-! part 43: arguments; small facts of both sides -/
theorem within_iff {v : Int32} {a b : Nat} (ha : a < 2 ^ 31) (hb : b < 2 ^ 31) : fX4_isIn v (nI a) (nI b) = true ↔ ∃ n, a ≤ n ∧ n ≤ b ∧ v = nI n := by
  unfold fX4_isIn
  constructor
  · intro h
    by_cases h1 : v < nI a
    · rw [if_pos h1] at h; exact absurd h (by decide)
    · rw [if_neg h1] at h
      by_cases h2 : nI b < v
      · rw [if_pos h2] at h; exact absurd h (by decide)
      · have h0 : ¬ v < 0 := fun q => h1 (by
          rw [Int32.lt_iff_toInt_lt] at q ⊢
          rw [nI_toInt ha]
          have : (0 : Int32).toInt = 0 := rfl
          omega)
        obtain ⟨j, hj, e⟩ := nI_of h0
        subst e
        rw [nI_ltI hj ha] at h1
        rw [nI_ltI hb hj] at h2
        exact ⟨j, by omega, by omega, rfl⟩
  · rintro ⟨n, h1, h2, e⟩
    subst e
    rw [if_neg (nI_nlt h1 (by omega)), if_neg (nI_nlt h2 hb)]
theorem within_eq (v lo up : Int32) : fX3_isWithin v lo up = fX4_isIn v lo up := rfl
theorem bool_cases (b : Bool) : b = false ∨ b = true := by cases b <;> simp
theorem stream_cases (s0 : Int32) : (fX3_isStream s0 = false ∧ fX4_isStream s0 = false) ∨ ∃ s, s < 8 ∧ s0 = nI s ∧ fX3_isStream s0 = true ∧ fX4_isStream s0 = true := by
  rcases bool_cases (fX4_isStream s0) with h | h
  · left
    refine ⟨?_, h⟩
    unfold fX3_isStream
    rcases pk_ix s0 (n := 8) (by decide) with q | q | ⟨j, hj, q⟩
    · rw [if_pos q]
    · by_cases q0 : s0 < 0
      · rw [if_pos q0]
      · rw [if_neg q0, if_pos q]
    · exfalso
      have : fX4_isStream s0 = true := (within_iff (a := 0) (b := 7) (by decide) (by decide)).mpr ⟨j, Nat.zero_le j, by omega, q⟩
      rw [h] at this
      exact absurd this (by decide)
  · right
    obtain ⟨s, -, h1, e⟩ := (within_iff (a := 0) (b := 7) (by decide) (by decide)).mp h
    subst e
    exact ⟨s, by omega, rfl, st_8 s (by omega), h⟩
theorem two_cases (a b : Int32) : (fX3_areTwoStreams a b = false ∧ (fX4_isStream a = true → fX4_isStream b = true → a = b)) ∨ ∃ i j, i < 8 ∧ j < 8 ∧ i ≠ j ∧ a = nI i ∧ b = nI j ∧ fX3_areTwoStreams a b = true := by
  unfold fX3_areTwoStreams
  rcases stream_cases a with ⟨h1, h2⟩ | ⟨i, hi, e1, h1, h2⟩
  · left
    rw [h1, if_neg (by decide)]
    exact ⟨rfl, fun q => by rw [h2] at q; exact absurd q (by decide)⟩
  · rcases stream_cases b with ⟨g1, g2⟩ | ⟨j, hj, e2, g1, g2⟩
    · left
      rw [h1, if_pos rfl, g1, if_neg (by decide)]
      exact ⟨rfl, fun _ q => by rw [g2] at q; exact absurd q (by decide)⟩
    · rw [h1, g1, if_pos rfl, if_pos rfl]
      by_cases e : a = b
      · left; rw [if_pos e]; exact ⟨rfl, fun _ _ => e⟩
      · right
        rw [if_neg e]
        exact ⟨i, j, hi, hj, fun q => e (by rw [e1, e2, q]), e1, e2, rfl⟩
theorem epoch_cases (e0 : Int32) {ep : Nat} (hep : ep ≤ 9) : (fX3_isEpoch (ep + 1) e0 = false ∧ fX4_isIn e0 (nI 0) (nI ep) = false) ∨ ∃ e, e ≤ ep ∧ e0 = nI e ∧ fX3_isEpoch (ep + 1) e0 = true ∧ fX4_isIn e0 (nI 0) (nI ep) = true := by
  rcases bool_cases (fX4_isIn e0 (nI 0) (nI ep)) with h | h
  · left
    refine ⟨?_, h⟩
    unfold fX3_isEpoch
    rcases pk_ix e0 (n := ep + 1) (by omega) with q | q | ⟨j, hj, q⟩
    · rw [if_pos q]
    · by_cases q0 : e0 < 0
      · rw [if_pos q0]
      · rw [if_neg q0, if_pos q]
    · exfalso
      have : fX4_isIn e0 (nI 0) (nI ep) = true := (within_iff (by decide) (by omega)).mpr ⟨j, Nat.zero_le j, by omega, q⟩
      rw [h] at this
      exact absurd this (by decide)
  · right
    obtain ⟨e, -, h1, q⟩ := (within_iff (by decide) (by omega)).mp h
    subst q
    refine ⟨e, h1, rfl, ?_, h⟩
    unfold fX3_isEpoch
    rw [if_neg (nI_pos (by omega)), if_neg (nI_ge (by omega) (by omega))]
theorem m1_ne : ∀ e, e < 20 → ¬ nI e = -1 := by decide +kernel
theorem order_cases (e0 : Int32) {ep : Nat} (hep : ep ≤ 9) : (fX3_isEpochOrDraft (ep + 1) e0 = false ∧ fX4_isIn e0 (-1) (nI ep) = false) ∨ (e0 = -1 ∧ fX3_isEpochOrDraft (ep + 1) e0 = true ∧ fX4_isIn e0 (-1) (nI ep) = true) ∨ ∃ e, e ≤ ep ∧ e0 = nI e ∧ fX3_isEpochOrDraft (ep + 1) e0 = true ∧ fX4_isIn e0 (-1) (nI ep) = true := by
  have hm1 : (-1 : Int32).toInt = -1 := by decide
  have hz : (nI ep).toInt = (ep : Int) := nI_toInt (by omega)
  have h0 : (nI 0).toInt = 0 := nI_toInt (n := 0) (by decide)
  unfold fX3_isEpochOrDraft
  by_cases e : e0 = -1
  · right; left
    subst e
    refine ⟨rfl, if_pos rfl, ?_⟩
    unfold fX4_isIn
    rw [if_neg (by rw [Int32.lt_iff_toInt_lt]; omega), if_neg (by rw [Int32.lt_iff_toInt_lt, hz, hm1]; omega)]
  · rw [if_neg e]
    rcases epoch_cases e0 hep with ⟨h1, h2⟩ | ⟨e', h1, h2, h3, h4⟩
    · left
      rw [h1, if_neg (by decide)]
      refine ⟨rfl, ?_⟩
      unfold fX4_isIn at h2 ⊢
      by_cases q1 : nI ep < e0
      · rw [if_pos q1]
        by_cases q2 : e0 < -1
        · rw [if_pos q2]
        · rw [if_neg q2]
      · rw [if_neg q1] at h2
        by_cases q2 : e0 < nI 0
        · have q3 : e0 < -1 := by
            rw [Int32.lt_iff_toInt_lt] at q2 ⊢
            have : ¬ e0.toInt = -1 := fun q => e (Int32.toInt_inj.mp (q.trans hm1.symm))
            omega
          rw [if_pos q3]
        · rw [if_neg q2] at h2; exact absurd h2 (by decide)
    · right; right
      rw [h3, if_pos rfl]
      refine ⟨e', h1, h2, rfl, ?_⟩
      subst h2
      unfold fX4_isIn
      rw [if_neg (by rw [Int32.lt_iff_toInt_lt, nI_toInt (by omega), hm1]; omega), if_neg (nI_nlt h1 (by omega))]
/-! contracts with any room within bounds; a call of both -/
def CtR (l : Launch) (y : MethodName) (ws : List Cond) (D : va_G) (T : Nat → ClassId) (A : Nat → Prop) (av : List Value) (P : Heap → Prop) (v : Option Value) (Q : Heap → Prop) : Prop :=
  ∃ rm : Room, rm.cells = 0 ∧ rm.slots = 0 ∧ rm.frames ≤ 7 ∧ rm.locals ≤ 160 ∧ Ct l y ws rm 0 0 D T A av P v Q
theorem CtR.mk {l : Launch} {y : MethodName} {ws : List Cond} {fr lo : Nat} {D : va_G} {T : Nat → ClassId} {A : Nat → Prop} {av : List Value} {P : Heap → Prop} {v v' : Option Value} {Q : Heap → Prop} (h : Ct l y ws { frames := fr, cells := 0, slots := 0, locals := lo } 0 0 D T A av P v Q) (h1 : fr ≤ 7) (h2 : lo ≤ 160) (hv : v = v') : CtR l y ws D T A av P v' Q := by
  subst hv
  exact ⟨_, rfl, rfl, h1, h2, h⟩
theorem opn_X {I : hm_I} {q : Nat} {w : Nat → Int32} (hW : RelW I q w) {s : Nat} (hs : s < 8) : fX2_isOpen I q (nI s) = decide (w s = nI 1) := by
  unfold fX2_isOpen
  rw [hW.1, fb_isIn _ (osM_spec w).1 s hs, (osM_spec w).2 s hs]
theorem opened_eq {w : Nat → Int32} (hO : OpnOk w) : fJ6_bitCount_0f7a4 (nI (osM w)) = lp 8 (fun i x => x + w i) (nI 0) := by
  have ho := osM_spec w
  rw [fb_cnt _ ho.1]
  unfold fX4_size
  refine lp_cong rfl (fun i z hi => ?_)
  rw [sz_bit _ ho.1 i hi, ho.2 i hi]
  rcases (hO i hi).1 with h | h
  · rw [h, decide_eq_false (show ¬ nI 0 = nI 1 by decide), if_neg (by decide)]
  · rw [h, decide_eq_true rfl, if_pos rfl]
/-- rows that agree behind the streams' own cells -/
theorem WfC_24 {w w' : Nat → Int32} (h : ∀ k, 24 ≤ k → w' k = w k) : (cM w' = cM w ∧ eM w' = eM w ∧ epM w' = epM w ∧ lgM w' = lgM w ∧ numM w' = numM w ∧ szR w' = szR w) := by
  refine ⟨funext fun s => ?_, funext fun s => funext fun k => ?_, ?_, ?_, funext fun s => funext fun k => ?_, funext fun s => funext fun k => ?_⟩
  · unfold cM; rw [h _ (by omega)]
  · unfold eM; rw [h _ (by omega)]
  · unfold epM; rw [h _ (by omega)]
  · unfold lgM; rw [h _ (by omega)]
  · unfold numM; rw [h _ (by omega)]
  · unfold szR; rw [h _ (by omega)]
theorem Good_24 {w w' : Nat → Int32} {t : Nat} (h : ∀ k, 24 ≤ k → w' k = w k) (hO : OpnOk w') (hG : Good w t) : Good w' t := by
  obtain ⟨c1, c2, c3, c4, c5, c6⟩ := WfC_24 h
  obtain ⟨⟨g1, g2, g3, g4, g5, g6⟩, -, ⟨o1, o2⟩, q1, ⟨come, q2, q3, q4⟩, q5, q6⟩ := hG
  refine ⟨?_, hO, ⟨OrdOk_cong (fun a ha => h _ (by omega)) o1, fun e he => OrdOk_cong (fun a ha => h _ (by omega)) (o2 e (by rw [← c3]; exact he))⟩, ?_⟩
  · unfold WfC
    rw [c1, c2, c3, c4]
    refine ⟨fun s hs => ?_, fun s hs k hk => ?_, ?_, g4, ?_, g6⟩
    · rw [h _ (by omega)]; exact g1 s hs
    · rw [h _ (by omega)]; exact g2 s hs k hk
    · rw [h _ (by omega)]; exact g3
    · rw [h _ (by omega)]; exact g5
  · unfold QueOk
    rw [c1, c2, c5, c6]
    refine ⟨q1, ⟨come, ?_, q3, fun s hs k hk => ?_⟩, q5, fun s hs k hk => ?_⟩
    · rw [h _ (by omega)]; exact q2
    · rw [h _ (by omega)]; exact q4 s hs k hk
    · rw [h _ (by omega)]; exact q6 s hs k hk
theorem Rel_24 {I : hm_I} {q : Nat} {w w' : Nat → Int32} (h : ∀ k, 24 ≤ k → w' k = w k) (hW : RelW I q w') (hQ : RelQ I q w) (hE : RelE I q w) (hL : RelL I q w) (h7 : I q 7 = w 265) (h8 : I q 8 = w 266) : Rel I q w' := by
  obtain ⟨c1, c2, c3, c4, c5, c6⟩ := WfC_24 h
  refine ⟨hW, ⟨fun s hs => ?_, fun s hs k hk => ?_⟩, ⟨RelO_cong (fun a ha => h _ (by omega)) hE.1, fun e he => RelO_cong (fun a ha => h _ (by omega)) (hE.2.1 e (by rw [← c3]; exact he)), by rw [c3]; exact hE.2.2⟩, ⟨?_, fun k hk => ?_⟩, ?_, ?_⟩
  · rw [h _ (by omega)]; exact hQ.1 s hs
  · rw [c1] at hk
    rw [h _ (by omega), h _ (by omega), h _ (by omega)]; exact hQ.2 s hs k hk
  · rw [h _ (by omega)]; exact hL.1
  · rw [c4] at hk
    rw [h _ (by omega), h _ (by omega), h _ (by omega), h _ (by omega)]; exact hL.2 k hk
  · rw [h _ (by omega)]; exact h7
  · rw [h _ (by omega)]; exact h8
/-! part 44: calls of both: open, close, setWeight -/
theorem st_eq (s0 : Int32) : fX3_isStream s0 = fX4_isStream s0 := by
  rcases stream_cases s0 with ⟨h1, h2⟩ | ⟨s, -, -, h1, h2⟩
  · rw [h1, h2]
  · rw [h1, h2]
theorem st_true {s0 : Int32} (h : fX4_isStream s0 = true) : ∃ s, s < 8 ∧ s0 = nI s := by
  rcases stream_cases s0 with ⟨-, h2⟩ | ⟨s, h1, h2, -, -⟩
  · rw [h2] at h; exact absurd h (by decide)
  · exact ⟨s, h1, h2⟩
theorem nf {b : Bool} (h : ¬ b = true) : b = false := by cases b <;> simp_all
/-- the class' memory behind a record -/
def recR (I : hm_I) (x p n : Nat) (hs : Nat → Nat) (w : Nat → Int32) : hm_I := recI I x p n hs (cM w) (epM w + 1) (lgM w)
def opW (w : Nat → Int32) (s : Nat) (a c d : Int32) : Nat → Int32 := fun k => if k = 16 + s then d else if k = 8 + s then c else if k = s then a else w k
theorem opW_24 {w : Nat → Int32} {s : Nat} {a c d : Int32} (hs : s < 8) : ∀ k, 24 ≤ k → opW w s a c d k = w k := fun k hk => by unfold opW; rw [if_neg (by omega), if_neg (by omega), if_neg (by omega)]
theorem opW_0 {w : Nat → Int32} {s i : Nat} {a c d : Int32} (hi : i < 8) : opW w s a c d i = if i = s then a else w i := by unfold opW; rw [if_neg (by omega), if_neg (by omega)]
theorem opW_8 {w : Nat → Int32} {s i : Nat} {a c d : Int32} (hs : s < 8) (hi : i < 8) : opW w s a c d (8 + i) = if i = s then c else w (8 + i) := by
  unfold opW
  by_cases e : i = s
  · rw [if_neg (by omega), if_pos (by omega), if_pos e]
  · rw [if_neg (by omega), if_neg (by omega), if_neg (by omega), if_neg e]
theorem opW_16 {w : Nat → Int32} {s i : Nat} {a c d : Int32} (hs : s < 8) (hi : i < 8) : opW w s a c d (16 + i) = if i = s then d else w (16 + i) := by
  unfold opW
  by_cases e : i = s
  · rw [if_pos (by omega), if_pos e]
  · rw [if_neg (by omega), if_neg (by omega), if_neg (by omega), if_neg e]
/-! an object's whole state: how many are recorded, the present row, the recorded rows, the kept rows, which are kept -/
abbrev abS : Type := Nat × (Nat → Int32) × (Nat → Nat → Int32) × (Nat → Nat → Int32) × (Nat → Bool)
def GIx (L : List Nat) (Sh : hm_S) (I : hm_I) (x p f h m k j : Nat) (hs im : Nat → Nat) (n : Nat) (w : Nat → Int32) (P Q : Nat → Nat → Int32) (kp : Nat → Bool) (t : Nat) : Prop :=
  IsX L Sh x p f h m k j hs im ∧ ApX x p f h m k j hs im ∧ GG t n w P Q kp ∧ GX I x p k hs im n w P Q kp ∧ ∀ i, i < 2 → far f (im i)
def InvX (L : List Nat) (x t : Nat) (Sh : hm_S) (I : hm_I) (S : abS) : Prop := ∃ (p f h m k j : Nat) (hs im : Nat → Nat), GIx L Sh I x p f h m k j hs im S.1 S.2.1 S.2.2.1 S.2.2.2.1 S.2.2.2.2 t
def chgS (S : abS) (w' : Nat → Int32) : abS := (recK S.1 + 1, w', pushP S.2.2.1 S.1 S.2.1, S.2.2.2.1, S.2.2.2.2)
def nxS (S : abS) (r : Option (Nat → Int32)) : abS := match r with
  | none => S
  | some w' => chgS S w'
def OpX (y : MethodName) (ws : List Cond) (args : List Value) (t t' : Nat) (S : abS) (v : Value) (S' : abS) : Prop :=
  ∀ (l : Launch) (D : va_G) (T : Nat → ClassId) (L : List Nat) (A : Nat → Prop) (x : Nat) (Sh : hm_S) (I : hm_I) (J : hm_J), InvX L x t Sh I S →
    ∃ (Sh1 : hm_S) (I1 : hm_I) (J1 : hm_J), CtR l y ws D T A (.ref x :: args) (hm D T L A Sh I J) (some v) (hm D T L A Sh1 I1 J1) ∧ InvX L x t' Sh1 I1 S'
theorem GIx_up {L : List Nat} {Sh : hm_S} {I : hm_I} {x p f h m k j n t : Nat} {hs im : Nat → Nat} {w : Nat → Int32} {P Q : Nat → Nat → Int32} {kp : Nat → Bool} (g : GIx L Sh I x p f h m k j hs im n w P Q kp t) : GIx L Sh I x p f h m k j hs im n w P Q kp (t + 1) :=
  ⟨g.1, g.2.1, GG_mod g.2.2.1 (Good_mono g.2.2.1.2.1 (Nat.le_succ t)), g.2.2.2⟩
theorem InvX_up {L : List Nat} {Sh : hm_S} {I : hm_I} {x t : Nat} {S : abS} (h : InvX L x t Sh I S) : InvX L x (t + 1) Sh I S := by
  obtain ⟨p, f, h, m, k, j, hs, im, g⟩ := h
  exact ⟨p, f, h, m, k, j, hs, im, GIx_up g⟩
/-- a call that tells may use the forecast -/
theorem close_qx {L : List Nat} {Sh : hm_S} {I I1 : hm_I} {x p f h m k j n t : Nat} {hs im : Nat → Nat} {w : Nat → Int32} {P Q : Nat → Nat → Int32} {kp : Nat → Bool} (g : GIx L Sh I x p f h m k j hs im n w P Q kp t)
    (h1 : ∀ z kk, outq z f → I1 z kk = I z kk) : GIx L Sh I1 x p f h m k j hs im n w P Q kp t := by
  obtain ⟨gX, gA, gG, gx, gF⟩ := g
  refine ⟨gX, gA, gG, ?_, gF⟩
  have oq : ∀ q, far q f → ∀ z kk, q ≤ z → z < q + 83 → I1 z kk = I z kk := fun q q1 z kk z1 z2 => h1 z kk (far_out q1 z1 z2)
  have os : ∀ a, sml x h m k j a → ∀ kk, I1 a kk = I a kk := fun a ha kk => h1 a kk (gA.2.1 a ha).2.1
  obtain ⟨-, -, a3, -, -, a6, -, -, -⟩ := id gA
  exact GX_frame gG gx (os x sml_x) (os k sml_k) (oq p a3) (fun i hi => oq _ (far_symm (a6 i hi))) (fun i hi => oq _ (far_symm (gF i hi)))
/-- a change: recorded, then done -/
theorem close_cx {L : List Nat} {Sh : hm_S} {I I1 : hm_I} {x p f h m k j n t : Nat} {hs im : Nat → Nat} {w w' : Nat → Int32} {P Q : Nat → Nat → Int32} {kp : Nat → Bool} {c : Nat → Nat} {e : Nat → Nat → Nat} (g : GIx L Sh I x p f h m k j hs im n w P Q kp t) (hAg : Agr w c e)
    (h1 : ∀ z kk, outq z p → I1 z kk = recI I x p n hs c (epM w + 1) (lgM w) z kk) (hr : Rel I1 p w') (hG : Good w' (t + 1)) : GIx L (recSh Sh h hs n) I1 x p f h m k j (recH hs n) im (recK n + 1) w' (pushP P n w) Q kp (t + 1) := by
  obtain ⟨gX, gA, gG, gx, gF⟩ := g
  have r0 := GG_rec gG
  have r1 := GX_rec gA hAg gG gx
  have r2 := GX_mod (ApX_rec (n := n) gA) r0 r1 h1 hr
  exact ⟨IsX_rec gX gA, ApX_rec gA, GG_mod r0 hG, r2, gF⟩
theorem c_relx {L : List Nat} {Sh : hm_S} {I : hm_I} {x p f h m k j n t : Nat} {hs im : Nat → Nat} {w : Nat → Int32} {P Q : Nat → Nat → Int32} {kp : Nat → Bool} (g : GIx L Sh I x p f h m k j hs im n w P Q kp t) : Rel (recR I x p n hs w) p w :=
  (GX_rec g.2.1 (Agr_rf w) g.2.2.1 g.2.2.2.1).2.1
theorem c_wfsx {L : List Nat} {Sh : hm_S} {I : hm_I} {x p f h m k j n t : Nat} {hs im : Nat → Nat} {w : Nat → Int32} {P Q : Nat → Nat → Int32} {kp : Nat → Bool} (g : GIx L Sh I x p f h m k j hs im n w P Q kp t) : WfS I p (cM w) (eM w) (epM w + 1) (lgM w) := wfs_rel g.2.2.1.2.1.1 g.2.2.2.1.2.1
