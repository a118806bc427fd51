/-! part 44: calls of both: open, close, setWeight -/
theorem st_eq (s0 : Int32) : fX3_isStream s0 = fX4_isStream s0 := by
  rcases stream_cases s0 with ⟨h1, h2⟩ | ⟨s, -, -, h1, h2⟩
  · rw [h1, h2]
  · rw [h1, h2]
theorem st_true {s0 : Int32} (h : fX4_isStream s0 = true) : ∃ s, s < 8 ∧ s0 = nI s := by
  rcases stream_cases s0 with ⟨-, h2⟩ | ⟨s, h1, h2, -, -⟩
  · rw [h2] at h; exact absurd h (by decide)
  · exact ⟨s, h1, h2⟩
theorem nf {b : Bool} (h : ¬ b = true) : b = false := by cases b <;> simp_all
/-- the class' memory behind a record -/
def recR (I : hm_I) (x p n : Nat) (hs : Nat → Nat) (w : Nat → Int32) : hm_I := recI I x p n hs (cM w) (epM w + 1) (lgM w)
theorem c_rel {L : List Nat} {Sh : hm_S} {I : hm_I} {x p f h m k j b n t : Nat} {hs im : Nat → Nat} {w : Nat → Int32} {P Q : Nat → Nat → Int32} {kp : Nat → Bool} (g : GI L Sh I x p f h m k j b hs im n w P Q kp t) : Rel (recR I x p n hs w) p w :=
  (GX_rec g.2.1 (Agr_rf w) g.2.2.2.2.1 g.2.2.2.2.2.1).2.1
theorem c_pre {L : List Nat} {Sh : hm_S} {I I1 : hm_I} {x p f h m k j b n t : Nat} {hs im : Nat → Nat} {w : Nat → Int32} {P Q : Nat → Nat → Int32} {kp : Nat → Bool} (g : GI L Sh I x p f h m k j b hs im n w P Q kp t) (h1 : ∀ z kk, outq z p → I1 z kk = recR I x p n hs w z kk) : I1 b 2 = nI n ∧ RowIs I1 b w ∧ I1 b 4 = I b 4 := by
  obtain ⟨gX, gA, gM, gB, gG, gx, gm, gF⟩ := g
  have e : ∀ z kk, b ≤ z → z < b + 9 → I1 z kk = I z kk := fun z kk z1 z2 => by rw [h1 z kk (gB z z1 z2).2.1]; exact rec_b gB gG.2.1 z kk z1 z2
  exact ⟨by rw [e _ _ (by omega) (by omega)]; exact gm.1, fun kk hk => by rw [e _ _ (by omega) (by omega)]; exact gm.2.1 kk hk, e _ _ (by omega) (by omega)⟩
theorem m_rem {I1 : hm_I} {b n : Nat} {w : Nat → Int32} (hn : n ≤ 8) (hR : RowIs I1 b w) : RowIs (fX4_remember I1 b n) b w := fun k hk => by rw [(rem_spec hn).1 _ _ (by omega) (by omega)]; exact hR k hk
theorem c_wfs {L : List Nat} {Sh : hm_S} {I : hm_I} {x p f h m k j b n t : Nat} {hs im : Nat → Nat} {w : Nat → Int32} {P Q : Nat → Nat → Int32} {kp : Nat → Bool} (g : GI L Sh I x p f h m k j b hs im n w P Q kp t) : WfS I p (cM w) (eM w) (epM w + 1) (lgM w) := wfs_rel g.2.2.2.2.1.2.1.1 g.2.2.2.2.2.1.2.1
def opW (w : Nat → Int32) (s : Nat) (a c d : Int32) : Nat → Int32 := fun k => if k = 16 + s then d else if k = 8 + s then c else if k = s then a else w k
theorem opW_24 {w : Nat → Int32} {s : Nat} {a c d : Int32} (hs : s < 8) : ∀ k, 24 ≤ k → opW w s a c d k = w k := fun k hk => by unfold opW; rw [if_neg (by omega), if_neg (by omega), if_neg (by omega)]
theorem opW_0 {w : Nat → Int32} {s i : Nat} {a c d : Int32} (hi : i < 8) : opW w s a c d i = if i = s then a else w i := by unfold opW; rw [if_neg (by omega), if_neg (by omega)]
theorem opW_8 {w : Nat → Int32} {s i : Nat} {a c d : Int32} (hs : s < 8) (hi : i < 8) : opW w s a c d (8 + i) = if i = s then c else w (8 + i) := by
  unfold opW
  by_cases e : i = s
  · rw [if_neg (by omega), if_pos (by omega), if_pos e]
  · rw [if_neg (by omega), if_neg (by omega), if_neg (by omega), if_neg e]
theorem opW_16 {w : Nat → Int32} {s i : Nat} {a c d : Int32} (hs : s < 8) (hi : i < 8) : opW w s a c d (16 + i) = if i = s then d else w (16 + i) := by
  unfold opW
  by_cases e : i = s
  · rw [if_pos (by omega), if_pos e]
  · rw [if_neg (by omega), if_neg (by omega), if_neg (by omega), if_neg e]
theorem opW_put {Y : hm_I} {b s : Nat} {w : Nat → Int32} {a c d : Int32} (hR : RowIs Y b w) : RowIs (hm_put (hm_put (hm_put Y (b + 1) (0 + s) a) (b + 1) (8 + s) c) (b + 1) (16 + s) d) b (opW w s a c d) := by
  intro k hk
  rw [hp, hp, hp]
  unfold opW
  by_cases h1 : k = 16 + s
  · rw [if_pos (by omega), if_pos h1]
  · rw [if_neg (by omega), if_neg h1]
    by_cases h2 : k = 8 + s
    · rw [if_pos (by omega), if_pos h2]
    · rw [if_neg (by omega), if_neg h2]
      by_cases h3 : k = s
      · rw [if_pos (by omega), if_pos h3]
      · rw [if_neg (by omega), if_neg h3]; exact hR k hk
theorem op_open (a0 c0 : Int32) : Op yX3_open wsX3_open yX4_open wsX4_open [.int a0, .int c0] isI := by
  intro l D T L A x b t Sh I J ht hI
  obtain ⟨p, f, h, m, k, j, hs, im, n, w, P, Q, kp, g⟩ := hI
  have gs := Inv_s g
  have hWs := c_wfs g
  have hRel := c_rel g
  have g0 := g
  obtain ⟨gX, gA, gM, gB, gG, gx, gm, gF⟩ := g
  by_cases hb : (fX4_isStream a0 && fX4_isIn c0 (nI 1) (nI 9)) = true
  · rw [Bool.and_eq_true] at hb
    obtain ⟨hb1, hb2⟩ := hb
    obtain ⟨s, hs8, e⟩ := st_true hb1
    subst e
    have hox := opn_X gx.2.1.1 hs8
    by_cases ho : w s = nI 1
    · rw [decide_eq_true ho] at hox
      have e4 : fX4_open_t I b n s c0 = ((-2), I) := by
        unfold fX4_open_t
        rw [opn_M gm.2.1 hs8, decide_eq_true ho, if_pos rfl]
      have hm4 := ctX4_open_t (l := l) (D := D) (T := T) (A := A) (J := J) gM gm.1 gG.1 hs8 hb2
      rw [e4] at hm4
      exact ⟨.int (-2), Sh, I, J, I, J, ⟨_, rfl⟩, CtR.mk (ctX3_open_s gX gA hWs gx.1 gG.1 hs8 hb2 hox) (by decide) (by decide) rfl, CtR.mk hm4 (by decide) (by decide) rfl, gs⟩
    · rw [decide_eq_false ho] at hox
      have h1 : ∀ z kk, outq z p → (fX3_open_t I x p n hs (cM w) (epM w + 1) (lgM w) s c0).2 z kk = recR I x p n hs w z kk := fun z kk hz => by
        unfold outq at hz
        show fX2_openStream_t (recR I x p n hs w) p s c0 z kk = _
        unfold fX2_openStream_t
        rw [hp_n (Or.inl (by omega)), hp_n (Or.inl (by omega)), hp_n (Or.inl (by omega))]
      obtain ⟨q1, q2, -⟩ := c_pre g0 h1
      have e4 : fX4_open_t (fX3_open_t I x p n hs (cM w) (epM w + 1) (lgM w) s c0).2 b n s c0 = (fX4_opened (hm_put (hm_put (hm_put (fX4_remember (fX3_open_t I x p n hs (cM w) (epM w + 1) (lgM w) s c0).2 b n) (b + 1) (0 + s) (nI 1)) (b + 1) (8 + s) c0) (b + 1) (16 + s) (nI 0)) b, hm_put (hm_put (hm_put (fX4_remember (fX3_open_t I x p n hs (cM w) (epM w + 1) (lgM w) s c0).2 b n) (b + 1) (0 + s) (nI 1)) (b + 1) (8 + s) c0) (b + 1) (16 + s) (nI 0)) := by
        unfold fX4_open_t
        rw [opn_M q2 hs8, decide_eq_false ho, if_neg (by decide)]
      have hm4 := ctX4_open_t (l := l) (D := D) (T := T) (A := A) (J := J) (IsM_rec (n := n) gM gB) q1 gG.1 hs8 hb2
      rw [e4] at hm4
      have hrow := opW_put (s := s) (a := nI 1) (c := c0) (d := nI 0) (m_rem gG.1 q2)
      have hO' : OpnOk (opW w s (nI 1) c0 (nI 0)) := by
        intro i hi
        rw [opW_0 hi, opW_8 hs8 hi, opW_16 hs8 hi, (WfC_24 (opW_24 hs8)).1]
        by_cases ei : i = s
        · simp only [if_pos ei]; exact ⟨Or.inr trivial, fun q => absurd q (by decide)⟩
        · simp only [if_neg ei]; exact gG.2.1.2.1 i hi
      have hos : osM (opW w s (nI 1) c0 (nI 0)) = osM w ||| 2 ^ s := m_ext (osM_spec _).1 (m_or (osM_spec _).1 (pow_256 s hs8)) (fun i hi => by
        rw [(osM_spec _).2 i hi, opW_0 hi, Nat.testBit_or, (osM_spec _).2 i hi, tb_pow s hs8 i hi]
        by_cases ei : i = s
        · simp [ei]
        · have : ¬ s = i := fun q => ei q.symm
          simp [ei, this])
      obtain ⟨r1, r2, r3, r4, r5, r6⟩ := hRel
      have fr : ∀ z kk, p + 3 ≤ z → fX2_openStream_t (recR I x p n hs w) p s c0 z kk = recR I x p n hs w z kk := fun z kk hz => by
        unfold fX2_openStream_t
        rw [hp_n (Or.inl (by omega)), hp_n (Or.inl (by omega)), hp_n (Or.inl (by omega))]
      have fp : ∀ kk, kk ≠ 0 → fX2_openStream_t (recR I x p n hs w) p s c0 p kk = recR I x p n hs w p kk := fun kk hk => by
        unfold fX2_openStream_t
        rw [hp_n (Or.inl (by omega)), hp_n (Or.inl (by omega)), hp_n (Or.inr hk)]
      have p0 : fX2_openStream_t (recR I x p n hs w) p s c0 p 0 = nI (osM (opW w s (nI 1) c0 (nI 0))) := by
        unfold fX2_openStream_t
        rw [hp_n (Or.inl (by omega)), hp_n (Or.inl (by omega)), hm_put_at, r1.1, fb_setOf s hs8, fa_or, hos]
      have hr : Rel (fX2_openStream_t (recR I x p n hs w) p s c0) p (opW w s (nI 1) c0 (nI 0)) := by
        refine Rel_24 (opW_24 hs8) ⟨p0, fun i hi hoi => ⟨?_, ?_⟩⟩ (RelQ_frame (fun a kk h1 _ => fr a kk (by omega)) r2) (RelE_frame (good_ep gG.2.1) (fp 6 (by omega)) (fun a kk h1 _ => fr a kk (by omega)) r3) (RelL_frame (fun a kk h1 _ => fr a kk (by omega)) r4) ((fp 7 (by omega)).trans r5) ((fp 8 (by omega)).trans r6)
        · rw [opW_8 hs8 hi]
          unfold fX2_openStream_t
          by_cases ei : i = s
          · rw [if_pos ei, ei, hp_n (Or.inl (by omega)), hm_put_at]
          · rw [opW_0 hi, if_neg ei] at hoi
            rw [if_neg ei, hp_n (Or.inl (by omega)), hp_n (Or.inr ei), hp_n (Or.inl (by omega))]
            exact (r1.2 i hi hoi).1
        · rw [opW_16 hs8 hi]
          unfold fX2_openStream_t
          by_cases ei : i = s
          · rw [if_pos ei, ei, hm_put_at]
          · rw [opW_0 hi, if_neg ei] at hoi
            rw [if_neg ei, hp_n (Or.inr ei), hp_n (Or.inl (by omega)), hp_n (Or.inl (by omega))]
            exact (r1.2 i hi hoi).2
      refine ⟨.int (fX3_open_t I x p n hs (cM w) (epM w + 1) (lgM w) s c0).1, recSh Sh h hs n, _, J, _, J, ⟨_, rfl⟩, CtR.mk (ctX3_open_t gX gA hWs gx.1 gG.1 hs8 hb2 hox) (by decide) (by decide) rfl, CtR.mk hm4 (by decide) (by decide) ?_, ?_⟩
      · have e1 : (fX3_open_t I x p n hs (cM w) (epM w + 1) (lgM w) s c0).1 = fJ6_bitCount_0f7a4 (fX2_openStream_t (recR I x p n hs w) p s c0 p 0) := rfl
        have e2 : fX4_opened (hm_put (hm_put (hm_put (fX4_remember (fX3_open_t I x p n hs (cM w) (epM w + 1) (lgM w) s c0).2 b n) (b + 1) (0 + s) (nI 1)) (b + 1) (8 + s) c0) (b + 1) (16 + s) (nI 0)) b = lp 8 (fun i x => x + opW w s (nI 1) c0 (nI 0) i) (nI 0) := by
          unfold fX4_opened
          refine lp_cong rfl (fun i z hi => ?_)
          rw [Nat.zero_add i, hrow i (by omega)]
        show some (Value.int _) = some (Value.int _)
        rw [e1, p0, opened_eq hO', e2]
      · exact close_c g0 (Agr_rf w) h1 hr (Good_mono (Good_24 (opW_24 hs8) hO' gG.2.1) (Nat.le_succ t)) (fun _ _ _ => rfl) (fun z kk z1 z2 => by
          show hm_put _ _ _ _ z kk = _
          rw [hp_n (Or.inl z1), hp_n (Or.inl z1), hp_n (Or.inl z1)]) hrow
  · have hb' : (fX3_isStream a0 && fX3_isWithin c0 (nI 1) (nI 9)) = false := by rw [st_eq, within_eq]; exact nf hb
    exact ⟨.int (-1), Sh, I, J, I, J, ⟨_, rfl⟩, CtR.mk (ctX3_open_b gX hb') (by decide) (by decide) rfl, CtR.mk (ctX4_open_b gM (nf hb)) (by decide) (by decide) rfl, gs⟩
