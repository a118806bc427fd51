/-! part 46: edge, commit, revert -/
theorem Good_o {w w' : Nat → Int32} {t : Nat} (h : ∀ k, (k < 176 ∨ 265 ≤ k) → w' k = w k) (h184 : w' 184 = nI (epM w') ∧ epM w ≤ epM w' ∧ epM w' ≤ 9) (ho : OrdOk w' 176 ∧ ∀ e, e ≤ epM w' → OrdOk w' (185 + 8 * e)) (hG : Good w t) : Good w' t := by
  obtain ⟨⟨g1, g2, g3, g4, g5, g6⟩, hO, -, q1, ⟨come, q2, q3, q4⟩, q5, q6⟩ := hG
  have c1 : ∀ s, s < 8 → cM w' s = cM w s := fun s hs => by unfold cM; rw [h _ (by omega)]
  have c4 : lgM w' = lgM w := by unfold lgM; rw [h _ (by omega)]
  have ce : ∀ s k j, s < 8 → k < cM w' s → j < 3 → w' (32 + 18 * s + 3 * k + j) = w (32 + 18 * s + 3 * k + j) := fun s k j hs hk hj => by
    rw [c1 s hs] at hk
    have := (g1 s hs).2
    exact h _ (by omega)
  have c2 : ∀ s k, s < 8 → k < cM w' s → eM w' s k = eM w s k := fun s k hs hk => congrArg Int32.toNatClampNeg (ce s k 2 hs hk (by omega))
  have c5 : ∀ s k, s < 8 → k < cM w' s → numM w' s k = numM w s k := fun s k hs hk => congrArg Int32.toNatClampNeg (ce s k 0 hs hk (by omega))
  have c6 : ∀ s k, s < 8 → k < cM w' s → szR w' s k = szR w s k := fun s k hs hk => congrArg Int32.toNatClampNeg (ce s k 1 hs hk (by omega))
  refine ⟨⟨fun s hs => ?_, fun s hs k hk => ?_, h184.1, h184.2.2, ?_, ?_⟩, fun s hs => ⟨?_, fun h0 => ?_⟩, ho, fun s hs k hk => ?_, ⟨come, ?_, q3, fun s hs k hk => ?_⟩, fun s1 hs1 s2 hs2 k1 hk1 k2 hk2 heq => ?_, fun s hs k hk => ?_⟩
  · rw [c1 s hs, h _ (by omega)]; exact g1 s hs
  · rw [c2 s k hs hk, ce s k 2 hs hk (by omega)]
    rw [c1 s hs] at hk
    exact ⟨(g2 s hs k hk).1, Nat.le_trans (g2 s hs k hk).2 h184.2.1⟩
  · rw [c4, h _ (by omega)]; exact g5
  · rw [c4]; exact g6
  · rw [h _ (by omega)]; exact (hO s hs).1
  · rw [h _ (by omega)] at h0
    rw [h _ (by omega), h _ (by omega), c1 s hs]; exact (hO s hs).2 h0
  · rw [c2 s k hs (by omega), c2 s (k + 1) hs hk]
    rw [c1 s hs] at hk
    exact q1 s hs k hk
  · rw [h _ (by omega)]; exact q2
  · rw [c5 s k hs hk, show w' (32 + 18 * s + 3 * k) = _ from ce s k 0 hs hk (by omega)]
    rw [c1 s hs] at hk
    exact q4 s hs k hk
  · rw [c5 s1 k1 hs1 hk1, c5 s2 k2 hs2 hk2] at heq
    rw [c1 s1 hs1] at hk1
    rw [c1 s2 hs2] at hk2
    exact q5 s1 hs1 s2 hs2 k1 hk1 k2 hk2 heq
  · rw [c6 s k hs hk, ce s k 1 hs hk (by omega)]
    rw [c1 s hs] at hk
    exact q6 s hs k hk
theorem Rel_o {I : hm_I} {q t : Nat} {w w' : Nat → Int32} (h : ∀ k, (k < 176 ∨ 265 ≤ k) → w' k = w k) (hG : Good w t) (hW : RelW I q w) (hQ : RelQ I q w) (hE : RelE I q w') (hL : RelL I q w) (h7 : I q 7 = w 265) (h8 : I q 8 = w 266) : Rel I q w' := by
  have c1 : ∀ s, s < 8 → cM w' s = cM w s := fun s hs => by unfold cM; rw [h _ (by omega)]
  have c4 : lgM w' = lgM w := by unfold lgM; rw [h _ (by omega)]
  refine ⟨⟨?_, fun s hs ho => ?_⟩, ⟨fun s hs => ?_, fun s hs k hk => ?_⟩, hE, ⟨?_, fun k hk => ?_⟩, ?_, ?_⟩
  · rw [osM_cong (fun i hi => h _ (by omega))]; exact hW.1
  · rw [h _ (by omega)] at ho
    rw [h _ (by omega), h _ (by omega)]; exact hW.2 s hs ho
  · rw [h _ (by omega)]; exact hQ.1 s hs
  · rw [c1 s hs] at hk
    have := cM_le hG.1 hs
    rw [h _ (by omega), h _ (by omega), h _ (by omega)]; exact hQ.2 s hs k hk
  · rw [h _ (by omega)]; exact hL.1
  · rw [c4] at hk
    rw [h _ (by omega), h _ (by omega), h _ (by omega), h _ (by omega)]; exact hL.2 k hk
  · rw [h _ (by omega)]; exact h7
  · rw [h _ (by omega)]; exact h8
def eW (w : Nat → Int32) (i : Nat) (v : Int32) : Nat → Int32 := fun k => if k = 176 + i then v else w k
theorem eW_no {w : Nat → Int32} {i k : Nat} {v : Int32} (h : k ≠ 176 + i) : eW w i v k = w k := if_neg h
theorem eW_mk {w : Nat → Int32} {i V : Nat} (hV : V < 256) : ∀ a, mk (eW w i (nI V)) 176 a = if a = i then V else mk w 176 a := by
  intro a
  unfold mk eW
  by_cases e : a = i
  · rw [if_pos (by omega), if_pos e, nI_clamp (by omega)]
  · rw [if_neg (by omega), if_neg e]
theorem eW_ord {w : Nat → Int32} {i V : Nat} (hO : OrdOk w 176) (hV : V < 256) (hA : Acy (fun a => if a = i then V else mk w 176 a)) : OrdOk (eW w i (nI V)) 176 := by
  refine ⟨fun a ha => ?_, fun a ha => ?_⟩
  · rw [eW_mk hV a]
    by_cases e : a = i
    · rw [if_pos e, e]; exact ⟨if_pos rfl, hV⟩
    · rw [if_neg e, eW_no (by omega)]; exact hO.1 a ha
  · rw [clo_cong (fun s _ => eW_mk hV s) a ha]; exact hA a ha
theorem Good_edge {w : Nat → Int32} {t i V : Nat} (hG : Good w t) (hi : i < 8) (hV : V < 256) (hA : Acy (fun a => if a = i then V else mk w 176 a)) : Good (eW w i (nI V)) t := by
  have e1 : epM (eW w i (nI V)) = epM w := by unfold epM; rw [eW_no (by omega)]
  refine Good_o (fun k hk => eW_no (by omega)) ⟨by rw [e1, eW_no (by omega)]; exact hG.1.2.2.1, by rw [e1]; exact Nat.le_refl _, by rw [e1]; exact good_ep hG⟩ ⟨eW_ord hG.2.2.1.1 hV hA, fun e he => ?_⟩ hG
  rw [e1] at he
  exact OrdOk_cong (fun a ha => eW_no (by omega)) (hG.2.2.1.2 e he)
theorem Rel_edge {R : hm_I} {p t i V : Nat} {w : Nat → Int32} (hG : Good w t) (h : Rel R p w) (hi : i < 8) (hV : V < 256) :
    Rel (fX1_findPreceded (hm_put R (p + 44 + 1) i (nI V)) (p + 44)) p (eW w i (nI V)) ∧ ∀ z k, z ≠ p + 45 → z ≠ p + 46 → fX1_findPreceded (hm_put R (p + 44 + 1) i (nI V)) (p + 44) z k = R z k := by
  obtain ⟨r1, r2, r3, r4, r5, r6⟩ := h
  have hO := hG.2.2.1.1
  have e1 : epM (eW w i (nI V)) = epM w := by unfold epM; rw [eW_no (by omega)]
  obtain ⟨f1, f2⟩ := fp_spec (I := hm_put R (p + 44 + 1) i (nI V)) (a := p + 44) (N := mk (eW w i (nI V)) 176) (fun s hs => by
    rw [eW_mk hV s]
    by_cases e : s = i
    · rw [if_pos e, e, hm_put_at]; exact ⟨rfl, hV⟩
    · rw [if_neg e, hp_n (Or.inr e), (r3.1 s hs).1]; exact hO.1 s hs)
  have fr : ∀ z k, z ≠ p + 45 → z ≠ p + 46 → fX1_findPreceded (hm_put R (p + 44 + 1) i (nI V)) (p + 44) z k = R z k := fun z k z1 z2 => by rw [f1 z k (by omega), hp_n (Or.inl (by omega))]
  refine ⟨Rel_o (fun k hk => eW_no (by omega)) hG (RelW_frame (fr _ _ (by omega) (by omega)) (fun a k h1 h2 => fr a k (by omega) (by omega)) r1) (RelQ_frame (fun a k h1 h2 => fr a k (by omega) (by omega)) r2) ⟨fun a ha => ⟨?_, f2 a ha⟩, fun e he => ?_, ?_⟩ (RelL_frame (fun a k h1 h2 => fr a k (by omega) (by omega)) r4) ((fr _ _ (by omega) (by omega)).trans r5) ((fr _ _ (by omega) (by omega)).trans r6), fr⟩
  · rw [f1 _ _ (by omega)]
    by_cases e : a = i
    · rw [e, hm_put_at]; exact (if_pos rfl).symm
    · rw [hp_n (Or.inr e), eW_no (by omega)]; exact (r3.1 a ha).1
  · rw [e1] at he
    exact RelO_cong (fun a ha => eW_no (by omega)) (RelO_frame (fun a k h1 h2 => fr a k (by omega) (by omega)) (r3.2.1 e he))
  · rw [e1, fr _ _ (by omega) (by omega)]; exact r3.2.2
theorem eW_row {Y : hm_I} {b i : Nat} {w : Nat → Int32} {v : Int32} (hR : RowIs Y b w) : RowIs (hm_put Y (b + 1) (176 + i) v) b (eW w i v) := by
  intro k hk
  rw [hp]
  unfold eW
  by_cases e : k = 176 + i
  · rw [if_pos ⟨rfl, e⟩, if_pos e]
  · rw [if_neg (fun q => e q.2), if_neg e]; exact hR k hk
theorem op_edge (a0 b0 c0 : Int32) : Op yX3_edge wsX3_edge yX4_edge wsX4_edge [.int a0, .int b0, .int c0] isI := by
  intro l D T L A x b t Sh I J ht hI
  obtain ⟨p, f, h, m, k, j, hs, im, n, w, P, Q, kp, g⟩ := hI
  have gs := Inv_s g
  have hWs := c_wfs g
  have hRel := c_rel g
  have g0 := g
  obtain ⟨gX, gA, gM, gB, gG, gx, gm, gF⟩ := g
  have hO := gG.2.1.2.2.1.1
  have bad : (fX3_areTwoStreams a0 b0 && fX3_isWithin c0 (nI 0) (nI 1)) = false → (fX4_isStream a0 = true → fX4_isStream b0 = true → ¬ a0 = b0 → fX4_isIn c0 (nI 0) (nI 1) = false) → ∃ (v : Value) (Sh1 : hm_S) (I1 : hm_I) (J1 : hm_J) (I2 : hm_I) (J2 : hm_J), isI v ∧ CtR l yX3_edge wsX3_edge D T A (.ref x :: [.int a0, .int b0, .int c0]) (hm D T L A Sh I J) (some v) (hm D T L A Sh1 I1 J1) ∧ CtR l yX4_edge wsX4_edge D T A (.ref b :: [.int a0, .int b0, .int c0]) (hm D T L A Sh1 I1 J1) (some v) (hm D T L A Sh1 I2 J2) ∧ Inv L x b (t + 1) Sh1 I2 := fun h1 h2 =>
    ⟨.int (-1), Sh, I, J, I, J, ⟨_, rfl⟩, CtR.mk (ctX3_edge_b gX h1) (by decide) (by decide) rfl, CtR.mk (ctX4_edge_b gM h2) (by decide) (by decide) rfl, gs⟩
  rcases two_cases a0 b0 with ⟨h1, h2⟩ | ⟨i, i', hi, hi', hne, e1, e2, h1⟩
  · exact bad (by rw [h1]; rfl) (fun q1 q2 q3 => absurd (h2 q1 q2) q3)
  rcases bool_cases (fX4_isIn c0 (nI 0) (nI 1)) with hc | hc
  · exact bad (by rw [within_eq, hc, Bool.and_false]) (fun _ _ _ => hc)
  obtain ⟨o, -, ho, eo⟩ := (within_iff (by decide) (by decide)).mp hc
  subst e1
  subst e2
  have hNi := hO.1 i hi
  have o01 : o = 0 ∨ o = 1 := by omega
  rcases o01 with o01 | o01
  · subst o01
    subst eo
    have hV : mk w 176 i &&& (255 ^^^ 2 ^ i') < 256 := m_and hNi.2
    have hAc : Acy (fun a => if a = i then mk w 176 i &&& (255 ^^^ 2 ^ i') else mk w 176 a) := acy_sub (N := mk w 176) hO.2 (fun a b' ha hb => by
      by_cases e : a = i
      · simp only [if_pos e, Nat.testBit_and, Bool.and_eq_true] at hb
        rw [e]; exact hb.1
      · simp only [if_neg e] at hb
        exact hb)
    obtain ⟨q1, q2⟩ := Rel_edge (V := mk w 176 i &&& (255 ^^^ 2 ^ i')) gG.2.1 hRel hi hV
    have eR : fX1_putEdge_t (recR I x p n hs w) (p + 44) i i' false = fX1_findPreceded (hm_put (recR I x p n hs w) (p + 44 + 1) i (nI (mk w 176 i &&& (255 ^^^ 2 ^ i')))) (p + 44) := by
      unfold fX1_putEdge_t
      rw [if_neg (by decide), (hRel.2.2.1.1 i hi).1, hNi.1, fb_setOf i' hi', fb_not (b := 2 ^ i') hNi.2]
    rw [← eR] at q1 q2
    have eX : fX3_edge_t0 I x p n hs (cM w) (epM w + 1) (lgM w) i i' = ((if (mk w 176 i).testBit i' = true then nI 1 else nI 0), fX1_putEdge_t (recR I x p n hs w) (p + 44) i i' false) := by
      show (if fX1_hasEdge_t (recR I x p n hs w) (p + 44) i i' = true then (nI 1, fX1_putEdge_t (recR I x p n hs w) (p + 44) i i' false) else (nI 0, fX1_putEdge_t (recR I x p n hs w) (p + 44) i i' false)) = _
      rw [RelO_edge hO hRel.2.2.1.1 hi hi']
      by_cases z : (mk w 176 i).testBit i' = true
      · rw [if_pos z, if_pos z]
      · rw [if_neg z, if_neg z]
    have hx3 := ctX3_edge_t0 (l := l) (D := D) (T := T) (L := L) (A := A) (Sh := Sh) (J := J) gX gA hWs gx.1 gG.1 hi hi' hne
    rw [eX] at hx3
    have h1 : ∀ z kk, outq z p → fX1_putEdge_t (recR I x p n hs w) (p + 44) i i' false z kk = recR I x p n hs w z kk := fun z kk hz => by
      unfold outq at hz
      exact q2 z kk (by omega) (by omega)
    obtain ⟨c1, c2, -⟩ := c_pre g0 h1
    have hla := la_row c2 (o := 176) (by omega) hO
    have hl1 := row_same c2 hla.1
    have hrm := m_rem gG.1 hl1
    have hm4 := ctX4_edge_t0 (l := l) (D := D) (T := T) (A := A) (J := J) (IsM_rec (n := n) gM gB) c1 gG.1 hi hi' hne
    generalize hY : fX4_remember (fX4_layAfter (fX1_putEdge_t (recR I x p n hs w) (p + 44) i i' false) b 176) b n = Y at hrm
    have e4 : fX4_edge_t0 (fX1_putEdge_t (recR I x p n hs w) (p + 44) i i' false) b n i i' = ((if (mk w 176 i).testBit i' = true then nI 1 else nI 0), hm_put Y (b + 1) (176 + i) (nI (mk w 176 i &&& (255 ^^^ 2 ^ i')))) := by
      unfold fX4_edge_t0
      rw [hY, hrm _ (by omega), hNi.1, fb_has _ hNi.2 i' hi', fb_shl i' hi', fb_not (b := 2 ^ i') hNi.2]
      by_cases z : (mk w 176 i).testBit i' = true
      · rw [if_pos z, if_pos z]
      · rw [if_neg z, if_neg z]
    rw [e4] at hm4
    exact ⟨_, recSh Sh h hs n, _, J, _, J, ⟨_, rfl⟩, CtR.mk hx3 (by decide) (by decide) rfl, CtR.mk hm4 (by decide) (by decide) rfl, close_c g0 (Agr_rf w) h1 q1 (Good_mono (Good_edge gG.2.1 hi hV hAc) (Nat.le_succ t)) (fun z kk hz => hla.1 z kk (by omega)) (fun z kk z1 z2 => by
      rw [hY]
      exact hp_n (Or.inl z1)) (eW_row hrm)⟩
  · subst o01
    subst eo
    by_cases hcy : (clo (mk w 176) i').testBit i = true
    · have hx3 := ctX3_edge_c (l := l) (D := D) (T := T) (L := L) (A := A) (Sh := Sh) (J := J) gX gA hWs gx.1 gG.1 hi hi' hne ((RelO_pre hO gx.2.1.2.2.1.1 hi' hi).trans hcy)
      have hla := la_row gm.2.1 (o := 176) (by omega) hO
      have hm4 := ctX4_edge_t1 (l := l) (D := D) (T := T) (A := A) (J := J) gM gm.1 gG.1 hi hi' hne
      have e4 : fX4_edge_t1 I b n i i' = ((-4), fX4_layAfter I b 176) := by
        unfold fX4_edge_t1
        rw [hla.2 i' hi', fb_has _ (ord_lt hO i' hi') i hi, if_pos hcy]
      rw [e4] at hm4
      exact ⟨_, Sh, I, J, _, J, ⟨_, rfl⟩, CtR.mk hx3 (by decide) (by decide) rfl, CtR.mk hm4 (by decide) (by decide) rfl, close_q g0 (fun _ _ _ => rfl) (fun z kk z1 z2 => hla.1 z kk (by omega)) (row_same gm.2.1 hla.1)⟩
    · have hV : mk w 176 i ||| 2 ^ i' < 256 := m_or hNi.2 (pow_256 i' hi')
      have hAc : Acy (fun a => if a = i then mk w 176 i ||| 2 ^ i' else mk w 176 a) := acy_add (N := mk w 176) hi hi' hne hO.2 (nf hcy) (fun a b' ha hb => by
        by_cases e : a = i
        · simp only [if_pos e] at hb
          rw [Nat.testBit_or, Bool.or_eq_true] at hb
          rcases hb with hb | hb
          · left; rw [e]; exact hb
          · right
            rcases Nat.lt_or_ge b' 8 with z | z
            · rw [tb_pow i' hi' b' z, decide_eq_true_iff] at hb
              exact ⟨e, hb.symm⟩
            · rw [tb_big (pow_256 i' hi') z] at hb; exact absurd hb (by decide)
        · simp only [if_neg e] at hb
          exact Or.inl hb)
      obtain ⟨q1, q2⟩ := Rel_edge (V := mk w 176 i ||| 2 ^ i') gG.2.1 hRel hi hV
      have eR : fX1_putEdge_t (recR I x p n hs w) (p + 44) i i' true = fX1_findPreceded (hm_put (recR I x p n hs w) (p + 44 + 1) i (nI (mk w 176 i ||| 2 ^ i'))) (p + 44) := by
        unfold fX1_putEdge_t
        rw [if_pos rfl, (hRel.2.2.1.1 i hi).1, hNi.1, fb_setOf i' hi', fa_or]
      rw [← eR] at q1 q2
      have eX : fX3_edge_t1 I x p n hs (cM w) (epM w + 1) (lgM w) i i' = ((if (mk w 176 i).testBit i' = true then nI 1 else nI 0), fX1_putEdge_t (recR I x p n hs w) (p + 44) i i' true) := by
        show (if fX1_hasEdge_t (recR I x p n hs w) (p + 44) i i' = true then (nI 1, fX1_putEdge_t (recR I x p n hs w) (p + 44) i i' true) else (nI 0, fX1_putEdge_t (recR I x p n hs w) (p + 44) i i' true)) = _
        rw [RelO_edge hO hRel.2.2.1.1 hi hi']
        by_cases z : (mk w 176 i).testBit i' = true
        · rw [if_pos z, if_pos z]
        · rw [if_neg z, if_neg z]
      have hx3 := ctX3_edge_t1 (l := l) (D := D) (T := T) (L := L) (A := A) (Sh := Sh) (J := J) gX gA hWs gx.1 gG.1 hi hi' hne ((RelO_pre hO gx.2.1.2.2.1.1 hi' hi).trans (nf hcy))
      rw [eX] at hx3
      have h1 : ∀ z kk, outq z p → fX1_putEdge_t (recR I x p n hs w) (p + 44) i i' true z kk = recR I x p n hs w z kk := fun z kk hz => by
        unfold outq at hz
        exact q2 z kk (by omega) (by omega)
      obtain ⟨c1, c2, -⟩ := c_pre g0 h1
      have hla := la_row c2 (o := 176) (by omega) hO
      have hl1 := row_same c2 hla.1
      have hrm := m_rem gG.1 hl1
      have hm4 := ctX4_edge_t1 (l := l) (D := D) (T := T) (A := A) (J := J) (IsM_rec (n := n) gM gB) c1 gG.1 hi hi' hne
      generalize hY : fX4_remember (fX4_layAfter (fX1_putEdge_t (recR I x p n hs w) (p + 44) i i' true) b 176) b n = Y at hrm
      have e4 : fX4_edge_t1 (fX1_putEdge_t (recR I x p n hs w) (p + 44) i i' true) b n i i' = ((if (mk w 176 i).testBit i' = true then nI 1 else nI 0), hm_put Y (b + 1) (176 + i) (nI (mk w 176 i ||| 2 ^ i'))) := by
        unfold fX4_edge_t1
        rw [hla.2 i' hi', fb_has _ (ord_lt hO i' hi') i hi, if_neg hcy, hY, hrm _ (by omega), hNi.1, fb_has _ hNi.2 i' hi', fb_shl i' hi', fa_or]
        by_cases z : (mk w 176 i).testBit i' = true
        · rw [if_pos z, if_pos z]
        · rw [if_neg z, if_neg z]
      rw [e4] at hm4
      exact ⟨_, recSh Sh h hs n, _, J, _, J, ⟨_, rfl⟩, CtR.mk hx3 (by decide) (by decide) rfl, CtR.mk hm4 (by decide) (by decide) rfl, close_c g0 (Agr_rf w) h1 q1 (Good_mono (Good_edge gG.2.1 hi hV hAc) (Nat.le_succ t)) (fun z kk hz => hla.1 z kk (by omega)) (fun z kk z1 z2 => by
        rw [hY]
        exact hp_n (Or.inl z1)) (eW_row hrm)⟩
/-! commit -/
theorem lp_copys (a o s n : Nat) (hd : s + n ≤ o ∨ o + n ≤ s) (I : hm_I) :
    (∀ z k, z ≠ a → lp n (fun i x => hm_put x a (o + i) (x a (s + i))) I z k = I z k) ∧ ∀ k, lp n (fun i x => hm_put x a (o + i) (x a (s + i))) I a k = if o ≤ k ∧ k < o + n then I a (s + (k - o)) else I a k := by
  refine lp_inv (fun i (x : hm_I) => i ≤ n → (∀ z k, z ≠ a → x z k = I z k) ∧ ∀ k, x a k = if o ≤ k ∧ k < o + i then I a (s + (k - o)) else I a k) (fun _ => ⟨fun _ _ _ => rfl, fun k => by rw [if_neg (by omega)]⟩) ?_ (Nat.le_refl n)
  intro i x hi hx hin
  have hx := hx (by omega)
  refine ⟨fun z k hz => by rw [hp_n (Or.inl hz)]; exact hx.1 z k hz, fun k => ?_⟩
  by_cases e : k = o + i
  · subst e
    rw [hm_put_at, hx.2, if_neg (by omega), if_pos (by omega), Nat.add_sub_cancel_left]
  · rw [hp_n (Or.inr e), hx.2]
    by_cases h : o ≤ k ∧ k < o + i
    · rw [if_pos h, if_pos (by omega)]
    · rw [if_neg h, if_neg (by omega)]
def mW (w : Nat → Int32) : Nat → Int32 := fun k => if 185 + 8 * (epM w + 1) ≤ k ∧ k < 185 + 8 * (epM w + 1) + 8 then w (176 + (k - (185 + 8 * (epM w + 1)))) else if k = 184 then nI (epM w + 1) else w k
theorem mW_no {w : Nat → Int32} {k : Nat} (h1 : k < 185 + 8 * (epM w + 1) ∨ 185 + 8 * (epM w + 1) + 8 ≤ k) (h2 : k ≠ 184) : mW w k = w k := by
  unfold mW; rw [if_neg (by omega), if_neg h2]
theorem mW_in {w : Nat → Int32} {a : Nat} (ha : a < 8) : mW w (185 + 8 * (epM w + 1) + a) = w (176 + a) := by
  unfold mW; rw [if_pos (by omega)]
  exact congrArg w (by omega)
theorem mW_184 {w : Nat → Int32} : mW w 184 = nI (epM w + 1) := by
  unfold mW; rw [if_neg (by omega), if_pos rfl]
theorem mW_ep {w : Nat → Int32} (h : epM w < 9) : epM (mW w) = epM w + 1 := by
  have e : epM (mW w) = (mW w 184).toNatClampNeg := rfl
  rw [e, mW_184, nI_clamp (by omega)]
theorem OrdOk_at {w w' : Nat → Int32} {r r' : Nat} (h : ∀ a, a < 8 → w' (r' + a) = w (r + a)) (hO : OrdOk w r) : OrdOk w' r' := by
  have hm : ∀ a, a < 8 → mk w' r' a = mk w r a := fun a ha => by unfold mk; rw [h a ha]
  refine ⟨fun a ha => ?_, fun a ha => ?_⟩
  · rw [h a ha, hm a ha]; exact hO.1 a ha
  · rw [clo_cong hm a ha]; exact hO.2 a ha
theorem RelO_at {I I' : hm_I} {o o' : Nat} {w w' : Nat → Int32} {r r' : Nat} (h : ∀ a, a < 8 → w' (r' + a) = w (r + a)) (hI : ∀ a, a < 8 → I' (o' + 1) a = I (o + 1) a ∧ I' (o' + 2) a = I (o + 2) a) (hO : RelO I o w r) : RelO I' o' w' r' := by
  have hm : ∀ a, a < 8 → mk w' r' a = mk w r a := fun a ha => by unfold mk; rw [h a ha]
  intro a ha
  rw [h a ha, clo_cong hm a ha, (hI a ha).1, (hI a ha).2]
  exact hO a ha
theorem Good_commit {w : Nat → Int32} {t : Nat} (hG : Good w t) (he : epM w < 9) : Good (mW w) t := by
  have e1 := mW_ep he
  refine Good_o (fun k hk => mW_no (by omega) (by omega)) ⟨by rw [e1]; exact mW_184, by omega, by omega⟩ ⟨OrdOk_cong (fun a ha => mW_no (by omega) (by omega)) hG.2.2.1.1, fun e hee => ?_⟩ hG
  rw [e1] at hee
  by_cases q : e = epM w + 1
  · rw [q]; exact OrdOk_at (fun a ha => mW_in ha) hG.2.2.1.1
  · exact OrdOk_cong (fun a ha => mW_no (by omega) (by omega)) (hG.2.2.1.2 e (by omega))
theorem commit_X {R : hm_I} {p t : Nat} {w : Nat → Int32} (hG : Good w t) (h : Rel R p w) (he : epM w < 9) :
    Rel (fX2_beginEpoch_t R p (epM w + 1)) p (mW w) ∧ ∀ z k, outq z p → fX2_beginEpoch_t R p (epM w + 1) z k = R z k := by
  obtain ⟨r1, r2, r3, r4, r5, r6⟩ := h
  obtain ⟨f1, f2, f3⟩ := cpO (I := R) (a := p + 48 + 3 * (epM w + 1)) (b := p + 44) (by omega)
  have e1 := mW_ep he
  have fr : ∀ z k, z ≠ p → (z < p + 48 + 3 * (epM w + 1) ∨ p + 48 + 3 * (epM w + 1) + 3 ≤ z) → fX2_beginEpoch_t R p (epM w + 1) z k = R z k := fun z k h1 h2 => by
    unfold fX2_beginEpoch_t
    rw [hp_n (Or.inl h1), f1 z k h2]
  have fp : ∀ k, k ≠ 6 → fX2_beginEpoch_t R p (epM w + 1) p k = R p k := fun k hk => by
    unfold fX2_beginEpoch_t
    rw [hp_n (Or.inr hk), f1 p k (by omega)]
  refine ⟨Rel_o (fun k hk => mW_no (by omega) (by omega)) hG (RelW_frame (fp 0 (by omega)) (fun a k h1 h2 => fr a k (by omega) (by omega)) r1) (RelQ_frame (fun a k h1 h2 => fr a k (by omega) (by omega)) r2) ⟨?_, fun e hee => ?_, ?_⟩ (RelL_frame (fun a k h1 h2 => fr a k (by omega) (by omega)) r4) ((fp 7 (by omega)).trans r5) ((fp 8 (by omega)).trans r6), fun z k hz => ?_⟩
  · exact RelO_cong (fun a ha => mW_no (by omega) (by omega)) (RelO_frame (fun a k h1 h2 => fr a k (by omega) (by omega)) r3.1)
  · rw [e1] at hee
    by_cases q : e = epM w + 1
    · rw [q]
      refine RelO_at (fun a ha => mW_in ha) (fun a ha => ?_) r3.1
      unfold fX2_beginEpoch_t
      rw [hp_n (Or.inl (by omega)), hp_n (Or.inl (by omega))]
      exact f3 a ha
    · exact RelO_cong (fun a ha => mW_no (by omega) (by omega)) (RelO_frame (fun a k h1 h2 => fr a k (by omega) (by omega)) (r3.2.1 e (by omega)))
  · rw [e1]; exact hm_put_at _ _ _ _
  · unfold outq at hz
    exact fr z k (by omega) (by omega)
theorem op_commit : Op yX3_commit wsX3_commit yX4_commit wsX4_commit [] isI := by
  intro l D T L A x b t Sh I J ht hI
  obtain ⟨p, f, h, m, k, j, hs, im, n, w, P, Q, kp, g⟩ := hI
  have gs := Inv_s g
  have hWs := c_wfs g
  have hRel := c_rel g
  have g0 := g
  obtain ⟨gX, gA, gM, gB, gG, gx, gm, gF⟩ := g
  have hep := good_ep gG.2.1
  by_cases he : epM w = 9
  · have hm4 := ctX4_commit (l := l) (D := D) (T := T) (A := A) (J := J) gM (m_wf gG.2.1 gm.2.1) gm.1 gG.1
    have e4 : fX4_commit I b n (epM w) = ((-3), I) := by unfold fX4_commit; rw [if_pos he]
    rw [e4] at hm4
    exact ⟨.int (-3), Sh, I, J, I, J, ⟨_, rfl⟩, CtR.mk (ctX3_commit_f gX gA hWs gx.1 gG.1 (by omega)) (by decide) (by decide) rfl, CtR.mk hm4 (by decide) (by decide) rfl, gs⟩
  · have he9 : epM w < 9 := by omega
    obtain ⟨q1, q2⟩ := commit_X gG.2.1 hRel he9
    have h1 : ∀ z kk, outq z p → (fX3_commit_t I x p n hs (cM w) (epM w + 1) (lgM w)).2 z kk = recR I x p n hs w z kk := q2
    obtain ⟨c1, c2, -⟩ := c_pre g0 h1
    have hrm := m_rem gG.1 c2
    have hm4 := ctX4_commit (l := l) (D := D) (T := T) (A := A) (J := J) (IsM_rec (n := n) gM gB) (m_wf gG.2.1 c2) c1 gG.1
    generalize hY : fX4_remember (fX3_commit_t I x p n hs (cM w) (epM w + 1) (lgM w)).2 b n = Y at hrm
    have e4 : fX4_commit (fX3_commit_t I x p n hs (cM w) (epM w + 1) (lgM w)).2 b n (epM w) = (nI (epM w + 1), (lp 8 (fun i34 x34 => hm_put x34 (b + 1) (185 + 8 * (epM w + 1) + i34) (x34 (b + 1) (176 + i34))) (hm_put Y (b + 1) 184 (nI (epM w + 1))))) := by
      unfold fX4_commit; rw [if_neg he, hY]
    rw [e4] at hm4
    have hcp := lp_copys (b + 1) (185 + 8 * (epM w + 1)) 176 8 (by omega) (hm_put Y (b + 1) 184 (nI (epM w + 1)))
    have hrow : RowIs (lp 8 (fun i34 x34 => hm_put x34 (b + 1) (185 + 8 * (epM w + 1) + i34) (x34 (b + 1) (176 + i34))) (hm_put Y (b + 1) 184 (nI (epM w + 1)))) b (mW w) := by
      intro kk hk
      rw [hcp.2 kk]
      unfold mW
      by_cases z : 185 + 8 * (epM w + 1) ≤ kk ∧ kk < 185 + 8 * (epM w + 1) + 8
      · rw [if_pos z, if_pos z, hp_n (Or.inr (by omega))]; exact hrm _ (by omega)
      · rw [if_neg z, if_neg z, hp]
        by_cases z2 : kk = 184
        · rw [if_pos ⟨rfl, z2⟩, if_pos z2]
        · rw [if_neg (fun q => z2 q.2), if_neg z2]; exact hrm kk hk
    refine ⟨_, recSh Sh h hs n, _, J, _, J, ⟨_, rfl⟩, CtR.mk (ctX3_commit_t gX gA hWs gx.1 gG.1 (by omega)) (by decide) (by decide) rfl, CtR.mk hm4 (by decide) (by decide) ?_, close_c g0 (Agr_rf w) h1 q1 (Good_mono (Good_commit gG.2.1 he9) (Nat.le_succ t)) (fun _ _ _ => rfl) (fun z kk z1 z2 => ?_) hrow⟩
    · rfl
    · rw [hY]
      exact (hcp.1 z kk z1).trans (hp_n (Or.inl z1))
/-! revert -/
def rW (w : Nat → Int32) (e : Nat) : Nat → Int32 := fun k => if 176 ≤ k ∧ k < 176 + 8 then w (185 + 8 * e + (k - 176)) else w k
theorem rW_no {w : Nat → Int32} {e k : Nat} (h : k < 176 ∨ 184 ≤ k) : rW w e k = w k := if_neg (by omega)
theorem rW_in {w : Nat → Int32} {e a : Nat} (ha : a < 8) : rW w e (176 + a) = w (185 + 8 * e + a) := by
  unfold rW; rw [if_pos (by omega)]
  exact congrArg w (by omega)
theorem Good_revert {w : Nat → Int32} {t e : Nat} (hG : Good w t) (he : e ≤ epM w) : Good (rW w e) t := by
  have e1 : epM (rW w e) = epM w := by unfold epM; rw [rW_no (by omega)]
  refine Good_o (fun k hk => rW_no (by omega)) ⟨by rw [e1, rW_no (by omega)]; exact hG.1.2.2.1, by omega, by rw [e1]; exact good_ep hG⟩ ⟨OrdOk_at (fun a ha => rW_in ha) (hG.2.2.1.2 e he), fun e' he' => ?_⟩ hG
  rw [e1] at he'
  exact OrdOk_cong (fun a ha => rW_no (by omega)) (hG.2.2.1.2 e' he')
theorem revert_X {R : hm_I} {p t e : Nat} {w : Nat → Int32} (hG : Good w t) (h : Rel R p w) (he : e ≤ epM w) :
    Rel (fX1_copyFrom R (p + 44) (p + 48 + 3 * e)) p (rW w e) ∧ ∀ z k, outq z p → fX1_copyFrom R (p + 44) (p + 48 + 3 * e) z k = R z k := by
  obtain ⟨r1, r2, r3, r4, r5, r6⟩ := h
  obtain ⟨f1, f2, f3⟩ := cpO (I := R) (a := p + 44) (b := p + 48 + 3 * e) (by omega)
  have e1 : epM (rW w e) = epM w := by unfold epM; rw [rW_no (by omega)]
  have hep := good_ep hG
  refine ⟨Rel_o (fun k hk => rW_no (by omega)) hG (RelW_frame (f1 _ _ (by omega)) (fun a k h1 h2 => f1 a k (by omega)) r1) (RelQ_frame (fun a k h1 h2 => f1 a k (by omega)) r2) ⟨?_, fun e' hee => ?_, ?_⟩ (RelL_frame (fun a k h1 h2 => f1 a k (by omega)) r4) ((f1 _ _ (by omega)).trans r5) ((f1 _ _ (by omega)).trans r6), fun z k hz => ?_⟩
  · exact RelO_at (fun a ha => rW_in ha) (fun a ha => f3 a ha) (r3.2.1 e he)
  · rw [e1] at hee
    exact RelO_cong (fun a ha => rW_no (by omega)) (RelO_frame (fun a k h1 h2 => f1 a k (by omega)) (r3.2.1 e' hee))
  · rw [e1, f1 _ _ (by omega)]; exact r3.2.2
  · unfold outq at hz
    exact f1 z k (by omega)
theorem op_revert (a0 : Int32) : Op yX3_revert wsX3_revert yX4_revert wsX4_revert [.int a0] isI := by
  intro l D T L A x b t Sh I J ht hI
  obtain ⟨p, f, h, m, k, j, hs, im, n, w, P, Q, kp, g⟩ := hI
  have gs := Inv_s g
  have hWs := c_wfs g
  have hRel := c_rel g
  have g0 := g
  obtain ⟨gX, gA, gM, gB, gG, gx, gm, gF⟩ := g
  have hep := good_ep gG.2.1
  rcases epoch_cases a0 hep with ⟨h1, h2⟩ | ⟨e, he, ea, h1, h2⟩
  · exact ⟨.int (-1), Sh, I, J, I, J, ⟨_, rfl⟩, CtR.mk (ctX3_revert_b gX gA hWs gx.1 gG.1 h1) (by decide) (by decide) rfl, CtR.mk (ctX4_revert_b gM (m_wf gG.2.1 gm.2.1) h2) (by decide) (by decide) rfl, gs⟩
  · subst ea
    obtain ⟨q1, q2⟩ := revert_X gG.2.1 hRel he
    have h1' : ∀ z kk, outq z p → (fX3_revert_t I x p n hs (cM w) (epM w + 1) (lgM w) e).2 z kk = recR I x p n hs w z kk := q2
    obtain ⟨c1, c2, -⟩ := c_pre g0 h1'
    have hrm := m_rem gG.1 c2
    have hm4 := ctX4_revert_t (l := l) (D := D) (T := T) (A := A) (J := J) (IsM_rec (n := n) gM gB) (m_wf gG.2.1 c2) c1 gG.1 he h2
    generalize hY : fX4_remember (fX3_revert_t I x p n hs (cM w) (epM w + 1) (lgM w) e).2 b n = Y at hrm
    have e4 : fX4_revert_t (fX3_revert_t I x p n hs (cM w) (epM w + 1) (lgM w) e).2 b n e = (fX4_edges (lp 8 (fun i24 x24 => hm_put x24 (b + 1) (176 + i24) (x24 (b + 1) (185 + 8 * e + i24))) Y) b 176, (lp 8 (fun i24 x24 => hm_put x24 (b + 1) (176 + i24) (x24 (b + 1) (185 + 8 * e + i24))) Y)) := by
      unfold fX4_revert_t; rw [hY]
    rw [e4] at hm4
    have hcp := lp_copys (b + 1) 176 (185 + 8 * e) 8 (by omega) Y
    have hrow : RowIs (lp 8 (fun i24 x24 => hm_put x24 (b + 1) (176 + i24) (x24 (b + 1) (185 + 8 * e + i24))) Y) b (rW w e) := by
      intro kk hk
      rw [hcp.2 kk]
      unfold rW
      by_cases z : 176 ≤ kk ∧ kk < 176 + 8
      · rw [if_pos z, if_pos z]; exact hrm _ (by omega)
      · rw [if_neg z, if_neg z]; exact hrm kk hk
    have hO' := (Good_revert gG.2.1 he).2.2.1.1
    refine ⟨_, recSh Sh h hs n, _, J, _, J, ⟨_, rfl⟩, CtR.mk (ctX3_revert_t gX gA hWs gx.1 gG.1 (by omega) h1) (by decide) (by decide) rfl, CtR.mk hm4 (by decide) (by decide) ?_, close_c g0 (Agr_rf w) h1' q1 (Good_mono (Good_revert gG.2.1 he) (Nat.le_succ t)) (fun _ _ _ => rfl) (fun z kk z1 z2 => by
      rw [hY]
      exact hcp.1 z kk z1) hrow⟩
    · have ee := edges_eq (I := fX1_copyFrom (recR I x p n hs w) (p + 44) (p + 48 + 3 * e)) (o := p + 44) (X := lp 8 (fun i24 x24 => hm_put x24 (b + 1) (176 + i24) (x24 (b + 1) (185 + 8 * e + i24))) Y) (b := b) (r := 176) (N := mk (rW w e) 176) (fun a ha => ⟨(q1.2.2.1.1 a ha).1.trans (hO'.1 a ha).1, (hO'.1 a ha).2⟩) (fun a ha => (hrow _ (by omega)).trans (hO'.1 a ha).1)
      show some (Value.int _) = some (Value.int _)
      rw [← ee]
      rfl
