/-! part 49: relation, order, lists, witness -/
theorem isOrd_M {I : hm_I} {b t : Nat} {w : Nat → Int32} (hG : Good w t) (hR : RowIs I b w) (e0 : Int32) : fX4_isOrder I b e0 = fX4_isIn e0 (-1) (nI (epM w)) := by
  unfold fX4_isOrder
  rw [hR _ (by omega), hG.1.2.2.1]
theorem op_relation (e0 a0 b0 : Int32) : Op yX3_relation wsX3_relation yX4_relation wsX4_relation [.int e0, .int a0, .int b0] isI := by
  intro l D T L A x b t Sh I J ht hI
  obtain ⟨p, f, h, m, k, j, hs, im, n, w, P, Q, kp, g⟩ := hI
  have gs := Inv_s g
  have hWs := c_wfs g
  have g0 := g
  obtain ⟨gX, gA, gM, gB, gG, gx, gm, gF⟩ := g
  have hr := gx.2.1
  have hR := gm.2.1
  have hep := good_ep gG.2.1
  have hio := isOrd_M gG.2.1 hR e0
  have bad : (fX3_isEpochOrDraft (epM w + 1) e0 && fX3_areTwoStreams a0 b0) = false → (fX4_isIn e0 (-1) (nI (epM w)) = true → fX4_isStream a0 = true → fX4_isStream b0 = true → a0 = b0) → ∃ (v : Value) (Sh1 : hm_S) (I1 : hm_I) (J1 : hm_J) (I2 : hm_I) (J2 : hm_J), isI v ∧ CtR l yX3_relation wsX3_relation D T A (.ref x :: [.int e0, .int a0, .int b0]) (hm D T L A Sh I J) (some v) (hm D T L A Sh1 I1 J1) ∧ CtR l yX4_relation wsX4_relation D T A (.ref b :: [.int e0, .int a0, .int b0]) (hm D T L A Sh1 I1 J1) (some v) (hm D T L A Sh1 I2 J2) ∧ Inv L x b (t + 1) Sh1 I2 := fun h1 h2 =>
    ⟨.int (-1), Sh, I, J, I, J, ⟨_, rfl⟩, CtR.mk (ctX3_relation_b gX gA hWs h1) (by decide) (by decide) rfl, CtR.mk (ctX4_relation_b gM (fun q => h2 (by rw [← hio]; exact q))) (by decide) (by decide) rfl, gs⟩
  rcases two_cases a0 b0 with ⟨h1, h2⟩ | ⟨i, i', hi, hi', hne, e1, e2, h1⟩
  · exact bad (by rw [h1, Bool.and_false]) (fun _ q1 q2 => h2 q1 q2)
  rcases order_cases e0 hep with ⟨o1, o2⟩ | ⟨ee, o1, o2⟩ | ⟨e, he, ee, o1, o2⟩
  · exact bad (by rw [o1, Bool.false_and]) (fun q _ _ => by rw [o2] at q; exact absurd q (by decide))
  · subst ee
    subst e1
    subst e2
    have hO := gG.2.1.2.2.1.1
    have hla := la_row hR (o := 176) (by omega) hO
    have hRl := row_same hR hla.1
    have hm4 := ctX4_relation_d (l := l) (D := D) (T := T) (A := A) (J := J) gM hi hi' hne (hio.trans o2)
    have e4 : fX4_relation_d I b i i' = (fX3_relation_d I p i i', fX4_layAfter I b 176) := by
      unfold fX4_relation_d fX3_relation_d
      rw [hla.2 i hi, hla.2 i' hi', hRl _ (by omega), hRl _ (by omega), (hO.1 i hi).1, (hO.1 i' hi').1, fb_has _ (ord_lt hO i hi) i' hi', fb_has _ (ord_lt hO i' hi') i hi, fb_has _ (hO.1 i hi).2 i' hi', fb_has _ (hO.1 i' hi').2 i hi,
        RelO_pre hO hr.2.2.1.1 hi hi', RelO_pre hO hr.2.2.1.1 hi' hi, RelO_edge hO hr.2.2.1.1 hi hi', RelO_edge hO hr.2.2.1.1 hi' hi]
      repeat' split
      all_goals rfl
    rw [e4] at hm4
    exact ⟨_, Sh, I, J, _, J, ⟨_, rfl⟩, CtR.mk (ctX3_relation_d gX gA hWs o1 hi hi' hne) (by decide) (by decide) rfl, CtR.mk hm4 (by decide) (by decide) rfl, close_q g0 (fun _ _ _ => rfl) (fun z kk z1 z2 => hla.1 z kk (by omega)) hRl⟩
  · subst ee
    subst e1
    subst e2
    have hO := gG.2.1.2.2.1.2 e he
    have hEO := hr.2.2.1.2.1 e he
    have hla := la_row hR (o := 185 + 8 * e) (by omega) hO
    have hRl := row_same hR hla.1
    have hm4 := ctX4_relation_t (l := l) (D := D) (T := T) (A := A) (J := J) gM (show e < 10 by omega) hi hi' hne (hio.trans o2)
    have e4 : fX4_relation_t I b i i' e = (fX3_relation_t I p e i i', fX4_layAfter I b (185 + 8 * e)) := by
      unfold fX4_relation_t fX3_relation_t
      rw [hla.2 i hi, hla.2 i' hi', hRl _ (by omega), hRl _ (by omega), (hO.1 i hi).1, (hO.1 i' hi').1, fb_has _ (ord_lt hO i hi) i' hi', fb_has _ (ord_lt hO i' hi') i hi, fb_has _ (hO.1 i hi).2 i' hi', fb_has _ (hO.1 i' hi').2 i hi,
        RelO_pre hO hEO hi hi', RelO_pre hO hEO hi' hi, RelO_edge hO hEO hi hi', RelO_edge hO hEO hi' hi]
      repeat' split
      all_goals rfl
    rw [e4] at hm4
    exact ⟨_, Sh, I, J, _, J, ⟨_, rfl⟩, CtR.mk (ctX3_relation_t gX gA hWs (show e < epM w + 1 by omega) o1 hi hi' hne) (by decide) (by decide) rfl, CtR.mk hm4 (by decide) (by decide) rfl, close_q g0 (fun _ _ _ => rfl) (fun z kk z1 z2 => hla.1 z kk (by omega)) hRl⟩
theorem op_order (e0 c0 : Int32) : Op yX3_order wsX3_order yX4_order wsX4_order [.int e0, .int c0] isI := by
  intro l D T L A x b t Sh I J ht hI
  obtain ⟨p, f, h, m, k, j, hs, im, n, w, P, Q, kp, g⟩ := hI
  have gs := Inv_s g
  have hWs := c_wfs g
  have g0 := g
  obtain ⟨gX, gA, gM, gB, gG, gx, gm, gF⟩ := g
  have hr := gx.2.1
  have hR := gm.2.1
  have hep := good_ep gG.2.1
  have hio := isOrd_M gG.2.1 hR e0
  have hp0 := hr.1.1
  have hU := (osM_spec w).1
  have bad : (fX4_isIn e0 (-1) (nI (epM w)) && fX4_isIn c0 (nI 0) (nI 4)) = false → (fX3_isEpochOrDraft (epM w + 1) e0 && fX4_isIn c0 (nI 0) (nI 4)) = false → ∃ (v : Value) (Sh1 : hm_S) (I1 : hm_I) (J1 : hm_J) (I2 : hm_I) (J2 : hm_J), isI v ∧ CtR l yX3_order wsX3_order D T A (.ref x :: [.int e0, .int c0]) (hm D T L A Sh I J) (some v) (hm D T L A Sh1 I1 J1) ∧ CtR l yX4_order wsX4_order D T A (.ref b :: [.int e0, .int c0]) (hm D T L A Sh1 I1 J1) (some v) (hm D T L A Sh1 I2 J2) ∧ Inv L x b (t + 1) Sh1 I2 := fun h1 h2 =>
    ⟨.int (-1), Sh, I, J, I, J, ⟨_, rfl⟩, CtR.mk (ctX3_order_b gX gA hWs h2) (by decide) (by decide) rfl, CtR.mk (ctX4_order_b gM (by rw [hio]; exact h1)) (by decide) (by decide) rfl, gs⟩
  rcases bool_cases (fX4_isIn c0 (nI 0) (nI 4)) with hc | hc
  · exact bad (by rw [hc, Bool.and_false]) (by rw [hc, Bool.and_false])
  obtain ⟨q, -, hq, ea⟩ := (within_iff (by decide) (by decide)).mp hc
  have e : q = 0 ∨ q = 1 ∨ q = 2 ∨ q = 3 ∨ q = 4 := by omega
  rcases order_cases e0 hep with ⟨o1, o2⟩ | ⟨ee, o1, o2⟩ | ⟨e', he, ee, o1, o2⟩
  · exact bad (by rw [o2, Bool.false_and]) (by rw [o1, Bool.false_and])
  · subst ee
    subst ea
    have hO := gG.2.1.2.2.1.1
    have hla := la_row hR (o := 176) (by omega) hO
    have hRl := row_same hR hla.1
    have hos := openset_eq hRl gG.2.1.2.1
    have hCl := ClO_of hO hr.2.2.1.1
    have hMo := MoO_of hR (r := 176) (by omega) hO
    have cl := close_q g0 (I1 := I) (I2 := fX4_layAfter I b 176) (fun _ _ _ => rfl) (fun z kk z1 z2 => hla.1 z kk (by omega)) hRl
    rcases e with e | e | e | e | e <;> subst e
    · exact ⟨_, Sh, I, J, _, J, ⟨_, rfl⟩, CtR.mk (ctX3_order_d0 gX gA hWs o1) (by decide) (by decide) rfl, CtR.mk (ctX4_order_d0 gM (hio.trans o2)) (by decide) (by decide) (by rw [hos, hp0, pairs_eq hCl hMo hU]), cl⟩
    · have hl := long_eq hCl hMo hO.2 hU
      have hm4 := ctX4_order_d1 (l := l) (D := D) (T := T) (A := A) (J := J) gM (hio.trans o2)
      rw [hos] at hm4
      exact ⟨_, Sh, I, J, _, J, ⟨_, rfl⟩, CtR.mk (ctX3_order_d1 gX gA hWs o1) (by decide) (by decide) rfl, CtR.mk hm4 (by decide) (by decide) (by rw [hp0, hl.1]), close_q g0 (fun _ _ _ => rfl) (fun z kk z1 z2 => (hl.2 z kk (by omega)).trans (hla.1 z kk (by omega))) (fun kk hk => by rw [hl.2 _ _ (by omega)]; exact hRl kk hk)⟩
    · exact ⟨_, Sh, I, J, _, J, ⟨_, rfl⟩, CtR.mk (ctX3_order_d2 gX gA hWs o1) (by decide) (by decide) rfl, CtR.mk (ctX4_order_d2 gM (hio.trans o2)) (by decide) (by decide) (by rw [hos, hp0, widest_eq hCl hMo]), cl⟩
    · exact ⟨_, Sh, I, J, _, J, ⟨_, rfl⟩, CtR.mk (ctX3_order_d3 gX gA hWs o1) (by decide) (by decide) rfl, CtR.mk (ctX4_order_d3 gM (hio.trans o2)) (by decide) (by decide) (by rw [hos, hp0, first_eq hCl hMo hU]), cl⟩
    · exact ⟨_, Sh, I, J, _, J, ⟨_, rfl⟩, CtR.mk (ctX3_order_d4 gX gA hWs o1) (by decide) (by decide) rfl, CtR.mk (ctX4_order_d4 gM (hio.trans o2)) (by decide) (by decide) (by rw [needless_eq hCl hMo]), cl⟩
  · subst ee
    subst ea
    have hO := gG.2.1.2.2.1.2 e' he
    have hla := la_row hR (o := 185 + 8 * e') (by omega) hO
    have hRl := row_same hR hla.1
    have hos := openset_eq hRl gG.2.1.2.1
    have hCl := ClO_of hO (hr.2.2.1.2.1 e' he)
    have hMo := MoO_of hR (r := 185 + 8 * e') (by omega) hO
    have he10 : e' < 10 := by omega
    have hec : e' < epM w + 1 := by omega
    have cl := close_q g0 (I1 := I) (I2 := fX4_layAfter I b (185 + 8 * e')) (fun _ _ _ => rfl) (fun z kk z1 z2 => hla.1 z kk (by omega)) hRl
    rcases e with e | e | e | e | e <;> subst e
    · exact ⟨_, Sh, I, J, _, J, ⟨_, rfl⟩, CtR.mk (ctX3_order_t0 gX gA hWs hec o1) (by decide) (by decide) rfl, CtR.mk (ctX4_order_t0 gM he10 (hio.trans o2)) (by decide) (by decide) (by rw [hos, hp0, pairs_eq hCl hMo hU]), cl⟩
    · have hl := long_eq hCl hMo hO.2 hU
      have hm4 := ctX4_order_t1 (l := l) (D := D) (T := T) (A := A) (J := J) gM he10 (hio.trans o2)
      rw [hos] at hm4
      exact ⟨_, Sh, I, J, _, J, ⟨_, rfl⟩, CtR.mk (ctX3_order_t1 gX gA hWs hec o1) (by decide) (by decide) rfl, CtR.mk hm4 (by decide) (by decide) (by rw [hp0, hl.1]), close_q g0 (fun _ _ _ => rfl) (fun z kk z1 z2 => (hl.2 z kk (by omega)).trans (hla.1 z kk (by omega))) (fun kk hk => by rw [hl.2 _ _ (by omega)]; exact hRl kk hk)⟩
    · exact ⟨_, Sh, I, J, _, J, ⟨_, rfl⟩, CtR.mk (ctX3_order_t2 gX gA hWs hec o1) (by decide) (by decide) rfl, CtR.mk (ctX4_order_t2 gM he10 (hio.trans o2)) (by decide) (by decide) (by rw [hos, hp0, widest_eq hCl hMo]), cl⟩
    · exact ⟨_, Sh, I, J, _, J, ⟨_, rfl⟩, CtR.mk (ctX3_order_t3 gX gA hWs hec o1) (by decide) (by decide) rfl, CtR.mk (ctX4_order_t3 gM he10 (hio.trans o2)) (by decide) (by decide) (by rw [hos, hp0, first_eq hCl hMo hU]), cl⟩
    · exact ⟨_, Sh, I, J, _, J, ⟨_, rfl⟩, CtR.mk (ctX3_order_t4 gX gA hWs hec o1) (by decide) (by decide) rfl, CtR.mk (ctX4_order_t4 gM he10 (hio.trans o2)) (by decide) (by decide) (by rw [needless_eq hCl hMo]), cl⟩
theorem op_lists (e0 : Int32) : Op yX3_lists wsX3_lists yX4_lists wsX4_lists [.int e0] isJ := by
  intro l D T L A x b t Sh I J ht hI
  obtain ⟨p, f, h, m, k, j, hs, im, n, w, P, Q, kp, g⟩ := hI
  have gs := Inv_s g
  have hWs := c_wfs g
  have g0 := g
  obtain ⟨gX, gA, gM, gB, gG, gx, gm, gF⟩ := g
  have hr := gx.2.1
  have hR := gm.2.1
  have hep := good_ep gG.2.1
  have hio := isOrd_M gG.2.1 hR e0
  have hp0 := hr.1.1
  have hU := (osM_spec w).1
  rcases order_cases e0 hep with ⟨o1, o2⟩ | ⟨ee, o1, o2⟩ | ⟨e', he, ee, o1, o2⟩
  · exact ⟨.long (-1), Sh, I, J, I, J, ⟨_, rfl⟩, CtR.mk (ctX3_lists_b gX gA hWs o1) (by decide) (by decide) rfl, CtR.mk (ctX4_lists_b gM (hio.trans o2)) (by decide) (by decide) rfl, gs⟩
  · subst ee
    have hO := gG.2.1.2.2.1.1
    have hla := la_row hR (o := 176) (by omega) hO
    have hRl := row_same hR hla.1
    have hos := openset_eq hRl gG.2.1.2.1
    have hCl := ClO_of hO hr.2.2.1.1
    have hMo := MoO_of hR (r := 176) (by omega) hO
    have e4 : (fX4_lists_d I (fX1_countLists I J (p + 44) (osM w) j).2 b (osM w)).1 = lstL (fX4_layAfter I b 176) b (osM w) 255 (fX1_countLists I J (p + 44) (osM w) j).2 (b + 8) (osM w) := rfl
    exact ⟨_, Sh, I, _, _, _, ⟨_, rfl⟩, CtR.mk (ctX3_lists_d gX gA hWs o1 hU hp0) (by decide) (by decide) rfl, CtR.mk (ctX4_lists_d gM (hio.trans o2) hU hos) (by decide) (by decide) (by rw [e4, ← lists_eq hCl hMo hU]), close_q g0 (I1 := I) (I2 := fX4_layAfter I b 176) (fun _ _ _ => rfl) (fun z kk z1 z2 => hla.1 z kk (by omega)) hRl⟩
  · subst ee
    have hO := gG.2.1.2.2.1.2 e' he
    have hla := la_row hR (o := 185 + 8 * e') (by omega) hO
    have hRl := row_same hR hla.1
    have hos := openset_eq hRl gG.2.1.2.1
    have hCl := ClO_of hO (hr.2.2.1.2.1 e' he)
    have hMo := MoO_of hR (r := 185 + 8 * e') (by omega) hO
    have e4 : (fX4_lists_t I (fX1_countLists I J (p + 48 + 3 * e') (osM w) j).2 b (osM w) e').1 = lstL (fX4_layAfter I b (185 + 8 * e')) b (osM w) 255 (fX1_countLists I J (p + 48 + 3 * e') (osM w) j).2 (b + 8) (osM w) := rfl
    exact ⟨_, Sh, I, _, _, _, ⟨_, rfl⟩, CtR.mk (ctX3_lists_t gX gA hWs (show e' < epM w + 1 by omega) o1 hU hp0) (by decide) (by decide) rfl, CtR.mk (ctX4_lists_t gM (show e' < 10 by omega) (hio.trans o2) hU hos) (by decide) (by decide) (by rw [e4, ← lists_eq hCl hMo hU]), close_q g0 (I1 := I) (I2 := fX4_layAfter I b (185 + 8 * e')) (fun _ _ _ => rfl) (fun z kk z1 z2 => hla.1 z kk (by omega)) hRl⟩
theorem op_witness (a0 b0 k0 : Int32) : Op yX3_witness wsX3_witness yX4_witness wsX4_witness [.int a0, .int b0, .int k0] isI := by
  intro l D T L A x b t Sh I J ht hI
  obtain ⟨p, f, h, m, k, j, hs, im, n, w, P, Q, kp, g⟩ := hI
  have gs := Inv_s g
  have hWs := c_wfs g
  have g0 := g
  obtain ⟨gX, gA, gM, gB, gG, gx, gm, gF⟩ := g
  have hr := gx.2.1
  have hR := gm.2.1
  have hO := gG.2.1.2.2.1.1
  have hm1 : (-1 : Int32).toInt = -1 := by decide
  rcases two_cases a0 b0 with ⟨h1, h2⟩ | ⟨i, i', hi, hi', hne, e1, e2, h1⟩
  · exact ⟨.int (-1), Sh, I, J, I, J, ⟨_, rfl⟩, CtR.mk (ctX3_witness_b gX gA hWs gx.1 gG.1 (fun q => by rw [h1] at q; exact absurd q (by decide))) (by decide) (by decide) rfl, CtR.mk (ctX4_witness_b gM (fun q1 q2 q3 => absurd (h2 q1 q2) q3)) (by decide) (by decide) rfl, gs⟩
  by_cases hk : (-1) ≤ k0
  · subst e1
    subst e2
    have hNX : ∀ a, a < 8 → I (p + 44 + 1) a = nI (mk w 176 a) ∧ mk w 176 a < 256 := fun a ha => ⟨(hr.2.2.1.1 a ha).1.trans (hO.1 a ha).1, (hO.1 a ha).2⟩
    have hNM : ∀ a, a < 8 → I (b + 1) (176 + a) = nI (mk w 176 a) ∧ mk w 176 a < 256 := fun a ha => ⟨(hR _ (by omega)).trans (hO.1 a ha).1, (hO.1 a ha).2⟩
    obtain ⟨l1, l2⟩ := ll_spec (X := I) (b := b) (g := i) hO.2 hi hNM
    have hd : ∀ s, s < 8 → fX4_layLeft I b i (b + 6) s = fX1_distance I (p + 44) s i := fun s hs8 => isD_uniq (l2 s hs8) (dist_X hNX hs8 hi)
    have hRl : RowIs (fX4_layLeft I b i) b w := fun kk hkk => by rw [l1 _ _ (by omega)]; exact hR kk hkk
    have cl := close_q g0 (I1 := I) (I2 := fX4_layLeft I b i) (fun _ _ _ => rfl) (fun z kk z1 z2 => l1 z kk (by omega)) hRl
    by_cases hk1 : k0 = -1
    · subst hk1
      refine ⟨_, Sh, I, J, _, J, ⟨_, rfl⟩, CtR.mk (ctX3_witness_m gX gA hWs hi hi' hne) (by decide) (by decide) rfl, CtR.mk (ctX4_witness_m gM hi hi' hne) (by decide) (by decide) ?_, cl⟩
      rw [hd i' hi']
      unfold fX3_witness_m
      by_cases q : fX1_distance I (p + 44) i' i = -9
      · rw [if_pos q, q]
      · rw [if_neg q]
    · have hk0 : ¬ k0 < 0 := fun q => by
        rw [Int32.le_iff_toInt_le, hm1] at hk
        rw [Int32.lt_iff_toInt_lt] at q
        have q0 : (0 : Int32).toInt = 0 := rfl
        have : ¬ k0.toInt = -1 := fun z => hk1 (Int32.toInt_inj.mp (z.trans hm1.symm))
        omega
      obtain ⟨kk, hkk, ek⟩ := nI_of hk0
      subst ek
      have hdi := dist_X hNX hi' hi
      have hk8 : ¬ fX1_distance I (p + 44) i' i = (-9) → ¬ fX1_distance I (p + 44) i' i < nI kk → kk < 8 := fun q1 q2 => by
        rcases hdi with ⟨nn, z1, z2, -⟩ | ⟨z1, -⟩
        · rw [z2, nI_ltI (by omega) hkk] at q2; omega
        · exact absurd z1 q1
      have hx3 := ctX3_witness_n (l := l) (D := D) (T := T) (L := L) (A := A) (Sh := Sh) (J := J) gX gA hWs hi hi' hne hkk hk8
      rcases hdi with ⟨nn, z1, z2, z3, z4⟩ | ⟨z1, z2⟩
      · rcases Nat.lt_or_ge nn kk with q | q
        · have ex : fX3_witness_n I p i i' kk = -9 := by
            unfold fX3_witness_n
            rw [z2, if_neg (nI_n9 nn z1), if_neg (nI_ge q hkk)]
          rw [ex] at hx3
          exact ⟨_, Sh, I, J, _, J, ⟨_, rfl⟩, CtR.mk hx3 (by decide) (by decide) rfl, CtR.mk (ctX4_witness_n gM hi hi' hne hkk (Or.inr (by rw [hd i' hi', z2]; exact nI_lt q hkk))) (by decide) (by decide) rfl, cl⟩
        · have hw := wkF_spec hNX hi' hi z1 z2
          have ex : fX3_witness_n I p i i' kk = nI (wkF I (p + 44) i nn i' (mk w 176) kk) := by
            unfold fX3_witness_n
            rw [z2, if_neg (nI_n9 nn z1), if_pos (nI_le q (by omega))]
            unfold fX1_streamOfWalk
            rw [(hw kk q).2.2]
          rw [ex] at hx3
          have hD : ∀ s, s ≤ nn → fX4_layLeft I b i (b + 6) (wkF I (p + 44) i nn i' (mk w 176) s) = nI (nn - s) := fun s hs8 => by rw [hd _ (hw s hs8).1]; exact (hw s hs8).2.1
          have hsub : ∀ s, s < nn → nI (nn - s) - nI 1 = nI (nn - (s + 1)) := fun s hs8 => by rw [pk_sub (by omega)]; exact congrArg nI (by omega)
          have hm4 := ctX4_witness_w (l := l) (D := D) (T := T) (A := A) (J := J) (wk := wkF I (p + 44) i nn i' (mk w 176)) gM hi hi' hne hkk
            (by rw [hD 0 (Nat.zero_le nn)]; exact nI_n9 _ (by omega)) (by rw [hD 0 (Nat.zero_le nn)]; exact nI_le (by omega) (by omega)) (fun s hs8 => (hw (s + 1) (by omega)).1)
            (fun s hs8 => by
              have hx := wkF_ex hNX (hw s (by omega)).1 hi z1 (show s < nn by omega) (hw s (by omega)).2.1
              have hf := (frs_spec hx).2.1
              rw [Bool.and_eq_true] at hf
              have h8 := (hw s (by omega)).1
              refine ⟨?_, ?_⟩
              · rw [hRl _ (by omega), (hO.1 _ h8).1, fb_has _ (hO.1 _ h8).2 _ (hw (s + 1) (by omega)).1]; exact hf.1
              · rw [hD (s + 1) (by omega), hD s (by omega), hsub s (by omega)])
            (fun s hs8 j' hj' hh hz => by
              have hx := wkF_ex hNX (hw s (by omega)).1 hi z1 (show s < nn by omega) (hw s (by omega)).2.1
              have hf := (frs_spec hx).2.2 j' hj'
              have h8 := (hw s (by omega)).1
              have hj8 : j' < 8 := Nat.lt_trans hj' (hw (s + 1) (by omega)).1
              rw [hRl _ (by omega), (hO.1 _ h8).1, fb_has _ (hO.1 _ h8).2 _ hj8] at hh
              rw [hd j' hj8, hD s (by omega), hsub s (by omega)] at hz
              have : ((mk w 176 (wkF I (p + 44) i nn i' (mk w 176) s)).testBit j' && decide (fX1_distance I (p + 44) j' i = nI (nn - (s + 1)))) = true := by rw [hh, decide_eq_true hz]; rfl
              rw [this] at hf
              exact absurd hf (by decide))
          exact ⟨_, Sh, I, J, _, J, ⟨_, rfl⟩, CtR.mk hx3 (by decide) (by decide) rfl, CtR.mk hm4 (by decide) (by decide) rfl, cl⟩
      · have ex : fX3_witness_n I p i i' kk = -9 := by
          unfold fX3_witness_n
          rw [if_pos z1]
        rw [ex] at hx3
        exact ⟨_, Sh, I, J, _, J, ⟨_, rfl⟩, CtR.mk hx3 (by decide) (by decide) rfl, CtR.mk (ctX4_witness_n gM hi hi' hne hkk (Or.inl (by rw [hd i' hi', z1]))) (by decide) (by decide) rfl, cl⟩
  · exact ⟨.int (-1), Sh, I, J, I, J, ⟨_, rfl⟩, CtR.mk (ctX3_witness_b gX gA hWs gx.1 gG.1 (fun _ => hk)) (by decide) (by decide) rfl, CtR.mk (ctX4_witness_b gM (fun _ _ _ => hk)) (by decide) (by decide) rfl, gs⟩
