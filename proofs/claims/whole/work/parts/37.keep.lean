/-! part 37: the whole memory: the present state, the history, the images; records -/
def GX (I : hm_I) (x p k : Nat) (hs im : Nat → Nat) (n : Nat) (w : Nat → Int32) (P Q : Nat → Nat → Int32) (kp : Nat → Bool) : Prop :=
  I x 3 = nI n ∧ Rel I p w ∧ (∀ i, i < n → Rel I (hs i) (P i)) ∧ ∀ i, i < 2 → (kp i = true → I k i = nI 1 ∧ Rel I (im i) (Q i)) ∧ (kp i = false → I k i = nI 0)
def GM (I : hm_I) (b n : Nat) (w : Nat → Int32) (P Q : Nat → Nat → Int32) (kp : Nat → Bool) : Prop :=
  I b 2 = nI n ∧ RowIs I b w ∧ (∀ i, i < n → ∀ k, k < 428 → I (b + 2) (428 * i + k) = P i k) ∧ (∃ u, u < 256 ∧ I b 4 = nI u ∧ ∀ i, i < 2 → u.testBit i = kp i) ∧ ∀ i, i < 2 → kp i = true → ∀ k, k < 428 → I (b + 3) (428 * i + k) = Q i k
def GG (t n : Nat) (w : Nat → Int32) (P Q : Nat → Nat → Int32) (kp : Nat → Bool) : Prop := n ≤ 8 ∧ Good w t ∧ (∀ i, i < n → Good (P i) t) ∧ ∀ i, i < 2 → kp i = true → Good (Q i) t
def pushP (P : Nat → Nat → Int32) (n : Nat) (w : Nat → Int32) : Nat → Nat → Int32 := fun i => if i = recK n then w else if n < 8 then P i else P (i + 1)
def apB (b x p f h m k j : Nat) (hs im : Nat → Nat) : Prop := ∀ z, b ≤ z → z < b + 9 → (¬ sml x h m k j z) ∧ outq z p ∧ outq z f ∧ (∀ i, i < 8 → outq z (hs i)) ∧ ∀ i, i < 2 → outq z (im i)
theorem good_ep {w : Nat → Int32} {t : Nat} (h : Good w t) : epM w ≤ 9 := h.1.2.2.2.1
theorem recK_n {n : Nat} (h : n ≤ 8) : recK n + 1 ≤ 8 ∧ recK n ≤ n ∧ (n < 8 → recK n = n) ∧ (¬ n < 8 → recK n = 7) := by
  unfold recK
  by_cases q : n < 8
  · rw [if_pos q]; exact ⟨by omega, by omega, fun _ => rfl, fun z => absurd q z⟩
  · rw [if_neg q]; exact ⟨by omega, by omega, fun z => absurd z q, fun _ => rfl⟩
theorem push_at (P : Nat → Nat → Int32) (n : Nat) (w : Nat → Int32) : pushP P n w (recK n) = w := if_pos rfl
theorem push_lt {P : Nat → Nat → Int32} {n i : Nat} {w : Nat → Int32} (h : i ≠ recK n) : pushP P n w i = if n < 8 then P i else P (i + 1) := if_neg h
theorem GG_rec {t n : Nat} {w : Nat → Int32} {P Q : Nat → Nat → Int32} {kp : Nat → Bool} (h : GG t n w P Q kp) : GG t (recK n + 1) w (pushP P n w) Q kp := by
  obtain ⟨h1, h2, h3, h4⟩ := h
  obtain ⟨k1, k2, k3, k4⟩ := recK_n h1
  refine ⟨k1, h2, fun i hi => ?_, h4⟩
  by_cases e : i = recK n
  · rw [e, push_at]; exact h2
  · rw [push_lt e]
    by_cases q : n < 8
    · rw [if_pos q]; exact h3 i (by omega)
    · have := k4 q
      rw [if_neg q]; exact h3 (i + 1) (by omega)
theorem GG_mod {t n : Nat} {w w' : Nat → Int32} {P Q : Nat → Nat → Int32} {kp : Nat → Bool} (h : GG t n w P Q kp) (hw : Good w' (t + 1)) : GG (t + 1) n w' P Q kp :=
  ⟨h.1, hw, fun i hi => Good_mono (h.2.2.1 i hi) (Nat.le_succ t), fun i hi hk => Good_mono (h.2.2.2 i hi hk) (Nat.le_succ t)⟩
theorem GX_frame {I I' : hm_I} {x p k n t : Nat} {hs im : Nat → Nat} {w : Nat → Int32} {P Q : Nat → Nat → Int32} {kp : Nat → Bool} (hG : GG t n w P Q kp) (hX : GX I x p k hs im n w P Q kp)
    (h1 : ∀ kk, I' x kk = I x kk) (h2 : ∀ kk, I' k kk = I k kk) (h3 : ∀ z kk, p ≤ z → z < p + 83 → I' z kk = I z kk) (h4 : ∀ i, i < 8 → ∀ z kk, hs i ≤ z → z < hs i + 83 → I' z kk = I z kk) (h5 : ∀ i, i < 2 → ∀ z kk, im i ≤ z → z < im i + 83 → I' z kk = I z kk) : GX I' x p k hs im n w P Q kp := by
  obtain ⟨g1, g2, g3, g4⟩ := hX
  obtain ⟨m1, m2, m3, m4⟩ := hG
  refine ⟨by rw [h1]; exact g1, Rel_frame (good_ep m2) h3 g2, fun i hi => Rel_frame (good_ep (m3 i hi)) (h4 i (by omega)) (g3 i hi), fun i hi => ⟨fun hk => ?_, fun hk => ?_⟩⟩
  · rw [h2]; exact ⟨((g4 i hi).1 hk).1, Rel_frame (good_ep (m4 i hi hk)) (h5 i hi) ((g4 i hi).1 hk).2⟩
  · rw [h2]; exact (g4 i hi).2 hk
theorem GX_mod {I I' : hm_I} {x p f h m k j n t : Nat} {hs im : Nat → Nat} {w w' : Nat → Int32} {P Q : Nat → Nat → Int32} {kp : Nat → Bool} (hA : ApX x p f h m k j hs im) (hG : GG t n w P Q kp) (hX : GX I x p k hs im n w P Q kp)
    (h1 : ∀ z kk, outq z p → I' z kk = I z kk) (h2 : Rel I' p w') : GX I' x p k hs im n w' P Q kp := by
  obtain ⟨g1, g2, g3, g4⟩ := hX
  obtain ⟨m1, m2, m3, m4⟩ := hG
  obtain ⟨-, a2, -, a4, a5, -⟩ := hA
  have ox := (a2 x (Or.inl rfl)).1
  have ok := (a2 k (Or.inr (Or.inr (Or.inr (Or.inl rfl))))).1
  refine ⟨by rw [h1 _ _ ox]; exact g1, h2, fun i hi => Rel_frame (good_ep (m3 i hi)) (fun z kk z1 z2 => h1 z kk (far_out (far_symm (a4 i (by omega))) z1 z2)) (g3 i hi), fun i hi => ⟨fun hk => ?_, fun hk => ?_⟩⟩
  · rw [h1 _ _ ok]; exact ⟨((g4 i hi).1 hk).1, Rel_frame (good_ep (m4 i hi hk)) (fun z kk z1 z2 => h1 z kk (far_out (far_symm (a5 i hi)) z1 z2)) ((g4 i hi).1 hk).2⟩
  · rw [h1 _ _ ok]; exact (g4 i hi).2 hk
theorem recI0_ne {I : hm_I} {x n z : Nat} (h : z ≠ x) : recI0 I x n z = I z := by
  unfold recI0
  by_cases q : n < 8
  · rw [if_pos q]
  · rw [if_neg q]; exact hm_put_ne _ _ _ _ h
theorem GX_rec {I : hm_I} {x p f h m k j n t : Nat} {hs im : Nat → Nat} {w : Nat → Int32} {P Q : Nat → Nat → Int32} {kp : Nat → Bool} {c : Nat → Nat} {e : Nat → Nat → Nat} (hA : ApX x p f h m k j hs im) (hAg : Agr w c e) (hG : GG t n w P Q kp) (hX : GX I x p k hs im n w P Q kp) :
    GX (recI I x p n hs c (epM w + 1) (lgM w)) x p k (recH hs n) im (recK n + 1) w (pushP P n w) Q kp := by
  obtain ⟨g1, g2, g3, g4⟩ := hX
  obtain ⟨m1, m2, m3, m4⟩ := hG
  have hA' := ApX_rec (n := n) hA
  obtain ⟨-, a2, -, a4, a5, -, a7, a8, -⟩ := hA'
  have ox := a2 x (Or.inl rfl)
  have ok := a2 k (Or.inr (Or.inr (Or.inr (Or.inl rfl))))
  obtain ⟨k1, k2, k3, k4⟩ := recK_n m1
  have hxk : k ≠ x := fun q => hA.1.2.2.1 q.symm
  have hd := recK_lt n
  have hec : epM w + 1 ≤ 10 := by have := good_ep m2; omega
  have fr : ∀ z, z ≠ x → outq z (recH hs n (recK n)) → recI I x p n hs c (epM w + 1) (lgM w) z = I z := fun z z1 z2 => recI_ne hec z1 z2
  have frq : ∀ q, outq x q → far q (recH hs n (recK n)) → ∀ z kk, q ≤ z → z < q + 83 → recI I x p n hs c (epM w + 1) (lgM w) z kk = I z kk := fun q q1 q2 z kk z1 z2 => congrFun (fr z (outq_ne q1 z1 z2) (far_out q2 z1 z2)) kk
  refine ⟨hm_put_at _ _ _ _, Rel_frame (good_ep m2) (frq p ox.1 (a4 _ hd)) g2, fun i hi => ?_, fun i hi => ?_⟩
  · by_cases ei : i = recK n
    · rw [ei, push_at]
      have r0 : Rel (recI0 I x n) p w := Rel_frame (good_ep m2) (fun z kk z1 z2 => congrFun (recI0_ne (outq_ne ox.1 z1 z2)) kk) g2
      have r1 := cpS_rel (far_symm (a4 _ hd)) m2.1 hAg r0
      exact Rel_frame (good_ep m2) (fun z kk z1 z2 => hp_n (Or.inl (outq_ne (ox.2.2.1 _ hd) z1 z2))) r1
    · rw [push_lt ei]
      have hi8 : i < 8 := by omega
      have key : ∀ R, Rel I (recH hs n i) R → epM R ≤ 9 → Rel (recI I x p n hs c (epM w + 1) (lgM w)) (recH hs n i) R := fun R hR hRe => Rel_frame hRe (frq _ (ox.2.2.1 i hi8) (a7 i hi8 _ hd ei)) hR
      by_cases q : n < 8
      · have e0 : recH hs n = hs := by unfold recH; rw [if_pos q]
        have h3 : i < n := by have := k3 q; omega
        rw [if_pos q]
        refine key _ ?_ (good_ep (m3 i h3))
        rw [e0]; exact g3 i h3
      · have e0 : recH hs n i = hs (i + 1) := by
          have := k4 q
          unfold recH rotH
          rw [if_neg q, if_pos (show i < 7 by omega)]
        have h3 : i + 1 < n := by have := k4 q; omega
        rw [if_neg q]
        refine key _ ?_ (good_ep (m3 (i + 1) h3))
        rw [e0]; exact g3 (i + 1) h3
  · have fk : ∀ kk, recI I x p n hs c (epM w + 1) (lgM w) k kk = I k kk := fun kk => congrFun (fr k hxk (ok.2.2.1 _ hd)) kk
    refine ⟨fun hk => ?_, fun hk => ?_⟩
    · rw [fk]
      exact ⟨((g4 i hi).1 hk).1, Rel_frame (good_ep (m4 i hi hk)) (frq _ (ox.2.2.2 i hi) (far_symm (a8 _ hd i hi))) ((g4 i hi).1 hk).2⟩
    · rw [fk]; exact (g4 i hi).2 hk
/-! the reference -/
theorem lp_copyg (a c o : Nat) (g : Nat → Nat) (hac : c ≠ a) (n : Nat) (I : hm_I) :
    (∀ z k, z ≠ a → lp n (fun i x => hm_put x a (o + i) (x c (g i))) I z k = I z k) ∧ ∀ k, lp n (fun i x => hm_put x a (o + i) (x c (g i))) I a k = if o ≤ k ∧ k < o + n then I c (g (k - o)) else I a k := by
  refine lp_inv (fun i (x : hm_I) => (∀ z k, z ≠ a → x z k = I z k) ∧ ∀ k, x a k = if o ≤ k ∧ k < o + i then I c (g (k - o)) else I a k) ⟨fun _ _ _ => rfl, fun k => by rw [if_neg (by omega)]⟩ ?_
  intro i x hi hx
  refine ⟨fun z k hz => by rw [hp_n (Or.inl hz)]; exact hx.1 z k hz, fun k => ?_⟩
  by_cases e : k = o + i
  · subst e
    rw [hm_put_at, hx.1 _ _ hac, if_pos (by omega), Nat.add_sub_cancel_left]
  · rw [hp_n (Or.inr e), hx.2]
    by_cases h : o ≤ k ∧ k < o + i
    · rw [if_pos h, if_pos (by omega)]
    · rw [if_neg h, if_neg (by omega)]
theorem lp_copy0 (a c : Nat) (g : Nat → Nat) (hac : c ≠ a) (n : Nat) (I : hm_I) :
    (∀ z k, z ≠ a → lp n (fun i x => hm_put x a i (x c (g i))) I z k = I z k) ∧ ∀ k, lp n (fun i x => hm_put x a i (x c (g i))) I a k = if k < n then I c (g k) else I a k := by
  have r := lp_row a (fun i x => x c (g i)) I n (fun k => I c (g k)) (fun i x _ hx _ _ => hx c (g i) hac)
  refine ⟨r.1, fun k => ?_⟩
  by_cases h : k < n
  · rw [if_pos h]; exact r.2.1 k h
  · rw [if_neg h]; exact r.2.2 k (by omega)
theorem rem_spec {I : hm_I} {b n : Nat} (hn : n ≤ 8) : (∀ z k, z ≠ b → z ≠ b + 2 → fX4_remember I b n z k = I z k) ∧ (∀ k, k ≠ 2 → fX4_remember I b n b k = I b k) ∧ fX4_remember I b n b 2 = nI (recK n + 1) ∧
    ∀ i, i ≤ recK n → ∀ k, k < 428 → fX4_remember I b n (b + 2) (428 * i + k) = if i = recK n then I (b + 1) k else if n < 8 then I (b + 2) (428 * i + k) else I (b + 2) (428 * (i + 1) + k) := by
  obtain ⟨k1, k2, k3, k4⟩ := recK_n hn
  unfold fX4_remember
  by_cases q : n = 8
  · rw [if_pos q]
    have e7 : recK n = n - 1 := by have := k4 (by omega); omega
    have s1 := lp_shift (b + 2) 0 428 2996 (by decide) I
    simp only [Nat.zero_add] at s1
    generalize lp 2996 (fun i x => hm_put x (b + 2) i (x (b + 2) (i + 428))) I = X at s1 ⊢
    have s2 := lp_copyg (b + 2) (b + 1) (428 * (n - 1)) (fun i => i) (by omega) 428 (hm_put X b 2 (nI (n - 1)))
    refine ⟨fun z k h1 h2 => ?_, fun k hk => ?_, ?_, fun i hi k hk => ?_⟩
    · rw [hp_n (Or.inl h1), s2.1 z k h2, hp_n (Or.inl h1), s1.1 z k h2]
    · rw [hp_n (Or.inr hk), s2.1 b k (by omega), hp_n (Or.inr hk), s1.1 b k (by omega)]
    · rw [hm_put_at, e7]
    · rw [hp_n (Or.inl (by omega)), s2.2, hp_n (Or.inl (by omega)), hp_n (Or.inl (by omega))]
      by_cases ei : i = recK n
      · rw [if_pos ei, if_pos (by omega), s1.1 _ _ (by omega)]
        exact congrArg (I (b + 1)) (by omega)
      · rw [if_neg ei, if_neg (by omega), if_neg (by omega), s1.2, if_pos (by omega)]
        exact congrArg (I (b + 2)) (by omega)
  · rw [if_neg q]
    have q' : n < 8 := by omega
    have e7 : recK n = n := k3 q'
    have s2 := lp_copyg (b + 2) (b + 1) (428 * n) (fun i => i) (by omega) 428 I
    refine ⟨fun z k h1 h2 => ?_, fun k hk => ?_, ?_, fun i hi k hk => ?_⟩
    · rw [hp_n (Or.inl h1), s2.1 z k h2]
    · rw [hp_n (Or.inr hk), s2.1 b k (by omega)]
    · rw [hm_put_at, e7]
    · rw [hp_n (Or.inl (by omega)), s2.2]
      by_cases ei : i = recK n
      · rw [if_pos ei, if_pos (by omega)]
        exact congrArg (I (b + 1)) (by omega)
      · rw [if_neg ei, if_pos q', if_neg (by omega)]
theorem GM_rec {I : hm_I} {b n : Nat} {w : Nat → Int32} {P Q : Nat → Nat → Int32} {kp : Nat → Bool} (hn : n ≤ 8) (h : GM I b n w P Q kp) : GM (fX4_remember I b n) b (recK n + 1) w (pushP P n w) Q kp := by
  obtain ⟨g1, g2, g3, ⟨u, u1, u2, u3⟩, g5⟩ := h
  obtain ⟨r1, r2, r3, r4⟩ := rem_spec (I := I) (b := b) hn
  obtain ⟨k1, k2, k3, k4⟩ := recK_n hn
  refine ⟨r3, fun k hk => ?_, fun i hi k hk => ?_, ⟨u, u1, ?_, u3⟩, fun i hi hk k hk2 => ?_⟩
  · rw [r1 _ _ (by omega) (by omega)]; exact g2 k hk
  · rw [r4 i (by omega) k hk]
    by_cases ei : i = recK n
    · rw [if_pos ei, ei, push_at]; exact g2 k hk
    · rw [if_neg ei, push_lt ei]
      by_cases q : n < 8
      · rw [if_pos q, if_pos q]; exact g3 i (by omega) k hk
      · have := k4 q
        rw [if_neg q, if_neg q]; exact g3 (i + 1) (by omega) k hk
  · rw [r2 4 (by omega)]; exact u2
  · rw [r1 _ _ (by omega) (by omega)]; exact g5 i hi hk k hk2
theorem GM_mod {I I' : hm_I} {b n : Nat} {w w' : Nat → Int32} {P Q : Nat → Nat → Int32} {kp : Nat → Bool} (h : GM I b n w P Q kp) (h1 : ∀ z k, z = b ∨ z = b + 2 ∨ z = b + 3 → I' z k = I z k) (h2 : RowIs I' b w') : GM I' b n w' P Q kp := by
  obtain ⟨g1, g2, g3, ⟨u, u1, u2, u3⟩, g5⟩ := h
  refine ⟨by rw [h1 _ _ (Or.inl rfl)]; exact g1, h2, fun i hi k hk => ?_, ⟨u, u1, by rw [h1 _ _ (Or.inl rfl)]; exact u2, u3⟩, fun i hi hk k hk2 => ?_⟩
  · rw [h1 _ _ (Or.inr (Or.inl rfl))]; exact g3 i hi k hk
  · rw [h1 _ _ (Or.inr (Or.inr rfl))]; exact g5 i hi hk k hk2
theorem GM_same {I I' : hm_I} {b n : Nat} {w : Nat → Int32} {P Q : Nat → Nat → Int32} {kp : Nat → Bool} (h : GM I b n w P Q kp) (h1 : ∀ z k, b ≤ z → z < b + 9 → I' z k = I z k) : GM I' b n w P Q kp :=
  GM_mod h (fun z k hz => h1 z k (by omega) (by omega)) (fun k hk => by rw [h1 _ _ (by omega) (by omega)]; exact h.2.1 k hk)
/-! the whole -/
def GI (L : List Nat) (Sh : hm_S) (I : hm_I) (x p f h m k j b : Nat) (hs im : Nat → Nat) (n : Nat) (w : Nat → Int32) (P Q : Nat → Nat → Int32) (kp : Nat → Bool) (t : Nat) : Prop :=
  IsX L Sh x p f h m k j hs im ∧ ApX x p f h m k j hs im ∧ IsM L Sh b ∧ apB b x p f h m k j hs im ∧ GG t n w P Q kp ∧ GX I x p k hs im n w P Q kp ∧ GM I b n w P Q kp ∧ ∀ i, i < 2 → far f (im i)
def Inv (L : List Nat) (x b t : Nat) (Sh : hm_S) (I : hm_I) : Prop := ∃ (p f h m k j : Nat) (hs im : Nat → Nat) (n : Nat) (w : Nat → Int32) (P Q : Nat → Nat → Int32) (kp : Nat → Bool), GI L Sh I x p f h m k j b hs im n w P Q kp t
theorem IsM_up {L : List Nat} {Sh Sh' : hm_S} {b : Nat} (h : IsM L Sh b) (e : ∀ z, b ≤ z → z < b + 9 → Sh' z = Sh z) : IsM L Sh' b := by
  obtain ⟨⟨h1, h2⟩, ⟨h3, h4⟩, ⟨h5, h6⟩, ⟨h7, h8⟩, ⟨h9, h10⟩, ⟨h11, h12⟩, ⟨h13, h14⟩, ⟨h15, h16⟩, ⟨h17, h18⟩⟩ := h
  exact ⟨⟨h1, (e _ (by omega) (by omega)).trans h2⟩, ⟨h3, (e _ (by omega) (by omega)).trans h4⟩, ⟨h5, (e _ (by omega) (by omega)).trans h6⟩, ⟨h7, (e _ (by omega) (by omega)).trans h8⟩, ⟨h9, (e _ (by omega) (by omega)).trans h10⟩, ⟨h11, (e _ (by omega) (by omega)).trans h12⟩, ⟨h13, (e _ (by omega) (by omega)).trans h14⟩, ⟨h15, (e _ (by omega) (by omega)).trans h16⟩, ⟨h17, (e _ (by omega) (by omega)).trans h18⟩⟩
theorem sml_h {x h m k j : Nat} : sml x h m k j h := Or.inr (Or.inl rfl)
theorem sml_x {x h m k j : Nat} : sml x h m k j x := Or.inl rfl
theorem sml_k {x h m k j : Nat} : sml x h m k j k := Or.inr (Or.inr (Or.inr (Or.inl rfl)))
theorem sml_j {x h m k j : Nat} : sml x h m k j j := Or.inr (Or.inr (Or.inr (Or.inr rfl)))
theorem apB_x {b x p f h m k j z : Nat} {hs im : Nat → Nat} (hB : apB b x p f h m k j hs im) {a : Nat} (ha : sml x h m k j a) (h1 : b ≤ z) (h2 : z < b + 9) : z ≠ a := fun q => (hB z h1 h2).1 (q ▸ ha)
theorem IsM_rec {L : List Nat} {Sh : hm_S} {x p f h m k j b n : Nat} {hs im : Nat → Nat} (hM : IsM L Sh b) (hB : apB b x p f h m k j hs im) : IsM L (recSh Sh h hs n) b := by
  refine IsM_up hM (fun z z1 z2 => ?_)
  unfold recSh
  by_cases q : n < 8
  · rw [if_pos q]
  · rw [if_neg q]; exact va_up_ne _ _ (apB_x hB sml_h z1 z2)
theorem apB_rec {b x p f h m k j n : Nat} {hs im : Nat → Nat} (hB : apB b x p f h m k j hs im) : apB b x p f h m k j (recH hs n) im := by
  intro z z1 z2
  obtain ⟨a1, a2, a3, a4, a5⟩ := hB z z1 z2
  refine ⟨a1, a2, a3, ?_, a5⟩
  unfold recH
  by_cases q : n < 8
  · rw [if_pos q]; exact a4
  · rw [if_neg q]; exact rotH_cases a4
theorem rec_b {I : hm_I} {x p f h m k j b n t : Nat} {hs im : Nat → Nat} {w : Nat → Int32} {c : Nat → Nat} (hB : apB b x p f h m k j hs im) (hG : Good w t) : ∀ z kk, b ≤ z → z < b + 9 → recI I x p n hs c (epM w + 1) (lgM w) z kk = I z kk := fun z kk z1 z2 =>
  congrFun (recI_ne (by have := good_ep hG; omega) (apB_x hB sml_x z1 z2) ((apB_rec (n := n) hB z z1 z2).2.2.2.1 _ (recK_lt n))) kk
/-- a call that tells: the class may use the forecast, the reference its own rows -/
theorem close_q {L : List Nat} {Sh : hm_S} {I I1 I2 : hm_I} {x p f h m k j b n t : Nat} {hs im : Nat → Nat} {w : Nat → Int32} {P Q : Nat → Nat → Int32} {kp : Nat → Bool} (g : GI L Sh I x p f h m k j b hs im n w P Q kp t)
    (h1 : ∀ z kk, outq z f → I1 z kk = I z kk) (h2 : ∀ z kk, z ≠ b + 1 → ¬ (b + 4 ≤ z ∧ z < b + 9) → I2 z kk = I1 z kk) (hR : RowIs I2 b w) : Inv L x b (t + 1) Sh I2 := by
  obtain ⟨gX, gA, gM, gB, gG, gx, gm, gF⟩ := g
  refine ⟨p, f, h, m, k, j, hs, im, n, w, P, Q, kp, gX, gA, gM, gB, GG_mod gG (Good_mono gG.2.1 (Nat.le_succ t)), ?_, ?_, gF⟩
  · have o : ∀ z kk, outq z f → (z < b ∨ b + 9 ≤ z) → I2 z kk = I z kk := fun z kk z1 z2 => by rw [h2 z kk (by omega) (by omega), h1 z kk z1]
    have ob : ∀ z, ¬ (z < b ∨ b + 9 ≤ z) → b ≤ z ∧ z < b + 9 := fun z hz => by omega
    have oq : ∀ q, far q f → (∀ z, b ≤ z → z < b + 9 → outq z q) → ∀ z kk, q ≤ z → z < q + 83 → I2 z kk = I z kk := fun q q1 q2 z kk z1 z2 => o z kk (far_out q1 z1 z2) (by
      rcases Nat.lt_or_ge z b with hz | hz
      · exact Or.inl hz
      · rcases Nat.lt_or_ge z (b + 9) with hz2 | hz2
        · have := q2 z hz hz2
          unfold outq at this
          omega
        · exact Or.inr hz2)
    have os : ∀ a, sml x h m k j a → ∀ kk, I2 a kk = I a kk := fun a ha kk => o a kk (gA.2.1 a ha).2.1 (by
      rcases Nat.lt_or_ge a b with hz | hz
      · exact Or.inl hz
      · rcases Nat.lt_or_ge a (b + 9) with hz2 | hz2
        · exact absurd rfl (apB_x gB ha hz hz2)
        · exact Or.inr hz2)
    obtain ⟨-, -, a3, -, -, a6, -, -, -⟩ := id gA
    refine GX_frame gG gx (os x sml_x) (os k sml_k) (oq p a3 (fun z z1 z2 => (gB z z1 z2).2.1)) (fun i hi => oq _ (far_symm (a6 i hi)) (fun z z1 z2 => (gB z z1 z2).2.2.2.1 i hi)) (fun i hi => oq _ (far_symm (gF i hi)) (fun z z1 z2 => (gB z z1 z2).2.2.2.2 i hi))
  · refine GM_mod gm (fun z kk hz => ?_) hR
    rw [h2 z kk (by omega) (by omega), h1 z kk (gB z (by omega) (by omega)).2.2.1]
/-- a change: recorded by both, then done by both -/
theorem close_c {L : List Nat} {Sh : hm_S} {I I1 I1' I2 : hm_I} {x p f h m k j b n t : Nat} {hs im : Nat → Nat} {w w' : Nat → Int32} {P Q : Nat → Nat → Int32} {kp : Nat → Bool} {c : Nat → Nat} {e : Nat → Nat → Nat} (g : GI L Sh I x p f h m k j b hs im n w P Q kp t) (hAg : Agr w c e)
    (h1 : ∀ z kk, outq z p → I1 z kk = recI I x p n hs c (epM w + 1) (lgM w) z kk) (hr : Rel I1 p w') (hG : Good w' (t + 1)) (h1' : ∀ z kk, ¬ (b + 4 ≤ z ∧ z < b + 9) → I1' z kk = I1 z kk)
    (h2 : ∀ z kk, z ≠ b + 1 → ¬ (b + 4 ≤ z ∧ z < b + 9) → I2 z kk = fX4_remember I1' b n z kk) (hR : RowIs I2 b w') : Inv L x b (t + 1) (recSh Sh h hs n) I2 := by
  obtain ⟨gX, gA, gM, gB, gG, gx, gm, gF⟩ := g
  have r0 := GG_rec gG
  have r1 := GX_rec gA hAg gG gx
  have r2 := GX_mod (ApX_rec (n := n) gA) r0 r1 h1 hr
  have m0 : GM I1 b n w P Q kp := GM_same gm (fun z kk z1 z2 => by rw [h1 z kk (gB z z1 z2).2.1]; exact rec_b gB gG.2.1 z kk z1 z2)
  have m1 : GM I1' b n w P Q kp := GM_mod m0 (fun z kk hz => h1' z kk (by omega)) (fun kk hk => by rw [h1' _ _ (by omega)]; exact m0.2.1 kk hk)
  have m2 := GM_rec gG.1 m1
  have m3 := GM_mod m2 (fun z kk hz => h2 z kk (by omega) (by omega)) hR
  have gB' := apB_rec (n := n) gB
  obtain ⟨rs1, -⟩ := rem_spec (I := I1') (b := b) gG.1
  refine ⟨p, f, h, m, k, j, recH hs n, im, recK n + 1, w', pushP P n w, Q, kp, IsX_rec gX gA, ApX_rec gA, IsM_rec gM gB, gB', GG_mod r0 hG, ?_, m3, gF⟩
  have o : ∀ z kk, (z < b ∨ b + 9 ≤ z) → I2 z kk = I1 z kk := fun z kk z2 => by rw [h2 z kk (by omega) (by omega), rs1 z kk (by omega) (by omega), h1' z kk (by omega)]
  have oq : ∀ q, (∀ z, b ≤ z → z < b + 9 → outq z q) → ∀ z kk, q ≤ z → z < q + 83 → I2 z kk = I1 z kk := fun q q2 z kk z1 z2 => o z kk (by
    rcases Nat.lt_or_ge z b with hz | hz
    · exact Or.inl hz
    · rcases Nat.lt_or_ge z (b + 9) with hz2 | hz2
      · have := q2 z hz hz2
        unfold outq at this
        omega
      · exact Or.inr hz2)
  have os : ∀ a, sml x h m k j a → ∀ kk, I2 a kk = I1 a kk := fun a ha kk => o a kk (by
    rcases Nat.lt_or_ge a b with hz | hz
    · exact Or.inl hz
    · rcases Nat.lt_or_ge a (b + 9) with hz2 | hz2
      · exact absurd rfl (apB_x gB ha hz hz2)
      · exact Or.inr hz2)
  exact GX_frame (GG_mod r0 hG) r2 (os x sml_x) (os k sml_k) (oq p (fun z z1 z2 => (gB' z z1 z2).2.1)) (fun i hi => oq _ (fun z z1 z2 => (gB' z z1 z2).2.2.2.1 i hi)) (fun i hi => oq _ (fun z z1 z2 => (gB' z z1 z2).2.2.2.2 i hi))
