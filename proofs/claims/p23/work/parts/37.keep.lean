/-! part 37: the whole memory: the present state, the history, the images; records -/
def GX (I : hm_I) (x p k : Nat) (hs im : Nat → Nat) (n : Nat) (w : Nat → Int32) (P Q : Nat → Nat → Int32) (kp : Nat → Bool) : Prop :=
  I x 3 = nI n ∧ Rel I p w ∧ (∀ i, i < n → Rel I (hs i) (P i)) ∧ ∀ i, i < 2 → (kp i = true → I k i = nI 1 ∧ Rel I (im i) (Q i)) ∧ (kp i = false → I k i = nI 0)
def GG (t n : Nat) (w : Nat → Int32) (P Q : Nat → Nat → Int32) (kp : Nat → Bool) : Prop := n ≤ 8 ∧ Good w t ∧ (∀ i, i < n → Good (P i) t) ∧ ∀ i, i < 2 → kp i = true → Good (Q i) t
def pushP (P : Nat → Nat → Int32) (n : Nat) (w : Nat → Int32) : Nat → Nat → Int32 := fun i => if i = recK n then w else if n < 8 then P i else P (i + 1)
theorem good_ep {w : Nat → Int32} {t : Nat} (h : Good w t) : epM w ≤ 9 := h.1.2.2.2.1
theorem recK_n {n : Nat} (h : n ≤ 8) : recK n + 1 ≤ 8 ∧ recK n ≤ n ∧ (n < 8 → recK n = n) ∧ (¬ n < 8 → recK n = 7) := by
  unfold recK
  by_cases q : n < 8
  · rw [if_pos q]; exact ⟨by omega, by omega, fun _ => rfl, fun z => absurd q z⟩
  · rw [if_neg q]; exact ⟨by omega, by omega, fun z => absurd z q, fun _ => rfl⟩
theorem push_at (P : Nat → Nat → Int32) (n : Nat) (w : Nat → Int32) : pushP P n w (recK n) = w := if_pos rfl
theorem push_lt {P : Nat → Nat → Int32} {n i : Nat} {w : Nat → Int32} (h : i ≠ recK n) : pushP P n w i = if n < 8 then P i else P (i + 1) := if_neg h
theorem GG_rec {t n : Nat} {w : Nat → Int32} {P Q : Nat → Nat → Int32} {kp : Nat → Bool} (h : GG t n w P Q kp) : GG t (recK n + 1) w (pushP P n w) Q kp := by
  obtain ⟨h1, h2, h3, h4⟩ := h
  obtain ⟨k1, k2, k3, k4⟩ := recK_n h1
  refine ⟨k1, h2, fun i hi => ?_, h4⟩
  by_cases e : i = recK n
  · rw [e, push_at]; exact h2
  · rw [push_lt e]
    by_cases q : n < 8
    · rw [if_pos q]; exact h3 i (by omega)
    · have := k4 q
      rw [if_neg q]; exact h3 (i + 1) (by omega)
theorem GG_mod {t n : Nat} {w w' : Nat → Int32} {P Q : Nat → Nat → Int32} {kp : Nat → Bool} (h : GG t n w P Q kp) (hw : Good w' (t + 1)) : GG (t + 1) n w' P Q kp :=
  ⟨h.1, hw, fun i hi => Good_mono (h.2.2.1 i hi) (Nat.le_succ t), fun i hi hk => Good_mono (h.2.2.2 i hi hk) (Nat.le_succ t)⟩
theorem GX_frame {I I' : hm_I} {x p k n t : Nat} {hs im : Nat → Nat} {w : Nat → Int32} {P Q : Nat → Nat → Int32} {kp : Nat → Bool} (hG : GG t n w P Q kp) (hX : GX I x p k hs im n w P Q kp)
    (h1 : ∀ kk, I' x kk = I x kk) (h2 : ∀ kk, I' k kk = I k kk) (h3 : ∀ z kk, p ≤ z → z < p + 83 → I' z kk = I z kk) (h4 : ∀ i, i < 8 → ∀ z kk, hs i ≤ z → z < hs i + 83 → I' z kk = I z kk) (h5 : ∀ i, i < 2 → ∀ z kk, im i ≤ z → z < im i + 83 → I' z kk = I z kk) : GX I' x p k hs im n w P Q kp := by
  obtain ⟨g1, g2, g3, g4⟩ := hX
  obtain ⟨m1, m2, m3, m4⟩ := hG
  refine ⟨by rw [h1]; exact g1, Rel_frame (good_ep m2) h3 g2, fun i hi => Rel_frame (good_ep (m3 i hi)) (h4 i (by omega)) (g3 i hi), fun i hi => ⟨fun hk => ?_, fun hk => ?_⟩⟩
  · rw [h2]; exact ⟨((g4 i hi).1 hk).1, Rel_frame (good_ep (m4 i hi hk)) (h5 i hi) ((g4 i hi).1 hk).2⟩
  · rw [h2]; exact (g4 i hi).2 hk
theorem GX_mod {I I' : hm_I} {x p f h m k j n t : Nat} {hs im : Nat → Nat} {w w' : Nat → Int32} {P Q : Nat → Nat → Int32} {kp : Nat → Bool} (hA : ApX x p f h m k j hs im) (hG : GG t n w P Q kp) (hX : GX I x p k hs im n w P Q kp)
    (h1 : ∀ z kk, outq z p → I' z kk = I z kk) (h2 : Rel I' p w') : GX I' x p k hs im n w' P Q kp := by
  obtain ⟨g1, g2, g3, g4⟩ := hX
  obtain ⟨m1, m2, m3, m4⟩ := hG
  obtain ⟨-, a2, -, a4, a5, -⟩ := hA
  have ox := (a2 x (Or.inl rfl)).1
  have ok := (a2 k (Or.inr (Or.inr (Or.inr (Or.inl rfl))))).1
  refine ⟨by rw [h1 _ _ ox]; exact g1, h2, fun i hi => Rel_frame (good_ep (m3 i hi)) (fun z kk z1 z2 => h1 z kk (far_out (far_symm (a4 i (by omega))) z1 z2)) (g3 i hi), fun i hi => ⟨fun hk => ?_, fun hk => ?_⟩⟩
  · rw [h1 _ _ ok]; exact ⟨((g4 i hi).1 hk).1, Rel_frame (good_ep (m4 i hi hk)) (fun z kk z1 z2 => h1 z kk (far_out (far_symm (a5 i hi)) z1 z2)) ((g4 i hi).1 hk).2⟩
  · rw [h1 _ _ ok]; exact (g4 i hi).2 hk
theorem recI0_ne {I : hm_I} {x n z : Nat} (h : z ≠ x) : recI0 I x n z = I z := by
  unfold recI0
  by_cases q : n < 8
  · rw [if_pos q]
  · rw [if_neg q]; exact hm_put_ne _ _ _ _ h
theorem GX_rec {I : hm_I} {x p f h m k j n t : Nat} {hs im : Nat → Nat} {w : Nat → Int32} {P Q : Nat → Nat → Int32} {kp : Nat → Bool} {c : Nat → Nat} {e : Nat → Nat → Nat} (hA : ApX x p f h m k j hs im) (hAg : Agr w c e) (hG : GG t n w P Q kp) (hX : GX I x p k hs im n w P Q kp) :
    GX (recI I x p n hs c (epM w + 1) (lgM w)) x p k (recH hs n) im (recK n + 1) w (pushP P n w) Q kp := by
  obtain ⟨g1, g2, g3, g4⟩ := hX
  obtain ⟨m1, m2, m3, m4⟩ := hG
  have hA' := ApX_rec (n := n) hA
  obtain ⟨-, a2, -, a4, a5, -, a7, a8, -⟩ := hA'
  have ox := a2 x (Or.inl rfl)
  have ok := a2 k (Or.inr (Or.inr (Or.inr (Or.inl rfl))))
  obtain ⟨k1, k2, k3, k4⟩ := recK_n m1
  have hxk : k ≠ x := fun q => hA.1.2.2.1 q.symm
  have hd := recK_lt n
  have hec : epM w + 1 ≤ 10 := by have := good_ep m2; omega
  have fr : ∀ z, z ≠ x → outq z (recH hs n (recK n)) → recI I x p n hs c (epM w + 1) (lgM w) z = I z := fun z z1 z2 => recI_ne hec z1 z2
  have frq : ∀ q, outq x q → far q (recH hs n (recK n)) → ∀ z kk, q ≤ z → z < q + 83 → recI I x p n hs c (epM w + 1) (lgM w) z kk = I z kk := fun q q1 q2 z kk z1 z2 => congrFun (fr z (outq_ne q1 z1 z2) (far_out q2 z1 z2)) kk
  refine ⟨hm_put_at _ _ _ _, Rel_frame (good_ep m2) (frq p ox.1 (a4 _ hd)) g2, fun i hi => ?_, fun i hi => ?_⟩
  · by_cases ei : i = recK n
    · rw [ei, push_at]
      have r0 : Rel (recI0 I x n) p w := Rel_frame (good_ep m2) (fun z kk z1 z2 => congrFun (recI0_ne (outq_ne ox.1 z1 z2)) kk) g2
      have r1 := cpS_rel (far_symm (a4 _ hd)) m2.1 hAg r0
      exact Rel_frame (good_ep m2) (fun z kk z1 z2 => hp_n (Or.inl (outq_ne (ox.2.2.1 _ hd) z1 z2))) r1
    · rw [push_lt ei]
      have hi8 : i < 8 := by omega
      have key : ∀ R, Rel I (recH hs n i) R → epM R ≤ 9 → Rel (recI I x p n hs c (epM w + 1) (lgM w)) (recH hs n i) R := fun R hR hRe => Rel_frame hRe (frq _ (ox.2.2.1 i hi8) (a7 i hi8 _ hd ei)) hR
      by_cases q : n < 8
      · have e0 : recH hs n = hs := by unfold recH; rw [if_pos q]
        have h3 : i < n := by have := k3 q; omega
        rw [if_pos q]
        refine key _ ?_ (good_ep (m3 i h3))
        rw [e0]; exact g3 i h3
      · have e0 : recH hs n i = hs (i + 1) := by
          have := k4 q
          unfold recH rotH
          rw [if_neg q, if_pos (show i < 7 by omega)]
        have h3 : i + 1 < n := by have := k4 q; omega
        rw [if_neg q]
        refine key _ ?_ (good_ep (m3 (i + 1) h3))
        rw [e0]; exact g3 (i + 1) h3
  · have fk : ∀ kk, recI I x p n hs c (epM w + 1) (lgM w) k kk = I k kk := fun kk => congrFun (fr k hxk (ok.2.2.1 _ hd)) kk
    refine ⟨fun hk => ?_, fun hk => ?_⟩
    · rw [fk]
      exact ⟨((g4 i hi).1 hk).1, Rel_frame (good_ep (m4 i hi hk)) (frq _ (ox.2.2.2 i hi) (far_symm (a8 _ hd i hi))) ((g4 i hi).1 hk).2⟩
    · rw [fk]; exact (g4 i hi).2 hk
theorem sml_h {x h m k j : Nat} : sml x h m k j h := Or.inr (Or.inl rfl)
theorem sml_x {x h m k j : Nat} : sml x h m k j x := Or.inl rfl
theorem sml_k {x h m k j : Nat} : sml x h m k j k := Or.inr (Or.inr (Or.inr (Or.inl rfl)))
theorem sml_j {x h m k j : Nat} : sml x h m k j j := Or.inr (Or.inr (Or.inr (Or.inr rfl)))
