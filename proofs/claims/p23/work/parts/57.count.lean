/-! part 57: what the law counts of an order -/
def rA (N : Nat → Nat) (a b : Nat) : Nat := if a = b then 0 else relN N a b
def fo (w : Nat → Int32) (a : Nat) : Nat := if w a = nI 1 then 1 else 0
def pI (N : Nat → Nat) (w : Nat → Int32) (a b : Nat) : Nat := if (w a = nI 1 ∧ w b = nI 1) ∧ 0 < rA N a b ∧ rA N a b < 3 then 1 else 0
def prB (N : Nat → Nat) (w : Nat → Int32) (a n0 b : Nat) : Nat := lp b (fun b n => n + pI N w a b) n0
def prA (N : Nat → Nat) (w : Nat → Int32) (a : Nat) : Nat := lp a (fun a n => prB N w a n 8) 0
def fsS (N : Nat → Nat) (w : Nat → Int32) (a b f : Nat) : Nat := if f = 1 ∧ ¬ ((w a = nI 1 ∧ w b = nI 1) ∧ 2 < rA N a b) then 1 else 0
def fsB (N : Nat → Nat) (w : Nat → Int32) (a b : Nat) : Nat := lp b (fun b f => fsS N w a b f) (fo w a)
def fsA (N : Nat → Nat) (w : Nat → Int32) (a : Nat) : Nat := lp a (fun a n => n + fsB N w a 8) 0
def opA (w : Nat → Int32) (a : Nat) : Nat := lp a (fun a n => n + fo w a) 0
theorem rA_le (N : Nat → Nat) (a b : Nat) : rA N a b ≤ 4 := by
  unfold rA
  by_cases e : a = b
  · rw [if_pos e]; omega
  · rw [if_neg e]; exact rel_le N a b
theorem rA_ne {N : Nat → Nat} {a b : Nat} (h : a ≠ b) : rA N a b = relN N a b := if_neg h
theorem rA_eq {N : Nat → Nat} {a b : Nat} (h : a = b) : rA N a b = 0 := if_pos h
theorem fo_le (w : Nat → Int32) (a : Nat) : fo w a ≤ 1 := by
  unfold fo
  by_cases q : w a = nI 1
  · rw [if_pos q]; exact Nat.le_refl 1
  · rw [if_neg q]; exact Nat.zero_le 1
theorem fsB_le (N : Nat → Nat) (w : Nat → Int32) (a b : Nat) : fsB N w a b ≤ 1 := by
  unfold fsB
  refine lp_inv (n := b) (fun _ f => f ≤ 1) (fo_le w a) (fun i f _ hf => ?_)
  unfold fsS
  by_cases q : f = 1 ∧ ¬ ((w a = nI 1 ∧ w i = nI 1) ∧ 2 < rA N a i)
  · rw [if_pos q]; exact Nat.le_refl 1
  · rw [if_neg q]; exact Nat.zero_le 1
theorem lp_add (f : Nat → Nat) (n0 : Nat) : lp 8 (fun b n => n + f b) n0 = n0 + sm8 f := by
  show n0 + f 0 + f 1 + f 2 + f 3 + f 4 + f 5 + f 6 + f 7 = _
  unfold sm8
  omega
theorem op_8 (w : Nat → Int32) : opA w 8 = pcN (osM w) := by
  unfold opA
  rw [lp_add, pc_cnt _ (osM_spec w).1, cnt_sm, Nat.zero_add]
  refine sm8_cong (fun i hi => ?_)
  rw [(osM_spec w).2 i hi]
  unfold fo
  by_cases q : w i = nI 1
  · rw [if_pos q, decide_eq_true q]; rfl
  · rw [if_neg q, decide_eq_false q]; rfl
theorem pr_8 {N : Nat → Nat} {w : Nat → Int32} (hC : Sto (clo N)) : prA N w 8 = pairN (clo N) (osM w) := by
  have e1 : prA N w 8 = lp 8 (fun a n => n + sm8 (pI N w a)) 0 := by
    unfold prA
    exact lp_cong rfl (fun a n _ => lp_add (pI N w a) n)
  rw [e1, lp_add, Nat.zero_add, pair_eq hC.1]
  unfold pR
  refine sm8_cong (fun a ha => ?_)
  rw [(osM_spec w).2 a ha]
  by_cases q : w a = nI 1
  · rw [decide_eq_true q, if_pos rfl, cnt_sm]
    refine sm8_cong (fun b hb => ?_)
    rw [(osM_spec w).2 b hb]
    unfold pI
    by_cases q2 : w b = nI 1
    · rw [decide_eq_true q2, Bool.and_true]
      by_cases e : a = b
      · subst e
        rw [rA_eq rfl, if_neg (by omega), hC.2.1 a ha]; rfl
      · rw [rA_ne e]
        by_cases q3 : (clo N a).testBit b = true
        · rw [if_pos ⟨⟨q, q2⟩, rel_iff.mpr q3⟩, q3]; rfl
        · rw [if_neg (fun z => q3 (rel_iff.mp z.2)), nf q3]; rfl
    · rw [decide_eq_false q2, Bool.and_false, if_neg (fun z => q2 z.1.2)]; rfl
  · rw [decide_eq_false q, if_neg (by decide)]
    have e : sm8 (pI N w a) = sm8 (fun _ => 0) := sm8_cong (fun b _ => if_neg (fun z : (w a = nI 1 ∧ w b = nI 1) ∧ 0 < rA N a b ∧ rA N a b < 3 => q z.1.1))
    rw [e]; rfl
theorem fs_iff {N : Nat → Nat} {w : Nat → Int32} (a n : Nat) : fsB N w a n = 1 ↔ w a = nI 1 ∧ ∀ b, b < n → ¬ (w b = nI 1 ∧ 2 < rA N a b) := by
  induction n with
  | zero =>
    show fo w a = 1 ↔ _
    unfold fo
    by_cases q : w a = nI 1
    · rw [if_pos q]; exact ⟨fun _ => ⟨q, fun b hb => absurd hb (Nat.not_lt_zero b)⟩, fun _ => rfl⟩
    · rw [if_neg q]; exact ⟨fun z => absurd z (by decide), fun z => absurd z.1 q⟩
  | succ n ih =>
    have e : fsB N w a (n + 1) = if fsB N w a n = 1 ∧ ¬ ((w a = nI 1 ∧ w n = nI 1) ∧ 2 < rA N a n) then 1 else 0 := rfl
    rw [e]
    by_cases q : fsB N w a n = 1 ∧ ¬ ((w a = nI 1 ∧ w n = nI 1) ∧ 2 < rA N a n)
    · rw [if_pos q]
      obtain ⟨h1, h2⟩ := ih.mp q.1
      refine ⟨fun _ => ⟨h1, fun b hb => ?_⟩, fun _ => rfl⟩
      by_cases eb : b = n
      · subst eb; exact fun z => q.2 ⟨⟨h1, z.1⟩, z.2⟩
      · exact h2 b (by omega)
    · rw [if_neg q]
      refine ⟨fun z => absurd z (by decide), fun z => absurd ?_ q⟩
      exact ⟨ih.mpr ⟨z.1, fun b hb => z.2 b (by omega)⟩, fun y => z.2 n (by omega) ⟨y.1.2, y.2⟩⟩
theorem fs_8 {N : Nat → Nat} {w : Nat → Int32} (hA : Acy N) (hC : Sto (clo N)) : fsA N w 8 = pcN (fstN (clo N) (osM w)) := by
  have hU := (osM_spec w).1
  unfold fsA
  rw [lp_add, pc_cnt _ (fst_lt _ hU), cnt_sm, Nat.zero_add]
  refine sm8_cong (fun a ha => ?_)
  have hle := fsB_le N w a 8
  have key : fsB N w a 8 = 1 ↔ (fstN (clo N) (osM w)).testBit a = true := by
    rw [fs_iff, fst_iff (clo N) hU ha, (osM_spec w).2 a ha, decide_eq_true_iff]
    refine and_congr_right (fun _ => ⟨fun h i hi h1 h2 => ?_, fun h b hb z => ?_⟩)
    · rw [(osM_spec w).2 i hi, decide_eq_true_iff] at h1
      refine h i hi ⟨h1, ?_⟩
      have hne : a ≠ i := fun e => by
        rw [e, hC.2.1 i hi] at h2
        exact absurd h2 (by decide)
      rw [rA_ne hne]
      exact (rel_iff3 hA ha hi).mpr h2
    · have hne : a ≠ b := fun e => by
        have := z.2
        rw [rA_eq e] at this
        omega
      have h3 := z.2
      rw [rA_ne hne] at h3
      exact h b hb (by rw [(osM_spec w).2 b hb, decide_eq_true_iff]; exact z.1) ((rel_iff3 hA ha hb).mp h3)
  cases hf : (fstN (clo N) (osM w)).testBit a with
  | true => exact key.mpr hf
  | false =>
    have : ¬ fsB N w a 8 = 1 := fun z => by
      have := key.mp z
      rw [hf] at this
      exact absurd this (by decide)
    show fsB N w a 8 = 0
    omega
/-- what the law asks of the numbers of an order -/
theorem order_ok {w : Nat → Int32} {t r : Nat} {e0 : Int32} (hG : Good w t) (hE : EpOk w e0 r) :
    ∃ k g, lonN (mk w r) (osM w) = nI k ∧ k ≤ 8 ∧ lsF (clo (mk w r)) (osM w) (osM w) (osM w) = nJ g ∧ 1 ≤ g ∧ g ≤ 40320 ∧ k + widN (clo (mk w r)) (osM w) ≤ pcN (osM w) + 1 ∧ pcN (osM w) ≤ k * widN (clo (mk w r)) (osM w) ∧ (pcN (osM w) = 0 ↔ k = 0) ∧
      (pairN (clo (mk w r)) (osM w) = 0 ↔ widN (clo (mk w r)) (osM w) = pcN (osM w)) ∧ (pairN (clo (mk w r)) (osM w) = pcN (osM w) * (pcN (osM w) - 1) / 2 ↔ g = 1) ∧ (0 < pcN (fstN (clo (mk w r)) (osM w)) ∨ pcN (osM w) = 0) ∧
      widN (clo (mk w r)) (osM w) ≤ 8 ∧ pcN (osM w) ≤ 8 ∧ pairN (clo (mk w r)) (osM w) ≤ 64 ∧ pcN (fstN (clo (mk w r)) (osM w)) ≤ 8 := by
  have hO := EpOk_ord hG hE
  have hC := Sto_ord hO
  have hU := (osM_spec w).1
  obtain ⟨k, k8, ke, h0, hk⟩ := long_X (cI_ok (fun a ha => (hO.1 a ha).2)) hO.2 hU
  obtain ⟨g, g1, g2, g3, g4⟩ := lists_one hC hU
  have hp8 := (pcN_spec _ hU).2.1
  have hw := wid_le (C := clo (mk w r)) hU
  refine ⟨k, g, ke, k8, g1, g2, g3, add_ok hC hU h0 hk, mul_ok hU hk, len_0 hU h0 hk, pair_wid hC hU, g4, fst_ok hC hU, by omega, hp8, ?_, (pcN_spec _ (fst_lt _ hU)).2.1⟩
  rw [pair_eq hC.1]
  unfold pR
  refine Nat.le_trans (sm8_le (g := fun _ => 8) (fun i _ => ?_)) (Nat.le_refl _)
  by_cases q : (osM w).testBit i = true
  · rw [if_pos q]; exact cnt8_le _
  · rw [if_neg q]; exact Nat.zero_le _
