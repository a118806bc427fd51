/-! part 38: frames are sent one by one: what is foretold, what a budget sends -/
theorem lp_front {σ : Type} (g : σ → σ) : ∀ (n : Nat) (x : σ), lp (n + 1) (fun _ => g) x = lp n (fun _ => g) (g x) := by
  intro n
  induction n with
  | zero => intro x; rfl
  | succ n ih => intro x; rw [lp_s, ih x]; rfl
def totN (w : Nat → Int32) : Nat := cM w 0 + cM w 1 + cM w 2 + cM w 3 + cM w 4 + cM w 5 + cM w 6 + cM w 7
theorem tot_le {w : Nat → Int32} (hG : WfC w) : totN w ≤ 48 := by
  have h0 := cM_le hG (s := 0) (by omega)
  have h1 := cM_le hG (s := 1) (by omega)
  have h2 := cM_le hG (s := 2) (by omega)
  have h3 := cM_le hG (s := 3) (by omega)
  have h4 := cM_le hG (s := 4) (by omega)
  have h5 := cM_le hG (s := 5) (by omega)
  have h6 := cM_le hG (s := 6) (by omega)
  have h7 := cM_le hG (s := 7) (by omega)
  unfold totN
  omega
theorem tot_0 {w : Nat → Int32} (h : totN w = 0) : ∀ s, s < 8 → cM w s = 0 := by
  intro s hs
  unfold totN at h
  have e : s = 0 ∨ s = 1 ∨ s = 2 ∨ s = 3 ∨ s = 4 ∨ s = 5 ∨ s = 6 ∨ s = 7 := by omega
  rcases e with e | e | e | e | e | e | e | e <;> subst e <;> omega
theorem tot_pos {w : Nat → Int32} {s : Nat} (hs : s < 8) (hc : 0 < cM w s) : 0 < totN w := by
  rcases Nat.eq_zero_or_pos (totN w) with h | h
  · have := tot_0 h s hs; omega
  · exact h
theorem tot_ex {w : Nat → Int32} (h : 0 < totN w) : ∃ s, s < 8 ∧ 0 < cM w s := by
  unfold totN at h
  by_cases h0 : 0 < cM w 0
  · exact ⟨0, by omega, h0⟩
  by_cases h1 : 0 < cM w 1
  · exact ⟨1, by omega, h1⟩
  by_cases h2 : 0 < cM w 2
  · exact ⟨2, by omega, h2⟩
  by_cases h3 : 0 < cM w 3
  · exact ⟨3, by omega, h3⟩
  by_cases h4 : 0 < cM w 4
  · exact ⟨4, by omega, h4⟩
  by_cases h5 : 0 < cM w 5
  · exact ⟨5, by omega, h5⟩
  by_cases h6 : 0 < cM w 6
  · exact ⟨6, by omega, h6⟩
  exact ⟨7, by omega, by omega⟩
theorem tot_snd {w : Nat → Int32} {s : Nat} (hG : WfC w) (hs : s < 8) (hc : 0 < cM w s) : totN (sndW w s) + 1 = totN w := by
  unfold totN
  rw [cM_snd hG hs (s' := 0) (by omega), cM_snd hG hs (s' := 1) (by omega), cM_snd hG hs (s' := 2) (by omega), cM_snd hG hs (s' := 3) (by omega), cM_snd hG hs (s' := 4) (by omega), cM_snd hG hs (s' := 5) (by omega), cM_snd hG hs (s' := 6) (by omega), cM_snd hG hs (s' := 7) (by omega)]
  have e : s = 0 ∨ s = 1 ∨ s = 2 ∨ s = 3 ∨ s = 4 ∨ s = 5 ∨ s = 6 ∨ s = 7 := by omega
  rcases e with e | e | e | e | e | e | e | e <;> subst e <;> simp <;> omega
def stp (w : Nat → Int32) : Nat → Int32 := sndW w (nxtN w)
theorem stp_ok {w : Nat → Int32} {t : Nat} (hG : Good w t) (h : 0 < totN w) : nxtN w < 8 ∧ 0 < cM w (nxtN w) ∧ Good (stp w) t ∧ totN (stp w) + 1 = totN w := by
  obtain ⟨h1, h2⟩ := nxt_some hG (tot_ex h)
  exact ⟨h1, h2, Good_snd hG h1 h2, tot_snd hG.1 h1 h2⟩
/-! the class sends -/
theorem ns_X {y : hm_I} {q t : Nat} {v : Nat → Int32} (hG : Good v t) (hR : Rel y q v) : nsS y q = enc (nxtN v) := next_X hG (Agr_S hR.2.1) hR.1 hR.2.1 hR.2.2.1
theorem ns_X1 {y : hm_I} {q t : Nat} {v : Nat → Int32} (hG : Good v t) (hR : Rel y q v) (h : 0 < totN v) : nsS y q = nI (nxtN v) ∧ kS y q = nxtN v := by
  obtain ⟨h1, h2, -, -⟩ := stp_ok hG h
  have e : nsS y q = nI (nxtN v) := (ns_X hG hR).trans (enc_lt h1)
  exact ⟨e, by unfold kS; rw [e, nI_clamp (by omega)]⟩
theorem ok_X {y : hm_I} {q t : Nat} {v : Nat → Int32} (hG : Good v t) (hR : Rel y q v) (h : 0 < totN v) : okS y q := by
  obtain ⟨h1, h2, -, -⟩ := stp_ok hG h
  obtain ⟨e1, e2⟩ := ns_X1 hG hR h
  unfold okS
  rw [e2]
  exact ⟨h1, by rw [(Agr_S hR.2.1).1 _ h1]; exact h2, e1⟩
theorem sn_X {y : hm_I} {q t : Nat} {v : Nat → Int32} (hG : Good v t) (hR : Rel y q v) (h : 0 < totN v) : Rel (sfS y q) q (stp v) ∧ (∀ z k, (z < q ∨ q + 83 ≤ z) → sfS y q z k = y z k) ∧ szS y q = nI (szR v (nxtN v) 0) := by
  obtain ⟨h1, h2, -, -⟩ := stp_ok hG h
  obtain ⟨e1, e2⟩ := ns_X1 hG hR h
  unfold sfS szS
  rw [e2, lcS_rel hR]
  have := send_X hG (Agr_S hR.2.1) hR h1 h2
  exact ⟨this.1, this.2, by rw [(hR.2.1.2 _ h1 0 h2).2.1]; exact (hG.2.2.2.2.2.2 _ h1 0 h2).1⟩
/-! what is foretold -/
def itB (s0 : Nat) (w : Nat → Int32) (a i : Nat) : (Nat → Int32) × Nat := lp i (fun _ v => (stp v.1, if nxtN v.1 = s0 then v.2 - 1 else v.2)) (w, a)
def befOk (s0 : Nat) (w : Nat → Int32) (a t m : Nat) : Prop :=
  (∀ i, i ≤ m → Good (itB s0 w a i).1 t ∧ (itB s0 w a i).2 < cM (itB s0 w a i).1 s0 ∧ numM (itB s0 w a i).1 s0 (itB s0 w a i).2 = numM w s0 a ∧ (itB s0 w a i).2 ≤ a) ∧ (∀ i, i < m → ¬ (nxtN (itB s0 w a i).1 = s0 ∧ (itB s0 w a i).2 = 0)) ∧ nxtN (itB s0 w a m).1 = s0 ∧ (itB s0 w a m).2 = 0
theorem itB_front (s0 : Nat) (w : Nat → Int32) (a i : Nat) : itB s0 w a (i + 1) = itB s0 (stp w) (if nxtN w = s0 then a - 1 else a) i := lp_front (fun v : (Nat → Int32) × Nat => (stp v.1, if nxtN v.1 = s0 then v.2 - 1 else v.2)) i (w, a)
theorem itB_s (s0 : Nat) (w : Nat → Int32) (a i : Nat) : itB s0 w a (i + 1) = (stp (itB s0 w a i).1, if nxtN (itB s0 w a i).1 = s0 then (itB s0 w a i).2 - 1 else (itB s0 w a i).2) := rfl
theorem ex_bef {s0 t : Nat} (hs0 : s0 < 8) : ∀ (T : Nat) (w : Nat → Int32) (a : Nat), totN w ≤ T → Good w t → a < cM w s0 → ∃ m, m < T ∧ befOk s0 w a t m := by
  intro T
  induction T with
  | zero =>
    intro w a hT hG ha
    have := tot_pos hs0 (show 0 < cM w s0 by omega)
    omega
  | succ T ih =>
    intro w a hT hG ha
    have hp0 := tot_pos hs0 (show 0 < cM w s0 by omega)
    obtain ⟨h1, h2, h3, h4⟩ := stp_ok hG hp0
    by_cases hz : nxtN w = s0 ∧ a = 0
    · refine ⟨0, by omega, fun i hi => ?_, fun i hi => absurd hi (Nat.not_lt_zero i), hz.1, hz.2⟩
      have e : i = 0 := by omega
      subst e
      exact ⟨hG, ha, rfl, Nat.le_refl _⟩
    · have hcs := cM_snd hG.1 h1 hs0
      have ha' : (if nxtN w = s0 then a - 1 else a) < cM (stp w) s0 := by
        show _ < cM (sndW w (nxtN w)) s0
        rw [hcs]
        by_cases e : nxtN w = s0
        · rw [if_pos e, if_pos e.symm, e]
          have : a ≠ 0 := fun q => hz ⟨e, q⟩
          omega
        · rw [if_neg e, if_neg (fun q => e q.symm)]; exact ha
      obtain ⟨m, hm, g1, g2, g3, g4⟩ := ih (stp w) _ (by omega) h3 ha'
      have hn : numM (stp w) s0 (if nxtN w = s0 then a - 1 else a) = numM w s0 a := by
        rw [show numM (stp w) s0 _ = _ from numM_snd hG.1 h1 hs0 ha']
        apply congrArg (numM w s0)
        unfold kx
        by_cases e : nxtN w = s0
        · rw [if_pos e, if_pos e.symm]
          have : a ≠ 0 := fun q => hz ⟨e, q⟩
          omega
        · rw [if_neg e, if_neg (fun q => e q.symm)]
      have hle : (if nxtN w = s0 then a - 1 else a) ≤ a := by
        by_cases e : nxtN w = s0
        · rw [if_pos e]; omega
        · rw [if_neg e]; exact Nat.le_refl _
      refine ⟨m + 1, by omega, fun i hi => ?_, fun i hi => ?_, ?_, ?_⟩
      · cases i with
        | zero => exact ⟨hG, ha, rfl, Nat.le_refl _⟩
        | succ i =>
          rw [itB_front]
          obtain ⟨a1, a2, a3, a4⟩ := g1 i (by omega)
          exact ⟨a1, a2, a3.trans hn, Nat.le_trans a4 hle⟩
      · cases i with
        | zero => exact hz
        | succ i => rw [itB_front]; exact g2 i (by omega)
      · rw [itB_front]; exact g3
      · rw [itB_front]; exact g4
theorem bef_X {I : hm_I} {p f t s0 a m : Nat} {w : Nat → Int32} {c : Nat → Nat} {e : Nat → Nat → Nat} (hf : far f p) (hAg : Agr w c e) (hR : Rel I p w) (hG : Good w t) (hs0 : s0 < 8) (ha : a < cM w s0) (hm : m < 48) (hB : befOk s0 w a t m) :
    BefS (fX2_copyFrom I f p c (epM w + 1) (lgM w)) f s0 m a (fun i y => i ≤ m ∧ Rel y.1 f (itB s0 w a i).1 ∧ y.2 = nI (itB s0 w a i).2) ∧ ∀ z k, outq z f → (fX3_sentBefore I p f s0 a m c (epM w + 1) (lgM w)).2 z k = I z k := by
  obtain ⟨g1, g2, g3, g4⟩ := hB
  have h6 := cM_le hG.1 hs0
  have hep := good_ep hG
  have hC := cpS_rel hf hG.1 hAg hR
  have tp : ∀ i, i ≤ m → 0 < totN (itB s0 w a i).1 := fun i hi => tot_pos hs0 (Nat.lt_of_le_of_lt (Nat.zero_le _) (g1 i hi).2.1)
  have step : ∀ i (y : hm_I × Int32), i < m → Rel y.1 f (itB s0 w a i).1 → y.2 = nI (itB s0 w a i).2 → Rel (sb1 y f s0).1 f (itB s0 w a (i + 1)).1 ∧ (sb1 y f s0).2 = nI (itB s0 w a (i + 1)).2 := fun i y hi hy hy2 => by
    obtain ⟨e1, e2⟩ := ns_X1 (g1 i (by omega)).1 hy (tp i (by omega))
    have hs := sn_X (g1 i (by omega)).1 hy (tp i (by omega))
    unfold sb1
    rw [e2, itB_s]
    by_cases q : nxtN (itB s0 w a i).1 = s0
    · rw [if_pos q, if_pos q]
      refine ⟨hs.1, ?_⟩
      show y.2 + (-1) = _
      have : (itB s0 w a i).2 ≠ 0 := fun h => g2 i hi ⟨q, h⟩
      obtain ⟨r, hr⟩ : ∃ r, (itB s0 w a i).2 = r + 1 := ⟨(itB s0 w a i).2 - 1, by omega⟩
      rw [hy2, hr, pk_m1, Nat.add_sub_cancel]
    · rw [if_neg q, if_neg q]
      exact ⟨hs.1, hy2⟩
  refine ⟨⟨hm, wfsc_rel hG.1 hC, ⟨Nat.zero_le _, hC, rfl⟩, fun i x hi _ hx => ?_, fun i x hi _ hx => ⟨by omega, step i x hi hx.2.1 hx.2.2⟩, fun i x hi _ hx => ok_X (g1 i hi).1 hx.2.1 (tp i hi), fun i x hi _ hx => ?_, fun x _ hx => ?_⟩, ?_⟩
  · exact wfsc_rel (g1 (i + 1) (by omega)).1.1 (step i x hi hx.2.1 hx.2.2).1
  · intro q
    rw [(ns_X1 (g1 i (by omega)).1 hx.2.1 (tp i (by omega))).2, hx.2.2] at q
    have h7 := (g1 i (by omega)).2.2.2
    exact g2 i hi ⟨q.1, nI_inj (by omega) (by decide) (q.2.trans nI_0.symm)⟩
  · rw [(ns_X1 (g1 m (Nat.le_refl m)).1 hx.2.1 (tp m (Nat.le_refl m))).2, hx.2.2, g4]
    exact ⟨g3, nI_0⟩
  · have key : (∀ z k, outq z f → (lp m (fun _ y => sb1 y f s0) (fX2_copyFrom I f p c (epM w + 1) (lgM w), nI a)).1 z k = I z k) := by
      refine (lp_inv (n := m) (f := fun _ (y : hm_I × Int32) => sb1 y f s0) (x := (fX2_copyFrom I f p c (epM w + 1) (lgM w), nI a)) (fun i (y : hm_I × Int32) => (Rel y.1 f (itB s0 w a i).1 ∧ y.2 = nI (itB s0 w a i).2) ∧ ∀ z k, outq z f → y.1 z k = I z k) ⟨⟨hC, rfl⟩, fun z k hz => cpS_frame hf (by omega) hz⟩ (fun i x hi hx => ⟨step i x hi hx.1.1 hx.1.2, fun z k hz => ?_⟩)).2
      have hs := (sn_X (g1 i (by omega)).1 hx.1.1 (tp i (by omega))).2.1 z k hz
      unfold sb1
      by_cases q : kS x.1 f = s0
      · rw [if_pos q]; exact hs.trans (hx.2 z k hz)
      · rw [if_neg q]; exact hs.trans (hx.2 z k hz)
    exact key
/-! what a budget sends -/
def itC (w : Nat → Int32) (z i : Nat) : (Nat → Int32) × Nat := lp i (fun _ v => (stp v.1, v.2 + szR v.1 (nxtN v.1) 0)) (w, z)
theorem itC_front (w : Nat → Int32) (z i : Nat) : itC w z (i + 1) = itC (stp w) (z + szR w (nxtN w) 0) i := lp_front (fun v : (Nat → Int32) × Nat => (stp v.1, v.2 + szR v.1 (nxtN v.1) 0)) i (w, z)
theorem itC_s (w : Nat → Int32) (z i : Nat) : itC w z (i + 1) = (stp (itC w z i).1, (itC w z i).2 + szR (itC w z i).1 (nxtN (itC w z i).1) 0) := rfl
def someOk (w : Nat → Int32) (z bd t m : Nat) : Prop :=
  (∀ i, i ≤ m → Good (itC w z i).1 t ∧ totN (itC w z i).1 + i = totN w ∧ (itC w z i).2 ≤ bd) ∧ (∀ i, i < m → 0 < totN (itC w z i).1 ∧ (itC w z i).2 + szR (itC w z i).1 (nxtN (itC w z i).1) 0 ≤ bd) ∧
  (totN (itC w z m).1 = 0 ∨ (0 < totN (itC w z m).1 ∧ bd < (itC w z m).2 + szR (itC w z m).1 (nxtN (itC w z m).1) 0))
theorem ex_some {bd t : Nat} : ∀ (T : Nat) (w : Nat → Int32) (z : Nat), totN w = T → Good w t → z ≤ bd → ∃ m, someOk w z bd t m := by
  intro T
  induction T with
  | zero =>
    intro w z hT hG hz
    refine ⟨0, fun i hi => ?_, fun i hi => absurd hi (Nat.not_lt_zero i), Or.inl hT⟩
    have e : i = 0 := by omega
    subst e
    exact ⟨hG, rfl, hz⟩
  | succ T ih =>
    intro w z hT hG hz
    obtain ⟨h1, h2, h3, h4⟩ := stp_ok hG (by omega)
    by_cases hb : bd < z + szR w (nxtN w) 0
    · refine ⟨0, fun i hi => ?_, fun i hi => absurd hi (Nat.not_lt_zero i), Or.inr ⟨show 0 < totN w by omega, hb⟩⟩
      have e : i = 0 := by omega
      subst e
      exact ⟨hG, rfl, hz⟩
    · obtain ⟨m, g1, g2, g3⟩ := ih (stp w) (z + szR w (nxtN w) 0) (by omega) h3 (by omega)
      refine ⟨m + 1, fun i hi => ?_, fun i hi => ?_, ?_⟩
      · cases i with
        | zero => exact ⟨hG, rfl, hz⟩
        | succ i =>
          rw [itC_front]
          obtain ⟨a1, a2, a3⟩ := g1 i (by omega)
          exact ⟨a1, by omega, a3⟩
      · cases i with
        | zero => exact ⟨show 0 < totN w by omega, show z + szR w (nxtN w) 0 ≤ bd by omega⟩
        | succ i => rw [itC_front]; exact g2 i (by omega)
      · rw [itC_front]; exact g3
theorem sz_le {v : Nat → Int32} {t : Nat} (hG : Good v t) (h : 0 < totN v) : 1 ≤ szR v (nxtN v) 0 ∧ szR v (nxtN v) 0 ≤ 99 := by
  obtain ⟨h1, h2, -, -⟩ := stp_ok hG h
  exact (hG.2.2.2.2.2.2 _ h1 0 h2).2
theorem some_X {R : hm_I} {q t bd m : Nat} {w : Nat → Int32} (hR : Rel R q w) (hG : Good w t) (hbd : bd ≤ 999) (hS : someOk w 0 bd t m) :
    SomeS R q m (nI bd) (fun i y => i ≤ m ∧ Rel y.1 q (itC w 0 i).1 ∧ y.2 = nI (bd - (itC w 0 i).2)) ∧ (totN (itC w 0 m).1 = 0 → m < 48 → endSA q m (fun i y => i ≤ m ∧ Rel y.1 q (itC w 0 i).1 ∧ y.2 = nI (bd - (itC w 0 i).2))) ∧
    (0 < totN (itC w 0 m).1 → bd < (itC w 0 m).2 + szR (itC w 0 m).1 (nxtN (itC w 0 m).1) 0 → endSB q m (fun i y => i ≤ m ∧ Rel y.1 q (itC w 0 i).1 ∧ y.2 = nI (bd - (itC w 0 i).2))) ∧
    Rel (lp m (fun _ x => ss1S x q) (R, nI bd)).1 q (itC w 0 m).1 ∧ ∀ z k, outq z q → (lp m (fun _ x => ss1S x q) (R, nI bd)).1 z k = R z k := by
  obtain ⟨g1, g2, g3⟩ := hS
  have ht := tot_le hG.1
  have hm := (g1 m (Nat.le_refl m)).2.1
  have step : ∀ i (y : hm_I × Int32), i < m → Rel y.1 q (itC w 0 i).1 → y.2 = nI (bd - (itC w 0 i).2) → Rel (ss1S y q).1 q (itC w 0 (i + 1)).1 ∧ (ss1S y q).2 = nI (bd - (itC w 0 (i + 1)).2) := fun i y hi h1 h2 => by
    have hs := sn_X (g1 i (by omega)).1 h1 (g2 i hi).1
    have hl := (g2 i hi).2
    refine ⟨hs.1, ?_⟩
    show y.2 - szS y.1 q = _
    rw [itC_s, h2, hs.2.2, pk_sub (by omega)]
    exact congrArg nI (by show _ = bd - (_ + _); omega)
  refine ⟨⟨by omega, wfsc_rel hG.1 hR, ⟨Nat.zero_le _, hR, rfl⟩, fun i x hi _ hx => wfsc_rel (g1 (i + 1) (by omega)).1.1 (step i x hi hx.2.1 hx.2.2).1, fun i x hi _ hx => ⟨by omega, step i x hi hx.2.1 hx.2.2⟩, fun i x hi _ hx => ok_X (g1 i (by omega)).1 hx.2.1 (g2 i hi).1, fun i x hi _ hx => ?_⟩, fun h0 h48 => ⟨h48, fun x _ hx => ?_⟩, fun h0 h1 => ⟨by omega, fun x _ hx => ?_⟩, ?_⟩
  · have hl := (g2 i hi).2
    rw [(sn_X (g1 i (by omega)).1 hx.2.1 (g2 i hi).1).2.2, hx.2.2]
    exact nI_le (by omega) (by omega)
  · rw [ns_X (g1 m (Nat.le_refl m)).1 hx.2.1, nxt_none (tot_0 h0)]
    rfl
  · have hz := sz_le (g1 m (Nat.le_refl m)).1 h0
    have hz2 := (g1 m (Nat.le_refl m)).2.2
    refine ⟨ok_X (g1 m (Nat.le_refl m)).1 hx.2.1 h0, ?_⟩
    rw [(sn_X (g1 m (Nat.le_refl m)).1 hx.2.1 h0).2.2, hx.2.2]
    exact nI_ge (by omega) (by omega)
  · have key := lp_inv (n := m) (f := fun _ (x : hm_I × Int32) => ss1S x q) (x := (R, nI bd)) (fun i (y : hm_I × Int32) => (Rel y.1 q (itC w 0 i).1 ∧ y.2 = nI (bd - (itC w 0 i).2)) ∧ ∀ z k, outq z q → y.1 z k = R z k) ⟨⟨hR, rfl⟩, fun _ _ _ => rfl⟩ (fun i x hi hx => ⟨step i x hi hx.1.1 hx.1.2, fun z k hz => ((sn_X (g1 i (by omega)).1 hx.1.1 (g2 i hi).1).2.1 z k hz).trans (hx.2 z k hz)⟩)
    exact ⟨key.1.1, key.2⟩
