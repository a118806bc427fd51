/-! part 31: what a row of the reference says; a class' state at q against a row w -/
def mk (w : Nat → Int32) (r a : Nat) : Nat := (w (r + a)).toNatClampNeg
def cl1 (o : Nat) (P : Nat → Nat) : Nat → Nat := fun s => if (P s).testBit o = true then P s ||| P o else P s
def clo (N : Nat → Nat) : Nat → Nat := lp 8 cl1 N
def numM (w : Nat → Int32) (s k : Nat) : Nat := (w (32 + 18 * s + 3 * k)).toNatClampNeg
def szR (w : Nat → Int32) (s k : Nat) : Nat := (w (32 + 18 * s + 3 * k + 1)).toNatClampNeg
def OrdOk (w : Nat → Int32) (r : Nat) : Prop := (∀ a, a < 8 → w (r + a) = nI (mk w r a) ∧ mk w r a < 256) ∧ ∀ a, a < 8 → (clo (mk w r) a).testBit a = false
def OpnOk (w : Nat → Int32) : Prop := ∀ s, s < 8 → (w s = nI 0 ∨ w s = nI 1) ∧ (w s = nI 0 → w (8 + s) = nI 0 ∧ w (16 + s) = nI 0 ∧ cM w s = 0)
def QueOk (w : Nat → Int32) (t : Nat) : Prop :=
  (∀ s, s < 8 → ∀ k, k + 1 < cM w s → eM w s k ≤ eM w s (k + 1)) ∧ (∃ come, w 265 = nI come ∧ come ≤ t ∧ ∀ s, s < 8 → ∀ k, k < cM w s → w (32 + 18 * s + 3 * k) = nI (numM w s k) ∧ numM w s k < come) ∧
  (∀ s, s < 8 → ∀ s', s' < 8 → ∀ k, k < cM w s → ∀ k', k' < cM w s' → numM w s k = numM w s' k' → s = s' ∧ k = k') ∧
  (∀ s, s < 8 → ∀ k, k < cM w s → w (32 + 18 * s + 3 * k + 1) = nI (szR w s k) ∧ 1 ≤ szR w s k ∧ szR w s k ≤ 99)
/-- a row that is in order, at most t calls behind the start -/
def Good (w : Nat → Int32) (t : Nat) : Prop := WfC w ∧ OpnOk w ∧ (OrdOk w 176 ∧ ∀ e, e ≤ epM w → OrdOk w (185 + 8 * e)) ∧ QueOk w t
def osM (w : Nat → Int32) : Nat := lp 8 (fun s m => if w s = nI 1 then m ||| 2 ^ s else m) 0
def RelO (I : hm_I) (o : Nat) (w : Nat → Int32) (r : Nat) : Prop := ∀ a, a < 8 → I (o + 1) a = w (r + a) ∧ I (o + 2) a = nI (clo (mk w r) a)
def RelQ (I : hm_I) (q : Nat) (w : Nat → Int32) : Prop :=
  (∀ s, s < 8 → I (q + 4 + 5 * s) 4 = w (24 + s)) ∧ (∀ s, s < 8 → ∀ k, k < cM w s → I ((q + 4 + 5 * s) + 1) k = w (32 + 18 * s + 3 * k) ∧ I ((q + 4 + 5 * s) + 3) k = w (32 + 18 * s + 3 * k + 1) ∧ I ((q + 4 + 5 * s) + 4) k = w (32 + 18 * s + 3 * k + 2))
def RelL (I : hm_I) (q : Nat) (w : Nat → Int32) : Prop :=
  I (q + 78) 4 = w 267 ∧ ∀ k, k < lgM w → I ((q + 78) + 1) k = w (268 + 4 * k) ∧ I ((q + 78) + 2) k = w (268 + 4 * k + 1) ∧ I ((q + 78) + 3) k = w (268 + 4 * k + 2) ∧ I ((q + 78) + 4) k = w (268 + 4 * k + 3)
def RelW (I : hm_I) (q : Nat) (w : Nat → Int32) : Prop :=
  I q 0 = nI (osM w) ∧ ∀ s, s < 8 → w s = nI 1 → I (q + 1) s = w (8 + s) ∧ I (q + 2) s = w (16 + s)
def RelE (I : hm_I) (q : Nat) (w : Nat → Int32) : Prop :=
  RelO I (q + 44) w 176 ∧ (∀ e, e ≤ epM w → RelO I (q + 48 + 3 * e) w (185 + 8 * e)) ∧ I q 6 = nI (epM w + 1)
def Rel (I : hm_I) (q : Nat) (w : Nat → Int32) : Prop := RelW I q w ∧ RelQ I q w ∧ RelE I q w ∧ RelL I q w ∧ I q 7 = w 265 ∧ I q 8 = w 266
theorem osM_spec (w : Nat → Int32) : osM w < 256 ∧ ∀ s, s < 8 → (osM w).testBit s = decide (w s = nI 1) := by
  have key := lp_inv (n := 8) (f := fun s m => if w s = nI 1 then m ||| 2 ^ s else m) (x := 0) (fun i m => m < 256 ∧ ∀ s, s < 8 → m.testBit s = (decide (s < i) && decide (w s = nI 1)))
    ⟨by decide, fun s _ => by rw [Nat.zero_testBit]; simp⟩ ?_
  · refine ⟨key.1, fun s hs => ?_⟩
    have := key.2 s hs
    rw [decide_eq_true hs, Bool.true_and] at this
    exact this
  · intro i z hi hz
    obtain ⟨h1, h2⟩ := hz
    by_cases h : w i = nI 1
    · simp only [if_pos h]
      refine ⟨m_or h1 (pow_256 i hi), fun s hs => ?_⟩
      rw [Nat.testBit_or, h2 s hs, tb_pow i hi s hs]
      by_cases e : i = s
      · subst e; simp [h]
      · have e1 : decide (s < i + 1) = decide (s < i) := decide_eq_decide.mpr ⟨fun _ => by omega, fun _ => by omega⟩
        rw [e1]; simp [e]
    · simp only [if_neg h]
      refine ⟨h1, fun s hs => ?_⟩
      rw [h2 s hs]
      by_cases e : i = s
      · subst e; simp [h]
      · have e1 : decide (s < i + 1) = decide (s < i) := decide_eq_decide.mpr ⟨fun _ => by omega, fun _ => by omega⟩
        rw [e1]
theorem RelO_frame {I I' : hm_I} {o : Nat} {w : Nat → Int32} {r : Nat} (hf : ∀ a k, o ≤ a → a < o + 3 → I' a k = I a k) (h : RelO I o w r) : RelO I' o w r := fun a ha => by
  rw [hf _ _ (by omega) (by omega), hf _ _ (by omega) (by omega)]; exact h a ha
theorem RelQ_frame {I I' : hm_I} {q : Nat} {w : Nat → Int32} (hf : ∀ a k, q + 4 ≤ a → a < q + 44 → I' a k = I a k) (h : RelQ I q w) : RelQ I' q w := by
  refine ⟨fun s hs => ?_, fun s hs k hk => ?_⟩
  · rw [hf _ _ (by omega) (by omega)]; exact h.1 s hs
  · rw [hf _ _ (by omega) (by omega), hf _ _ (by omega) (by omega), hf _ _ (by omega) (by omega)]; exact h.2 s hs k hk
theorem RelL_frame {I I' : hm_I} {q : Nat} {w : Nat → Int32} (hf : ∀ a k, q + 78 ≤ a → a < q + 83 → I' a k = I a k) (h : RelL I q w) : RelL I' q w := by
  refine ⟨?_, fun k hk => ?_⟩
  · rw [hf _ _ (by omega) (by omega)]; exact h.1
  · rw [hf _ _ (by omega) (by omega), hf _ _ (by omega) (by omega), hf _ _ (by omega) (by omega), hf _ _ (by omega) (by omega)]; exact h.2 k hk
theorem RelW_frame {I I' : hm_I} {q : Nat} {w : Nat → Int32} (h0 : I' q 0 = I q 0) (hf : ∀ a k, q + 1 ≤ a → a < q + 3 → I' a k = I a k) (h : RelW I q w) : RelW I' q w := by
  refine ⟨by rw [h0]; exact h.1, fun s hs ho => ?_⟩
  rw [hf _ _ (by omega) (by omega), hf _ _ (by omega) (by omega)]; exact h.2 s hs ho
theorem RelE_frame {I I' : hm_I} {q : Nat} {w : Nat → Int32} (he : epM w ≤ 9) (h0 : I' q 6 = I q 6) (hf : ∀ a k, q + 44 ≤ a → a < q + 78 → I' a k = I a k) (h : RelE I q w) : RelE I' q w := by
  refine ⟨RelO_frame (fun a k h1 h2 => hf a k (by omega) (by omega)) h.1, fun e hee => RelO_frame (fun a k h1 h2 => hf a k (by omega) (by omega)) (h.2.1 e hee), by rw [h0]; exact h.2.2⟩
theorem Rel_frame {I I' : hm_I} {q : Nat} {w : Nat → Int32} (he : epM w ≤ 9) (hf : ∀ a k, q ≤ a → a < q + 83 → I' a k = I a k) (h : Rel I q w) : Rel I' q w := by
  obtain ⟨h1, h2, h3, h4, h5, h6⟩ := h
  refine ⟨RelW_frame (hf _ _ (by omega) (by omega)) (fun a k a1 a2 => hf a k (by omega) (by omega)) h1, RelQ_frame (fun a k a1 a2 => hf a k (by omega) (by omega)) h2, RelE_frame he (hf _ _ (by omega) (by omega)) (fun a k a1 a2 => hf a k (by omega) (by omega)) h3, RelL_frame (fun a k a1 a2 => hf a k (by omega) (by omega)) h4, ?_, ?_⟩
  · rw [hf _ _ (by omega) (by omega)]; exact h5
  · rw [hf _ _ (by omega) (by omega)]; exact h6
/-- numbers that agree with the row's -/
def Agr (w : Nat → Int32) (c : Nat → Nat) (e : Nat → Nat → Nat) : Prop := (∀ s, s < 8 → c s = cM w s) ∧ ∀ s, s < 8 → ∀ k, k < cM w s → e s k = eM w s k
theorem Agr_rf (w : Nat → Int32) : Agr w (cM w) (eM w) := ⟨fun _ _ => rfl, fun _ _ _ _ => rfl⟩
theorem Agr_S {I : hm_I} {q : Nat} {w : Nat → Int32} (h : RelQ I q w) : Agr w (cS I q) (eS I q) := by
  refine ⟨fun s hs => ?_, fun s hs k hk => ?_⟩
  · unfold cS cM; rw [h.1 s hs]
  · unfold eS eM; rw [(h.2 s hs k hk).2.2]
theorem cM_le {w : Nat → Int32} (hG : WfC w) {s : Nat} (hs : s < 8) : cM w s ≤ 6 := (hG.1 s hs).2
theorem wf_of_agr {w : Nat → Int32} {c : Nat → Nat} {e : Nat → Nat → Nat} (hG : WfC w) (hA : Agr w c e) : WfM w c e (epM w) (lgM w) := by
  obtain ⟨h1, h2, h3, h4, h5, h6⟩ := hG
  refine ⟨fun s hs => ?_, fun s hs k hk => ?_, h3, h4, h5, h6⟩
  · rw [hA.1 s hs]; exact h1 s hs
  · rw [hA.1 s hs] at hk
    rw [hA.2 s hs k hk]; exact h2 s hs k hk
theorem wfs_of_rel {I : hm_I} {q : Nat} {w : Nat → Int32} {c : Nat → Nat} {e : Nat → Nat → Nat} (hG : WfC w) (hA : Agr w c e) (hQ : RelQ I q w) (h6 : I q 6 = nI (epM w + 1)) (hL : I (q + 78) 4 = w 267) : WfS I q c e (epM w + 1) (lgM w) := by
  obtain ⟨h1, h2, h3, h4, h5, h7⟩ := hG
  refine ⟨fun s hs => ?_, fun s hs k hk => ?_, h6, by omega, by omega, ?_, h7⟩
  · rw [hA.1 s hs, hQ.1 s hs]; exact h1 s hs
  · rw [hA.1 s hs] at hk
    rw [hA.2 s hs k hk, (hQ.2 s hs k hk).2.2]
    exact ⟨(h2 s hs k hk).1, Nat.lt_succ_of_le (h2 s hs k hk).2⟩
  · rw [hL]; exact h5
theorem wfs_rel {I : hm_I} {q : Nat} {w : Nat → Int32} (hG : WfC w) (h : Rel I q w) : WfS I q (cM w) (eM w) (epM w + 1) (lgM w) := wfs_of_rel hG (Agr_rf w) h.2.1 h.2.2.1.2.2 h.2.2.2.1.1
theorem ecS_rel {I : hm_I} {q : Nat} {w : Nat → Int32} (hG : WfC w) (h : Rel I q w) : ecS I q = epM w + 1 := by
  have := hG.2.2.2.1
  unfold ecS; rw [h.2.2.1.2.2, nI_clamp (by omega)]
theorem lcS_rel {I : hm_I} {q : Nat} {w : Nat → Int32} (h : Rel I q w) : lcS I q = lgM w := by unfold lcS lgM; rw [h.2.2.2.1.1]
theorem wfsc_rel {I : hm_I} {q : Nat} {w : Nat → Int32} (hG : WfC w) (h : Rel I q w) : WfSC I q := by
  unfold WfSC
  rw [ecS_rel hG h, lcS_rel h]
  exact wfs_of_rel hG (Agr_S h.2.1) h.2.1 h.2.2.1.2.2 h.2.2.2.1.1
theorem Good_mono {w : Nat → Int32} {t t' : Nat} (h : Good w t) (ht : t ≤ t') : Good w t' := by
  obtain ⟨h1, h2, h3, h4, ⟨come, h5, h6, h7⟩, h8, h9⟩ := h
  exact ⟨h1, h2, h3, h4, ⟨come, h5, by omega, h7⟩, h8, h9⟩
