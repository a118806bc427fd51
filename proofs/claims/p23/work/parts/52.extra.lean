/-! part 52: what else stays true of a row: numbers grow along a queue, what came is what was sent and what waits, weights are 1 to 9 -/
def Ex (w : Nat → Int32) : Prop :=
  (∀ s, s < 8 → ∀ k, k + 1 < cM w s → numM w s k < numM w s (k + 1)) ∧ w 265 = w 266 + nI (totN w) ∧ ∀ s, s < 8 → w s = nI 1 → ∃ v, 1 ≤ v ∧ v ≤ 9 ∧ w (8 + s) = nI v
def ExS (S : abS) : Prop := Ex S.2.1 ∧ (∀ i, i < S.1 → Ex (S.2.2.1 i)) ∧ ∀ i, i < 2 → S.2.2.2.2 i = true → Ex (S.2.2.2.1 i)
theorem tot_cong {w w' : Nat → Int32} (h : ∀ s, s < 8 → cM w' s = cM w s) : totN w' = totN w := by
  unfold totN
  rw [h 0 (by omega), h 1 (by omega), h 2 (by omega), h 3 (by omega), h 4 (by omega), h 5 (by omega), h 6 (by omega), h 7 (by omega)]
theorem Ex_24 {w w' : Nat → Int32} (h : ∀ k, 24 ≤ k → w' k = w k) (hv : ∀ s, s < 8 → w' s = nI 1 → ∃ v, 1 ≤ v ∧ v ≤ 9 ∧ w' (8 + s) = nI v) (hE : Ex w) : Ex w' := by
  obtain ⟨e1, e2, e3, e4, e5, e6⟩ := WfC_24 h
  refine ⟨?_, ?_, hv⟩
  · rw [e1, e5]; exact hE.1
  · rw [h 265 (by omega), h 266 (by omega), tot_cong (w := w) (w' := w') (fun s _ => by rw [e1])]; exact hE.2.1
theorem Ex_open {w : Nat → Int32} {s v : Nat} (hs : s < 8) (hv : 1 ≤ v ∧ v ≤ 9) (hE : Ex w) : Ex (opW w s (nI 1) (nI v) (nI 0)) := by
  refine Ex_24 (opW_24 hs) (fun i hi h => ?_) hE
  rw [opW_0 hi] at h
  rw [opW_8 hs hi]
  by_cases e : i = s
  · rw [if_pos e]; exact ⟨v, hv.1, hv.2, rfl⟩
  · rw [if_neg e] at h ⊢; exact hE.2.2 i hi h
theorem Ex_close {w : Nat → Int32} {s : Nat} (hs : s < 8) (hE : Ex w) : Ex (opW w s (nI 0) (nI 0) (nI 0)) := by
  refine Ex_24 (opW_24 hs) (fun i hi h => ?_) hE
  rw [opW_0 hi] at h
  rw [opW_8 hs hi]
  by_cases e : i = s
  · rw [if_pos e] at h; exact absurd h (by decide)
  · rw [if_neg e] at h ⊢; exact hE.2.2 i hi h
theorem Ex_setW {w : Nat → Int32} {s v : Nat} (hs : s < 8) (hv : 1 ≤ v ∧ v ≤ 9) (hE : Ex w) : Ex (opW w s (w s) (nI v) (w (16 + s))) := by
  refine Ex_24 (opW_24 hs) (fun i hi h => ?_) hE
  rw [opW_0 hi] at h
  rw [opW_8 hs hi]
  by_cases e : i = s
  · rw [if_pos e]; exact ⟨v, hv.1, hv.2, rfl⟩
  · rw [if_neg e] at h ⊢; exact hE.2.2 i hi h
theorem Ex_o {w w' : Nat → Int32} {t : Nat} (hG : Good w t) (h : ∀ k, (k < 176 ∨ 265 ≤ k) → w' k = w k) (hE : Ex w) : Ex w' := by
  have c1 : ∀ s, s < 8 → cM w' s = cM w s := fun s hs => by unfold cM; rw [h _ (by omega)]
  have c5 : ∀ s k, s < 8 → k < cM w s → numM w' s k = numM w s k := fun s k hs hk => by
    have := cM_le hG.1 hs
    unfold numM; rw [h _ (by omega)]
  refine ⟨fun s hs k hk => ?_, ?_, fun s hs ho => ?_⟩
  · rw [c1 s hs] at hk
    rw [c5 s k hs (by omega), c5 s (k + 1) hs hk]; exact hE.1 s hs k hk
  · rw [h 265 (by omega), h 266 (by omega), tot_cong (w := w) (w' := w') c1]; exact hE.2.1
  · rw [h s (by omega)] at ho
    rw [h (8 + s) (by omega)]; exact hE.2.2 s hs ho
theorem tot_push {w : Nat → Int32} {s : Nat} {z : Int32} (hs : s < 8) (hc : cM w s < 6) : totN (pW w s z) = totN w + 1 := by
  unfold totN
  rw [pW_c hs (s' := 0) (by omega) hc, pW_c hs (s' := 1) (by omega) hc, pW_c hs (s' := 2) (by omega) hc, pW_c hs (s' := 3) (by omega) hc, pW_c hs (s' := 4) (by omega) hc, pW_c hs (s' := 5) (by omega) hc, pW_c hs (s' := 6) (by omega) hc, pW_c hs (s' := 7) (by omega) hc]
  have e : s = 0 ∨ s = 1 ∨ s = 2 ∨ s = 3 ∨ s = 4 ∨ s = 5 ∨ s = 6 ∨ s = 7 := by omega
  rcases e with e | e | e | e | e | e | e | e <;> subst e <;> simp <;> omega
theorem Ex_push {w : Nat → Int32} {t s : Nat} {z : Int32} (ht : t < 1000) (hG : Good w t) (hs : s < 8) (hc : cM w s < 6) (hE : Ex w) : Ex (pW w s z) := by
  have hW := hG.1
  obtain ⟨come, hq2, hq3, hq4⟩ := hG.2.2.2.2.1
  have nm : ∀ s' k, s' < 8 → k < cM (pW w s z) s' → numM (pW w s z) s' k = if s' = s ∧ k = cM w s then come else numM w s' k := fun s' k hs' hk => by
    unfold numM
    rcases pW_cell hW hs hs' hc hk with ⟨a1, a2, a3, a4, a5⟩ | ⟨a1, a2, a3, a4, a5⟩
    · rw [a3, if_pos ⟨a1, a2⟩, hq2, nI_clamp (by omega)]
    · rw [a3, if_neg a1]
  refine ⟨fun s' hs' k hk => ?_, ?_, fun s' hs' ho => ?_⟩
  · rw [nm s' k hs' (by omega), nm s' (k + 1) hs' hk]
    rw [pW_c hs hs' hc] at hk
    by_cases q : s' = s
    · rw [if_pos q] at hk
      subst q
      by_cases q2 : k + 1 = cM w s'
      · rw [if_neg (fun z => by omega), if_pos ⟨rfl, q2⟩]
        exact (hq4 s' hs k (by omega)).2
      · rw [if_neg (fun z => by omega), if_neg (fun z => q2 z.2)]
        exact hE.1 s' hs k (by omega)
    · rw [if_neg q] at hk
      rw [if_neg (fun z => q z.1), if_neg (fun z => q z.1)]
      exact hE.1 s' hs' k hk
  · have h5 : pW w s z 265 = w 265 + nI 1 := if_pos rfl
    rw [h5, tot_push hs hc, pW_no (k := 266) ⟨by omega, by omega, by omega⟩, hE.2.1, Int32.add_assoc, nI_add]
  · rw [pW_no ⟨by omega, by omega, by omega⟩] at ho
    rw [pW_no ⟨by omega, by omega, by omega⟩]; exact hE.2.2 s' hs' ho
theorem Ex_snd {w : Nat → Int32} {t s : Nat} (hG : Good w t) (hs : s < 8) (hc : 0 < cM w s) (hE : Ex w) : Ex (sndW w s) := by
  have h6 := cM_le hG.1 hs
  refine ⟨fun s' hs' k hk => ?_, ?_, fun s' hs' ho => ?_⟩
  · rw [numM_snd hG.1 hs hs' (show k < cM (sndW w s) s' by omega), numM_snd hG.1 hs hs' hk]
    have h1 := (snd_cell hG.1 hs hs' hk).1
    unfold kx at h1 ⊢
    by_cases e : s' = s
    · rw [if_pos e] at h1
      rw [if_pos e, if_pos e]; exact hE.1 s' hs' (k + 1) h1
    · rw [if_neg e] at h1
      rw [if_neg e, if_neg e]; exact hE.1 s' hs' k h1
  · have ht := tot_snd hG.1 hs hc
    rw [snd_mid hs h6 (show 176 ≤ 265 by omega) (by omega), snd_266 hs h6, hE.2.1, ← ht, Int32.add_assoc, nI_add, Nat.add_comm 1]
  · rw [snd_low (by omega)] at ho
    rw [snd_low (by omega)]; exact hE.2.2 s' hs' ho
theorem Ex_stp {w : Nat → Int32} {t : Nat} (hG : Good w t) (h : 0 < totN w) (hE : Ex w) : Ex (stp w) := by
  obtain ⟨h1, h2, -, -⟩ := stp_ok hG h
  exact Ex_snd hG h1 h2 hE
theorem Ex_some {w : Nat → Int32} {bd t m : Nat} (hS : someOk w 0 bd t m) (hE : Ex w) : Ex (itC w 0 m).1 := by
  obtain ⟨g1, g2, -⟩ := hS
  have key : ∀ i, i ≤ m → Ex (itC w 0 i).1 := by
    intro i
    induction i with
    | zero => intro _; exact hE
    | succ i ih =>
      intro hi
      rw [itC_s]
      exact Ex_stp (g1 i (by omega)).1 (g2 i (by omega)).1 (ih (by omega))
  exact key m (Nat.le_refl m)
theorem ExS_chg {S : abS} {w' : Nat → Int32} (hn : S.1 ≤ 8) (h : ExS S) (hw : Ex w') : ExS (chgS S w') := by
  obtain ⟨h1, h2, h3⟩ := h
  obtain ⟨k1, k2, k3, k4⟩ := recK_n hn
  refine ⟨hw, fun i hi => ?_, h3⟩
  show Ex (pushP S.2.2.1 S.1 S.2.1 i)
  have hi' : i < recK S.1 + 1 := hi
  by_cases e : i = recK S.1
  · rw [e, push_at]; exact h1
  · rw [push_lt e]
    by_cases q : S.1 < 8
    · rw [if_pos q]; exact h2 i (by omega)
    · have := k4 q
      rw [if_neg q]; exact h2 (i + 1) (by omega)
theorem ExS_nx {S : abS} {r : Option (Nat → Int32)} (hn : S.1 ≤ 8) (h : ExS S) (hw : ∀ w', r = some w' → Ex w') : ExS (nxS S r) := by
  cases r with
  | none => exact h
  | some w' => exact ExS_chg hn h (hw w' rfl)
