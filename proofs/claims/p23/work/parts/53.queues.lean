/-! part 53: queues, candidates, what is foretold -/
theorem tot_lp (w : Nat → Int32) : lp 8 (fun i n => n + cM w i) 0 = totN w := by
  show 0 + cM w 0 + cM w 1 + cM w 2 + cM w 3 + cM w 4 + cM w 5 + cM w 6 + cM w 7 = _
  unfold totN
  omega
theorem nxt_cand {w : Nat → Int32} {t : Nat} (hG : Good w t) (h : 0 < totN w) : nxtN w < 8 ∧ candR w (nxtN w) = true := by
  rcases nxt_spec w with ⟨h1, h2⟩ | h1
  · obtain ⟨s, hs, hc⟩ := cand_ex hG (tot_ex h)
    rw [h2 s hs] at hc
    exact absurd hc (by decide)
  · exact h1
theorem cnd_le (w : Nat → Int32) : cndN w ≤ 8 := by
  unfold cndN
  refine lp_inv (n := 8) (fun i x => x ≤ i) (Nat.le_refl 0) (fun i x hi hx => ?_)
  by_cases q : candR w i = true
  · rw [if_pos q]; omega
  · rw [if_neg q]; omega
theorem cnd_pos {w : Nat → Int32} {s : Nat} (hs : s < 8) (hc : candR w s = true) : 0 < cndN w := by
  unfold cndN
  refine (lp_inv (n := 8) (f := fun s n => if candR w s = true then n + 1 else n) (x := 0) (fun i x => s < i → 0 < x) (fun h => absurd h (Nat.not_lt_zero s)) (fun i x hi hx => ?_)) hs
  intro h
  by_cases q : candR w i = true
  · rw [if_pos q]; omega
  · rw [if_neg q]
    refine hx ?_
    have : s ≠ i := fun z => q (z ▸ hc)
    omega
theorem cnd_0 {w : Nat → Int32} (h : totN w = 0) : cndN w = 0 := by
  unfold cndN
  refine lp_inv (n := 8) (fun i x => x = 0) rfl (fun i x hi hx => ?_)
  have hc : candR w i = false := by
    unfold candR
    rw [tot_0 h i hi]; rfl
  rw [hc, if_neg (by decide)]; exact hx
/-- where it is after i sendings, and how many of a stream's were among them -/
def occ (s : Nat) (w : Nat → Int32) (i : Nat) : Nat := lp i (fun j n => if nxtN (itB s w 0 j).1 = s then n + 1 else n) 0
theorem itB_1 (s : Nat) (w : Nat → Int32) (a b i : Nat) : (itB s w a i).1 = (itB s w b i).1 := by
  induction i with
  | zero => rfl
  | succ i ih => rw [itB_s, itB_s]; exact congrArg stp ih
theorem occ_mono (s : Nat) (w : Nat → Int32) {i j : Nat} (h : i ≤ j) : occ s w i ≤ occ s w j := by
  induction j with
  | zero => have e : i = 0 := by omega
            rw [e]; exact Nat.le_refl _
  | succ j ih =>
    by_cases e : i = j + 1
    · rw [e]; exact Nat.le_refl _
    · refine Nat.le_trans (ih (by omega)) ?_
      unfold occ
      rw [lp_s]
      by_cases q : nxtN (itB s w 0 j).1 = s
      · rw [if_pos q]; omega
      · rw [if_neg q]; exact Nat.le_refl _
theorem bef_occ {s t a m : Nat} {w : Nat → Int32} (h : befOk s w a t m) : occ s w m = a ∧ occ s w (m + 1) = a + 1 := by
  obtain ⟨-, g2, g3, g4⟩ := h
  have key : ∀ i, i ≤ m → occ s w i + (itB s w a i).2 = a := by
    intro i
    induction i with
    | zero => intro _; exact Nat.zero_add a
    | succ i ih =>
      intro hi
      have ih := ih (by omega)
      have h2 := g2 i (by omega)
      have e : occ s w (i + 1) = if nxtN (itB s w 0 i).1 = s then occ s w i + 1 else occ s w i := rfl
      rw [e, itB_s, itB_1 s w 0 a i]
      by_cases q : nxtN (itB s w a i).1 = s
      · rw [if_pos q, if_pos q]
        have : (itB s w a i).2 ≠ 0 := fun z => h2 ⟨q, z⟩
        show occ s w i + 1 + ((itB s w a i).2 - 1) = a
        omega
      · rw [if_neg q, if_neg q]; exact ih
  have h1 := key m (Nat.le_refl m)
  rw [g4, Nat.add_zero] at h1
  refine ⟨h1, ?_⟩
  have e : occ s w (m + 1) = if nxtN (itB s w 0 m).1 = s then occ s w m + 1 else occ s w m := rfl
  rw [e, itB_1 s w 0 a m, if_pos g3, h1]
theorem bef_mono {s t a m m' : Nat} {w : Nat → Int32} (h : befOk s w a t m) (h' : befOk s w (a + 1) t m') : m < m' := by
  have h1 := (bef_occ h).1
  have h2 := (bef_occ h').1
  rcases Nat.lt_or_ge m m' with q | q
  · exact q
  · have := occ_mono s w q
    omega
theorem bf_mono {s t a : Nat} {w : Nat → Int32} (hs : s < 8) (hG : Good w t) (ha : a + 1 < cM w s) : bfN s w a t < bfN s w (a + 1) t :=
  bef_mono (bfN_ok hs hG (show a < cM w s by omega)).2 (bfN_ok hs hG ha).2
theorem bf_48 {s t a : Nat} {w : Nat → Int32} (hs : s < 8) (hG : Good w t) (ha : a < cM w s) : bfN s w a t < 48 := by
  have := (bfN_ok hs hG ha).1
  have := tot_le hG.1
  omega
theorem bf_next {t : Nat} {w : Nat → Int32} (hG : Good w t) (h : 0 < totN w) : bfN (nxtN w) w 0 t = 0 := by
  obtain ⟨h1, h2, -, -⟩ := stp_ok hG h
  obtain ⟨-, -, g2, -, -⟩ := bfN_ok h1 hG h2
  rcases Nat.eq_zero_or_pos (bfN (nxtN w) w 0 t) with q | q
  · exact q
  · exact absurd ⟨rfl, rfl⟩ (g2 0 q)
/-! the next one comes by weights -/
theorem mul_exact (x y : Int32) : (x.toInt64 * y.toInt64).toInt = x.toInt * y.toInt := by
  rw [Int64.toInt_mul, Int32.toInt_toInt64, Int32.toInt_toInt64]
  have h1 := Int32.le_toInt x
  have h2 := Int32.toInt_lt x
  have h3 := Int32.le_toInt y
  have h4 := Int32.toInt_lt y
  have h5 : x.toInt.natAbs ≤ 2147483648 := by omega
  have h6 : y.toInt.natAbs ≤ 2147483648 := by omega
  have h7 : (x.toInt * y.toInt).natAbs ≤ 2147483648 * 2147483648 := by
    rw [Int.natAbs_mul]; exact Nat.mul_le_mul h5 h6
  exact Int.bmod_eq_of_le (by omega) (by omega)
def amI (w : Nat → Int32) (s : Nat) : Int := (w (16 + s)).toInt
def weI (w : Nat → Int32) (s : Nat) : Int := (w (8 + s)).toInt
theorem less_iff {w : Nat → Int32} (s t : Nat) : lessR w s t = true ↔ amI w s * weI w t < amI w t * weI w s := by
  unfold lessR amI weI
  rw [Bool.not_eq_true', decide_eq_false_iff_not, lg_cmp_ge, Int64.le_iff_toInt_le, mul_exact, mul_exact]
  omega
theorem we_pos {w : Nat → Int32} {t s : Nat} (hG : Good w t) (hE : Ex w) (hs : s < 8) (hc : candR w s = true) : 0 < weI w s := by
  have ho := opn_c hG.2.1 hs (cand_c hc).1
  obtain ⟨v, h1, h2, h3⟩ := hE.2.2 s hs ho
  unfold weI
  rw [h3, nI_toInt (by omega)]
  omega
theorem frac_lt {a b c u v z : Int} (hu : 0 < u) (hv : 0 < v) (hz : 0 < z) (h1 : b * v ≤ c * u) (h2 : a * u < b * z) : a * v < c * z := by
  have e1 : a * u * v < b * z * v := Int.mul_lt_mul_of_pos_right h2 hv
  have e2 : b * v * z ≤ c * u * z := Int.mul_le_mul_of_nonneg_right h1 (Int.le_of_lt hz)
  have e3 : b * z * v = b * v * z := by rw [Int.mul_assoc, Int.mul_comm z v, ← Int.mul_assoc]
  have e4 : a * u * v = a * v * u := by rw [Int.mul_assoc, Int.mul_comm u v, ← Int.mul_assoc]
  have e5 : c * u * z = c * z * u := by rw [Int.mul_assoc, Int.mul_comm u z, ← Int.mul_assoc]
  have e6 : a * v * u < c * z * u := by rw [← e4, ← e5]; omega
  exact Int.lt_of_mul_lt_mul_right e6 (Int.le_of_lt hu)
/-- the next stream: none is less served, and none before it is served alike -/
theorem nxt_least {w : Nat → Int32} {t : Nat} (hG : Good w t) (hE : Ex w) : nxtN w = 9 ∨ ((∀ s, s < 8 → candR w s = true → amI w (nxtN w) * weI w s ≤ amI w s * weI w (nxtN w)) ∧ ∀ s, s < nxtN w → s < 8 → candR w s = true → amI w (nxtN w) * weI w s < amI w s * weI w (nxtN w)) := by
  have key := lp_inv (n := 8) (f := fun s b => if candR w s = true then (if b = 9 then s else if lessR w s b = true then s else b) else b) (x := 9)
    (fun i b => (b = 9 ∧ ∀ s, s < i → candR w s = false) ∨ (b < i ∧ b < 8 ∧ candR w b = true ∧ (∀ s, s < i → s < 8 → candR w s = true → amI w b * weI w s ≤ amI w s * weI w b) ∧ ∀ s, s < b → s < 8 → candR w s = true → amI w b * weI w s < amI w s * weI w b))
    (Or.inl ⟨rfl, fun s hs => absurd hs (Nat.not_lt_zero s)⟩) (fun i b hi hb => ?_)
  · rcases key with ⟨h1, -⟩ | ⟨-, -, -, h4, h5⟩
    · exact Or.inl h1
    · exact Or.inr ⟨fun s hs hc => h4 s hs hs hc, h5⟩
  · by_cases q : candR w i = true
    · rw [if_pos q]
      rcases hb with ⟨h1, h2⟩ | ⟨h1, h2, h3, h4, h5⟩
      · rw [if_pos h1]
        refine Or.inr ⟨by omega, hi, q, fun s hs hs8 hc => ?_, fun s hs hs8 hc => ?_⟩
        · by_cases e : s = i
          · rw [e]; exact Int.le_refl _
          · rw [h2 s (by omega)] at hc; exact absurd hc (by decide)
        · rw [h2 s hs] at hc; exact absurd hc (by decide)
      · rw [if_neg (show ¬ b = 9 by omega)]
        have pb := we_pos hG hE h2 h3
        have pi := we_pos hG hE hi q
        by_cases q2 : lessR w i b = true
        · rw [if_pos q2]
          have hl := (less_iff i b).mp q2
          have lt : ∀ s, s < i → s < 8 → candR w s = true → amI w i * weI w s < amI w s * weI w i := fun s hs hs8 hc => frac_lt pb (we_pos hG hE hs8 hc) pi (h4 s hs hs8 hc) hl
          refine Or.inr ⟨by omega, hi, q, fun s hs hs8 hc => ?_, lt⟩
          by_cases e : s = i
          · rw [e]; exact Int.le_refl _
          · exact Int.le_of_lt (lt s (by omega) hs8 hc)
        · rw [if_neg q2]
          refine Or.inr ⟨by omega, h2, h3, fun s hs hs8 hc => ?_, h5⟩
          by_cases e : s = i
          · rw [e]
            have h7 : ¬ (amI w i * weI w b < amI w b * weI w i) := fun z => q2 ((less_iff i b).mpr z)
            omega
          · exact h4 s (by omega) hs8 hc
    · rw [if_neg q]
      rcases hb with ⟨h1, h2⟩ | ⟨h1, h2, h3, h4, h5⟩
      · refine Or.inl ⟨h1, fun s hs => ?_⟩
        by_cases e : s = i
        · rw [e]; exact nf q
        · exact h2 s (by omega)
      · refine Or.inr ⟨by omega, h2, h3, fun s hs hs8 hc => ?_, h5⟩
        by_cases e : s = i
        · rw [e] at hc; exact absurd hc q
        · exact h4 s (by omega) hs8 hc
