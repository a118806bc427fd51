/-! part 35: a frame is sent: of a row, of the class, of the reference -/
def lg1 (w : Nat → Int32) : Nat := if lgM w = 40 then 39 else lgM w
def sndW (w : Nat → Int32) (s : Nat) : Nat → Int32 := fun k =>
  if 32 + 18 * s ≤ k ∧ k < 32 + 18 * s + 3 * (cM w s - 1) then w (k + 3)
  else if k = 24 + s then nI (cM w s - 1) else if k = 16 + s then w (16 + s) + w (32 + 18 * s + 1) else if k = 266 then w 266 + nI 1 else if k = 267 then nI (lg1 w + 1)
  else if k = 268 + 4 * lg1 w + 3 then w (32 + 18 * s + 2) else if k = 268 + 4 * lg1 w + 2 then w (32 + 18 * s + 1) else if k = 268 + 4 * lg1 w + 1 then nI s else if k = 268 + 4 * lg1 w then w (32 + 18 * s)
  else if lgM w = 40 ∧ 268 ≤ k ∧ k < 424 then w (k + 4) else w k
/-! what the new row says -/
theorem snd_low {w : Nat → Int32} {s k : Nat} (hk : k < 16) : sndW w s k = w k := by
  unfold sndW
  rw [if_neg (by omega), if_neg (by omega), if_neg (by omega), if_neg (by omega), if_neg (by omega), if_neg (by omega), if_neg (by omega), if_neg (by omega), if_neg (by omega), if_neg (by omega)]
theorem snd_mid {w : Nat → Int32} {s k : Nat} (hs : s < 8) (hc : cM w s ≤ 6) (hk : 176 ≤ k) (hk2 : k < 266) : sndW w s k = w k := by
  unfold sndW
  rw [if_neg (by omega), if_neg (by omega), if_neg (by omega), if_neg (by omega), if_neg (by omega), if_neg (by omega), if_neg (by omega), if_neg (by omega), if_neg (by omega), if_neg (by omega)]
theorem snd_16 {w : Nat → Int32} {s s' : Nat} (hs' : s' < 8) : sndW w s (16 + s') = if s' = s then w (16 + s) + w (32 + 18 * s + 1) else w (16 + s') := by
  unfold sndW
  by_cases h : s' = s
  · rw [if_neg (by omega), if_neg (by omega), if_pos (by omega), if_pos h]
  · rw [if_neg (by omega), if_neg (by omega), if_neg (by omega), if_neg (by omega), if_neg (by omega), if_neg (by omega), if_neg (by omega), if_neg (by omega), if_neg (by omega), if_neg (by omega), if_neg h]
theorem snd_24 {w : Nat → Int32} {s s' : Nat} (hs : s < 8) (hs' : s' < 8) : sndW w s (24 + s') = if s' = s then nI (cM w s - 1) else w (24 + s') := by
  unfold sndW
  by_cases h : s' = s
  · rw [if_neg (by omega), if_pos (by omega), if_pos h]
  · rw [if_neg (by omega), if_neg (by omega), if_neg (by omega), if_neg (by omega), if_neg (by omega), if_neg (by omega), if_neg (by omega), if_neg (by omega), if_neg (by omega), if_neg (by omega), if_neg h]
theorem snd_self {w : Nat → Int32} {s k j : Nat} (hj : j < 3) (hk : k + 1 < cM w s) : sndW w s (32 + 18 * s + 3 * k + j) = w (32 + 18 * s + 3 * (k + 1) + j) := by
  unfold sndW
  rw [if_pos (by omega)]
  exact congrArg w (by omega)
theorem snd_ne {w : Nat → Int32} {s s' k j : Nat} (hs : s < 8) (hs' : s' < 8) (hc : cM w s ≤ 6) (hne : s' ≠ s) (hj : j < 3) (hk : k < 6) : sndW w s (32 + 18 * s' + 3 * k + j) = w (32 + 18 * s' + 3 * k + j) := by
  unfold sndW
  rw [if_neg (by omega), if_neg (by omega), if_neg (by omega), if_neg (by omega), if_neg (by omega), if_neg (by omega), if_neg (by omega), if_neg (by omega), if_neg (by omega), if_neg (by omega)]
theorem snd_266 {w : Nat → Int32} {s : Nat} (hs : s < 8) (hc : cM w s ≤ 6) : sndW w s 266 = w 266 + nI 1 := by
  unfold sndW
  rw [if_neg (by omega), if_neg (by omega), if_neg (by omega), if_pos rfl]
theorem snd_267 {w : Nat → Int32} {s : Nat} (hs : s < 8) (hc : cM w s ≤ 6) : sndW w s 267 = nI (lg1 w + 1) := by
  unfold sndW
  rw [if_neg (by omega), if_neg (by omega), if_neg (by omega), if_neg (by omega), if_pos rfl]
/-- the log's rows -/
theorem snd_log {w : Nat → Int32} {s : Nat} (hs : s < 8) (hc : cM w s ≤ 6) (hl : lgM w ≤ 40) {k : Nat} (hk : k < lg1 w + 1) {j : Nat} (hj : j < 4) :
    sndW w s (268 + 4 * k + j) = if k = lg1 w then (if j = 0 then w (32 + 18 * s) else if j = 1 then nI s else if j = 2 then w (32 + 18 * s + 1) else w (32 + 18 * s + 2)) else if lgM w = 40 then w (268 + 4 * (k + 1) + j) else w (268 + 4 * k + j) := by
  have h39 : lg1 w ≤ 39 := by
    unfold lg1
    by_cases h : lgM w = 40
    · rw [if_pos h]; exact Nat.le_refl _
    · rw [if_neg h]; omega
  unfold sndW
  rw [if_neg (by omega), if_neg (by omega), if_neg (by omega), if_neg (by omega), if_neg (by omega)]
  by_cases hk2 : k = lg1 w
  · rw [if_pos hk2]
    have h3 : j = 0 ∨ j = 1 ∨ j = 2 ∨ j = 3 := by omega
    rcases h3 with h3 | h3 | h3 | h3
    · rw [if_neg (by omega), if_neg (by omega), if_neg (by omega), if_pos (by omega), if_pos h3]
    · rw [if_neg (by omega), if_neg (by omega), if_pos (by omega), if_neg (by omega), if_pos h3]
    · rw [if_neg (by omega), if_pos (by omega), if_neg (by omega), if_neg (by omega), if_pos h3]
    · rw [if_pos (by omega), if_neg (by omega), if_neg (by omega), if_neg (by omega)]
  · rw [if_neg hk2, if_neg (by omega), if_neg (by omega), if_neg (by omega), if_neg (by omega)]
    by_cases h : lgM w = 40
    · rw [if_pos h, if_pos ⟨h, by omega, by omega⟩]
      exact congrArg w (by omega)
    · rw [if_neg h, if_neg (fun q => h q.1)]
