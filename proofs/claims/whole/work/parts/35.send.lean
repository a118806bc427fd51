/-! part 35: a frame is sent: of a row, of the class, of the reference -/
def lg1 (w : Nat → Int32) : Nat := if lgM w = 40 then 39 else lgM w
def sndW (w : Nat → Int32) (s : Nat) : Nat → Int32 := fun k =>
  if 32 + 18 * s ≤ k ∧ k < 32 + 18 * s + 3 * (cM w s - 1) then w (k + 3)
  else if k = 24 + s then nI (cM w s - 1) else if k = 16 + s then w (16 + s) + w (32 + 18 * s + 1) else if k = 266 then w 266 + nI 1 else if k = 267 then nI (lg1 w + 1)
  else if k = 268 + 4 * lg1 w + 3 then w (32 + 18 * s + 2) else if k = 268 + 4 * lg1 w + 2 then w (32 + 18 * s + 1) else if k = 268 + 4 * lg1 w + 1 then nI s else if k = 268 + 4 * lg1 w then w (32 + 18 * s)
  else if lgM w = 40 ∧ 268 ≤ k ∧ k < 424 then w (k + 4) else w k
theorem lp_shift (a o d n : Nat) (hd : 0 < d) (I : hm_I) :
    (∀ z k, z ≠ a → lp n (fun i x => hm_put x a (o + i) (x a (o + i + d))) I z k = I z k) ∧ ∀ k, lp n (fun i x => hm_put x a (o + i) (x a (o + i + d))) I a k = if o ≤ k ∧ k < o + n then I a (k + d) else I a k := by
  refine lp_inv (fun i (x : hm_I) => (∀ z k, z ≠ a → x z k = I z k) ∧ ∀ k, x a k = if o ≤ k ∧ k < o + i then I a (k + d) else I a k) ⟨fun _ _ _ => rfl, fun k => by rw [if_neg (by omega)]⟩ ?_
  intro i x hi hx
  refine ⟨fun z k hz => by rw [hp_n (Or.inl hz)]; exact hx.1 z k hz, fun k => ?_⟩
  by_cases e : k = o + i
  · subst e
    rw [hm_put_at, hx.2, if_neg (by omega), if_pos (by omega)]
  · rw [hp_n (Or.inr e), hx.2]
    by_cases h : o ≤ k ∧ k < o + i
    · rw [if_pos h, if_pos (by omega)]
    · rw [if_neg h, if_neg (by omega)]
/-! the reference -/
def snA (Z : hm_I) (b g s : Nat) (v : Int32) : hm_I := hm_put (hm_put Z (b + 1) (268 + 4 * g) v) (b + 1) (268 + 4 * g + 1) (nI s)
def snB (Z : hm_I) (b g s : Nat) (v : Int32) : hm_I := hm_put (snA Z b g s v) (b + 1) (268 + 4 * g + 2) (snA Z b g s v (b + 1) (32 + 18 * s + 3 * 0 + 1))
def snC (Z : hm_I) (b g s : Nat) (v : Int32) : hm_I := hm_put (snB Z b g s v) (b + 1) (268 + 4 * g + 3) (snB Z b g s v (b + 1) (32 + 18 * s + 3 * 0 + 2))
def snD (Z A : hm_I) (b g s : Nat) (v : Int32) : hm_I := hm_put (hm_put (snC Z b g s v) (b + 1) 267 (nI (g + 1))) (b + 1) 266 (A (b + 1) 266 + nI 1)
def snE (Z A : hm_I) (b g s c : Nat) (v : Int32) : hm_I := hm_put (hm_put (snD Z A b g s v) (b + 1) (16 + s) (A (b + 1) (16 + s) + snD Z A b g s v (b + 1) (32 + 18 * s + 3 * 0 + 1))) (b + 1) (24 + s) (nI (c - 1))
def snF (Z A : hm_I) (b g s c : Nat) (v : Int32) : hm_I := lp (3 * (c - 1)) (fun i x => hm_put x (b + 1) (32 + 18 * s + i) (x (b + 1) (32 + 18 * s + i + 3))) (snE Z A b g s c v)
def snS (X : hm_I) (b : Nat) : hm_I := lp 156 (fun i x => hm_put x (b + 1) (268 + i) (x (b + 1) (268 + i + 4))) X
theorem sn_eq (I : hm_I) (b : Nat) (c : Nat → Nat) (e : Nat → Nat → Nat) (lg s : Nat) : fX4_sendNext_t I b c e lg s =
    if lg = 40 then ((fX4_nextStream I b c e).2 (b + 1) (32 + 18 * s + 3 * 0 + 0), snF (hm_put (snS (fX4_nextStream I b c e).2 b) (b + 1) 267 (nI (lg - 1))) (snS (fX4_nextStream I b c e).2 b) b (lg - 1) s (c s) ((fX4_nextStream I b c e).2 (b + 1) (32 + 18 * s + 3 * 0 + 0)))
    else ((fX4_nextStream I b c e).2 (b + 1) (32 + 18 * s + 3 * 0 + 0), snF (fX4_nextStream I b c e).2 (fX4_nextStream I b c e).2 b lg s (c s) ((fX4_nextStream I b c e).2 (b + 1) (32 + 18 * s + 3 * 0 + 0))) := rfl
theorem snF_frame {Z A : hm_I} {b g s c : Nat} {v : Int32} {z k : Nat} (hz : z ≠ b + 1) : snF Z A b g s c v z k = Z z k := by
  unfold snF
  rw [(lp_shift (b + 1) (32 + 18 * s) 3 _ (by decide) _).1 z k hz]
  unfold snE snD snC snB snA
  simp only [hp_n (Or.inl hz)]
theorem snF_row {Z A : hm_I} {b g s : Nat} {v : Int32} {w : Nat → Int32} (hs : s < 8) (hc : cM w s ≤ 6) (hg : g = lg1 w) (hg9 : g ≤ 39) (hv : v = w (32 + 18 * s)) (hA1 : A (b + 1) 266 = w 266) (hA2 : A (b + 1) (16 + s) = w (16 + s))
    (hZ : ∀ k, k < 428 → k ≠ 267 → Z (b + 1) k = if lgM w = 40 ∧ 268 ≤ k ∧ k < 424 then w (k + 4) else w k) : ∀ k, k < 428 → snF Z A b g s (cM w s) v (b + 1) k = sndW w s k := by
  have Zl : ∀ k, k < 266 → Z (b + 1) k = w k := fun k hk => by rw [hZ k (by omega) (by omega), if_neg (by omega)]
  have rA : ∀ j, j < 266 → snA Z b g s v (b + 1) j = w j := fun j hj => by
    unfold snA; rw [hp_n (Or.inr (by omega)), hp_n (Or.inr (by omega))]; exact Zl j hj
  have rB : ∀ j, j < 266 → snB Z b g s v (b + 1) j = w j := fun j hj => by
    unfold snB; rw [hp_n (Or.inr (by omega))]; exact rA j hj
  have rC : ∀ j, j < 266 → snC Z b g s v (b + 1) j = w j := fun j hj => by
    unfold snC; rw [hp_n (Or.inr (by omega))]; exact rB j hj
  have rD : ∀ j, j < 266 → snD Z A b g s v (b + 1) j = w j := fun j hj => by
    unfold snD; rw [hp_n (Or.inr (by omega)), hp_n (Or.inr (by omega))]; exact rC j hj
  have E : ∀ j, snE Z A b g s (cM w s) v (b + 1) j = if j = 24 + s then nI (cM w s - 1) else if j = 16 + s then w (16 + s) + w (32 + 18 * s + 1) else if j = 266 then w 266 + nI 1 else if j = 267 then nI (g + 1)
      else if j = 268 + 4 * g + 3 then w (32 + 18 * s + 2) else if j = 268 + 4 * g + 2 then w (32 + 18 * s + 1) else if j = 268 + 4 * g + 1 then nI s else if j = 268 + 4 * g then w (32 + 18 * s) else Z (b + 1) j := by
    intro j
    unfold snE
    rw [rD _ (by omega), hA2, hp, hp]
    unfold snD
    rw [hp, hp, hA1]
    unfold snC
    rw [rB _ (by omega), hp]
    unfold snB
    rw [rA _ (by omega), hp]
    unfold snA
    rw [hp, hp, hv]
    simp only [true_and]
  intro k hk
  unfold snF
  rw [(lp_shift (b + 1) (32 + 18 * s) 3 _ (by decide) _).2 k]
  unfold sndW
  by_cases h0 : 32 + 18 * s ≤ k ∧ k < 32 + 18 * s + 3 * (cM w s - 1)
  · rw [if_pos h0, if_pos h0, E, if_neg (by omega), if_neg (by omega), if_neg (by omega), if_neg (by omega), if_neg (by omega), if_neg (by omega), if_neg (by omega), if_neg (by omega), Zl _ (by omega)]
  · rw [if_neg h0, if_neg h0, E, ← hg]
    by_cases h1 : k = 24 + s
    · rw [if_pos h1, if_pos h1]
    rw [if_neg h1, if_neg h1]
    by_cases h2 : k = 16 + s
    · rw [if_pos h2, if_pos h2]
    rw [if_neg h2, if_neg h2]
    by_cases h3 : k = 266
    · rw [if_pos h3, if_pos h3]
    rw [if_neg h3, if_neg h3]
    by_cases h4 : k = 267
    · rw [if_pos h4, if_pos h4]
    rw [if_neg h4, if_neg h4, hZ k hk h4]
theorem send_M {I : hm_I} {b t : Nat} {w : Nat → Int32} {c : Nat → Nat} {e : Nat → Nat → Nat} (hG : Good w t) (hA : Agr w c e) (hR : RowIs I b w) {s : Nat} (hs : s < 8) :
    (fX4_sendNext_t I b c e (lgM w) s).1 = w (32 + 18 * s) ∧ (∀ z k, z ≠ b + 1 → z ≠ b + 4 → (fX4_sendNext_t I b c e (lgM w) s).2 z k = I z k) ∧ RowIs (fX4_sendNext_t I b c e (lgM w) s).2 b (sndW w s) := by
  have hN := next_M hG hA hR
  have hX := row_same hR hN.2
  have hlg : lgM w ≤ 40 := hG.1.2.2.2.2.2
  rw [sn_eq, hA.1 s hs]
  by_cases h : lgM w = 40
  · rw [if_pos h]
    have hsh := lp_shift (b + 1) 268 4 156 (by decide) (fX4_nextStream I b c e).2
    refine ⟨hX _ (by omega), fun z k h1 h2 => ?_, fun k hk => ?_⟩
    · show snF _ _ _ _ _ _ _ z k = _
      rw [snF_frame h1, hp_n (Or.inl h1)]
      unfold snS
      rw [hsh.1 z k h1, hN.2 z k h2]
    · refine snF_row hs (cM_le hG.1 hs) (by unfold lg1; rw [if_pos h]; omega) (by omega) (hX _ (by omega)) ?_ ?_ ?_ k hk
      · unfold snS; rw [hsh.2, if_neg (by omega)]; exact hX _ (by omega)
      · unfold snS; rw [hsh.2, if_neg (by omega)]; exact hX _ (by omega)
      · intro k hk hk7
        rw [hp_n (Or.inr hk7)]
        unfold snS
        rw [hsh.2]
        by_cases h' : 268 ≤ k ∧ k < 268 + 156
        · rw [if_pos h', if_pos ⟨h, h'.1, by omega⟩]; exact hX _ (by omega)
        · rw [if_neg h', if_neg (by omega)]; exact hX _ hk
  · rw [if_neg h]
    refine ⟨hX _ (by omega), fun z k h1 h2 => ?_, fun k hk => ?_⟩
    · show snF _ _ _ _ _ _ _ z k = _
      rw [snF_frame h1, hN.2 z k h2]
    · refine snF_row hs (cM_le hG.1 hs) (by unfold lg1; rw [if_neg h]) (by omega) (hX _ (by omega)) (hX _ (by omega)) (hX _ (by omega)) ?_ k hk
      intro k hk hk7
      rw [if_neg (fun q => h q.1)]; exact hX _ hk
/-! what the new row says -/
theorem snd_low {w : Nat → Int32} {s k : Nat} (hk : k < 16) : sndW w s k = w k := by
  unfold sndW
  rw [if_neg (by omega), if_neg (by omega), if_neg (by omega), if_neg (by omega), if_neg (by omega), if_neg (by omega), if_neg (by omega), if_neg (by omega), if_neg (by omega), if_neg (by omega)]
theorem snd_mid {w : Nat → Int32} {s k : Nat} (hs : s < 8) (hc : cM w s ≤ 6) (hk : 176 ≤ k) (hk2 : k < 266) : sndW w s k = w k := by
  unfold sndW
  rw [if_neg (by omega), if_neg (by omega), if_neg (by omega), if_neg (by omega), if_neg (by omega), if_neg (by omega), if_neg (by omega), if_neg (by omega), if_neg (by omega), if_neg (by omega)]
theorem snd_16 {w : Nat → Int32} {s s' : Nat} (hs' : s' < 8) : sndW w s (16 + s') = if s' = s then w (16 + s) + w (32 + 18 * s + 1) else w (16 + s') := by
  unfold sndW
  by_cases h : s' = s
  · rw [if_neg (by omega), if_neg (by omega), if_pos (by omega), if_pos h]
  · rw [if_neg (by omega), if_neg (by omega), if_neg (by omega), if_neg (by omega), if_neg (by omega), if_neg (by omega), if_neg (by omega), if_neg (by omega), if_neg (by omega), if_neg (by omega), if_neg h]
theorem snd_24 {w : Nat → Int32} {s s' : Nat} (hs : s < 8) (hs' : s' < 8) : sndW w s (24 + s') = if s' = s then nI (cM w s - 1) else w (24 + s') := by
  unfold sndW
  by_cases h : s' = s
  · rw [if_neg (by omega), if_pos (by omega), if_pos h]
  · rw [if_neg (by omega), if_neg (by omega), if_neg (by omega), if_neg (by omega), if_neg (by omega), if_neg (by omega), if_neg (by omega), if_neg (by omega), if_neg (by omega), if_neg (by omega), if_neg h]
theorem snd_self {w : Nat → Int32} {s k j : Nat} (hj : j < 3) (hk : k + 1 < cM w s) : sndW w s (32 + 18 * s + 3 * k + j) = w (32 + 18 * s + 3 * (k + 1) + j) := by
  unfold sndW
  rw [if_pos (by omega)]
  exact congrArg w (by omega)
theorem snd_ne {w : Nat → Int32} {s s' k j : Nat} (hs : s < 8) (hs' : s' < 8) (hc : cM w s ≤ 6) (hne : s' ≠ s) (hj : j < 3) (hk : k < 6) : sndW w s (32 + 18 * s' + 3 * k + j) = w (32 + 18 * s' + 3 * k + j) := by
  unfold sndW
  rw [if_neg (by omega), if_neg (by omega), if_neg (by omega), if_neg (by omega), if_neg (by omega), if_neg (by omega), if_neg (by omega), if_neg (by omega), if_neg (by omega), if_neg (by omega)]
theorem snd_266 {w : Nat → Int32} {s : Nat} (hs : s < 8) (hc : cM w s ≤ 6) : sndW w s 266 = w 266 + nI 1 := by
  unfold sndW
  rw [if_neg (by omega), if_neg (by omega), if_neg (by omega), if_pos rfl]
theorem snd_267 {w : Nat → Int32} {s : Nat} (hs : s < 8) (hc : cM w s ≤ 6) : sndW w s 267 = nI (lg1 w + 1) := by
  unfold sndW
  rw [if_neg (by omega), if_neg (by omega), if_neg (by omega), if_neg (by omega), if_pos rfl]
/-- the log's rows -/
theorem snd_log {w : Nat → Int32} {s : Nat} (hs : s < 8) (hc : cM w s ≤ 6) (hl : lgM w ≤ 40) {k : Nat} (hk : k < lg1 w + 1) {j : Nat} (hj : j < 4) :
    sndW w s (268 + 4 * k + j) = if k = lg1 w then (if j = 0 then w (32 + 18 * s) else if j = 1 then nI s else if j = 2 then w (32 + 18 * s + 1) else w (32 + 18 * s + 2)) else if lgM w = 40 then w (268 + 4 * (k + 1) + j) else w (268 + 4 * k + j) := by
  have h39 : lg1 w ≤ 39 := by
    unfold lg1
    by_cases h : lgM w = 40
    · rw [if_pos h]; exact Nat.le_refl _
    · rw [if_neg h]; omega
  unfold sndW
  rw [if_neg (by omega), if_neg (by omega), if_neg (by omega), if_neg (by omega), if_neg (by omega)]
  by_cases hk2 : k = lg1 w
  · rw [if_pos hk2]
    have h3 : j = 0 ∨ j = 1 ∨ j = 2 ∨ j = 3 := by omega
    rcases h3 with h3 | h3 | h3 | h3
    · rw [if_neg (by omega), if_neg (by omega), if_neg (by omega), if_pos (by omega), if_pos h3]
    · rw [if_neg (by omega), if_neg (by omega), if_pos (by omega), if_neg (by omega), if_pos h3]
    · rw [if_neg (by omega), if_pos (by omega), if_neg (by omega), if_neg (by omega), if_pos h3]
    · rw [if_pos (by omega), if_neg (by omega), if_neg (by omega), if_neg (by omega)]
  · rw [if_neg hk2, if_neg (by omega), if_neg (by omega), if_neg (by omega), if_neg (by omega)]
    by_cases h : lgM w = 40
    · rw [if_pos h, if_pos ⟨h, by omega, by omega⟩]
      exact congrArg w (by omega)
    · rw [if_neg h, if_neg (fun q => h q.1)]
