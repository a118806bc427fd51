/-! pure words that whole's reference half had: what the mathematics of rows still speaks of -/
/-- the reference's numbers: how many wait (c), their epochs (e), the latest epoch (ep), the entries of the log (lg) -/
def WfM (w : Nat → Int32) (c : Nat → Nat) (e : Nat → Nat → Nat) (ep lg : Nat) : Prop :=
  (∀ s, s < 8 → w (24 + s) = nI (c s) ∧ c s ≤ 6) ∧ (∀ s, s < 8 → ∀ k, k < c s → w (32 + 18 * s + 3 * k + 2) = nI (e s k) ∧ e s k ≤ ep) ∧ w 184 = nI ep ∧ ep ≤ 9 ∧ w 267 = nI lg ∧ lg ≤ 40
theorem WfM_eq {w w' : Nat → Int32} {c : Nat → Nat} {e : Nat → Nat → Nat} {ep lg : Nat} (h : w' = w) (W : WfM w c e ep lg) : WfM w' c e ep lg := by rw [h]; exact W
theorem best_nat {x : Int32} (h : x = -9 ∨ ∃ k : Nat, k < 8 ∧ x = nI k) (c : ¬ x = -9) : x = nI x.toNatClampNeg ∧ x.toNatClampNeg < 8 := by
  obtain ⟨k, hk, rfl⟩ := h.resolve_left c
  rw [nI_clamp (by omega)]
  exact ⟨rfl, hk⟩
theorem nI_ne_m1 {k : Nat} (h : k < 2 ^ 31) : ¬ nI k = -1 := fun q => by
  have h1 := nI_toInt h
  rw [q] at h1
  have h2 : (-1 : Int32).toInt = -1 := by decide
  omega
def fX4_isIn (v lo up : Int32) : Bool :=
  if v < lo then false else if up < v then false else true
def fX4_has (u s0 : Int32) : Bool :=
  if (u >>> (s0 &&& 31)) &&& (nI 1) = nI 1 then true else false
def fX4_isStream (s0 : Int32) : Bool :=
  fX4_isIn s0 (nI 0) (nI 7)
theorem isStreamM_of {k : Nat} (h : k < 8) : fX4_isStream (nI k) = true := by
  unfold fX4_isStream fX4_isIn
  rw [if_neg (fun q => absurd ((nI_ltI (by omega) (by decide)).mp q) (by omega)), if_neg (fun q => absurd ((nI_ltI (by decide) (by omega)).mp q) (by omega))]
theorem isStreamM_eq (x : Int32) : fX4_isStream x = fX3_isStream x := by
  unfold fX4_isStream fX4_isIn fX3_isStream
  by_cases h1 : x < 0
  · rw [if_pos h1, if_pos (show x < nI 0 from h1)]
  · rw [if_neg h1, if_neg (show ¬ x < nI 0 from h1)]
    obtain ⟨j, hj, rfl⟩ := nI_of h1
    by_cases h2 : 8 ≤ j
    · rw [if_pos ((nI_ltI (by decide) hj).mpr (by omega)), if_pos ((nI_leI (by decide) hj).mpr h2)]
    · rw [if_neg (fun q => h2 (by have := (nI_ltI (by decide) hj).mp q; omega)), if_neg (fun q => h2 ((nI_leI (by decide) hj).mp q))]
def fX4_size (u : Int32) : Int32 :=
  (lp 8 (fun i4 x4 => x4 + ((u >>> ((nI i4) &&& 31)) &&& (nI 1))) (nI 0))
/-- the reference's numbers, read off its row -/
def cM (w : Nat → Int32) (s : Nat) : Nat := (w (24 + s)).toNatClampNeg
def eM (w : Nat → Int32) (s k : Nat) : Nat := (w (32 + 18 * s + 3 * k + 2)).toNatClampNeg
def epM (w : Nat → Int32) : Nat := (w 184).toNatClampNeg
def lgM (w : Nat → Int32) : Nat := (w 267).toNatClampNeg
def WfC (w : Nat → Int32) : Prop := WfM w (cM w) (eM w) (epM w) (lgM w)
theorem lp_rel {σ τ : Type} (R : σ → τ → Prop) {n : Nat} {f : Nat → σ → σ} {g : Nat → τ → τ} {x : σ} {y : τ} (h0 : R x y) (hs : ∀ i a c, i < n → R a c → R (f i a) (g i c)) : R (lp n f x) (lp n g y) := by
  induction n with
  | zero => exact h0
  | succ n ih => exact hs n _ _ (by omega) (ih (fun i a c hi => hs i a c (by omega)))
theorem lpr_rel {σ τ ρ π : Type} (R : σ → τ → Prop) (Q : ρ → π → Prop) {g : Nat → σ → ρ ⊕ σ} {g' : Nat → τ → π ⊕ τ} {d : σ → ρ} {d' : τ → π} (hd : ∀ a c, R a c → Q (d a) (d' c))
    (hs : ∀ i a c, R a c → (∃ v w, g i a = .inl v ∧ g' i c = .inl w ∧ Q v w) ∨ (∃ a' c', g i a = .inr a' ∧ g' i c = .inr c' ∧ R a' c')) : ∀ n i x y, R x y → Q (lpr g d n i x) (lpr g' d' n i y) := by
  intro n
  induction n with
  | zero => exact fun i x y h => hd x y h
  | succ n ih =>
    intro i x y h
    rcases hs i x y h with ⟨v, w, h1, h2, h3⟩ | ⟨a', c', h1, h2, h3⟩
    · rw [lpr_l h1, lpr_l h2]; exact h3
    · rw [lpr_r h1, lpr_r h2]; exact ih _ _ _ h3
theorem nI_ne_m9 {k : Nat} (h : k < 2 ^ 31) : ¬ nI k = -9 := fun q => by
  have h1 := nI_toInt h
  rw [q] at h1
  have h2 : (-9 : Int32).toInt = -9 := by decide
  omega
theorem m1_le {k : Nat} (h : k < 2 ^ 31) : (-1 : Int32) ≤ nI k := by
  rw [Int32.le_iff_toInt_le, nI_toInt h]
  have h2 : (-1 : Int32).toInt = -1 := by decide
  omega
theorem le_lt_no {x y : Int32} (h : x ≤ y) (h2 : y < x) : False := by
  rw [Int32.le_iff_toInt_le] at h
  rw [Int32.lt_iff_toInt_lt] at h2
  omega
