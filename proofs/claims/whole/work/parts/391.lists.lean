/-! part 391: lists -/
theorem clr_lt8 : ∀ v, v < 256 → ∀ l, l < 8 → v.testBit l = true → (v &&& (255 ^^^ 2 ^ l)) < v := by decide +kernel
theorem hpJ (J : hm_J) (a k : Nat) (x : Int64) (c j : Nat) : hm_putJ J a k x c j = if c = a ∧ j = k then x else J c j := by
  by_cases h : c = a
  · subst h
    rw [hm_putJ_self]
    by_cases h2 : j = k
    · subst h2; rw [pk_uLs, if_pos ⟨rfl, rfl⟩]
    · rw [pk_uLn h2, if_neg (fun q => h2 q.2)]
  · rw [hm_putJ_ne J a k x h, if_neg (fun q => h q.1)]
def lst1 (X : hm_I) (b U v i : Nat) (x : hm_J) : hm_J := if (nI v) &&& ((nI U) ^^^ (-1)) = 0 then if fX4_has (nI v) (nI i) = true then if (X (b + 4) i) &&& (nI v) = 0 then hm_putJ x (b + 8) v ((x (b + 8) v) + (x (b + 8) (((nI v) &&& (((nI 1) <<< ((nI i) &&& 31)) ^^^ (-1))).toNatClampNeg))) else hm_putJ x (b + 8) v ((x (b + 8) v) + 0) else hm_putJ x (b + 8) v ((x (b + 8) v) + 0) else hm_putJ x (b + 8) v ((x (b + 8) v) + 0)
def lstS (X : hm_I) (b U v : Nat) (J : hm_J) : hm_J := lp 8 (fun i x => lst1 X b U v i x) (hm_putJ J (b + 8) v 0)
def lstL (X : hm_I) (b U n : Nat) (J : hm_J) : hm_J := lp n (fun i x => lstS X b U (i + 1) x) (hm_putJ J (b + 8) 0 1)
def lstT (C : Nat → Nat) (F : Nat → Int64) (v n : Nat) : Int64 := lp n (fun i x => if v.testBit i = true then if C i &&& v = 0 then x + F (v &&& (255 ^^^ 2 ^ i)) else x else x) 0
theorem putJ_same (y : hm_J) (a v : Nat) : hm_putJ y a v ((y a v) + 0) = y := by
  funext c j
  rw [hpJ]
  by_cases e : c = a ∧ j = v
  · rw [if_pos e, e.1, e.2, Int64.add_zero]
  · rw [if_neg e]
theorem lst1_spec {X : hm_I} {b r U v i : Nat} {N : Nat → Nat} (hC : ∀ i, i < 8 → clo N i < 256) (hM : MoO X b r N) (hv : v < 256) (hi : i < 8) (y : hm_J) :
    lst1 X b U v i y = if (nI v) &&& ((nI U) ^^^ (-1)) = 0 then if v.testBit i = true then if clo N i &&& v = 0 then hm_putJ y (b + 8) v ((y (b + 8) v) + y (b + 8) (v &&& (255 ^^^ 2 ^ i))) else y else y else y := by
  unfold lst1
  rw [putJ_same, fb_has v hv i hi, (hM i hi).2, fb_shl i hi, fb_not (b := 2 ^ i) hv, nI_clamp (Nat.lt_trans (m_and hv) (by decide))]
  have hz : (nI (clo N i) &&& nI v = 0) ↔ clo N i &&& v = 0 := fb_zero (hC i hi)
  by_cases q : (nI v) &&& ((nI U) ^^^ (-1)) = 0
  · rw [if_pos q, if_pos q]
    by_cases q1 : v.testBit i = true
    · rw [if_pos q1, if_pos q1]
      by_cases q2 : clo N i &&& v = 0
      · rw [if_pos (hz.mpr q2), if_pos q2]
      · rw [if_neg (fun z => q2 (hz.mp z)), if_neg q2]
    · rw [if_neg q1, if_neg q1]
  · rw [if_neg q, if_neg q]
/-- one set, as the reference sums it -/
theorem lst_M {X : hm_I} {b r U v : Nat} {N : Nat → Nat} (hC : ∀ i, i < 8 → clo N i < 256) (hM : MoO X b r N) (hv : v < 256) (J : hm_J) :
    (∀ c j, ¬ (c = b + 8 ∧ j = v) → lstS X b U v J c j = J c j) ∧ lstS X b U v J (b + 8) v = if (nI v) &&& ((nI U) ^^^ (-1)) = 0 then lstT (clo N) (J (b + 8)) v 8 else 0 := by
  have key : ∀ n, n ≤ 8 → (∀ c j, ¬ (c = b + 8 ∧ j = v) → lp n (fun i x => lst1 X b U v i x) (hm_putJ J (b + 8) v 0) c j = J c j) ∧ lp n (fun i x => lst1 X b U v i x) (hm_putJ J (b + 8) v 0) (b + 8) v = if (nI v) &&& ((nI U) ^^^ (-1)) = 0 then lstT (clo N) (J (b + 8)) v n else 0 := by
    intro n
    induction n with
    | zero =>
      intro _
      refine ⟨fun c j hc => ?_, ?_⟩
      · rw [lp_0, hpJ, if_neg hc]
      · rw [lp_0, hpJ, if_pos ⟨rfl, rfl⟩]
        by_cases q : (nI v) &&& ((nI U) ^^^ (-1)) = 0
        · rw [if_pos q]; rfl
        · rw [if_neg q]
    | succ n ih =>
      intro hn
      have hn8 : n < 8 := by omega
      obtain ⟨y1, y2⟩ := ih (by omega)
      rw [lp_s]
      generalize lp n (fun i x => lst1 X b U v i x) (hm_putJ J (b + 8) v 0) = y at y1 y2 ⊢
      rw [lst1_spec hC hM hv hn8]
      by_cases q : (nI v) &&& ((nI U) ^^^ (-1)) = 0
      · rw [if_pos q] at y2
        rw [if_pos q, if_pos q]
        unfold lstT at y2 ⊢
        rw [lp_s, ← y2]
        by_cases q1 : v.testBit n = true
        · rw [if_pos q1, if_pos q1]
          by_cases q2 : clo N n &&& v = 0
          · have hl := clr_lt8 v hv n hn8 q1
            rw [if_pos q2, if_pos q2]
            refine ⟨fun c j hc => ?_, ?_⟩
            · rw [hpJ, if_neg hc]; exact y1 c j hc
            · have hne : ¬ (b + 8 = b + 8 ∧ (v &&& (255 ^^^ 2 ^ n)) = v) := fun z => by omega
              rw [hpJ, if_pos ⟨rfl, rfl⟩, y1 (b + 8) (v &&& (255 ^^^ 2 ^ n)) hne]
          · rw [if_neg q2, if_neg q2]; exact ⟨y1, rfl⟩
        · rw [if_neg q1, if_neg q1]; exact ⟨y1, rfl⟩
      · rw [if_neg q] at y2
        rw [if_neg q, if_neg q]
        exact ⟨y1, y2⟩
  exact key 8 (Nat.le_refl 8)
def lstX (I : hm_I) (o U ja n : Nat) (J : hm_J) : hm_J := lp n (fun i18 x18 => if (nI (i18 + 1)) &&& ((nI U) ^^^ (-1)) = 0 then hm_putJ x18 ja (i18 + 1) (fX1_listsByLast I x18 o (i18 + 1) ja) else hm_putJ x18 ja (i18 + 1) 0) (hm_putJ J ja 0 1)
theorem lbl_X {I : hm_I} {o v ja : Nat} {N : Nat → Nat} (h : ClO I o N) (hv : v < 256) (A : hm_J) : fX1_listsByLast I A o v ja = lstT (clo N) (A ja) v 8 := by
  unfold fX1_listsByLast lstT
  refine lp_cong rfl (fun i z hi => ?_)
  have hz : (nI (clo N i) &&& nI v = 0) ↔ clo N i &&& v = 0 := fb_zero (h i hi).2.2.2
  rw [fb_isIn v hv i hi, (h i hi).2.2.1, fb_setOf i hi, fb_not (b := 2 ^ i) hv, nI_clamp (Nat.lt_trans (m_and hv) (by decide))]
  by_cases q1 : v.testBit i = true
  · rw [if_pos q1, if_pos q1]
    by_cases q2 : clo N i &&& v = 0
    · rw [if_pos (hz.mpr q2), if_pos q2]
    · rw [if_neg (fun z => q2 (hz.mp z)), if_neg q2]
  · rw [if_neg q1, if_neg q1]
theorem lstT_cong {C : Nat → Nat} {F G : Nat → Int64} {v : Nat} (hv : v < 256) (h : ∀ s, s < v → F s = G s) : lstT C F v 8 = lstT C G v 8 := by
  unfold lstT
  refine lp_cong rfl (fun i z hi => ?_)
  by_cases q1 : v.testBit i = true
  · rw [if_pos q1, if_pos q1, h _ (clr_lt8 v hv i hi q1)]
  · rw [if_neg q1, if_neg q1]
theorem lst_eqs {I X : hm_I} {J JX : hm_J} {o b r U ja : Nat} {N : Nat → Nat} (h : ClO I o N) (hM : MoO X b r N) (hU : U < 256) : ∀ n, n ≤ U → ∀ s, s ≤ n → lstX I o U ja n J ja s = lstL X b U n JX (b + 8) s := by
  have hC : ∀ i, i < 8 → clo N i < 256 := fun i hi => (h i hi).2.2.2
  intro n
  induction n with
  | zero =>
    intro _ s hs
    have e : s = 0 := by omega
    subst e
    unfold lstX lstL
    rw [lp_0, lp_0, hpJ, hpJ, if_pos ⟨rfl, rfl⟩, if_pos ⟨rfl, rfl⟩]
  | succ n ih =>
    intro hn s hs
    have ih' := ih (by omega)
    have hv : n + 1 < 256 := by omega
    have e1 : lstX I o U ja (n + 1) J = if (nI (n + 1)) &&& ((nI U) ^^^ (-1)) = 0 then hm_putJ (lstX I o U ja n J) ja (n + 1) (fX1_listsByLast I (lstX I o U ja n J) o (n + 1) ja) else hm_putJ (lstX I o U ja n J) ja (n + 1) 0 := rfl
    have e2 : lstL X b U (n + 1) JX = lstS X b U (n + 1) (lstL X b U n JX) := rfl
    rw [e1, e2]
    generalize lstX I o U ja n J = A at ih' ⊢
    generalize lstL X b U n JX = B at ih' ⊢
    have hm := lst_M (U := U) hC hM hv B
    by_cases e : s = n + 1
    · subst e
      rw [hm.2]
      by_cases q : (nI (n + 1)) &&& ((nI U) ^^^ (-1)) = 0
      · rw [if_pos q, if_pos q, hpJ, if_pos ⟨rfl, rfl⟩, lbl_X h hv]
        exact lstT_cong hv (fun s hs => ih' s (by omega))
      · rw [if_neg q, if_neg q, hpJ, if_pos ⟨rfl, rfl⟩]
    · rw [hm.1 _ _ (fun z => e z.2)]
      have hs' := ih' s (by omega)
      by_cases q : (nI (n + 1)) &&& ((nI U) ^^^ (-1)) = 0
      · rw [if_pos q, hpJ, if_neg (fun z => e z.2)]; exact hs'
      · rw [if_neg q, hpJ, if_neg (fun z => e z.2)]; exact hs'
theorem lst_stay {X : hm_I} {JX : hm_J} {b r U : Nat} {N : Nat → Nat} (hC : ∀ i, i < 8 → clo N i < 256) (hM : MoO X b r N) : ∀ m, U + m ≤ 255 → lstL X b U (U + m) JX (b + 8) U = lstL X b U U JX (b + 8) U := by
  intro m
  induction m with
  | zero => intro _; rfl
  | succ m ih =>
    intro hm
    have e2 : lstL X b U (U + (m + 1)) JX = lstS X b U (U + m + 1) (lstL X b U (U + m) JX) := rfl
    rw [e2, (lst_M (U := U) hC hM (show U + m + 1 < 256 by omega) _).1 _ _ (fun z => by omega)]
    exact ih (by omega)
theorem lists_eq {I X : hm_I} {J JX : hm_J} {o b r U ja : Nat} {N : Nat → Nat} (h : ClO I o N) (hM : MoO X b r N) (hU : U < 256) : (fX1_countLists I J o U ja).1 = lstL X b U 255 JX (b + 8) U := by
  have e1 : (fX1_countLists I J o U ja).1 = lstX I o U ja U J ja U := rfl
  have e2 := lst_stay (JX := JX) (fun i hi => (h i hi).2.2.2) hM (U := U) (255 - U) (by omega)
  rw [show U + (255 - U) = 255 by omega] at e2
  rw [e1, e2]
  exact lst_eqs h hM hU U (Nat.le_refl U) U (Nat.le_refl U)
