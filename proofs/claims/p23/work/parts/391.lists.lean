/-! part 391: lists -/
theorem clr_lt8 : ∀ v, v < 256 → ∀ l, l < 8 → v.testBit l = true → (v &&& (255 ^^^ 2 ^ l)) < v := by decide +kernel
theorem hpJ (J : hm_J) (a k : Nat) (x : Int64) (c j : Nat) : hm_putJ J a k x c j = if c = a ∧ j = k then x else J c j := by
  by_cases h : c = a
  · subst h
    rw [hm_putJ_self]
    by_cases h2 : j = k
    · subst h2; rw [pk_uLs, if_pos ⟨rfl, rfl⟩]
    · rw [pk_uLn h2, if_neg (fun q => h2 q.2)]
  · rw [hm_putJ_ne J a k x h, if_neg (fun q => h q.1)]
def lstT (C : Nat → Nat) (F : Nat → Int64) (v n : Nat) : Int64 := lp n (fun i x => if v.testBit i = true then if C i &&& v = 0 then x + F (v &&& (255 ^^^ 2 ^ i)) else x else x) 0
def lstX (I : hm_I) (o U ja n : Nat) (J : hm_J) : hm_J := lp n (fun i18 x18 => if (nI (i18 + 1)) &&& ((nI U) ^^^ (-1)) = 0 then hm_putJ x18 ja (i18 + 1) (fX1_listsByLast I x18 o (i18 + 1) ja) else hm_putJ x18 ja (i18 + 1) 0) (hm_putJ J ja 0 1)
theorem lbl_X {I : hm_I} {o v ja : Nat} {N : Nat → Nat} (h : ClO I o N) (hv : v < 256) (A : hm_J) : fX1_listsByLast I A o v ja = lstT (clo N) (A ja) v 8 := by
  unfold fX1_listsByLast lstT
  refine lp_cong rfl (fun i z hi => ?_)
  have hz : (nI (clo N i) &&& nI v = 0) ↔ clo N i &&& v = 0 := fb_zero (h i hi).2.2.2
  rw [fb_isIn v hv i hi, (h i hi).2.2.1, fb_setOf i hi, fb_not (b := 2 ^ i) hv, nI_clamp (Nat.lt_trans (m_and hv) (by decide))]
  by_cases q1 : v.testBit i = true
  · rw [if_pos q1, if_pos q1]
    by_cases q2 : clo N i &&& v = 0
    · rw [if_pos (hz.mpr q2), if_pos q2]
    · rw [if_neg (fun z => q2 (hz.mp z)), if_neg q2]
  · rw [if_neg q1, if_neg q1]
theorem lstT_cong {C : Nat → Nat} {F G : Nat → Int64} {v : Nat} (hv : v < 256) (h : ∀ s, s < v → F s = G s) : lstT C F v 8 = lstT C G v 8 := by
  unfold lstT
  refine lp_cong rfl (fun i z hi => ?_)
  by_cases q1 : v.testBit i = true
  · rw [if_pos q1, if_pos q1, h _ (clr_lt8 v hv i hi q1)]
  · rw [if_neg q1, if_neg q1]
