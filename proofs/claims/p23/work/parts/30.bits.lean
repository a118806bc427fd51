/-! THE MATHEMATICS, part 30: bits of masks under 256; a written cell -/
def bt (x : Int32) (i : Nat) : Bool := x.toBitVec.getLsbD i
theorem b_ext {x y : Int32} (h : ∀ i, i < 32 → bt x i = bt y i) : x = y := Int32.toBitVec_inj.mp (BitVec.eq_of_getLsbD_eq (fun i hi => h i hi))
theorem b_and (x y : Int32) (i : Nat) : bt (x &&& y) i = (bt x i && bt y i) := by unfold bt; rw [Int32.toBitVec_and, BitVec.getLsbD_and]
theorem b_xor (x y : Int32) (i : Nat) : bt (x ^^^ y) i = (bt x i ^^ bt y i) := by unfold bt; rw [Int32.toBitVec_xor, BitVec.getLsbD_xor]
theorem b_m1 : ∀ i, i < 32 → bt (-1) i = true := by decide +kernel
theorem fa_and (a b : Nat) : nI a &&& nI b = nI (a &&& b) := by
  apply Int32.toBitVec_inj.1
  show BitVec.ofNat 32 a &&& BitVec.ofNat 32 b = BitVec.ofNat 32 (a &&& b)
  apply BitVec.eq_of_getLsbD_eq
  intro i hi
  simp [hi]
theorem fa_or (a b : Nat) : nI a ||| nI b = nI (a ||| b) := by
  apply Int32.toBitVec_inj.1
  show BitVec.ofNat 32 a ||| BitVec.ofNat 32 b = BitVec.ofNat 32 (a ||| b)
  apply BitVec.eq_of_getLsbD_eq
  intro i hi
  simp [hi]
theorem fb_isIn : ∀ u, u < 256 → ∀ s, s < 8 → fX3_isIn (nI u) (nI s) = u.testBit s := by decide +kernel
theorem fb_has : ∀ u, u < 256 → ∀ s, s < 8 → fX4_has (nI u) (nI s) = u.testBit s := by decide +kernel
theorem fb_cnt : ∀ u, u < 256 → fJ6_bitCount_0f7a4 (nI u) = fX4_size (nI u) := by decide +kernel
theorem fb_setOf : ∀ s, s < 8 → fX3_setOf (nI s) = nI (2 ^ s) := by decide +kernel
theorem fb_shl : ∀ s, s < 8 → (nI 1) <<< ((nI s) &&& 31) = nI (2 ^ s) := by decide +kernel
theorem tb_pow : ∀ s, s < 8 → ∀ i, i < 8 → (2 ^ s).testBit i = decide (s = i) := by decide +kernel
theorem tb_255 : ∀ i, i < 8 → (255 : Nat).testBit i = true := by decide +kernel
theorem pow_256 : ∀ s, s < 8 → 2 ^ s < 256 := by decide +kernel
theorem tb_big {a i : Nat} (h : a < 256) (hi : 8 ≤ i) : a.testBit i = false := by
  apply Nat.testBit_lt_two_pow
  have h2 : 2 ^ 8 ≤ 2 ^ i := Nat.pow_le_pow_right (by decide) hi
  exact Nat.lt_of_lt_of_le h h2
theorem m_ext {a b : Nat} (ha : a < 256) (hb : b < 256) (h : ∀ i, i < 8 → a.testBit i = b.testBit i) : a = b := by
  apply Nat.eq_of_testBit_eq
  intro i
  rcases Nat.lt_or_ge i 8 with q | q
  · exact h i q
  · rw [tb_big ha q, tb_big hb q]
theorem m_or {a b : Nat} (ha : a < 256) (hb : b < 256) : a ||| b < 256 := Nat.or_lt_two_pow (n := 8) ha hb
theorem m_and {a b : Nat} (ha : a < 256) : a &&& b < 256 := Nat.lt_of_le_of_lt Nat.and_le_left ha
theorem m_xor {b : Nat} (hb : b < 256) : 255 ^^^ b < 256 := Nat.xor_lt_two_pow (n := 8) (by decide) hb
theorem tb_not {b i : Nat} (hi : i < 8) : (255 ^^^ b).testBit i = !(b.testBit i) := by
  rw [Nat.testBit_xor, tb_255 i hi, Bool.true_xor]
theorem bt_nI (a : Nat) {i : Nat} (hi : i < 32) : bt (nI a) i = a.testBit i := by
  show (BitVec.ofNat 32 a).getLsbD i = _
  rw [BitVec.getLsbD_ofNat]
  simp only [hi, decide_true, Bool.true_and]
theorem fb_not {a b : Nat} (ha : a < 256) : nI a &&& (nI b ^^^ (-1)) = nI (a &&& (255 ^^^ b)) := by
  apply b_ext
  intro i hi
  rw [b_and, b_xor, b_m1 i hi, bt_nI a hi, bt_nI b hi, bt_nI _ hi, Nat.testBit_and]
  rcases Nat.lt_or_ge i 8 with q | q
  · rw [tb_not q]; cases b.testBit i <;> rfl
  · rw [tb_big ha q]; simp
theorem fb_zero {a b : Nat} (ha : a < 256) : nI a &&& nI b = 0 ↔ a &&& b = 0 := by
  rw [fa_and, ← nI_0]
  exact nI_eq (Nat.lt_trans (m_and ha) (by decide)) (by decide)
theorem m_zero {a : Nat} (ha : a < 256) : a = 0 ↔ ∀ i, i < 8 → a.testBit i = false := by
  constructor
  · intro h i _
    subst h
    exact Nat.zero_testBit i
  · intro h
    exact m_ext ha (by decide) (fun i hi => by rw [h i hi, Nat.zero_testBit])
theorem fb_sub {a u : Nat} (ha : a < 256) : nI a &&& (nI u ^^^ (-1)) = 0 ↔ ∀ i, i < 8 → a.testBit i = true → u.testBit i = true := by
  rw [fb_not ha, ← nI_0, nI_eq (Nat.lt_trans (m_and ha) (by decide)) (by decide), m_zero (m_and ha)]
  constructor
  · intro h i hi ht
    have h1 := h i hi
    rw [Nat.testBit_and, ht, tb_not hi] at h1
    simpa using h1
  · intro h i hi
    rw [Nat.testBit_and, tb_not hi]
    cases e : a.testBit i
    · rfl
    · rw [h i hi e]; rfl
theorem nI_inj {a b : Nat} (ha : a < 2 ^ 31) (hb : b < 2 ^ 31) (h : nI a = nI b) : a = b := (nI_eq ha hb).mp h
/-- a written cell, looked at -/
theorem hp (I : hm_I) (a k : Nat) (x : Int32) (b j : Nat) : hm_put I a k x b j = if b = a ∧ j = k then x else I b j := by
  by_cases h : b = a
  · subst h
    rw [hm_put_self]
    unfold upd
    by_cases h2 : j = k
    · subst h2; simp
    · simp [h2]
  · rw [hm_put_ne I a k x h, if_neg (fun q => h q.1)]
theorem hp_n {I : hm_I} {a k : Nat} {x : Int32} {b j : Nat} (h : b ≠ a ∨ j ≠ k) : hm_put I a k x b j = I b j := hm_put_get h
theorem bI_ite {b : Bool} : (if b = true then true else false) = b := by cases b <;> rfl
/-! rounds of a row: each round writes one cell of the row at a, out of what it sees -/
theorem lp_row (a : Nat) (g : Nat → hm_I → Int32) (I : hm_I) (n : Nat) (F : Nat → Int32)
    (h : ∀ i (x : hm_I), i < n → (∀ b k, b ≠ a → x b k = I b k) → (∀ k, k < i → x a k = F k) → (∀ k, i ≤ k → x a k = I a k) → g i x = F i) :
    (∀ b k, b ≠ a → lp n (fun i x => hm_put x a i (g i x)) I b k = I b k) ∧ (∀ k, k < n → lp n (fun i x => hm_put x a i (g i x)) I a k = F k) ∧ (∀ k, n ≤ k → lp n (fun i x => hm_put x a i (g i x)) I a k = I a k) := by
  have key := lp_inv (n := n) (f := fun i x => hm_put x a i (g i x)) (x := I) (fun i x => (∀ b k, b ≠ a → x b k = I b k) ∧ (∀ k, k < i → x a k = F k) ∧ (∀ k, i ≤ k → x a k = I a k))
    ⟨fun _ _ _ => rfl, fun k hk => absurd hk (Nat.not_lt_zero k), fun _ _ => rfl⟩ ?_
  · exact key
  · intro i z hi hz
    obtain ⟨h1, h2, h3⟩ := hz
    refine ⟨fun b k hb => ?_, fun k hk => ?_, fun k hk => ?_⟩
    · rw [hp_n (Or.inl hb)]; exact h1 b k hb
    · rcases Nat.lt_or_ge k i with q | q
      · rw [hp_n (Or.inr (by omega))]; exact h2 k q
      · have e : k = i := by omega
        subst e
        rw [hm_put_at]
        exact h _ z hi h1 h2 h3
    · rw [hp_n (Or.inr (by omega))]; exact h3 k (by omega)
