/-! what stands where: the objects of the classes, at places that follow their own -/
def IsI (L : List Nat) (Sh : hm_S) (a n : Nat) : Prop := a ∈ L ∧ Sh a = kI n
def IsF (L : List Nat) (Sh : hm_S) (a n : Nat) : Prop :=
  (a ∈ L ∧ Sh a = kO 0 [some (some (a + 1)), some (some (a + 2)), some (some (a + 3)), some (some (a + 4)), none]) ∧ (a + 1 ∈ L ∧ Sh (a + 1) = kI n) ∧ (a + 2 ∈ L ∧ Sh (a + 2) = kI n) ∧ (a + 3 ∈ L ∧ Sh (a + 3) = kI n) ∧ (a + 4 ∈ L ∧ Sh (a + 4) = kI n) ∧ n < 2 ^ 31
def IsO (L : List Nat) (Sh : hm_S) (a : Nat) : Prop :=
  (a ∈ L ∧ Sh a = kO 1 [some (some (a + 1)), some (some (a + 2))]) ∧ (a + 1 ∈ L ∧ Sh (a + 1) = kI 8) ∧ (a + 2 ∈ L ∧ Sh (a + 2) = kI 8)
def IsS (L : List Nat) (Sh : hm_S) (q : Nat) : Prop :=
  (q ∈ L ∧ Sh q = kO 2 [none, some (some (q + 1)), some (some (q + 2)), some (some (q + 3)), some (some (q + 44)), some (some (q + 47)), none, none, none, some (some (q + 78))]) ∧
  (q + 1 ∈ L ∧ Sh (q + 1) = kI 8) ∧ (q + 2 ∈ L ∧ Sh (q + 2) = kI 8) ∧ (q + 3 ∈ L ∧ Sh (q + 3) = kR 0 8 (fun s => some (q + 4 + 5 * s))) ∧
  (∀ s, s < 8 → IsF L Sh (q + 4 + 5 * s) 6) ∧ IsO L Sh (q + 44) ∧ (q + 47 ∈ L ∧ Sh (q + 47) = kR 1 10 (fun e => some (q + 48 + 3 * e))) ∧
  (∀ e, e < 10 → IsO L Sh (q + 48 + 3 * e)) ∧ IsF L Sh (q + 78) 40
def IsM (L : List Nat) (Sh : hm_S) (b : Nat) : Prop :=
  (b ∈ L ∧ Sh b = kO 4 [some (some (b + 1)), some (some (b + 2)), none, some (some (b + 3)), none, some (some (b + 4)), some (some (b + 5)), some (some (b + 6)), some (some (b + 7)), some (some (b + 8))]) ∧
  (b + 1 ∈ L ∧ Sh (b + 1) = kI 428) ∧ (b + 2 ∈ L ∧ Sh (b + 2) = kI 3424) ∧ (b + 3 ∈ L ∧ Sh (b + 3) = kI 856) ∧ (b + 4 ∈ L ∧ Sh (b + 4) = kI 8) ∧ (b + 5 ∈ L ∧ Sh (b + 5) = kI 428) ∧ (b + 6 ∈ L ∧ Sh (b + 6) = kI 8) ∧ (b + 7 ∈ L ∧ Sh (b + 7) = kI 8) ∧ (b + 8 ∈ L ∧ Sh (b + 8) = kJ 256)
