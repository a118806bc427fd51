/-! OWN ROWS over the memory of part 03 -/
section HR
variable {p : Program} {l : Launch} {e : Env} {R : Room} {s : State} {m : MethodId} {args : Array Value} {below : List Frame} {meth : Method} {c : Code} {H : Heap} {locs : List Loc} {cells slots : Nat} {Qq : State → Prop}
variable {cc : ByteArray} {nL : Nat} {Ts : List Cond} {own : String} {D : va_G} {T : Nat → ClassId} {L : List Nat} {A : Nat → Prop} {Sh : hm_S} {I : hm_I} {J : hm_J} {pc : Nat} {ls : Array Slot} {rest : List Value} {a : Nat} {H0 : Heap}
theorem hm_place (ha : a ∈ L) {x : va_E} (hx : hm_e T Sh I J a = x) : ∃ q : Nat, (va_pl L (hm_e T Sh I J))[q]? = some (a, x) := by
  obtain ⟨q, hq⟩ := va_pl_get (X := []) (f := hm_e T Sh I J) ha
  exact ⟨q, by rw [← hx]; exact hq⟩
theorem hm_e_O {ci : Nat} {fs : List (Option (Option Nat))} (hs : Sh a = kO ci fs) : hm_e T Sh I J a = .inr (ci, hm_fs fs (I a)) := by simp [hm_e, hs, kO]
theorem hm_e_I {n : Nat} (hs : Sh a = kI n) : hm_e T Sh I J a = .inl (T 0, n, .inl (I a)) := by simp [hm_e, hs, kI]
theorem hm_e_Z {n : Nat} (hs : Sh a = kZ n) : hm_e T Sh I J a = .inl (T 1, n, .inl (I a)) := by simp [hm_e, hs, kZ]
theorem hm_e_J {n : Nat} (hs : Sh a = kJ n) : hm_e T Sh I J a = .inl (T 2, n, .inr (.inl (J a))) := by simp [hm_e, hs, kJ]
theorem hm_e_R {t n : Nat} {f : Nat → Option Nat} (hs : Sh a = kR t n f) : hm_e T Sh I J a = .inl (T (3 + t), n, .inr (.inr (.inr (.inr f)))) := by simp [hm_e, hs, kR]
/-- a written cell: the memory with that cell new -/
theorem hm_write {Sh' : hm_S} {I' : hm_I} {J' : hm_J} {x0 x : va_E} {q : Nat} {H1 : Heap} (hM : hm D T L A Sh I J H) (ha : a ∈ L) (hx0 : hm_e T Sh I J a = x0) (hq : (va_pl L (hm_e T Sh I J))[q]? = some (a, x0)) (hx : hm_e T Sh' I' J' a = x) (ho : ∀ b, b ≠ a → hm_e T Sh' I' J' b = hm_e T Sh I J b)
    (hP : va_P D vwCl ((va_pl L (hm_e T Sh I J)).set q (a, x)) H1) (hD : va_D A ((va_pl L (hm_e T Sh I J)).set q (a, x))) : hm D T L A Sh' I' J' H1 := by
  have e1 : (va_pl L (hm_e T Sh I J)).set q (a, x) = va_pl L (va_up (hm_e T Sh I J) a x) := va_pl_set (X := []) hM.2 ha (by rw [hx0]; exact hq)
  have e2 : va_up (hm_e T Sh I J) a x = hm_e T Sh' I' J' := by
    funext b
    by_cases hb : b = a
    · subst hb
      rw [va_up_self, hx]
    · rw [va_up_ne _ _ hb, ho b hb]
  rw [e1, e2] at hP hD
  exact ⟨hP, hD⟩
theorem mr_geti {C : String} {TT : u_T} {N ci index : Nat} (C0 : Cx p s m args c cc nL Ts own D T) (hin : ∀ w ∈ u_ws C TT N, w ∈ Ts) (hM : hm D T L A Sh I J H) {fs : List (Option (Option Nat))} (ha : a ∈ L) (hs : Sh a = kO ci fs) (hc : vwCl[ci]? = some (C, TT, N)) (k : Nat) (hk : k < N) (hf : fs[k]? = some none) {v : Int32} (hv : I a k = v)
    (hlink : Cond.fieldLink own index C (TT k).2.1 (TT k).2.2.1 ∈ Ts) (hCC : (TT k).1 = C) (hdg : decode cc pc = .ok (.getfield index, 3)) (kk : W p l e R s m args below meth c H locs cells slots Qq (F0 m (pc + 3) ls (.int v :: rest))) : W p l e R s m args below meth c H locs cells slots Qq (F0 m pc ls (.ref a :: rest)) := by
  obtain ⟨⟨hx, hb, hml, hown, hts⟩, hK, hN⟩ := C0
  obtain ⟨q, hq⟩ := hm_place (J := J) ha (hm_e_O (I := I) (J := J) (T := T) hs)
  subst hv
  exact va_get hx hb hts hin hown hK hM.1 q hq hc k hk (hts _ hlink) (fun _ h => by rw [hCC] at h; exact h) (hm_fs_none hf) hdg kk
theorem mr_getr {C : String} {TT : u_T} {N ci index : Nat} (C0 : Cx p s m args c cc nL Ts own D T) (hin : ∀ w ∈ u_ws C TT N, w ∈ Ts) (hM : hm D T L A Sh I J H) {fs : List (Option (Option Nat))} (ha : a ∈ L) (hs : Sh a = kO ci fs) (hc : vwCl[ci]? = some (C, TT, N)) (k : Nat) (hk : k < N) {r : Nat} (hf : fs[k]? = some (some (some r)))
    (hlink : Cond.fieldLink own index C (TT k).2.1 (TT k).2.2.1 ∈ Ts) (hCC : (TT k).1 = C) (hdg : decode cc pc = .ok (.getfield index, 3)) (kk : W p l e R s m args below meth c H locs cells slots Qq (F0 m (pc + 3) ls (.ref r :: rest))) : W p l e R s m args below meth c H locs cells slots Qq (F0 m pc ls (.ref a :: rest)) := by
  obtain ⟨⟨hx, hb, hml, hown, hts⟩, hK, hN⟩ := C0
  obtain ⟨q, hq⟩ := hm_place (J := J) ha (hm_e_O (I := I) (J := J) (T := T) hs)
  exact va_get hx hb hts hin hown hK hM.1 q hq hc k hk (hts _ hlink) (fun _ h => by rw [hCC] at h; exact h) (hm_fs_some hf) hdg kk
def hm_put (I : hm_I) (a k : Nat) (x : Int32) : hm_I := va_up I a (upd (I a) k x)
theorem hm_put_self (I : hm_I) (a k : Nat) (x : Int32) : hm_put I a k x a = upd (I a) k x := va_up_self _ _ _
theorem hm_put_ne (I : hm_I) (a k : Nat) (x : Int32) {b : Nat} (h : b ≠ a) : hm_put I a k x b = I b := va_up_ne _ _ h
theorem hm_put_get {I : hm_I} {a k : Nat} {x : Int32} {b j : Nat} (h : b ≠ a ∨ j ≠ k) : hm_put I a k x b j = I b j := by
  by_cases hb : b = a
  · subst hb
    rw [hm_put_self]
    have hj : j ≠ k := h.resolve_left (fun q => q rfl)
    simp [upd, hj]
  · rw [hm_put_ne I a k x hb]
theorem hm_put_at (I : hm_I) (a k : Nat) (x : Int32) : hm_put I a k x a k = x := by rw [hm_put_self]; simp [upd]
theorem mr_puti {C : String} {TT : u_T} {N ci index : Nat} (C0 : Cx p s m args c cc nL Ts own D T) (hin : ∀ w ∈ u_ws C TT N, w ∈ Ts) (ty0 : Nat → FieldType) (hty : ∀ k, k < N → parseFieldDescriptor (TT k).2.2.1 = some (ty0 k)) (hnm : ∀ a, a < N → ∀ b, b < N → a ≠ b → (TT a).2.1 ≠ (TT b).2.1) (hM : hm D T L A Sh I J H) (hS : va_S A H0 H locs) {fs : List (Option (Option Nat))} (ha : a ∈ L) (hs : Sh a = kO ci fs) (hc : vwCl[ci]? = some (C, TT, N)) (k : Nat) (hk : k < N) (hf : fs[k]? = some none) {x : Int32}
    (hlink : Cond.fieldLink own index C (TT k).2.1 (TT k).2.2.1 ∈ Ts) (hCC : (TT k).1 = C) (hfin : (TT k).2.2.2 = false) (hd : parseFieldDescriptor (TT k).2.2.1 = some .int) (hdg : decode cc pc = .ok (.putfield index, 3))
    (kk : ∀ (H1 : Heap) (locs1 : List Loc), hm D T L A Sh (hm_put I a k x) J H1 → va_S A H0 H1 locs1 → W p l e R s m args below meth c H1 locs1 cells slots Qq (F0 m (pc + 3) ls rest)) : W p l e R s m args below meth c H locs cells slots Qq (F0 m pc ls (.int x :: .ref a :: rest)) := by
  obtain ⟨⟨hx, hb, hml, hown, hts⟩, hK, hN⟩ := C0
  have e0 := hm_e_O (I := I) (J := J) (T := T) hs
  obtain ⟨q, hq⟩ := hm_place (J := J) ha e0
  have hl : k < (hm_fs fs (I a)).length := by rw [hm_fs_len]; exact (List.getElem?_eq_some_iff.mp hf).1
  refine va_put hx hb hts hin ty0 hty hnm hown hK hM.1 hM.2 hS q hq hc k hk (hts _ hlink) (fun _ h => by rw [hCC] at h; exact h) hfin hd rfl rfl hl hdg (fun H1 locs1 hP hD hS1 => kk H1 locs1 ?_ hS1)
  refine hm_write hM ha e0 hq (x := .inr (ci, (hm_fs fs (I a)).set k (.int x))) ?_ (fun b hne => ?_) hP hD
  · rw [hm_e_O (I := hm_put I a k x) hs, hm_put_self, hm_fs_upd x hf]
  · simp only [hm_e, hm_put_ne I a k x hne]
theorem mr_iald {n : Nat} (C0 : Cx p s m args c cc nL Ts own D T) (hM : hm D T L A Sh I J H) (ha : a ∈ L) (hs : Sh a = kI n) {i : Int32} (hin : vp_in i n) {v : Int32} (hv : I a i.toNatClampNeg = v) (hdg : decode cc pc = .ok (.iaload, 1))
    (kk : W p l e R s m args below meth c H locs cells slots Qq (F0 m (pc + 1) ls (.int v :: rest))) : W p l e R s m args below meth c H locs cells slots Qq (F0 m pc ls (.int i :: .ref a :: rest)) := by
  obtain ⟨⟨hx, hb, hml, hown, hts⟩, hK, hN⟩ := C0
  obtain ⟨q, hq⟩ := hm_place (J := J) ha (hm_e_I (I := I) (J := J) (T := T) hs)
  subst hv
  exact va_iald hx hb hK hM.1 q 0 hq rfl hin hdg kk
theorem mr_ialdN {n : Nat} (C0 : Cx p s m args c cc nL Ts own D T) (hM : hm D T L A Sh I J H) (ha : a ∈ L) (hs : Sh a = kI n) (hn : n < 2 ^ 31) {j : Nat} (hj : j < n) {v : Int32} (hv : I a j = v) (hdg : decode cc pc = .ok (.iaload, 1))
    (kk : W p l e R s m args below meth c H locs cells slots Qq (F0 m (pc + 1) ls (.int v :: rest))) : W p l e R s m args below meth c H locs cells slots Qq (F0 m pc ls (.int (nI j) :: .ref a :: rest)) :=
  mr_iald C0 hM ha hs (vp_in_nI hj hn) (by rw [nI_clamp (by omega)]; exact hv) hdg kk
theorem mr_zaldN {n : Nat} (C0 : Cx p s m args c cc nL Ts own D T) (hM : hm D T L A Sh I J H) (ha : a ∈ L) (hs : Sh a = kZ n) (hn : n < 2 ^ 31) {j : Nat} (hj : j < n) {v : Int32} (hv : I a j = v) (hdg : decode cc pc = .ok (.baload, 1))
    (kk : W p l e R s m args below meth c H locs cells slots Qq (F0 m (pc + 1) ls (.int v :: rest))) : W p l e R s m args below meth c H locs cells slots Qq (F0 m pc ls (.int (nI j) :: .ref a :: rest)) := by
  obtain ⟨⟨hx, hb, hml, hown, hts⟩, hK, hN⟩ := C0
  obtain ⟨q, hq⟩ := hm_place (J := J) ha (hm_e_Z (I := I) (J := J) (T := T) hs)
  subst hv
  refine va_zald hx hb hK hM.1 q 1 hq rfl (vp_in_nI hj hn) hdg ?_
  rw [nI_clamp (by omega)]
  exact kk
theorem mr_iast {n : Nat} (C0 : Cx p s m args c cc nL Ts own D T) (hM : hm D T L A Sh I J H) (hS : va_S A H0 H locs) (ha : a ∈ L) (hs : Sh a = kI n) {i : Int32} (hin : vp_in i n) {x : Int32} (hdg : decode cc pc = .ok (.iastore, 1))
    (kk : ∀ (H1 : Heap) (locs1 : List Loc), hm D T L A Sh (hm_put I a i.toNatClampNeg x) J H1 → va_S A H0 H1 locs1 → W p l e R s m args below meth c H1 locs1 cells slots Qq (F0 m (pc + 1) ls rest)) : W p l e R s m args below meth c H locs cells slots Qq (F0 m pc ls (.int x :: .int i :: .ref a :: rest)) := by
  obtain ⟨⟨hx, hb, hml, hown, hts⟩, hK, hN⟩ := C0
  have e0 := hm_e_I (I := I) (J := J) (T := T) hs
  obtain ⟨q, hq⟩ := hm_place (J := J) ha e0
  refine va_iast hx hb hK hM.1 hM.2 hS q 0 hq rfl hin hdg (fun H1 locs1 hP hD hS1 => kk H1 locs1 ?_ hS1)
  refine hm_write hM ha e0 hq (x := .inl (T 0, n, .inl (upd (I a) i.toNatClampNeg x))) ?_ (fun b hne => ?_) hP hD
  · rw [hm_e_I (I := hm_put I a i.toNatClampNeg x) hs, hm_put_self]
  · simp only [hm_e, hm_put_ne I a i.toNatClampNeg x hne]
theorem mr_iastN {n : Nat} (C0 : Cx p s m args c cc nL Ts own D T) (hM : hm D T L A Sh I J H) (hS : va_S A H0 H locs) (ha : a ∈ L) (hs : Sh a = kI n) (hn : n < 2 ^ 31) {j : Nat} (hj : j < n) {x : Int32} (hdg : decode cc pc = .ok (.iastore, 1))
    (kk : ∀ (H1 : Heap) (locs1 : List Loc), hm D T L A Sh (hm_put I a j x) J H1 → va_S A H0 H1 locs1 → W p l e R s m args below meth c H1 locs1 cells slots Qq (F0 m (pc + 1) ls rest)) : W p l e R s m args below meth c H locs cells slots Qq (F0 m pc ls (.int x :: .int (nI j) :: .ref a :: rest)) :=
  mr_iast C0 hM hS ha hs (vp_in_nI hj hn) hdg (fun H1 locs1 hM1 hS1 => kk H1 locs1 (by rw [nI_clamp (by omega)] at hM1; exact hM1) hS1)
theorem mr_zastN {n : Nat} (C0 : Cx p s m args c cc nL Ts own D T) (hM : hm D T L A Sh I J H) (hS : va_S A H0 H locs) (ha : a ∈ L) (hs : Sh a = kZ n) (hn : n < 2 ^ 31) {j : Nat} (hj : j < n) {x : Int32} (hx1 : vp_nar .boolean x = x) (hdg : decode cc pc = .ok (.bastore, 1))
    (kk : ∀ (H1 : Heap) (locs1 : List Loc), hm D T L A Sh (hm_put I a j x) J H1 → va_S A H0 H1 locs1 → W p l e R s m args below meth c H1 locs1 cells slots Qq (F0 m (pc + 1) ls rest)) : W p l e R s m args below meth c H locs cells slots Qq (F0 m pc ls (.int x :: .int (nI j) :: .ref a :: rest)) := by
  obtain ⟨⟨hx, hb, hml, hown, hts⟩, hK, hN⟩ := C0
  have e0 := hm_e_Z (I := I) (J := J) (T := T) hs
  obtain ⟨q, hq⟩ := hm_place (J := J) ha e0
  refine va_zast hx hb hK hM.1 hM.2 hS q 1 hq rfl (vp_in_nI hj hn) hdg (fun H1 locs1 hP hD hS1 => kk H1 locs1 ?_ hS1)
  rw [nI_clamp (by omega), hx1] at hP hD
  refine hm_write hM ha e0 hq (x := .inl (T 1, n, .inl (upd (I a) j x))) ?_ (fun b hne => ?_) hP hD
  · rw [hm_e_Z (I := hm_put I a j x) hs, hm_put_self]
  · simp only [hm_e, hm_put_ne I a j x hne]
theorem mr_laldN {n : Nat} (C0 : Cx p s m args c cc nL Ts own D T) (hM : hm D T L A Sh I J H) (ha : a ∈ L) (hs : Sh a = kJ n) (hn : n < 2 ^ 31) {j : Nat} (hj : j < n) {v : Int64} (hv : J a j = v) (hdg : decode cc pc = .ok (.laload, 1))
    (kk : W p l e R s m args below meth c H locs cells slots Qq (F0 m (pc + 1) ls (.long v :: rest))) : W p l e R s m args below meth c H locs cells slots Qq (F0 m pc ls (.int (nI j) :: .ref a :: rest)) := by
  obtain ⟨⟨hx, hb, hml, hown, hts⟩, hK, hN⟩ := C0
  obtain ⟨q, hq⟩ := hm_place (J := J) ha (hm_e_J (I := I) (J := J) (T := T) hs)
  subst hv
  refine va_lald hx hb hK hM.1 q 2 hq rfl (vp_in_nI hj hn) hdg ?_
  rw [nI_clamp (by omega)]
  exact kk
def hm_putJ (J : hm_J) (a k : Nat) (x : Int64) : hm_J := va_up J a (vp_updL (J a) k x)
theorem hm_putJ_self (J : hm_J) (a k : Nat) (x : Int64) : hm_putJ J a k x a = vp_updL (J a) k x := va_up_self _ _ _
theorem hm_putJ_ne (J : hm_J) (a k : Nat) (x : Int64) {b : Nat} (h : b ≠ a) : hm_putJ J a k x b = J b := va_up_ne _ _ h
theorem mr_lastN {n : Nat} (C0 : Cx p s m args c cc nL Ts own D T) (hM : hm D T L A Sh I J H) (hS : va_S A H0 H locs) (ha : a ∈ L) (hs : Sh a = kJ n) (hn : n < 2 ^ 31) {j : Nat} (hj : j < n) {x : Int64} (hdg : decode cc pc = .ok (.lastore, 1))
    (kk : ∀ (H1 : Heap) (locs1 : List Loc), hm D T L A Sh I (hm_putJ J a j x) H1 → va_S A H0 H1 locs1 → W p l e R s m args below meth c H1 locs1 cells slots Qq (F0 m (pc + 1) ls rest)) : W p l e R s m args below meth c H locs cells slots Qq (F0 m pc ls (.long x :: .int (nI j) :: .ref a :: rest)) := by
  obtain ⟨⟨hx, hb, hml, hown, hts⟩, hK, hN⟩ := C0
  have e0 := hm_e_J (I := I) (J := J) (T := T) hs
  obtain ⟨q, hq⟩ := hm_place (J := J) ha e0
  refine va_last hx hb hK hM.1 hM.2 hS q 2 hq rfl (vp_in_nI hj hn) hdg (fun H1 locs1 hP hD hS1 => kk H1 locs1 ?_ hS1)
  rw [nI_clamp (by omega)] at hP hD
  refine hm_write hM ha e0 hq (x := .inl (T 2, n, .inr (.inl (vp_updL (J a) j x)))) ?_ (fun b hne => ?_) hP hD
  · rw [hm_e_J (J := hm_putJ J a j x) hs, hm_putJ_self]
  · simp only [hm_e, hm_putJ_ne J a j x hne]
theorem mr_alen {n : Nat} (C0 : Cx p s m args c cc nL Ts own D T) (hM : hm D T L A Sh I J H) (ha : a ∈ L) (hs : Sh a = kI n) (hdg : decode cc pc = .ok (.arraylength, 1))
    (kk : W p l e R s m args below meth c H locs cells slots Qq (F0 m (pc + 1) ls (.int (nI n) :: rest))) : W p l e R s m args below meth c H locs cells slots Qq (F0 m pc ls (.ref a :: rest)) := by
  obtain ⟨⟨hx, hb, hml, hown, hts⟩, hK, hN⟩ := C0
  obtain ⟨q, hq⟩ := hm_place (J := J) ha (hm_e_I (I := I) (J := J) (T := T) hs)
  exact va_alen hx hb hK hM.1 q 0 hq (ty := .int) rfl rfl hdg kk
theorem mr_alenJ {n : Nat} (C0 : Cx p s m args c cc nL Ts own D T) (hM : hm D T L A Sh I J H) (ha : a ∈ L) (hs : Sh a = kJ n) (hdg : decode cc pc = .ok (.arraylength, 1))
    (kk : W p l e R s m args below meth c H locs cells slots Qq (F0 m (pc + 1) ls (.int (nI n) :: rest))) : W p l e R s m args below meth c H locs cells slots Qq (F0 m pc ls (.ref a :: rest)) := by
  obtain ⟨⟨hx, hb, hml, hown, hts⟩, hK, hN⟩ := C0
  obtain ⟨q, hq⟩ := hm_place (J := J) ha (hm_e_J (I := I) (J := J) (T := T) hs)
  exact va_alen hx hb hK hM.1 q 2 hq (ty := .long) rfl rfl hdg kk
theorem mr_aald {t n : Nat} {f : Nat → Option Nat} {C : String} (C0 : Cx p s m args c cc nL Ts own D T) (hM : hm D T L A Sh I J H) (ha : a ∈ L) (hs : Sh a = kR t n f) (htt : (hm_tys T)[3 + t]? = some (T (3 + t), .object C)) (hn : n < 2 ^ 31) {j : Nat} (hj : j < n) {r : Nat} (hf : f j = some r) (hdg : decode cc pc = .ok (.aaload, 1))
    (kk : W p l e R s m args below meth c H locs cells slots Qq (F0 m (pc + 1) ls (.ref r :: rest))) : W p l e R s m args below meth c H locs cells slots Qq (F0 m pc ls (.int (nI j) :: .ref a :: rest)) := by
  obtain ⟨⟨hx, hb, hml, hown, hts⟩, hK, hN⟩ := C0
  obtain ⟨q, hq⟩ := hm_place (J := J) ha (hm_e_R (I := I) (J := J) (T := T) hs)
  refine va_aldq hx hb hK hM.1 q (3 + t) hq htt (vp_in_nI hj hn) hdg ?_
  rw [nI_clamp (by omega), hf]
  exact kk
/-! branches over numbers and truth values -/
def bI (b : Bool) : Int32 := if b = true then 1 else 0
theorem bI_0 {b : Bool} (h : bI b = 0) : b = false := by cases b <;> first | rfl | exact absurd h (by decide)
theorem bI_1 {b : Bool} (h : ¬ bI b = 0) : b = true := by cases b <;> first | rfl | exact absurd rfl h
theorem bI_and (x y : Bool) : bI x &&& bI y = bI (x && y) := by cases x <;> cases y <;> decide
theorem mr_eqB {b : Bool} {off : Int} {tgt : Nat} (C0 : Cx p s m args c cc nL Ts own D T) (hdg : decode cc pc = .ok (.ifCond .eq off, 3)) (ht : (pc : Int) + off = (tgt : Int))
    (kt : b = false → W p l e R s m args below meth c H locs cells slots Qq (F0 m tgt ls rest)) (kf : b = true → W p l e R s m args below meth c H locs cells slots Qq (F0 m (pc + 3) ls rest)) : W p l e R s m args below meth c H locs cells slots Qq (F0 m pc ls (.int (bI b) :: rest)) :=
  lv_if_eq C0.1.1 C0.1.2.1 hdg ht (fun h => kt (bI_0 h)) (fun h => kf (bI_1 h))
theorem mr_neB {b : Bool} {off : Int} {tgt : Nat} (C0 : Cx p s m args c cc nL Ts own D T) (hdg : decode cc pc = .ok (.ifCond .ne off, 3)) (ht : (pc : Int) + off = (tgt : Int))
    (kt : b = true → W p l e R s m args below meth c H locs cells slots Qq (F0 m tgt ls rest)) (kf : b = false → W p l e R s m args below meth c H locs cells slots Qq (F0 m (pc + 3) ls rest)) : W p l e R s m args below meth c H locs cells slots Qq (F0 m pc ls (.int (bI b) :: rest)) :=
  lv_if_ne C0.1.1 C0.1.2.1 hdg ht (fun h => kt (bI_1 h)) (fun h => kf (bI_0 h))
theorem mr_geN {x y : Nat} {off : Int} {tgt : Nat} (C0 : Cx p s m args c cc nL Ts own D T) (hdg : decode cc pc = .ok (.if_icmp .ge off, 3)) (ht : (pc : Int) + off = (tgt : Int)) (hx : x < 2 ^ 31) (hy : y < 2 ^ 31)
    (kt : y ≤ x → W p l e R s m args below meth c H locs cells slots Qq (F0 m tgt ls rest)) (kf : x < y → W p l e R s m args below meth c H locs cells slots Qq (F0 m (pc + 3) ls rest)) : W p l e R s m args below meth c H locs cells slots Qq (F0 m pc ls (.int (nI y) :: .int (nI x) :: rest)) :=
  lv_icmp_ge C0.1.1 C0.1.2.1 hdg ht (fun h => kt ((nI_leI hy hx).mp h)) (fun h => kf (Nat.not_le.mp (fun q => h ((nI_leI hy hx).mpr q))))
theorem mr_gtN {x y : Nat} {off : Int} {tgt : Nat} (C0 : Cx p s m args c cc nL Ts own D T) (hdg : decode cc pc = .ok (.if_icmp .gt off, 3)) (ht : (pc : Int) + off = (tgt : Int)) (hx : x < 2 ^ 31) (hy : y < 2 ^ 31)
    (kt : y < x → W p l e R s m args below meth c H locs cells slots Qq (F0 m tgt ls rest)) (kf : x ≤ y → W p l e R s m args below meth c H locs cells slots Qq (F0 m (pc + 3) ls rest)) : W p l e R s m args below meth c H locs cells slots Qq (F0 m pc ls (.int (nI y) :: .int (nI x) :: rest)) :=
  lv_icmp_gt C0.1.1 C0.1.2.1 hdg ht (fun h => kt ((nI_ltI hy hx).mp h)) (fun h => kf (Nat.not_lt.mp (fun q => h ((nI_ltI hy hx).mpr q))))
theorem mr_ltN {x y : Nat} {off : Int} {tgt : Nat} (C0 : Cx p s m args c cc nL Ts own D T) (hdg : decode cc pc = .ok (.if_icmp .lt off, 3)) (ht : (pc : Int) + off = (tgt : Int)) (hx : x < 2 ^ 31) (hy : y < 2 ^ 31)
    (kt : x < y → W p l e R s m args below meth c H locs cells slots Qq (F0 m tgt ls rest)) (kf : y ≤ x → W p l e R s m args below meth c H locs cells slots Qq (F0 m (pc + 3) ls rest)) : W p l e R s m args below meth c H locs cells slots Qq (F0 m pc ls (.int (nI y) :: .int (nI x) :: rest)) :=
  lv_icmp_lt C0.1.1 C0.1.2.1 hdg ht (fun h => kt ((nI_ltI hx hy).mp h)) (fun h => kf (Nat.not_lt.mp (fun q => h ((nI_ltI hx hy).mpr q))))
theorem mr_leN {x y : Nat} {off : Int} {tgt : Nat} (C0 : Cx p s m args c cc nL Ts own D T) (hdg : decode cc pc = .ok (.if_icmp .le off, 3)) (ht : (pc : Int) + off = (tgt : Int)) (hx : x < 2 ^ 31) (hy : y < 2 ^ 31)
    (kt : x ≤ y → W p l e R s m args below meth c H locs cells slots Qq (F0 m tgt ls rest)) (kf : y < x → W p l e R s m args below meth c H locs cells slots Qq (F0 m (pc + 3) ls rest)) : W p l e R s m args below meth c H locs cells slots Qq (F0 m pc ls (.int (nI y) :: .int (nI x) :: rest)) :=
  lv_icmp_le C0.1.1 C0.1.2.1 hdg ht (fun h => kt ((nI_leI hx hy).mp h)) (fun h => kf (Nat.not_le.mp (fun q => h ((nI_leI hx hy).mpr q))))
theorem mr_eqN {x y : Nat} {off : Int} {tgt : Nat} (C0 : Cx p s m args c cc nL Ts own D T) (hdg : decode cc pc = .ok (.if_icmp .eq off, 3)) (ht : (pc : Int) + off = (tgt : Int)) (hx : x < 2 ^ 31) (hy : y < 2 ^ 31)
    (kt : x = y → W p l e R s m args below meth c H locs cells slots Qq (F0 m tgt ls rest)) (kf : x ≠ y → W p l e R s m args below meth c H locs cells slots Qq (F0 m (pc + 3) ls rest)) : W p l e R s m args below meth c H locs cells slots Qq (F0 m pc ls (.int (nI y) :: .int (nI x) :: rest)) :=
  lv_icmp_eq C0.1.1 C0.1.2.1 hdg ht (fun h => kt ((nI_eq hx hy).mp h)) (fun h => kf (fun q => h ((nI_eq hx hy).mpr q)))
theorem mr_neN {x y : Nat} {off : Int} {tgt : Nat} (C0 : Cx p s m args c cc nL Ts own D T) (hdg : decode cc pc = .ok (.if_icmp .ne off, 3)) (ht : (pc : Int) + off = (tgt : Int)) (hx : x < 2 ^ 31) (hy : y < 2 ^ 31)
    (kt : x ≠ y → W p l e R s m args below meth c H locs cells slots Qq (F0 m tgt ls rest)) (kf : x = y → W p l e R s m args below meth c H locs cells slots Qq (F0 m (pc + 3) ls rest)) : W p l e R s m args below meth c H locs cells slots Qq (F0 m pc ls (.int (nI y) :: .int (nI x) :: rest)) :=
  lv_icmp_ne C0.1.1 C0.1.2.1 hdg ht (fun h => kt (fun q => h ((nI_eq hx hy).mpr q))) (fun h => kf ((nI_eq hx hy).mp h))
theorem mr_eq0N {x : Nat} {off : Int} {tgt : Nat} (C0 : Cx p s m args c cc nL Ts own D T) (hdg : decode cc pc = .ok (.ifCond .eq off, 3)) (ht : (pc : Int) + off = (tgt : Int)) (hx : x < 2 ^ 31)
    (kt : x = 0 → W p l e R s m args below meth c H locs cells slots Qq (F0 m tgt ls rest)) (kf : 0 < x → W p l e R s m args below meth c H locs cells slots Qq (F0 m (pc + 3) ls rest)) : W p l e R s m args below meth c H locs cells slots Qq (F0 m pc ls (.int (nI x) :: rest)) :=
  lv_if_eq C0.1.1 C0.1.2.1 hdg ht (fun h => kt (Classical.byContradiction (fun q => nI_ne0 (Nat.pos_of_ne_zero q) hx h))) (fun h => kf (Nat.pos_of_ne_zero (fun q => h (by rw [q]; rfl))))
theorem mr_ne0N {x : Nat} {off : Int} {tgt : Nat} (C0 : Cx p s m args c cc nL Ts own D T) (hdg : decode cc pc = .ok (.ifCond .ne off, 3)) (ht : (pc : Int) + off = (tgt : Int)) (hx : x < 2 ^ 31)
    (kt : 0 < x → W p l e R s m args below meth c H locs cells slots Qq (F0 m tgt ls rest)) (kf : x = 0 → W p l e R s m args below meth c H locs cells slots Qq (F0 m (pc + 3) ls rest)) : W p l e R s m args below meth c H locs cells slots Qq (F0 m pc ls (.int (nI x) :: rest)) :=
  lv_if_ne C0.1.1 C0.1.2.1 hdg ht (fun h => kt (Nat.pos_of_ne_zero (fun q => h (by rw [q]; rfl)))) (fun h => kf (Classical.byContradiction (fun q => nI_ne0 (Nat.pos_of_ne_zero q) hx h)))
theorem mr_le0N {x : Nat} {off : Int} {tgt : Nat} (C0 : Cx p s m args c cc nL Ts own D T) (hdg : decode cc pc = .ok (.ifCond .le off, 3)) (ht : (pc : Int) + off = (tgt : Int)) (hx : x < 2 ^ 31)
    (kt : x = 0 → W p l e R s m args below meth c H locs cells slots Qq (F0 m tgt ls rest)) (kf : 0 < x → W p l e R s m args below meth c H locs cells slots Qq (F0 m (pc + 3) ls rest)) : W p l e R s m args below meth c H locs cells slots Qq (F0 m pc ls (.int (nI x) :: rest)) :=
  lv_if_le C0.1.1 C0.1.2.1 hdg ht (fun h => kt (Classical.byContradiction (fun q => nI_nle (Nat.pos_of_ne_zero q) hx h))) (fun h => kf (Nat.pos_of_ne_zero (fun q => h (by rw [q]; decide))))
theorem mr_gt0N {x : Nat} {off : Int} {tgt : Nat} (C0 : Cx p s m args c cc nL Ts own D T) (hdg : decode cc pc = .ok (.ifCond .gt off, 3)) (ht : (pc : Int) + off = (tgt : Int)) (hx : x < 2 ^ 31)
    (kt : 0 < x → W p l e R s m args below meth c H locs cells slots Qq (F0 m tgt ls rest)) (kf : x = 0 → W p l e R s m args below meth c H locs cells slots Qq (F0 m (pc + 3) ls rest)) : W p l e R s m args below meth c H locs cells slots Qq (F0 m pc ls (.int (nI x) :: rest)) :=
  lv_if_gt C0.1.1 C0.1.2.1 hdg ht (fun h => kt (Nat.pos_of_ne_zero (fun q => by rw [q] at h; exact absurd h (by decide)))) (fun h => kf (Classical.byContradiction (fun q => h (by have := nI_lt (Nat.pos_of_ne_zero q) hx; exact this))))
/-- the top of the stack by another name -/
theorem mr_top {x y : Int32} (h : x = y) (kk : W p l e R s m args below meth c H locs cells slots Qq (F0 m pc ls (.int y :: rest))) : W p l e R s m args below meth c H locs cells slots Qq (F0 m pc ls (.int x :: rest)) := by rw [h]; exact kk
theorem mr_topl {x y : Int64} (h : x = y) (kk : W p l e R s m args below meth c H locs cells slots Qq (F0 m pc ls (.long y :: rest))) : W p l e R s m args below meth c H locs cells slots Qq (F0 m pc ls (.long x :: rest)) := by rw [h]; exact kk
theorem mr_iaddN {x y z : Nat} (C0 : Cx p s m args c cc nL Ts own D T) (hz : x + y = z) (hdg : decode cc pc = .ok (.iadd, 1)) (kk : W p l e R s m args below meth c H locs cells slots Qq (F0 m (pc + 1) ls (.int (nI z) :: rest))) : W p l e R s m args below meth c H locs cells slots Qq (F0 m pc ls (.int (nI y) :: .int (nI x) :: rest)) :=
  lv_iadd C0.1.1 C0.1.2.1 hdg (mr_top (by rw [nI_add, hz]) kk)
theorem mr_imulN {x y z : Nat} (C0 : Cx p s m args c cc nL Ts own D T) (hz : x * y = z) (hdg : decode cc pc = .ok (.imul, 1)) (kk : W p l e R s m args below meth c H locs cells slots Qq (F0 m (pc + 1) ls (.int (nI z) :: rest))) : W p l e R s m args below meth c H locs cells slots Qq (F0 m pc ls (.int (nI y) :: .int (nI x) :: rest)) :=
  lv_imul C0.1.1 C0.1.2.1 hdg (mr_top (by rw [pk_mul, hz]) kk)
theorem mr_isubN {x y z : Nat} (C0 : Cx p s m args c cc nL Ts own D T) (hz : x = z + y) (hdg : decode cc pc = .ok (.isub, 1)) (kk : W p l e R s m args below meth c H locs cells slots Qq (F0 m (pc + 1) ls (.int (nI z) :: rest))) : W p l e R s m args below meth c H locs cells slots Qq (F0 m pc ls (.int (nI y) :: .int (nI x) :: rest)) :=
  lv_isub C0.1.1 C0.1.2.1 hdg (mr_top (by rw [pk_sub (by omega), hz, Nat.add_sub_cancel]) kk)
/-! ends -/
theorem mr_iret {v : Int32} {V : Option Value} {Q : Heap → Prop} {mc ms : Nat} (C0 : Cx p s m args c cc nL Ts own D T) (hr : meth.sig.returnType = some .int) (hlk : meth.locks = false) (hQ : Qq = MQ below (CtQ A V Q) args s mc ms A) (hS : va_S A s.heap H locs) (hv : some (.int v) = V) (hq : Q H) (hc : cells ≤ mc) (hs : slots ≤ ms) (hdg : decode cc pc = .ok (.ireturn, 1)) :
    W p l e R s m args below meth c H locs cells slots Qq (F0 m pc ls [.int v]) := by
  subst hQ
  subst hv
  refine W.widen hc hs ?_
  exact W.iret C0.1.1 C0.1.2.1 hr (fun t ht hW => ⟨rfl, by rw [ht]; exact hq, hS.F ht⟩) hS.2.2 hdg hlk
theorem mr_zret {b : Bool} {V : Option Value} {Q : Heap → Prop} {mc ms : Nat} (C0 : Cx p s m args c cc nL Ts own D T) (hr : meth.sig.returnType = some .boolean) (hlk : meth.locks = false) (hQ : Qq = MQ below (CtQ A V Q) args s mc ms A) (hS : va_S A s.heap H locs) (hv : some (.int (bI b)) = V) (hq : Q H) (hc : cells ≤ mc) (hs : slots ≤ ms) (hdg : decode cc pc = .ok (.ireturn, 1)) :
    W p l e R s m args below meth c H locs cells slots Qq (F0 m pc ls [.int (bI b)]) := by
  subst hQ
  subst hv
  refine W.widen hc hs ?_
  exact W.zret C0.1.1 C0.1.2.1 hr (by cases b <;> rfl) (fun t ht hW => ⟨rfl, by rw [ht]; exact hq, hS.F ht⟩) hS.2.2 hdg hlk
theorem mr_lret {v : Int64} {V : Option Value} {Q : Heap → Prop} {mc ms : Nat} (C0 : Cx p s m args c cc nL Ts own D T) (hr : meth.sig.returnType = some .long) (hlk : meth.locks = false) (hQ : Qq = MQ below (CtQ A V Q) args s mc ms A) (hS : va_S A s.heap H locs) (hv : some (.long v) = V) (hq : Q H) (hc : cells ≤ mc) (hs : slots ≤ ms) (hdg : decode cc pc = .ok (.lreturn, 1)) :
    W p l e R s m args below meth c H locs cells slots Qq (F0 m pc ls [.long v]) := by
  subst hQ
  subst hv
  refine W.widen hc hs ?_
  exact W.lret C0.1.1 C0.1.2.1 hr (fun t ht hW => ⟨rfl, by rw [ht]; exact hq, hS.F ht⟩) hS.2.2 hdg hlk
theorem mr_aret {v : Nat} {C : String} {V : Option Value} {Q : Heap → Prop} {mc ms : Nat} (C0 : Cx p s m args c cc nL Ts own D T) (hr : meth.sig.returnType = some (.object C)) (hlk : meth.locks = false) (hQ : Qq = MQ below (CtQ A V Q) args s mc ms A) (hS : va_S A s.heap H locs) (hv : some (.ref v) = V) (hq : Q H) (hc : cells ≤ mc) (hs : slots ≤ ms) (hdg : decode cc pc = .ok (.areturn, 1)) :
    W p l e R s m args below meth c H locs cells slots Qq (F0 m pc ls [.ref v]) := by
  subst hQ
  subst hv
  refine W.widen hc hs ?_
  exact W.aret C0.1.1 C0.1.2.1 hr (Or.inl ⟨C, rfl⟩) (Or.inr ⟨v, rfl⟩) (fun t ht hW => ⟨rfl, by rw [ht]; exact hq, hS.F ht⟩) hS.2.2 hdg hlk
theorem mr_vret {V : Option Value} {Q : Heap → Prop} {mc ms : Nat} (C0 : Cx p s m args c cc nL Ts own D T) (hr : meth.sig.returnType = none) (hlk : meth.locks = false) (hQ : Qq = MQ below (CtQ A V Q) args s mc ms A) (hS : va_S A s.heap H locs) (hv : none = V) (hq : Q H) (hc : cells ≤ mc) (hs : slots ≤ ms) (hdg : decode cc pc = .ok (.return_, 1)) :
    W p l e R s m args below meth c H locs cells slots Qq (F0 m pc ls []) := by
  subst hQ
  subst hv
  refine W.widen hc hs ?_
  exact W.vret C0.1.1 C0.1.2.1 hr (fun t ht hW => ⟨rfl, by rw [ht]; exact hq, hS.F ht⟩) hS.2.2 hdg hlk
/-! calls -/
theorem ct_blind {av : List Value} {P : Heap → Prop} : FrameBlind (va_Pc av (fun U => P U.heap ∧ Kx D T U)) := fun a U g mk q => ⟨q.1, q.2.1, Kx.same (u := U) rfl q.2.2⟩
theorem mr_back {v : Option Value} {P Q : Heap → Prop} {mc ms : Nat} {st0 st1 : List Value} {A1 : Nat → Prop} (hr : va_Run p l e R s m args below meth c H locs cells slots mc ms (F0 m pc ls st0) rest (CtQ A v Q args) A1) (hA : A1 = A) (hS : va_S A H0 H locs) (hst : v.toList ++ rest = st1)
    (kk : ∀ (H1 : Heap) (locs1 : List Loc), Q H1 → va_S A H0 H1 locs1 → W p l e R s m args below meth c H1 locs1 (cells + mc) (slots + ms) Qq (F0 m (pc + 3) ls st1)) : W p l e R s m args below meth c H locs cells slots Qq (F0 m pc ls st0) := by
  subst hA
  intro Ts0 hT X
  obtain ⟨v', st₀, t, T', L', h0, X', hL, e1, e2, ⟨hv, hq, hz, hk⟩, st⟩ := hr Ts0 hT X
  cases hv
  rw [h0] at hz hk
  obtain ⟨t2, a1, b1⟩ := kk T'.heap (locs ++ L') (by rw [e1]; exact hq)
    ⟨Nat.le_trans hS.1 (by rw [e1]; exact hz), fun q h1 h2 => by rw [e1, hk q (Nat.lt_of_lt_of_le h1 hS.1) h2]; exact hS.2.1 q h1 h2, fun q hq => by
      rcases List.mem_append.mp hq with h | h
      · exact hS.2.2 q h
      · exact hL q h⟩ T' rfl X'
  rw [← hst] at a1
  exact ⟨t2, st t2 a1, b1⟩
theorem CtQ_args {v : Option Value} {Q : Heap → Prop} {a1 : Array Value} : CtQ A v Q a1 = CtQ A v Q args := rfl
theorem mr_callV {y : MethodName} {bytes : ByteArray} {maxL n index mc ms : Nat} {ret : Option FieldType} {ws : List Cond} {rm : Room} {C : String} {b : Nat} {As : List Value} {st0 st1 : List Value} {v : Option Value} {P Q : Heap → Prop} {ci : Nat} {fs : List (Option (Option Nat))} {q : vw_C}
    (C0 : Cx p s m args c cc nL Ts own D T) (hc : Ct l y ws rm mc ms D T A (.ref b :: As) P v Q) (cw : CallW R s args own C index y bytes maxL ret ws rm mc ms n) (hM : hm D T L A Sh I J H) (hb : b ∈ L) (hs : Sh b = kO ci fs) (hq : vwCl[ci]? = some q) (hC : q.1 = C) (hP : P H) (hS : va_S A H0 H locs)
    (hst0 : st0 = As.reverse ++ .ref b :: rest) (hst : v.toList ++ rest = st1) (hn : As.length = n) (hsz : ls.size = nL) (hr : (rest.map fun v => v.category).sum ≤ 8) (hdg : decode cc pc = .ok (.invokevirtual index, 3)) (hf : cells + mc ≤ R.cells ∧ slots + ms ≤ R.slots)
    (kk : ∀ (H1 : Heap) (locs1 : List Loc), Q H1 → va_S A H0 H1 locs1 → W p l e R s m args below meth c H1 locs1 (cells + mc) (slots + ms) Qq (F0 m (pc + 3) ls st1)) : W p l e R s m args below meth c H locs cells slots Qq (F0 m pc ls st0) := by
  subst hC
  obtain ⟨k, hk⟩ := hm_place (J := J) hb (hm_e_O (I := I) (J := J) (T := T) hs)
  have hrecv := va_recv C0.2.1 hM.1 hq hk
  exact mr_back (P := P) (va_runV (As := As) (rest := rest) C0.1 hc cw ⟨ct_blind, hrecv, fun U hU hW => ⟨rfl, by rw [hU]; exact hP, Kx.warm hW C0.2⟩⟩ rfl hn hsz hst0 (lv_room hr) hdg hf) rfl hS hst kk
theorem mr_callS {y : MethodName} {bytes : ByteArray} {maxL n index mc ms : Nat} {ret : Option FieldType} {ws : List Cond} {rm : Room} {As : List Value} {st0 st1 : List Value} {v : Option Value} {P Q : Heap → Prop}
    (C0 : Cx p s m args c cc nL Ts own D T) (hc : Ct l y ws rm mc ms D T A As P v Q) (cw : CallB R s args own index y bytes maxL ret ws rm mc ms n ∧ (Cond.static y).before args s = true) (hP : P H) (hS : va_S A H0 H locs)
    (hst0 : st0 = As.reverse ++ rest) (hst : v.toList ++ rest = st1) (hn : As.length = n) (hsz : ls.size = nL) (hr : (rest.map fun v => v.category).sum ≤ 8) (hdg : decode cc pc = .ok (.invokestatic index, 3)) (hf : cells + mc ≤ R.cells ∧ slots + ms ≤ R.slots)
    (kk : ∀ (H1 : Heap) (locs1 : List Loc), Q H1 → va_S A H0 H1 locs1 → W p l e R s m args below meth c H1 locs1 (cells + mc) (slots + ms) Qq (F0 m (pc + 3) ls st1)) : W p l e R s m args below meth c H locs cells slots Qq (F0 m pc ls st0) :=
  mr_back (P := P) (va_runS (As := As) (rest := rest) C0.1 hc cw ⟨ct_blind, fun U hU hW => ⟨rfl, by rw [hU]; exact hP, Kx.warm hW C0.2⟩⟩ rfl hn hsz hst0 (lv_room hr) hdg hf) rfl hS hst kk
theorem mr_callSN {y : MethodName} {host : String} {bytes : ByteArray} {maxL n index mc ms : Nat} {ret : Option FieldType} {ws : List Cond} {rm : Room} {As : List Value} {st0 st1 : List Value} {v : Option Value} {P Q : Heap → Prop}
    (C0 : Cx p s m args c cc nL Ts own D T) (hc : Ct l y ws rm mc ms D T A As P v Q) (cw : va_CN R s args own index y host bytes maxL ret ws rm mc ms n) (hstat : (Cond.static y).before args s = true) (hP : P H) (hS : va_S A H0 H locs)
    (hst0 : st0 = As.reverse ++ rest) (hst : v.toList ++ rest = st1) (hn : As.length = n) (hsz : ls.size = nL) (hr : (rest.map fun v => v.category).sum ≤ 8) (hdg : decode cc pc = .ok (.invokestatic index, 3)) (hf : cells + mc ≤ R.cells ∧ slots + ms ≤ R.slots)
    (kk : ∀ (H1 : Heap) (locs1 : List Loc), Q H1 → va_S A H0 H1 locs1 → W p l e R s m args below meth c H1 locs1 (cells + mc) (slots + ms) Qq (F0 m (pc + 3) ls st1)) : W p l e R s m args below meth c H locs cells slots Qq (F0 m pc ls st0) :=
  mr_back (P := P) (va_runSN (As := As) (rest := rest) C0.1 hc ⟨cw, hstat, trivial⟩ ⟨ct_blind, fun U hU hW => ⟨rfl, by rw [hU]; exact hP, Kx.warm hW C0.2⟩⟩ rfl hn hsz hst0 (lv_room hr) hdg hf) rfl hS hst kk
end HR
/-! loops: n rounds of f, from the first (0) on -/
def lp {σ : Type} : Nat → (Nat → σ → σ) → σ → σ
  | 0, _, x => x
  | n + 1, f, x => f n (lp n f x)
theorem lp_0 {σ : Type} (f : Nat → σ → σ) (x : σ) : lp 0 f x = x := rfl
theorem lp_s {σ : Type} (n : Nat) (f : Nat → σ → σ) (x : σ) : lp (n + 1) f x = f n (lp n f x) := rfl
theorem lp_cong {σ : Type} {n : Nat} {f g : Nat → σ → σ} {x y : σ} (hx : x = y) (h : ∀ i z, i < n → f i z = g i z) : lp n f x = lp n g y := by
  subst hx
  induction n with
  | zero => rfl
  | succ n ih => rw [lp_s, lp_s, ih (fun i z hi => h i z (by omega)), h n _ (by omega)]
theorem lp_inv {σ : Type} {n : Nat} {f : Nat → σ → σ} {x : σ} (P : Nat → σ → Prop) (h0 : P 0 x) (hs : ∀ i z, i < n → P i z → P (i + 1) (f i z)) : P n (lp n f x) := by
  induction n with
  | zero => exact h0
  | succ n ih => exact hs n _ (by omega) (ih (fun i z hi => hs i z (by omega)))
theorem lp_loop {σ : Type} (P : Nat → σ → Prop) (n : Nat) (f : Nat → σ → σ) (x0 : σ) (Inv : Nat → σ → Prop) (h0 : Inv 0 x0) (hi : ∀ i x, i < n → Inv i x → Inv (i + 1) (f i x)) (hs : ∀ i x, i < n → Inv i x → P (i + 1) (f i x) → P i x) (hx : Inv n (lp n f x0) → P n (lp n f x0)) : P 0 x0 := by
  have key : ∀ k, k ≤ n → Inv k (lp k f x0) := by
    intro k
    induction k with
    | zero => exact fun _ => h0
    | succ k ih => exact fun hk => hi k _ hk (ih (by omega))
  have down : ∀ d, d ≤ n → P (n - d) (lp (n - d) f x0) := by
    intro d
    induction d with
    | zero => exact fun _ => hx (key n (Nat.le_refl n))
    | succ d ih =>
      intro hd
      have h1 := ih (by omega)
      have e : n - d = (n - (d + 1)) + 1 := by omega
      rw [e] at h1
      exact hs _ _ (by omega) (key _ (by omega)) h1
  have := down n (Nat.le_refl n)
  rwa [Nat.sub_self] at this
/-- rounds with an end before the time: g answers an end (inl) or goes on (inr); d behind the last round -/
def lpr {σ ρ : Type} (g : Nat → σ → ρ ⊕ σ) (d : σ → ρ) : Nat → Nat → σ → ρ
  | 0, _, x => d x
  | n + 1, i, x => match g i x with
    | .inl v => v
    | .inr y => lpr g d n (i + 1) y
theorem lpr_0 {σ ρ : Type} (g : Nat → σ → ρ ⊕ σ) (d : σ → ρ) (i : Nat) (x : σ) : lpr g d 0 i x = d x := rfl
theorem lpr_l {σ ρ : Type} {g : Nat → σ → ρ ⊕ σ} {d : σ → ρ} {n i : Nat} {x : σ} {v : ρ} (h : g i x = .inl v) : lpr g d (n + 1) i x = v := by simp [lpr, h]
theorem lpr_r {σ ρ : Type} {g : Nat → σ → ρ ⊕ σ} {d : σ → ρ} {n i : Nat} {x y : σ} (h : g i x = .inr y) : lpr g d (n + 1) i x = lpr g d n (i + 1) y := by simp [lpr, h]
theorem lpr_loop {σ ρ : Type} (P : Nat → σ → Prop) (n : Nat) (g : Nat → σ → ρ ⊕ σ) (d : σ → ρ) (x0 : σ) (Inv : Nat → σ → Prop) (h0 : Inv 0 x0) (hi : ∀ i x y, i < n → Inv i x → g i x = .inr y → Inv (i + 1) y)
    (hs : ∀ i x, i < n → Inv i x → (∀ v, g i x = .inl v → v = lpr g d n 0 x0) → (∀ y, g i x = .inr y → P (i + 1) y) → P i x) (hx : ∀ x, Inv n x → d x = lpr g d n 0 x0 → P n x) : P 0 x0 := by
  have key : ∀ r i x, i + r = n → Inv i x → lpr g d r i x = lpr g d n 0 x0 → P i x := by
    intro r
    induction r with
    | zero =>
      intro i x hir hv hf
      have : i = n := by omega
      subst this
      exact hx x hv hf
    | succ r ih =>
      intro i x hir hv hf
      refine hs i x (by omega) hv (fun v hg => ?_) (fun y hg => ?_)
      · rw [← hf, lpr_l hg]
      · exact ih (i + 1) y (by omega) (hi i x y (by omega) hv hg) (by rw [← hf, lpr_r hg])
  exact key n 0 x0 (by omega) h0 rfl
