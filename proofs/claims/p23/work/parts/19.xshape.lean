section HR2
variable {p : Program} {l : Launch} {e : Env} {R : Room} {s : State} {m : MethodId} {args : Array Value} {below : List Frame} {meth : Method} {c : Code} {H : Heap} {locs : List Loc} {cells slots : Nat} {Qq : State → Prop}
variable {cc : ByteArray} {nL : Nat} {Ts : List Cond} {own : String} {D : va_G} {T : Nat → ClassId} {L : List Nat} {A : Nat → Prop} {Sh : hm_S} {I : hm_I} {J : hm_J} {pc : Nat} {ls : Array Slot} {rest : List Value} {a : Nat} {H0 : Heap}
theorem hm_e_up (b : Nat) (k : hm_K) {x : Nat} (h : x ≠ b) : hm_e T (va_up Sh b k) I J x = hm_e T Sh I J x := by simp only [hm_e, va_up_ne Sh k h]
theorem mr_aast {t n : Nat} {f : Nat → Option Nat} {r : vw_C} {v ci : Nat} {fs : List (Option (Option Nat))} (C0 : Cx p s m args c cc nL Ts own D T) (hM : hm D T L A Sh I J H) (hS : va_S A H0 H locs) (ha : a ∈ L) (hs : Sh a = kR t n f) (htt : (hm_tys T)[3 + t]? = some (T (3 + t), .object r.1)) (hv : v ∈ L) (hvs : Sh v = kO ci fs) (hr : vwCl[ci]? = some r) (hn : n < 2 ^ 31) {j : Nat} (hj : j < n) (hdg : decode cc pc = .ok (.aastore, 1))
    (kk : ∀ (H1 : Heap) (locs1 : List Loc), hm D T L A (va_up Sh a (kR t n (va_up f j (some v)))) I J H1 → va_S A H0 H1 locs1 → W p l e R s m args below meth c H1 locs1 cells slots Qq (F0 m (pc + 1) ls rest)) : W p l e R s m args below meth c H locs cells slots Qq (F0 m pc ls (.ref v :: .int (nI j) :: .ref a :: rest)) := by
  obtain ⟨⟨hx, hb, hml, hown, hts⟩, hK, hN⟩ := C0
  have e0 := hm_e_R (I := I) (J := J) (T := T) hs
  obtain ⟨q, hq⟩ := hm_place (J := J) ha e0
  obtain ⟨q2, hq2⟩ := hm_place (J := J) hv (hm_e_O (I := I) (J := J) (T := T) hvs)
  refine va_astq hx hb hK hM.1 hM.2 hS q (3 + t) q2 ci hq htt hq2 hr (vp_in_nI hj hn) hdg (fun H1 locs1 hP hD hS1 => kk H1 locs1 ?_ hS1)
  rw [nI_clamp (by omega)] at hP hD
  refine hm_write hM ha e0 hq (x := .inl (T (3 + t), n, .inr (.inr (.inr (.inr (va_up f j (some v))))))) ?_ (fun b hne => hm_e_up a _ hne) hP hD
  exact hm_e_R (Sh := va_up Sh a (kR t n (va_up f j (some v)))) (va_up_self _ _ _)
theorem mr_putr {C : String} {TT : u_T} {N ci index : Nat} {F : String} (C0 : Cx p s m args c cc nL Ts own D T) (hin : ∀ w ∈ u_ws C TT N, w ∈ Ts) (ty0 : Nat → FieldType) (hty : ∀ k, k < N → parseFieldDescriptor (TT k).2.2.1 = some (ty0 k)) (hnm : ∀ a, a < N → ∀ b, b < N → a ≠ b → (TT a).2.1 ≠ (TT b).2.1) (hM : hm D T L A Sh I J H) (hS : va_S A H0 H locs) {fs : List (Option (Option Nat))} (ha : a ∈ L) (hs : Sh a = kO ci fs) (hc : vwCl[ci]? = some (C, TT, N)) (k : Nat) (hk : k < N) {v0 : Option Nat} (hf : fs[k]? = some (some v0)) {v : Nat}
    (hlink : Cond.fieldLink own index C (TT k).2.1 (TT k).2.2.1 ∈ Ts) (hCC : (TT k).1 = C) (hfin : (TT k).2.2.2 = false) (hd : parseFieldDescriptor (TT k).2.2.1 = some (.object F)) (hdg : decode cc pc = .ok (.putfield index, 3))
    (kk : ∀ (H1 : Heap) (locs1 : List Loc), hm D T L A (va_up Sh a (kO ci (fs.set k (some (some v))))) I J H1 → va_S A H0 H1 locs1 → W p l e R s m args below meth c H1 locs1 cells slots Qq (F0 m (pc + 3) ls rest)) : W p l e R s m args below meth c H locs cells slots Qq (F0 m pc ls (.ref v :: .ref a :: rest)) := by
  obtain ⟨⟨hx, hb, hml, hown, hts⟩, hK, hN⟩ := C0
  have e0 := hm_e_O (I := I) (J := J) (T := T) hs
  obtain ⟨q, hq⟩ := hm_place (J := J) ha e0
  have hl : k < (hm_fs fs (I a)).length := by rw [hm_fs_len]; exact (List.getElem?_eq_some_iff.mp hf).1
  refine va_put (v := .ref v) hx hb hts hin ty0 hty hnm hown hK hM.1 hM.2 hS q hq hc k hk (hts _ hlink) (fun _ h => by rw [hCC] at h; exact h) hfin hd rfl rfl hl hdg (fun H1 locs1 hP hD hS1 => kk H1 locs1 ?_ hS1)
  refine hm_write hM ha e0 hq (x := .inr (ci, (hm_fs fs (I a)).set k (.ref v))) ?_ (fun b hne => hm_e_up a _ hne) hP hD
  rw [hm_e_O (Sh := va_up Sh a (kO ci (fs.set k (some (some v))))) (va_up_self _ _ _)]
  exact congrArg (fun z => Sum.inr (ci, z)) (hm_fs_set (some v) hf).symm
end HR2
/-! the class' own object, its states apart -/
theorem IsF_up {L : List Nat} {Sh Sh' : hm_S} {a n : Nat} (h : IsF L Sh a n) (e : ∀ b, a ≤ b → b < a + 5 → Sh' b = Sh b) : IsF L Sh' a n := by
  obtain ⟨⟨h1, h2⟩, ⟨h3, h4⟩, ⟨h5, h6⟩, ⟨h7, h8⟩, ⟨h9, h10⟩, h11⟩ := h
  exact ⟨⟨h1, (e _ (by omega) (by omega)).trans h2⟩, ⟨h3, (e _ (by omega) (by omega)).trans h4⟩, ⟨h5, (e _ (by omega) (by omega)).trans h6⟩, ⟨h7, (e _ (by omega) (by omega)).trans h8⟩, ⟨h9, (e _ (by omega) (by omega)).trans h10⟩, h11⟩
theorem IsO_up {L : List Nat} {Sh Sh' : hm_S} {a : Nat} (h : IsO L Sh a) (e : ∀ b, a ≤ b → b < a + 3 → Sh' b = Sh b) : IsO L Sh' a := by
  obtain ⟨⟨h1, h2⟩, ⟨h3, h4⟩, ⟨h5, h6⟩⟩ := h
  exact ⟨⟨h1, (e _ (by omega) (by omega)).trans h2⟩, ⟨h3, (e _ (by omega) (by omega)).trans h4⟩, ⟨h5, (e _ (by omega) (by omega)).trans h6⟩⟩
theorem IsS_up {L : List Nat} {Sh Sh' : hm_S} {q : Nat} (h : IsS L Sh q) (e : ∀ b, q ≤ b → b < q + 83 → Sh' b = Sh b) : IsS L Sh' q := by
  obtain ⟨⟨h1, h2⟩, ⟨h3, h4⟩, ⟨h5, h6⟩, ⟨h7, h8⟩, h9, h10, ⟨h11, h12⟩, h13, h14⟩ := h
  exact ⟨⟨h1, (e _ (by omega) (by omega)).trans h2⟩, ⟨h3, (e _ (by omega) (by omega)).trans h4⟩, ⟨h5, (e _ (by omega) (by omega)).trans h6⟩, ⟨h7, (e _ (by omega) (by omega)).trans h8⟩,
    fun s hs => IsF_up (h9 s hs) (fun b hb1 hb2 => e b (by omega) (by omega)), IsO_up h10 (fun b hb1 hb2 => e b (by omega) (by omega)), ⟨h11, (e _ (by omega) (by omega)).trans h12⟩, fun s hs => IsO_up (h13 s hs) (fun b hb1 hb2 => e b (by omega) (by omega)), IsF_up h14 (fun b hb1 hb2 => e b (by omega) (by omega))⟩
def far (a b : Nat) : Prop := a + 83 ≤ b ∨ b + 83 ≤ a
def outq (a q : Nat) : Prop := a < q ∨ q + 83 ≤ a
def IsX (L : List Nat) (Sh : hm_S) (x p f h m k j : Nat) (hs im : Nat → Nat) : Prop :=
  (x ∈ L ∧ Sh x = kO 3 [some (some p), some (some f), some (some h), none, some (some m), some (some k), some (some j)]) ∧ IsS L Sh p ∧ IsS L Sh f ∧ (h ∈ L ∧ Sh h = kR 2 8 (fun i => some (hs i))) ∧ (∀ i, i < 8 → IsS L Sh (hs i)) ∧
  (m ∈ L ∧ Sh m = kR 2 2 (fun i => some (im i))) ∧ (∀ i, i < 2 → IsS L Sh (im i)) ∧ (k ∈ L ∧ Sh k = kZ 2) ∧ (j ∈ L ∧ Sh j = kJ 256)
def sml (x h m k j a : Nat) : Prop := a = x ∨ a = h ∨ a = m ∨ a = k ∨ a = j
def ApX (x p f h m k j : Nat) (hs im : Nat → Nat) : Prop :=
  (x ≠ h ∧ x ≠ m ∧ x ≠ k ∧ x ≠ j ∧ h ≠ m ∧ h ≠ k ∧ h ≠ j) ∧ (∀ a, sml x h m k j a → outq a p ∧ outq a f ∧ (∀ i, i < 8 → outq a (hs i)) ∧ (∀ i, i < 2 → outq a (im i))) ∧
  far p f ∧ (∀ i, i < 8 → far p (hs i)) ∧ (∀ i, i < 2 → far p (im i)) ∧ (∀ i, i < 8 → far f (hs i)) ∧ (∀ i, i < 8 → ∀ i', i' < 8 → i ≠ i' → far (hs i) (hs i')) ∧ (∀ i, i < 8 → ∀ i', i' < 2 → far (hs i) (im i')) ∧ far (im 0) (im 1)
def rotH (hs : Nat → Nat) (i : Nat) : Nat := if i < 7 then hs (i + 1) else if i = 7 then hs 0 else hs i
/-- the history's row, the place and the memory behind the dropping of the oldest, where n are kept -/
def recH (hs : Nat → Nat) (n : Nat) : Nat → Nat := if n < 8 then hs else rotH hs
def recK (n : Nat) : Nat := if n < 8 then n else 7
def recI0 (I : hm_I) (x n : Nat) : hm_I := if n < 8 then I else hm_put I x 3 (nI 7)
def recSh (Sh : hm_S) (h : Nat) (hs : Nat → Nat) (n : Nat) : hm_S := if n < 8 then Sh else va_up Sh h (kR 2 8 (fun i => some (rotH hs i)))
def recI (I : hm_I) (x p n : Nat) (hs c : Nat → Nat) (ec lc : Nat) : hm_I := hm_put (fX2_copyFrom (recI0 I x n) (recH hs n (recK n)) p c ec lc) x 3 (nI (recK n + 1))
theorem rotH_cases {P : Nat → Prop} {hs : Nat → Nat} (h : ∀ i, i < 8 → P (hs i)) : ∀ i, i < 8 → P (rotH hs i) := by
  intro i hi
  unfold rotH
  by_cases h1 : i < 7
  · rw [if_pos h1]; exact h _ (by omega)
  · rw [if_neg h1, if_pos (by omega)]; exact h _ (by omega)
theorem IsX_h {L : List Nat} {Sh : hm_S} {x p f h m k j : Nat} {hs hs' im : Nat → Nat} (hX : IsX L Sh x p f h m k j hs im) (hA : ApX x p f h m k j hs im) (h8 : ∀ i, i < 8 → ∃ i', i' < 8 ∧ hs' i = hs i') :
    IsX L (va_up Sh h (kR 2 8 (fun i => some (hs' i)))) x p f h m k j hs' im := by
  obtain ⟨⟨h1, h2⟩, h3, h4, ⟨h5, h6⟩, h7, ⟨h8', h9⟩, h10, ⟨h11, h12⟩, ⟨h13, h14⟩⟩ := hX
  obtain ⟨⟨n1, n2, n3, n4, n5, n6, n7⟩, hsm, -⟩ := hA
  obtain ⟨o1, o2, o3, o4⟩ := hsm h (Or.inr (Or.inl rfl))
  have up : ∀ q, outq h q → ∀ b, q ≤ b → b < q + 83 → va_up Sh h (kR 2 8 (fun i => some (hs' i))) b = Sh b := fun q ho b hb1 hb2 => va_up_ne _ _ (by unfold outq at ho; omega)
  refine ⟨⟨h1, (va_up_ne _ _ n1).trans h2⟩, IsS_up h3 (up p o1), IsS_up h4 (up f o2), ⟨h5, va_up_self _ _ _⟩, fun i hi => ?_, ⟨h8', (va_up_ne _ _ (Ne.symm n5)).trans h9⟩, fun i hi => IsS_up (h10 i hi) (up _ (o4 i hi)), ⟨h11, (va_up_ne _ _ (Ne.symm n6)).trans h12⟩, ⟨h13, (va_up_ne _ _ (Ne.symm n7)).trans h14⟩⟩
  obtain ⟨i', hi', e⟩ := h8 i hi
  rw [e]
  exact IsS_up (h7 i' hi') (up _ (o3 i' hi'))
theorem rotH_in (hs : Nat → Nat) : ∀ i, i < 8 → ∃ i', i' < 8 ∧ rotH hs i = hs i' := by
  intro i hi
  unfold rotH
  by_cases h1 : i < 7
  · exact ⟨i + 1, by omega, if_pos h1⟩
  · exact ⟨0, by omega, by rw [if_neg h1, if_pos (by omega)]⟩
theorem IsX_rec {L : List Nat} {Sh : hm_S} {x p f h m k j n : Nat} {hs im : Nat → Nat} (hX : IsX L Sh x p f h m k j hs im) (hA : ApX x p f h m k j hs im) : IsX L (recSh Sh h hs n) x p f h m k j (recH hs n) im := by
  unfold recSh recH
  by_cases hn : n < 8
  · rw [if_pos hn, if_pos hn]; exact hX
  · rw [if_neg hn, if_neg hn]; exact IsX_h hX hA (rotH_in hs)
theorem ApX_rec {x p f h m k j n : Nat} {hs im : Nat → Nat} (hA : ApX x p f h m k j hs im) : ApX x p f h m k j (recH hs n) im := by
  unfold recH
  by_cases hn : n < 8
  · rw [if_pos hn]; exact hA
  · rw [if_neg hn]
    obtain ⟨h1, h2, h3, h4, h5, h6, h7, h8, h9⟩ := hA
    refine ⟨h1, fun a ha => ⟨(h2 a ha).1, (h2 a ha).2.1, rotH_cases (h2 a ha).2.2.1, (h2 a ha).2.2.2⟩, h3, rotH_cases h4, h5, rotH_cases h6, ?_, fun i hi i' hi' => ?_, h9⟩
    · intro i hi i' hi' hne
      unfold rotH
      by_cases a1 : i < 7
      · by_cases a2 : i' < 7
        · rw [if_pos a1, if_pos a2]; exact h7 _ (by omega) _ (by omega) (by omega)
        · rw [if_pos a1, if_neg a2, if_pos (by omega)]; exact h7 _ (by omega) _ (by omega) (by omega)
      · by_cases a2 : i' < 7
        · rw [if_neg a1, if_pos (by omega), if_pos a2]; exact h7 _ (by omega) _ (by omega) (by omega)
        · omega
    · exact rotH_cases (P := fun q => far q (im i')) (fun i hi => h8 i hi i' hi') i hi
/-- undone: the state at n of the history is the present one, and the present one lies there -/
theorem IsX_undo {L : List Nat} {Sh : hm_S} {x p f h m k j n : Nat} {hs im : Nat → Nat} (hX : IsX L Sh x p f h m k j hs im) (hA : ApX x p f h m k j hs im) (hn : n < 8) :
    IsX L (va_up (va_up Sh x (kO 3 [some (some (hs n)), some (some f), some (some h), none, some (some m), some (some k), some (some j)])) h (kR 2 8 (va_up (fun i => some (hs i)) n (some p)))) x (hs n) f h m k j (va_up hs n p) im := by
  obtain ⟨⟨h1, h2⟩, h3, h4, ⟨h5, h6⟩, h7, ⟨h8', h9⟩, h10, ⟨h11, h12⟩, ⟨h13, h14⟩⟩ := hX
  obtain ⟨⟨n1, n2, n3, n4, n5, n6, n7⟩, hsm, -⟩ := hA
  obtain ⟨o1, o2, o3, o4⟩ := hsm h (Or.inr (Or.inl rfl))
  obtain ⟨q1, q2, q3, q4⟩ := hsm x (Or.inl rfl)
  have up : ∀ q, outq h q → outq x q → ∀ b, q ≤ b → b < q + 83 → va_up (va_up Sh x (kO 3 [some (some (hs n)), some (some f), some (some h), none, some (some m), some (some k), some (some j)])) h (kR 2 8 (va_up (fun i => some (hs i)) n (some p))) b = Sh b :=
    fun q ho ho2 b hb1 hb2 => (va_up_ne _ _ (by unfold outq at ho; omega)).trans (va_up_ne _ _ (by unfold outq at ho2; omega))
  have ef : (va_up (fun i => some (hs i)) n (some p)) = (fun i => some (va_up hs n p i)) := by
    funext i
    unfold va_up
    by_cases hi : i = n
    · rw [if_pos hi, if_pos hi]
    · rw [if_neg hi, if_neg hi]
  refine ⟨⟨h1, (va_up_ne _ _ n1).trans (va_up_self _ _ _)⟩, IsS_up (h7 n hn) (up _ (o3 n hn) (q3 n hn)), IsS_up h4 (up f o2 q2), ⟨h5, ?_⟩, fun i hi => ?_, ⟨h8', ((va_up_ne _ _ (Ne.symm n5)).trans (va_up_ne _ _ (Ne.symm n2))).trans h9⟩, fun i hi => IsS_up (h10 i hi) (up _ (o4 i hi) (q4 i hi)), ⟨h11, ((va_up_ne _ _ (Ne.symm n6)).trans (va_up_ne _ _ (Ne.symm n3))).trans h12⟩, ⟨h13, ((va_up_ne _ _ (Ne.symm n7)).trans (va_up_ne _ _ (Ne.symm n4))).trans h14⟩⟩
  · rw [va_up_self, ef]
  · by_cases hi2 : i = n
    · rw [hi2, va_up_self]; exact IsS_up h3 (up p o1 q1)
    · rw [va_up_ne hs p hi2]; exact IsS_up (h7 i hi) (up _ (o3 i hi) (q3 i hi))
theorem far_symm {a b : Nat} (h : far a b) : far b a := h.symm
theorem ApX_undo {x p f h m k j n : Nat} {hs im : Nat → Nat} (hA : ApX x p f h m k j hs im) (hn : n < 8) : ApX x (hs n) f h m k j (va_up hs n p) im := by
  obtain ⟨h1, h2, h3, h4, h5, h6, h7, h8, h9⟩ := hA
  have sp : ∀ {P : Nat → Prop}, P p → (∀ i, i < 8 → i ≠ n → P (hs i)) → ∀ i, i < 8 → P (va_up hs n p i) := by
    intro P hp hh i hi
    by_cases hi2 : i = n
    · rw [hi2, va_up_self]; exact hp
    · rw [va_up_ne hs p hi2]; exact hh i hi hi2
  refine ⟨h1, fun a ha => ⟨(h2 a ha).2.2.1 n hn, (h2 a ha).2.1, sp (h2 a ha).1 (fun i hi _ => (h2 a ha).2.2.1 i hi), (h2 a ha).2.2.2⟩, far_symm (h6 n hn), sp (P := fun q => far (hs n) q) (far_symm (h4 n hn)) (fun i hi hne => h7 n hn i hi (Ne.symm hne)), fun i hi => h8 n hn i hi, sp (P := fun q => far f q) (far_symm h3) (fun i hi _ => h6 i hi), ?_, fun i hi i' hi' => sp (P := fun q => far q (im i')) (h5 i' hi') (fun i hi _ => h8 i hi i' hi') i hi, h9⟩
  intro i hi i' hi' hne
  by_cases a1 : i = n
  · rw [a1, va_up_self, va_up_ne hs p (by omega)]; exact h4 i' hi'
  · by_cases a2 : i' = n
    · rw [a2, va_up_self, va_up_ne hs p a1]; exact far_symm (h4 i hi)
    · rw [va_up_ne hs p a1, va_up_ne hs p a2]; exact h7 i hi i' hi' hne
theorem WfS_out {I I' : hm_I} {q : Nat} {c : Nat → Nat} {e : Nat → Nat → Nat} {ec lc : Nat} (hW : WfS I q c e ec lc) (h : ∀ a, q ≤ a → a < q + 83 → I' a = I a) : WfS I' q c e ec lc := by
  obtain ⟨h1, h2, h3, h4, h5, h6, h7⟩ := hW
  refine ⟨fun s hs => ?_, fun s hs k hk => ?_, ?_, h4, h5, ?_, h7⟩
  · rw [h _ (by omega) (by omega)]; exact h1 s hs
  · rw [h _ (by omega) (by omega)]; exact h2 s hs k hk
  · rw [h _ (by omega) (by omega)]; exact h3
  · rw [h _ (by omega) (by omega)]; exact h6
theorem fX2_copyFrom_ne {I : hm_I} {q r : Nat} {c : Nat → Nat} {ec lc x0 : Nat} (hec : ec ≤ 10) (h : outq x0 q) : fX2_copyFrom I q r c ec lc x0 = I x0 := by
  unfold fX2_copyFrom
  unfold outq at h
  rw [fX0_copyFrom_ne (by omega), hm_put_ne _ _ _ _ (by omega), hm_put_ne _ _ _ _ (by omega)]
  refine lp_inv (fun _ (x : hm_I) => x x0 = I x0) ?_ (fun i x hi hx => by rw [fX1_copyFrom_ne (by omega)]; exact hx)
  rw [hm_put_ne _ _ _ _ (by omega), fX1_copyFrom_ne (by omega)]
  refine lp_inv (fun _ (x : hm_I) => x x0 = I x0) (hm_put_ne _ _ _ _ (by omega)) (fun i x hi hx => by rw [fX0_copyFrom_ne (by omega), hm_put_ne _ _ _ _ (by omega), hm_put_ne _ _ _ _ (by omega)]; exact hx)
theorem recI_ne {I : hm_I} {x p n : Nat} {hs c : Nat → Nat} {ec lc a : Nat} (hec : ec ≤ 10) (h1 : a ≠ x) (h2 : outq a (recH hs n (recK n))) : recI I x p n hs c ec lc a = I a := by
  unfold recI recI0
  rw [hm_put_ne _ _ _ _ h1, fX2_copyFrom_ne hec h2]
  split
  · rfl
  · exact hm_put_ne _ _ _ _ h1
theorem recK_lt (n : Nat) : recK n < 8 := by unfold recK; split <;> omega
theorem far_out {a q b : Nat} (h : far a q) (h1 : a ≤ b) (h2 : b < a + 83) : outq b q := by unfold far at h; unfold outq; omega
theorem outq_ne {a q b : Nat} (h : outq a q) (h1 : q ≤ b) (h2 : b < q + 83) : b ≠ a := by unfold outq at h; omega
/-- behind a record, the present state's numbers are the same -/
theorem WfS_rec {I : hm_I} {x p f h m k j n : Nat} {hs im : Nat → Nat} {c : Nat → Nat} {e : Nat → Nat → Nat} {ec lc : Nat} (hA : ApX x p f h m k j hs im) (hW : WfS I p c e ec lc) : WfS (recI I x p n hs c ec lc) p c e ec lc :=
  WfS_out hW (fun a h1 h2 => recI_ne hW.2.2.2.2.1 (outq_ne (hA.2.1 x (Or.inl rfl)).1 h1 h2) (far_out ((ApX_rec (n := n) hA).2.2.2.1 _ (recK_lt n)) h1 h2))
