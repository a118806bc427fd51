/-! part 50: an object's world: the object and all that it made, at 1001 addresses from its own on; calls from the law's methods -/
def Rg (x : Nat) : Nat → Prop := fun q => x ≤ q ∧ q < x + 1001
def Wo (D : va_G) (T : Nat → ClassId) (x t : Nat) (S : abS) (H : Heap) : Prop := ∃ (L : List Nat) (Sh : hm_S) (I : hm_I) (J : hm_J), hm D T L (Rg x) Sh I J H ∧ InvX L x t Sh I S
theorem hm_frame {D : va_G} {T : Nat → ClassId} {L : List Nat} {A : Nat → Prop} {Sh : hm_S} {I : hm_I} {J : hm_J} {H H1 : Heap} (h : hm D T L A Sh I J H) (hf : ∀ q, q < H.size → A q → H1[q]? = H[q]?) : hm D T L A Sh I J H1 :=
  ⟨h.1.kept (fun k q hk => hf q.1 (h.1 k q hk).lt (h.2.2 k q hk)), h.2⟩
theorem Wo_frame {D : va_G} {T : Nat → ClassId} {x t : Nat} {S : abS} {H H1 : Heap} (h : Wo D T x t S H) (hf : ∀ q, q < H.size → Rg x q → H1[q]? = H[q]?) : Wo D T x t S H1 := by
  obtain ⟨L, Sh, I, J, hM, hI⟩ := h
  exact ⟨L, Sh, I, J, hm_frame hM hf, hI⟩
theorem Wo_up {D : va_G} {T : Nat → ClassId} {x t : Nat} {S : abS} {H : Heap} (h : Wo D T x t S H) : Wo D T x (t + 1) S H := by
  obtain ⟨L, Sh, I, J, hM, hI⟩ := h
  exact ⟨L, Sh, I, J, hM, InvX_up hI⟩
theorem Wo_GG {D : va_G} {T : Nat → ClassId} {x t n : Nat} {w : Nat → Int32} {P Q : Nat → Nat → Int32} {kp : Nat → Bool} {H : Heap} (h : Wo D T x t (n, w, P, Q, kp) H) : GG t n w P Q kp := by
  obtain ⟨L, Sh, I, J, hM, p, f, h, m, k, j, hs, im, g⟩ := h
  exact g.2.2.1
section OR
variable {p : Program} {l : Launch} {e : Env} {R : Room} {s : State} {m : MethodId} {args : Array Value} {below : List Frame} {meth : Method} {c : Code} {H : Heap} {locs : List Loc} {cells slots : Nat} {Qq : State → Prop}
variable {cc : ByteArray} {nL : Nat} {Ts : List Cond} {own : String} {D : va_G} {T : Nat → ClassId} {A : Nat → Prop} {pc : Nat} {ls : Array Slot} {rest : List Value} {H0 : Heap}
theorem mo_back {v : Option Value} {Q : Heap → Prop} {mc ms : Nat} {st0 st1 : List Value} {A1 : Nat → Prop} (hr : va_Run p l e R s m args below meth c H locs cells slots mc ms (F0 m pc ls st0) rest (CtQ A1 v Q args) A1) (hA : ∀ q, A1 q → A q) (hS : va_S A H0 H locs) (hst : v.toList ++ rest = st1)
    (kk : ∀ (H1 : Heap) (locs1 : List Loc), Q H1 → (H.size ≤ H1.size ∧ ∀ q, q < H.size → ¬ A1 q → H1[q]? = H[q]?) → va_S A H0 H1 locs1 → W p l e R s m args below meth c H1 locs1 (cells + mc) (slots + ms) Qq (F0 m (pc + 3) ls st1)) : W p l e R s m args below meth c H locs cells slots Qq (F0 m pc ls st0) := by
  intro Ts0 hT X
  obtain ⟨v', st₀, t, T', L', h0, X', hL, e1, e2, ⟨hv, hq, hz, hk⟩, st⟩ := hr Ts0 hT X
  cases hv
  rw [h0] at hz hk
  obtain ⟨t2, a1, b1⟩ := kk T'.heap (locs ++ L') (by rw [e1]; exact hq) ⟨by rw [e1]; exact hz, fun q h1 h2 => by rw [e1]; exact hk q h1 h2⟩
    ⟨Nat.le_trans hS.1 (by rw [e1]; exact hz), fun q h1 h2 => by rw [e1, hk q (Nat.lt_of_lt_of_le h1 hS.1) (fun z => h2 (hA q z))]; exact hS.2.1 q h1 h2, fun q hq => by
      rcases List.mem_append.mp hq with h | h
      · exact hS.2.2 q h
      · exact hA _ (hL q h)⟩ T' rfl X'
  rw [← hst] at a1
  exact ⟨t2, st t2 a1, b1⟩
/-- a call of an object's method -/
theorem mo_call {y : MethodName} {bytes : ByteArray} {maxL n index : Nat} {ret : Option FieldType} {ws : List Cond} {x t t' : Nat} {S S' : abS} {As : List Value} {st0 st1 : List Value} {v : Value}
    (C0 : Cx p s m args c cc nL Ts own D T) (op : OpX y ws As t t' S v S') (hW : Wo D T x t S H) (cw : ∀ rm : Room, rm.cells = 0 → rm.slots = 0 → rm.frames ≤ 7 → rm.locals ≤ 160 → CallW R s args own RX3 index y bytes maxL ret ws rm 0 0 n)
    (hS : va_S A H0 H locs) (hA : ∀ q, Rg x q → A q) (hst0 : st0 = As.reverse ++ .ref x :: rest) (hst : v :: rest = st1) (hn : As.length = n) (hsz : ls.size = nL) (hr : (rest.map fun v => v.category).sum ≤ 8) (hdg : decode cc pc = .ok (.invokevirtual index, 3)) (hf : cells ≤ R.cells ∧ slots ≤ R.slots)
    (kk : ∀ (H1 : Heap) (locs1 : List Loc), Wo D T x t' S' H1 → (H.size ≤ H1.size ∧ ∀ q, q < H.size → ¬ Rg x q → H1[q]? = H[q]?) → va_S A H0 H1 locs1 → W p l e R s m args below meth c H1 locs1 cells slots Qq (F0 m (pc + 3) ls st1)) : W p l e R s m args below meth c H locs cells slots Qq (F0 m pc ls st0) := by
  obtain ⟨L, Sh, I, J, hM, hI⟩ := hW
  obtain ⟨Sh1, I1, J1, ⟨rm, x1, x2, x3, x4, hc⟩, hI1⟩ := op l D T L (Rg x) x Sh I J hI
  obtain ⟨fs, hb, hs⟩ : ∃ fs, x ∈ L ∧ Sh x = kO 3 fs := by
    obtain ⟨p, f, h, m, k, j, hs, im, g⟩ := hI
    exact ⟨_, g.1.1.1, g.1.1.2⟩
  obtain ⟨k, hk⟩ := hm_place (J := J) hb (hm_e_O (I := I) (J := J) (T := T) hs)
  have hrecv := va_recv (q := (RX3, TX3, 7)) C0.2.1 hM.1 rfl hk
  exact mo_back (va_runV (As := As) (rest := rest) C0.1 hc (cw rm x1 x2 x3 x4) ⟨ct_blind, hrecv, fun U hU hW => ⟨rfl, by rw [hU]; exact hM, Kx.warm hW C0.2⟩⟩ rfl hn hsz hst0 (lv_room hr) hdg hf) hA hS hst (fun H1 locs1 hq hF hS1 => kk H1 locs1 ⟨L, Sh1, I1, J1, hq, hI1⟩ hF hS1)
/-- a call of one of the law's own methods -/
theorem mo_callS {y : MethodName} {bytes : ByteArray} {maxL n index : Nat} {ret : Option FieldType} {ws : List Cond} {rm : Room} {A1 : Nat → Prop} {As : List Value} {st0 st1 : List Value} {v : Value} {P Q : Heap → Prop}
    (C0 : Cx p s m args c cc nL Ts own D T) (hc : Ct l y ws rm 0 0 D T A1 As P (some v) Q) (cw : CallB R s args own index y bytes maxL ret ws rm 0 0 n ∧ (Cond.static y).before args s = true) (hP : P H) (hS : va_S A H0 H locs) (hA : ∀ q, A1 q → A q)
    (hst0 : st0 = As.reverse ++ rest) (hst : v :: rest = st1) (hn : As.length = n) (hsz : ls.size = nL) (hr : (rest.map fun v => v.category).sum ≤ 8) (hdg : decode cc pc = .ok (.invokestatic index, 3)) (hf : cells ≤ R.cells ∧ slots ≤ R.slots)
    (kk : ∀ (H1 : Heap) (locs1 : List Loc), Q H1 → (H.size ≤ H1.size ∧ ∀ q, q < H.size → ¬ A1 q → H1[q]? = H[q]?) → va_S A H0 H1 locs1 → W p l e R s m args below meth c H1 locs1 cells slots Qq (F0 m (pc + 3) ls st1)) : W p l e R s m args below meth c H locs cells slots Qq (F0 m pc ls st0) :=
  mo_back (va_runS (As := As) (rest := rest) C0.1 hc cw ⟨ct_blind, fun U hU hW => ⟨rfl, by rw [hU]; exact hP, Kx.warm hW C0.2⟩⟩ rfl hn hsz hst0 (lv_room hr) hdg hf) hA hS hst kk
end OR
/-! numbers out of the script -/
def lowN (v : Int32) (n : Nat) : Nat := (v &&& 2147483647).toNatClampNeg % n
theorem lowN_lt (v : Int32) {n : Nat} (h : 0 < n) : lowN v n < n := Nat.mod_lt _ h
theorem low_eq (v : Int32) : v &&& 2147483647 = nI (v &&& 2147483647).toNatClampNeg ∧ (v &&& 2147483647).toNatClampNeg < 2 ^ 31 := by
  obtain ⟨q, hq, e⟩ := pk_andE v (m := 2147483647) 31 (by decide)
  rw [e, nI_clamp (by omega)]
  exact ⟨rfl, by omega⟩
