/-! OWN KIT. The memory of the system as functions: what stands at an address (Sh), the ints (I: address, place), the longs (J). -/
abbrev hm_K : Type := (Bool × Nat) ⊕ (Nat ⊕ ((Nat × Nat × (Nat → Option Nat)) ⊕ (Nat × List (Option (Option Nat)))))
abbrev hm_S : Type := Nat → hm_K
abbrev hm_I : Type := Nat → Nat → Int32
abbrev hm_J : Type := Nat → Nat → Int64
def kI (n : Nat) : hm_K := .inl (false, n)
def kZ (n : Nat) : hm_K := .inl (true, n)
def kJ (n : Nat) : hm_K := .inr (.inl n)
def kR (t n : Nat) (f : Nat → Option Nat) : hm_K := .inr (.inr (.inl (t, n, f)))
def kO (ci : Nat) (fs : List (Option (Option Nat))) : hm_K := .inr (.inr (.inr (ci, fs)))
def hm_fs : List (Option (Option Nat)) → (Nat → Int32) → List Value
  | [], _ => []
  | none :: r, g => .int (g 0) :: hm_fs r (fun k => g (k + 1))
  | some v :: r, g => va_rf v :: hm_fs r (fun k => g (k + 1))
theorem hm_fs_none : ∀ {fs : List (Option (Option Nat))} {g : Nat → Int32} {k : Nat}, fs[k]? = some none → (hm_fs fs g)[k]? = some (.int (g k))
  | [], _, _, h => by simp at h
  | none :: r, g, 0, _ => rfl
  | some v :: r, g, 0, h => by simp at h
  | none :: r, g, k + 1, h => by
    have h' : r[k]? = some none := h
    exact hm_fs_none (fs := r) (g := fun k => g (k + 1)) h'
  | some v :: r, g, k + 1, h => by
    have h' : r[k]? = some none := h
    exact hm_fs_none (fs := r) (g := fun k => g (k + 1)) h'
theorem hm_fs_some : ∀ {fs : List (Option (Option Nat))} {g : Nat → Int32} {k : Nat} {v : Option Nat}, fs[k]? = some (some v) → (hm_fs fs g)[k]? = some (va_rf v)
  | [], _, _, _, h => by simp at h
  | none :: r, g, 0, _, h => by simp at h
  | some v :: r, g, 0, w, h => by
    have h' : v = w := by simpa using h
    subst h'
    rfl
  | none :: r, g, k + 1, _, h => by
    have h' : r[k]? = some (some _) := h
    exact hm_fs_some (fs := r) (g := fun k => g (k + 1)) h'
  | some v :: r, g, k + 1, _, h => by
    have h' : r[k]? = some (some _) := h
    exact hm_fs_some (fs := r) (g := fun k => g (k + 1)) h'
theorem hm_fs_len : ∀ (fs : List (Option (Option Nat))) (g : Nat → Int32), (hm_fs fs g).length = fs.length
  | [], _ => rfl
  | none :: r, g => by simp [hm_fs, hm_fs_len r]
  | some v :: r, g => by simp [hm_fs, hm_fs_len r]
theorem hm_fs_cong : ∀ (fs : List (Option (Option Nat))) {f g : Nat → Int32}, (∀ k, f k = g k) → hm_fs fs f = hm_fs fs g
  | [], _, _, _ => rfl
  | none :: r, f, g, h => by simp [hm_fs, h 0, hm_fs_cong r (fun k => h (k + 1))]
  | some v :: r, f, g, h => by simp [hm_fs, hm_fs_cong r (fun k => h (k + 1))]
theorem hm_fs_upd : ∀ {fs : List (Option (Option Nat))} {g : Nat → Int32} {k : Nat} (x : Int32), fs[k]? = some none → (hm_fs fs g).set k (.int x) = hm_fs fs (upd g k x)
  | [], _, _, _, h => by simp at h
  | none :: r, g, 0, x, _ => by
    show Value.int x :: _ = Value.int (upd g 0 x 0) :: _
    exact congr (congrArg List.cons (by simp [upd])) (hm_fs_cong r (fun k => by simp [upd]))
  | some v :: r, g, 0, _, h => by simp at h
  | none :: r, g, k + 1, x, h => by
    have h' : r[k]? = some none := h
    show Value.int (g 0) :: _ = Value.int (upd g (k + 1) x 0) :: _
    exact congr (congrArg List.cons (by simp [upd])) ((hm_fs_upd x h').trans (hm_fs_cong r (fun j => by simp [upd])))
  | some v :: r, g, k + 1, x, h => by
    have h' : r[k]? = some none := h
    show va_rf v :: _ = va_rf v :: _
    exact congrArg (List.cons (va_rf v)) ((hm_fs_upd x h').trans (hm_fs_cong r (fun j => by simp [upd])))
theorem hm_fs_set : ∀ {fs : List (Option (Option Nat))} {g : Nat → Int32} {k : Nat} {v : Option Nat} (w : Option Nat), fs[k]? = some (some v) → (hm_fs fs g).set k (va_rf w) = hm_fs (fs.set k (some w)) g
  | [], _, _, _, _, h => by simp at h
  | none :: r, g, 0, _, _, h => by simp at h
  | some v :: r, g, 0, _, w, h => rfl
  | none :: r, g, k + 1, v, w, h => by
    have h' : r[k]? = some (some v) := h
    show Value.int (g 0) :: _ = Value.int (g 0) :: _
    exact congrArg (List.cons (Value.int (g 0))) (hm_fs_set w h')
  | some u :: r, g, k + 1, v, w, h => by
    have h' : r[k]? = some (some v) := h
    show va_rf u :: _ = va_rf u :: _
    exact congrArg (List.cons (va_rf u)) (hm_fs_set w h')
def hm_e (T : Nat → ClassId) (Sh : hm_S) (I : hm_I) (J : hm_J) (a : Nat) : va_E := match Sh a with
  | .inl (b, n) => .inl (T (if b = true then 1 else 0), n, .inl (I a))
  | .inr (.inl n) => .inl (T 2, n, .inr (.inl (J a)))
  | .inr (.inr (.inl (t, n, f))) => .inl (T (3 + t), n, .inr (.inr (.inr (.inr f))))
  | .inr (.inr (.inr (ci, fs))) => .inr (ci, hm_fs fs (I a))
def hm_tys (T : Nat → ClassId) : List (ClassId × FieldType) := [(T 0, .int), (T 1, .boolean), (T 2, .long), (T 3, .object RX0), (T 4, .object RX1), (T 5, .object RX2)]
def hm (D : va_G) (T : Nat → ClassId) (L : List Nat) (A : Nat → Prop) (Sh : hm_S) (I : hm_I) (J : hm_J) (H : Heap) : Prop :=
  va_P D vwCl (va_pl L (hm_e T Sh I J)) H ∧ va_D A (va_pl L (hm_e T Sh I J))
/-- what holds of the machine's tables all the way -/
def hm_N (U : State) : Prop := va_Nw (.methodLinkNest RX1 18 yX3_isStream RX3) U ∧ va_Nw (.methodLinkNest RX1 22 yX3_isIn RX3) U ∧ va_Nw (.methodLinkNest RX1 26 yX3_areTwoStreams RX3) U ∧ va_Nw (.methodLinkNest RX1 29 yX3_setOf RX3) U ∧ va_Nw (.methodLinkNest RX2 62 yX3_isIn RX3) U ∧ va_Nw (.methodLinkNest RX2 66 yX3_isStream RX3) U ∧ va_Nw (.methodLinkNest RX2 70 yX3_setOf RX3) U ∧ va_AO RX0 U ∧ va_AO RX1 U ∧ va_AO RX2 U
def Kx (D : va_G) (T : Nat → ClassId) (U : State) : Prop := va_K D vwCl (hm_tys T) U ∧ hm_N U
theorem Kx.same {D : va_G} {T : Nat → ClassId} {u U : State} (h : u.vm = U.vm) (k : Kx D T u) : Kx D T U := by
  obtain ⟨k1, a1, a2, a3, a4, a5, a6, a7, a8, a9, a10⟩ := k
  have hv : u.vm.Alike U.vm := by rw [h]; exact Vm.Alike.refl U.vm
  exact ⟨va_K.moved hv k1, va_Nw.same rfl h a1, va_Nw.same rfl h a2, va_Nw.same rfl h a3, va_Nw.same rfl h a4, va_Nw.same rfl h a5, va_Nw.same rfl h a6, va_Nw.same rfl h a7, va_AO.moved hv a8, va_AO.moved hv a9, va_AO.moved hv a10⟩
theorem Kx.warm {D : va_G} {T : Nat → ClassId} {s U : State} (hW : s.WarmedH U.vm) (k : Kx D T s) : Kx D T U := by
  obtain ⟨k1, a1, a2, a3, a4, a5, a6, a7, a8, a9, a10⟩ := k
  exact ⟨va_K.moved hW.alike k1, va_Nw.warmM hW a1, va_Nw.warmM hW a2, va_Nw.warmM hW a3, va_Nw.warmM hW a4, va_Nw.warmM hW a5, va_Nw.warmM hW a6, va_Nw.warmM hW a7, va_AO.moved hW.alike a8, va_AO.moved hW.alike a9, va_AO.moved hW.alike a10⟩
/-- a contract: from memory P, with arguments av, the method answers v and leaves memory Q; nothing outside A changes -/
def CtQ (A : Nat → Prop) (v : Option Value) (Q : Heap → Prop) : Array Value → State → Outcome → State → Prop := fun _ st oc t => oc = .returned v ∧ Q t.heap ∧ va_F A st t
def Ct (l : Launch) (y : MethodName) (ws : List Cond) (rm : Room) (mc ms : Nat) (D : va_G) (T : Nat → ClassId) (A : Nat → Prop) (av : List Value) (P : Heap → Prop) (v : Option Value) (Q : Heap → Prop) : Prop :=
  Met l y ws rm (va_Pc av (fun U => P U.heap ∧ Kx D T U)) (CtQ A v Q) mc ms A
def Cx (p : Program) (s : State) (m : MethodId) (args : Array Value) (c : Code) (cc : ByteArray) (nL : Nat) (Ts : List Cond) (own : String) (D : va_G) (T : Nat → ClassId) : Prop :=
  CallFix p m c cc nL s args Ts own ∧ Kx D T s
theorem Ct.ofW {l : Launch} {y : MethodName} {ws ws' : List Cond} {rm : Room} {mc ms : Nat} {D : va_G} {T : Nat → ClassId} {A : Nat → Prop} {av : List Value} {P : Heap → Prop} {v : Option Value} {Q : Heap → Prop} {cc : ByteArray} {maxL : Nat} {ret : Option FieldType}
    (hy : plainName y.cls = true) (hw : ws = Cond.code y cc maxL ret :: ws') (hn : (lg_sl av).length ≤ maxL)
    (body : ∀ (p : Program) (e : Env) (s : State) (m : MethodId) (args : Array Value) (below : List Frame) (meth : Method) (c : Code) (ls : Array Slot) (R : Room) (Qq : State → Prop), R = rm → Qq = MQ below (CtQ A v Q) args s mc ms A → Cx p s m args c cc maxL ws y.cls D T → meth.sig.returnType = ret → meth.locks = false → meth.name = y.name → P s.heap → lv_has ls maxL (lv_args 0 av) →
      W p l e R s m args below meth c s.heap [] 0 0 Qq (F0 m 0 ls [])) : Ct l y ws rm mc ms D T A av P v Q := by
  refine Met.ofW (cc := cc) (maxL := maxL) (ret := ret) hy hw ?_
  intro p e s m args below meth c s₁ B hml hv
  obtain ⟨rfl, hP, hK⟩ := hv
  have hl := lv_entry av (n := maxL) hn
  rw [lg_entry_eq]
  exact body p e s m _ below meth c _ _ _ rfl rfl ⟨⟨B.exec, B.bytes, hml, findClass_of_methodNamed B.named, atoms_spec (ws := ws) B.pre⟩, hK⟩ B.returns B.notSynchronized (name_of_methodNamed B.named B.method).1 hP hl
theorem Ct.weak {l : Launch} {y : MethodName} {ws : List Cond} {rm : Room} {mc ms : Nat} {D : va_G} {T : Nat → ClassId} {A : Nat → Prop} {av : List Value} {P P' : Heap → Prop} {v v' : Option Value} {Q Q' : Heap → Prop} (h : Ct l y ws rm mc ms D T A av P v Q) (hP : ∀ H, P' H → P H) (hv : v = v') (hQ : ∀ H, Q H → Q' H) : Ct l y ws rm mc ms D T A av P' v' Q' := by
  subst hv
  unfold Ct Met at *
  intro p e a1 a2 a3 s m args below b1 b2 b3 b4
  obtain ⟨t, o, k1, k2, k3, k4, k5⟩ := h p e a1 a2 a3 s m args below b1 b2 ⟨b3.1, hP _ b3.2.1, b3.2.2⟩ b4
  exact ⟨t, o, k1, k2, k3, ⟨k4.1, hQ _ k4.2.1, k4.2.2⟩, k5⟩
