/-! OWN ROWS: new cells. The memory from B on, with every address up to z -/
def rg (B z : Nat) : List Nat := List.range' B (z - B)
theorem rg_in {B z a : Nat} (h1 : B ≤ a) (h2 : a < z) : a ∈ rg B z := by
  unfold rg
  rw [List.mem_range'_1]
  omega
theorem rg_out {B z a : Nat} (h : a ∈ rg B z) : B ≤ a ∧ a < z := by
  unfold rg at h
  rw [List.mem_range'_1] at h
  omega
theorem rg_s {B z : Nat} (h : B ≤ z) : rg B (z + 1) = rg B z ++ [z] := by
  unfold rg
  have e : z + 1 - B = (z - B) + 1 := by omega
  have e2 : B + 1 * (z - B) = z := by omega
  rw [e, List.range'_concat, e2]
section MZ
variable {p : Program} {l : Launch} {e : Env} {R : Room} {s : State} {m : MethodId} {args : Array Value} {below : List Frame} {meth : Method} {c : Code} {H : Heap} {locs : List Loc} {cells slots : Nat} {Qq : State → Prop}
variable {cc : ByteArray} {nL : Nat} {Ts : List Cond} {own : String} {D : va_G} {T : Nat → ClassId} {L : List Nat} {A : Nat → Prop} {Sh : hm_S} {I : hm_I} {J : hm_J} {pc : Nat} {ls : Array Slot} {rest : List Value} {a : Nat} {H0 : Heap} {B z : Nat}
theorem hz_push {Sh' : hm_S} {I' : hm_I} {J' : hm_J} {H1 : Heap} (hM : hm D T (rg B z) A Sh I J H) (hz : H.size = z) (hB : B ≤ z) (hA : A z) (e1 : va_at D vwCl (z, hm_e T Sh' I' J' z) H1) (o1 : ∀ q, q < z → H1[q]? = H[q]?) (hs : ∀ b, b < z → hm_e T Sh' I' J' b = hm_e T Sh I J b) : hm D T (rg B (z + 1)) A Sh' I' J' H1 := by
  have el : va_pl (rg B z) (hm_e T Sh' I' J') = va_pl (rg B z) (hm_e T Sh I J) := by
    unfold va_pl
    exact List.map_congr_left (fun a ha => by rw [hs a (rg_out ha).2])
  have e2 : va_pl (rg B (z + 1)) (hm_e T Sh' I' J') = va_pl (rg B z) (hm_e T Sh I J) ++ [(z, hm_e T Sh' I' J' z)] := by
    rw [rg_s hB, ← el]
    unfold va_pl
    rw [List.map_append]
    rfl
  unfold hm
  rw [e2]
  refine ⟨(hM.1.kept (fun k x hx => o1 x.1 ?_)).app (fun k x hx => ?_), hM.2.push hM.1 hz.symm hA⟩
  · have h := (hM.1 k x hx).lt
    omega
  · have hzz : k < 1 := (List.getElem?_eq_some_iff.mp hx).1
    rw [show k = 0 by omega] at hx
    cases hx
    exact e1
theorem hm_e_cong {Sh' : hm_S} {I' : hm_I} {J' : hm_J} {b : Nat} (h1 : Sh' b = Sh b) (h2 : I' b = I b) (h3 : J' b = J b) : hm_e T Sh' I' J' b = hm_e T Sh I J b := by
  unfold hm_e
  rw [h1, h2, h3]
/-- how large the heap is at most -/
theorem mz_sz {g : JFrame} (kk : H.size ≤ s.heap.size + cells → W p l e R s m args below meth c H locs cells slots Qq g) : W p l e R s m args below meth c H locs cells slots Qq g :=
  fun U hU X => kk (by rw [← hU]; exact X.heapSize) U hU X
theorem mz_size (hM : hm D T (rg B z) A Sh I J H) (hB : B < z) (hz0 : z = s.heap.size + cells) (h : H.size ≤ s.heap.size + cells) : H.size = z := by
  obtain ⟨q, hq⟩ := hm_place (J := J) (rg_in (B := B) (z := z) (a := z - 1) (by omega) (by omega)) (x := hm_e T Sh I J (z - 1)) rfl
  have h2 : z - 1 < H.size := (hM.1 q _ hq).lt
  omega
theorem mz_cs {c2 s2 : Nat} {g : JFrame} (h1 : cells = c2) (h2 : slots = s2) (k : W p l e R s m args below meth c H locs c2 s2 Qq g) : W p l e R s m args below meth c H locs cells slots Qq g := by
  subst h1
  subst h2
  exact k
theorem vaS_new {H1 : Heap} (hS : va_S A H0 H locs) (hz : H.size = z) (z1 : H1.size = z + 1) (o1 : ∀ q, q < z → H1[q]? = H[q]?) : va_S A H0 H1 locs :=
  ⟨Nat.le_trans hS.1 (by omega), fun x h1 h2 => (o1 x (by have := hS.1; omega)).trans (hS.2.1 x h1 h2), hS.2.2⟩
theorem mz_newI {n : Nat} (C0 : Cx p s m args c cc nL Ts own D T) (harr : Cond.arrayClass .int ∈ Ts) (hM : hm D T (rg B z) A Sh I J H) (hz : H.size = z) (hB : B ≤ z) (hS : va_S A H0 H locs) (hA : ∀ q, B ≤ q → A q) (hn : n < 2 ^ 27) (hcells : cells + 1 ≤ R.cells) (hslots : slots + n ≤ R.slots) (hdg : decode cc pc = .ok (.newarray .int, 2))
    (kk : ∀ H1 : Heap, hm D T (rg B (z + 1)) A (va_up Sh z (kI n)) (va_up I z (fun _ => 0)) J H1 → va_S A H0 H1 locs → H1.size = z + 1 → W p l e R s m args below meth c H1 locs (cells + 1) (slots + n) Qq (F0 m (pc + 2) ls (.ref z :: rest))) : W p l e R s m args below meth c H locs cells slots Qq (F0 m pc ls (.int (nI n) :: rest)) := by
  obtain ⟨⟨hx, hb, hml, hown, hts⟩, hK, hN⟩ := C0
  refine va_newaK hx hb (atype := .int) (hts _ harr) rfl hdg rfl (nI_pos (by omega)) (nI_clamp (by omega)) (by show n * 4 ≤ 536870912; omega) hcells hslots hz fun H1 cA e1 z1 o1 hAr hNm => ?_
  have hT : cA = T 0 := Option.some.inj (hNm.symm.trans (hK.2 0 (T 0, .int) rfl).2)
  refine kk H1 (hz_push hM hz hB (hA _ hB) ?_ o1 (fun b hb => hm_e_cong (va_up_ne _ _ (by omega)) (va_up_ne _ _ (by omega)) rfl)) (vaS_new hS hz z1 o1) z1
  rw [hm_e_I (va_up_self _ _ _), va_up_self]
  show H1[z]? = some (arrV (T 0) n (fun _ => .int 0))
  rw [← hT]
  exact e1
theorem mz_newZ {n : Nat} (C0 : Cx p s m args c cc nL Ts own D T) (harr : Cond.arrayClass .boolean ∈ Ts) (hM : hm D T (rg B z) A Sh I J H) (hz : H.size = z) (hB : B ≤ z) (hS : va_S A H0 H locs) (hA : ∀ q, B ≤ q → A q) (hn : n < 2 ^ 27) (hcells : cells + 1 ≤ R.cells) (hslots : slots + n ≤ R.slots) (hdg : decode cc pc = .ok (.newarray .boolean, 2))
    (kk : ∀ H1 : Heap, hm D T (rg B (z + 1)) A (va_up Sh z (kZ n)) (va_up I z (fun _ => 0)) J H1 → va_S A H0 H1 locs → H1.size = z + 1 → W p l e R s m args below meth c H1 locs (cells + 1) (slots + n) Qq (F0 m (pc + 2) ls (.ref z :: rest))) : W p l e R s m args below meth c H locs cells slots Qq (F0 m pc ls (.int (nI n) :: rest)) := by
  obtain ⟨⟨hx, hb, hml, hown, hts⟩, hK, hN⟩ := C0
  refine va_newaK hx hb (atype := .boolean) (hts _ harr) rfl hdg rfl (nI_pos (by omega)) (nI_clamp (by omega)) (by show n * 1 ≤ 536870912; omega) hcells hslots hz fun H1 cA e1 z1 o1 hAr hNm => ?_
  have hT : cA = T 1 := Option.some.inj (hNm.symm.trans (hK.2 1 (T 1, .boolean) rfl).2)
  refine kk H1 (hz_push hM hz hB (hA _ hB) ?_ o1 (fun b hb => hm_e_cong (va_up_ne _ _ (by omega)) (va_up_ne _ _ (by omega)) rfl)) (vaS_new hS hz z1 o1) z1
  rw [hm_e_Z (va_up_self _ _ _), va_up_self]
  show H1[z]? = some (arrV (T 1) n (fun _ => .int 0))
  rw [← hT]
  exact e1
theorem mz_newJ {n : Nat} (C0 : Cx p s m args c cc nL Ts own D T) (harr : Cond.arrayClass .long ∈ Ts) (hM : hm D T (rg B z) A Sh I J H) (hz : H.size = z) (hB : B ≤ z) (hS : va_S A H0 H locs) (hA : ∀ q, B ≤ q → A q) (hn : n < 2 ^ 26) (hcells : cells + 1 ≤ R.cells) (hslots : slots + n ≤ R.slots) (hdg : decode cc pc = .ok (.newarray .long, 2))
    (kk : ∀ H1 : Heap, hm D T (rg B (z + 1)) A (va_up Sh z (kJ n)) I (va_up J z (fun _ => 0)) H1 → va_S A H0 H1 locs → H1.size = z + 1 → W p l e R s m args below meth c H1 locs (cells + 1) (slots + n) Qq (F0 m (pc + 2) ls (.ref z :: rest))) : W p l e R s m args below meth c H locs cells slots Qq (F0 m pc ls (.int (nI n) :: rest)) := by
  obtain ⟨⟨hx, hb, hml, hown, hts⟩, hK, hN⟩ := C0
  refine va_newaK hx hb (atype := .long) (hts _ harr) rfl hdg rfl (nI_pos (by omega)) (nI_clamp (by omega)) (by show n * 8 ≤ 536870912; omega) hcells hslots hz fun H1 cA e1 z1 o1 hAr hNm => ?_
  have hT : cA = T 2 := Option.some.inj (hNm.symm.trans (hK.2 2 (T 2, .long) rfl).2)
  refine kk H1 (hz_push hM hz hB (hA _ hB) ?_ o1 (fun b hb => hm_e_cong (va_up_ne _ _ (by omega)) rfl (va_up_ne _ _ (by omega)))) (vaS_new hS hz z1 o1) z1
  rw [hm_e_J (va_up_self _ _ _), va_up_self]
  show H1[z]? = some (arrV (T 2) n (fun _ => .long 0))
  rw [← hT]
  exact e1
theorem mz_newR {C : String} {t n index : Nat} (C0 : Cx p s m args c cc nL Ts own D T) (htt : (hm_tys T)[3 + t]? = some (T (3 + t), .object C)) (hcl : Cond.classLink own index C ∈ Ts) (hAO : va_AO C s) (hM : hm D T (rg B z) A Sh I J H) (hz : H.size = z) (hB : B ≤ z) (hS : va_S A H0 H locs) (hA : ∀ q, B ≤ q → A q) (hn : n < 2 ^ 27) (hcells : cells + 1 ≤ R.cells) (hslots : slots + n ≤ R.slots) (hdg : decode cc pc = .ok (.anewarray index, 3))
    (kk : ∀ H1 : Heap, hm D T (rg B (z + 1)) A (va_up Sh z (kR t n (fun _ => none))) I J H1 → va_S A H0 H1 locs → H1.size = z + 1 → W p l e R s m args below meth c H1 locs (cells + 1) (slots + n) Qq (F0 m (pc + 3) ls (.ref z :: rest))) : W p l e R s m args below meth c H locs cells slots Qq (F0 m pc ls (.int (nI n) :: rest)) := by
  obtain ⟨⟨hx, hb, hml, hown, hts⟩, hK, hN⟩ := C0
  have hcN : (nI n).toNatClampNeg = n := nI_clamp (by omega)
  refine W.anew hx hb hown (hts _ hcl) (va_AO.use hAO) rfl hdg rfl (nI_pos (by omega)) (by rw [hcN]; omega) hcells (by rw [hcN]; exact hslots) fun cA kA comp f1 f2 f3 f4 => ?_
  rw [hcN]
  obtain ⟨kA', comp', g1, g2, g3, g4⟩ := (hK.2 (3 + t) (T (3 + t), .object C) htt).2
  have hT : cA = T (3 + t) := Option.some.inj (f1.symm.trans g4)
  generalize hH1 : H.push ({ cls := cA, slots := Array.replicate n .null, vm := .none } : Cell) = H1
  have z1 : H1.size = z + 1 := by rw [← hH1, Array.size_push, hz]
  have e1 : H1[z]? = some (arrV cA n (fun _ => .null)) := by rw [← hH1, ← hz, Array.getElem?_push_size, ← arrV_new]
  have o1 : ∀ q : Nat, q < z → H1[q]? = H[q]? := fun q hq => by rw [← hH1, Array.getElem?_push, if_neg (by omega)]
  rw [hz]
  refine kk H1 (hz_push hM hz hB (hA _ hB) ?_ o1 (fun b hb => hm_e_cong (va_up_ne _ _ (by omega)) rfl rfl)) (vaS_new hS hz z1 o1) z1
  rw [hm_e_R (va_up_self _ _ _)]
  show H1[z]? = some (arrV (T (3 + t)) n (fun _ => .null))
  rw [← hT]
  exact e1
theorem mz_newO {C : String} {TT : u_T} {N ci index : Nat} (C0 : Cx p s m args c cc nL Ts own D T) (hin : ∀ w ∈ u_ws C TT N, w ∈ Ts) (ty0 : Nat → FieldType) (hty : ∀ k, k < N → parseFieldDescriptor (TT k).2.2.1 = some (ty0 k)) (hcl : Cond.classLink own index C ∈ Ts) (hinst : Cond.instantiable C N ∈ Ts) (hini : Cond.initialized C ∈ Ts) (hM : hm D T (rg B z) A Sh I J H) (hz : H.size = z) (hB : B ≤ z) (hS : va_S A H0 H locs) (hA : ∀ q, B ≤ q → A q) (hc : vwCl[ci]? = some (C, TT, N)) {fs : List (Option (Option Nat))} (hfs : ∀ j, j < N → defaultValue (ty0 j) = vp_V (hm_fs fs (fun _ => 0)) j) (hcells : cells + 1 ≤ R.cells) (hslots : slots + N ≤ R.slots) (hdg : decode cc pc = .ok (.new index, 3))
    (kk : ∀ H1 : Heap, hm D T (rg B (z + 1)) A (va_up Sh z (kO ci fs)) (va_up I z (fun _ => 0)) J H1 → va_S A H0 H1 locs → H1.size = z + 1 → W p l e R s m args below meth c H1 locs (cells + 1) (slots + N) Qq (F0 m (pc + 3) ls (.ref z :: rest))) : W p l e R s m args below meth c H locs cells slots Qq (F0 m pc ls rest) := by
  obtain ⟨⟨hx, hb, hml, hown, hts⟩, hK, hN⟩ := C0
  have hKn := hK.1 ci _ hc
  refine W.newcK hx hb hown (hts _ hcl) (hts _ hinst) (hts _ hini) rfl hdg hcells hslots hKn.2.1 hz fun H1 kC hkC e1 z1 o1 => ?_
  refine kk H1 (hz_push hM hz hB (hA _ hB) ?_ o1 (fun b hb => hm_e_cong (va_up_ne _ _ (by omega)) (va_up_ne _ _ (by omega)) rfl)) (vaS_new hS hz z1 o1) z1
  rw [hm_e_O (va_up_self _ _ _), va_up_self]
  exact ⟨_, hc, (u_born ty0 hts hin hKn hkC e1 hty).to hfs⟩
/-- a final field, in its constructor -/
theorem mr_putF {C : String} {TT : u_T} {N ci index : Nat} (C0 : Cx p s m args c cc nL Ts own D T) (hin : ∀ w ∈ u_ws C TT N, w ∈ Ts) (ty0 : Nat → FieldType) (hty : ∀ k, k < N → parseFieldDescriptor (TT k).2.2.1 = some (ty0 k)) (hnm : ∀ a, a < N → ∀ b, b < N → a ≠ b → (TT a).2.1 ≠ (TT b).2.1) (hM : hm D T L A Sh I J H) (hS : va_S A H0 H locs) {fs : List (Option (Option Nat))} (ha : a ∈ L) (hs : Sh a = kO ci fs) (hc : vwCl[ci]? = some (C, TT, N)) (k : Nat) (hk : k < N) {v0 : Option Nat} (hf : fs[k]? = some (some v0)) {v : Nat}
    (hlink : Cond.fieldLink own index C (TT k).2.1 (TT k).2.2.1 ∈ Ts) (hCC : (TT k).1 = C) (hCo : C = own) (hfin : (TT k).2.2.2 = true) (hin2 : meth.name = "<init>") {ty : FieldType} (hd : parseFieldDescriptor (TT k).2.2.1 = some ty) (hn : narrow ty (.ref v) = .ref v) (hfit : fits ty (.ref v) = true) (hdg : decode cc pc = .ok (.putfield index, 3))
    (kk : ∀ (H1 : Heap) (locs1 : List Loc), hm D T L A (va_up Sh a (kO ci (fs.set k (some (some v))))) I J H1 → va_S A H0 H1 locs1 → W p l e R s m args below meth c H1 locs1 cells slots Qq (F0 m (pc + 3) ls rest)) : W p l e R s m args below meth c H locs cells slots Qq (F0 m pc ls (.ref v :: .ref a :: rest)) := by
  obtain ⟨⟨hx, hb, hml, hown, hts⟩, hK, hN⟩ := C0
  have e0 := hm_e_O (I := I) (J := J) (T := T) hs
  obtain ⟨q, hq⟩ := hm_place (J := J) ha e0
  have hl : k < (hm_fs fs (I a)).length := by rw [hm_fs_len]; exact (List.getElem?_eq_some_iff.mp hf).1
  refine va_putF (v := .ref v) hx hb hts hin ty0 hty hnm hown hK hM.1 hM.2 hS q hq hc k hk (hts _ hlink) (fun _ h => by rw [hCC] at h; exact h) hfin hin2 (hCC.trans hCo) hd hn hfit hl hdg (fun H1 locs1 hP hD hS1 => kk H1 locs1 ?_ hS1)
  refine hm_write hM ha e0 hq (x := .inr (ci, (hm_fs fs (I a)).set k (.ref v))) ?_ (fun b hne => hm_e_up a _ hne) hP hD
  rw [hm_e_O (Sh := va_up Sh a (kO ci (fs.set k (some (some v))))) (va_up_self _ _ _)]
  exact congrArg (fun z => Sum.inr (ci, z)) (hm_fs_set (some v) hf).symm
theorem mr_callI {y : MethodName} {bytes : ByteArray} {maxL n index mc ms : Nat} {ws : List Cond} {rm : Room} {b : Nat} {As : List Value} {st0 : List Value} {P Q : Heap → Prop}
    (C0 : Cx p s m args c cc nL Ts own D T) (hc : Ct l y ws rm mc ms D T A (.ref b :: As) P none Q) (cw : CallB R s args own index y bytes maxL none ws rm mc ms n ∧ y.name = "<init>" ∧ (Cond.instanceMethod y).before args s = true) (hP : P H) (hS : va_S A H0 H locs)
    (hst0 : st0 = As.reverse ++ .ref b :: rest) (hn : As.length = n) (hsz : ls.size = nL) (hr : (rest.map fun v => v.category).sum ≤ 8) (hdg : decode cc pc = .ok (.invokespecial index, 3)) (hf : cells + mc ≤ R.cells ∧ slots + ms ≤ R.slots)
    (kk : ∀ (H1 : Heap) (locs1 : List Loc), Q H1 → va_S A H0 H1 locs1 → W p l e R s m args below meth c H1 locs1 (cells + mc) (slots + ms) Qq (F0 m (pc + 3) ls rest)) : W p l e R s m args below meth c H locs cells slots Qq (F0 m pc ls st0) :=
  mr_back (P := P) (va_runI (As := As) (rest := rest) C0.1 hc cw ⟨ct_blind, fun U hU hW => ⟨rfl, by rw [hU]; exact hP, Kx.warm hW C0.2⟩⟩ rfl hn hsz hst0 (lv_room hr) hdg hf) rfl hS rfl kk
end MZ
theorem up_loop {P : Nat → Prop} (n : Nat) (hs : ∀ i, i < n → P (i + 1) → P i) (hn : P n) : P 0 := by
  induction n with
  | zero => exact hn
  | succ n ih => exact ih (fun i hi => hs i (by omega)) (hs n (by omega) hn)
