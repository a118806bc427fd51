section
-- ===== PART A: goes FIRST, ahead of the names: the tables' words, and 'selects' of the private methods out of them =====
/-- a private method of a class that the tables say can be made, by its rows of tables_1 -/
def lw_okq (q : MethodName × Nat) : Prop := (q.1.cls ≠ "java/lang/invoke/MethodHandle" ∧ q.1.cls ≠ "java/lang/invoke/VarHandle") ∧ Cond.instantiable q.1.cls q.2 ∈ tables_1 ∧ Cond.privateMethod q.1 ∈ tables_1 ∧ Cond.instanceMethod q.1 ∈ tables_1
theorem lw_p0 : lw_okq (⟨"StreamMultiplexer", "record", "()V"⟩, 7) := ⟨⟨by decide +kernel, by decide +kernel⟩, List.mem_of_getElem? (i := 9) (by decide +kernel), List.mem_of_getElem? (i := 148) (by decide +kernel), List.mem_of_getElem? (i := 149) (by decide +kernel)⟩
theorem lw_p1 : lw_okq (⟨"StreamMultiplexer", "dropOldest", "()V"⟩, 7) := ⟨⟨by decide +kernel, by decide +kernel⟩, List.mem_of_getElem? (i := 9) (by decide +kernel), List.mem_of_getElem? (i := 152) (by decide +kernel), List.mem_of_getElem? (i := 153) (by decide +kernel)⟩
theorem lw_p2 : lw_okq (⟨"StreamMultiplexer$Order", "findPreceded", "()V"⟩, 2) := ⟨⟨by decide +kernel, by decide +kernel⟩, List.mem_of_getElem? (i := 52) (by decide +kernel), List.mem_of_getElem? (i := 241) (by decide +kernel), List.mem_of_getElem? (i := 242) (by decide +kernel)⟩
theorem lw_p3 : lw_okq (⟨"StreamMultiplexer", "isEpoch", "(I)Z"⟩, 7) := ⟨⟨by decide +kernel, by decide +kernel⟩, List.mem_of_getElem? (i := 9) (by decide +kernel), List.mem_of_getElem? (i := 258) (by decide +kernel), List.mem_of_getElem? (i := 259) (by decide +kernel)⟩
theorem lw_p4 : lw_okq (⟨"StreamMultiplexer$Order", "nextOfAll", "(I)I"⟩, 2) := ⟨⟨by decide +kernel, by decide +kernel⟩, List.mem_of_getElem? (i := 52) (by decide +kernel), List.mem_of_getElem? (i := 280) (by decide +kernel), List.mem_of_getElem? (i := 281) (by decide +kernel)⟩
theorem lw_p5 : lw_okq (⟨"StreamMultiplexer$Order", "lowestNextAt", "(III)I"⟩, 2) := ⟨⟨by decide +kernel, by decide +kernel⟩, List.mem_of_getElem? (i := 52) (by decide +kernel), List.mem_of_getElem? (i := 289) (by decide +kernel), List.mem_of_getElem? (i := 290) (by decide +kernel)⟩
theorem lw_p6 : lw_okq (⟨"StreamMultiplexer$State", "isLessServed", "(II)Z"⟩, 10) := ⟨⟨by decide +kernel, by decide +kernel⟩, List.mem_of_getElem? (i := 17) (by decide +kernel), List.mem_of_getElem? (i := 324) (by decide +kernel), List.mem_of_getElem? (i := 325) (by decide +kernel)⟩
theorem lw_p7 : lw_okq (⟨"StreamMultiplexer", "sentBefore", "(II)I"⟩, 7) := ⟨⟨by decide +kernel, by decide +kernel⟩, List.mem_of_getElem? (i := 9) (by decide +kernel), List.mem_of_getElem? (i := 386) (by decide +kernel), List.mem_of_getElem? (i := 387) (by decide +kernel)⟩
theorem lw_p8 : lw_okq (⟨"StreamMultiplexer", "isEpochOrDraft", "(I)Z"⟩, 7) := ⟨⟨by decide +kernel, by decide +kernel⟩, List.mem_of_getElem? (i := 9) (by decide +kernel), List.mem_of_getElem? (i := 407) (by decide +kernel), List.mem_of_getElem? (i := 408) (by decide +kernel)⟩
theorem lw_p9 : lw_okq (⟨"StreamMultiplexer$Order", "isPrecededByNextOf", "(II)Z"⟩, 2) := ⟨⟨by decide +kernel, by decide +kernel⟩, List.mem_of_getElem? (i := 52) (by decide +kernel), List.mem_of_getElem? (i := 436) (by decide +kernel), List.mem_of_getElem? (i := 437) (by decide +kernel)⟩
theorem lw_p10 : lw_okq (⟨"StreamMultiplexer$Order", "listsByLast", "(I[J)J"⟩, 2) := ⟨⟨by decide +kernel, by decide +kernel⟩, List.mem_of_getElem? (i := 52) (by decide +kernel), List.mem_of_getElem? (i := 450) (by decide +kernel), List.mem_of_getElem? (i := 451) (by decide +kernel)⟩
theorem lw_p11 : lw_okq (⟨"StreamMultiplexerModel", "isOpen", "(I)Z"⟩, 10) := ⟨⟨by decide +kernel, by decide +kernel⟩, List.mem_of_getElem? (i := 462) (by decide +kernel), List.mem_of_getElem? (i := 509) (by decide +kernel), List.mem_of_getElem? (i := 510) (by decide +kernel)⟩
theorem lw_p12 : lw_okq (⟨"StreamMultiplexerModel", "remember", "()V"⟩, 10) := ⟨⟨by decide +kernel, by decide +kernel⟩, List.mem_of_getElem? (i := 462) (by decide +kernel), List.mem_of_getElem? (i := 513) (by decide +kernel), List.mem_of_getElem? (i := 514) (by decide +kernel)⟩
theorem lw_p13 : lw_okq (⟨"StreamMultiplexerModel", "opened", "()I"⟩, 10) := ⟨⟨by decide +kernel, by decide +kernel⟩, List.mem_of_getElem? (i := 462) (by decide +kernel), List.mem_of_getElem? (i := 517) (by decide +kernel), List.mem_of_getElem? (i := 518) (by decide +kernel)⟩
theorem lw_p14 : lw_okq (⟨"StreamMultiplexerModel", "layAfter", "(I)V"⟩, 10) := ⟨⟨by decide +kernel, by decide +kernel⟩, List.mem_of_getElem? (i := 462) (by decide +kernel), List.mem_of_getElem? (i := 537) (by decide +kernel), List.mem_of_getElem? (i := 538) (by decide +kernel)⟩
theorem lw_p15 : lw_okq (⟨"StreamMultiplexerModel", "edges", "(I)I"⟩, 10) := ⟨⟨by decide +kernel, by decide +kernel⟩, List.mem_of_getElem? (i := 462) (by decide +kernel), List.mem_of_getElem? (i := 555) (by decide +kernel), List.mem_of_getElem? (i := 556) (by decide +kernel)⟩
def lw_privs_1 : List (MethodName × Nat) := [(⟨"StreamMultiplexer", "record", "()V"⟩, 7), (⟨"StreamMultiplexer", "dropOldest", "()V"⟩, 7), (⟨"StreamMultiplexer$Order", "findPreceded", "()V"⟩, 2), (⟨"StreamMultiplexer", "isEpoch", "(I)Z"⟩, 7), (⟨"StreamMultiplexer$Order", "nextOfAll", "(I)I"⟩, 2), (⟨"StreamMultiplexer$Order", "lowestNextAt", "(III)I"⟩, 2), (⟨"StreamMultiplexer$State", "isLessServed", "(II)Z"⟩, 10), (⟨"StreamMultiplexer", "sentBefore", "(II)I"⟩, 7), (⟨"StreamMultiplexer", "isEpochOrDraft", "(I)Z"⟩, 7), (⟨"StreamMultiplexer$Order", "isPrecededByNextOf", "(II)Z"⟩, 2), (⟨"StreamMultiplexer$Order", "listsByLast", "(I[J)J"⟩, 2), (⟨"StreamMultiplexerModel", "isOpen", "(I)Z"⟩, 10), (⟨"StreamMultiplexerModel", "remember", "()V"⟩, 10), (⟨"StreamMultiplexerModel", "opened", "()I"⟩, 10), (⟨"StreamMultiplexerModel", "layAfter", "(I)V"⟩, 10), (⟨"StreamMultiplexerModel", "edges", "(I)I"⟩, 10)]
theorem lw_r1 : ∀ q ∈ lw_privs_1, lw_okq q := List.forall_mem_cons.mpr ⟨lw_p0, List.forall_mem_cons.mpr ⟨lw_p1, List.forall_mem_cons.mpr ⟨lw_p2, List.forall_mem_cons.mpr ⟨lw_p3, List.forall_mem_cons.mpr ⟨lw_p4, List.forall_mem_cons.mpr ⟨lw_p5, List.forall_mem_cons.mpr ⟨lw_p6, List.forall_mem_cons.mpr ⟨lw_p7, List.forall_mem_cons.mpr ⟨lw_p8, List.forall_mem_cons.mpr ⟨lw_p9, List.forall_mem_cons.mpr ⟨lw_p10, List.forall_mem_cons.mpr ⟨lw_p11, List.forall_mem_cons.mpr ⟨lw_p12, List.forall_mem_cons.mpr ⟨lw_p13, List.forall_mem_cons.mpr ⟨lw_p14, List.forall_mem_cons.mpr ⟨lw_p15, fun _ h => absurd h List.not_mem_nil⟩⟩⟩⟩⟩⟩⟩⟩⟩⟩⟩⟩⟩⟩⟩⟩
theorem lw_p16 : lw_okq (⟨"StreamMultiplexerModel", "layLeft", "(I)V"⟩, 10) := ⟨⟨by decide +kernel, by decide +kernel⟩, List.mem_of_getElem? (i := 462) (by decide +kernel), List.mem_of_getElem? (i := 566) (by decide +kernel), List.mem_of_getElem? (i := 567) (by decide +kernel)⟩
theorem lw_p17 : lw_okq (⟨"StreamMultiplexerModel", "waiting", "()I"⟩, 10) := ⟨⟨by decide +kernel, by decide +kernel⟩, List.mem_of_getElem? (i := 462) (by decide +kernel), List.mem_of_getElem? (i := 574) (by decide +kernel), List.mem_of_getElem? (i := 575) (by decide +kernel)⟩
theorem lw_p18 : lw_okq (⟨"StreamMultiplexerModel", "sendNext", "()I"⟩, 10) := ⟨⟨by decide +kernel, by decide +kernel⟩, List.mem_of_getElem? (i := 462) (by decide +kernel), List.mem_of_getElem? (i := 578) (by decide +kernel), List.mem_of_getElem? (i := 579) (by decide +kernel)⟩
theorem lw_p19 : lw_okq (⟨"StreamMultiplexerModel", "nextStream", "()I"⟩, 10) := ⟨⟨by decide +kernel, by decide +kernel⟩, List.mem_of_getElem? (i := 462) (by decide +kernel), List.mem_of_getElem? (i := 582) (by decide +kernel), List.mem_of_getElem? (i := 583) (by decide +kernel)⟩
theorem lw_p20 : lw_okq (⟨"StreamMultiplexerModel", "isCandidate", "(I)Z"⟩, 10) := ⟨⟨by decide +kernel, by decide +kernel⟩, List.mem_of_getElem? (i := 462) (by decide +kernel), List.mem_of_getElem? (i := 586) (by decide +kernel), List.mem_of_getElem? (i := 587) (by decide +kernel)⟩
theorem lw_p21 : lw_okq (⟨"StreamMultiplexerModel", "blocking", "(I)I"⟩, 10) := ⟨⟨by decide +kernel, by decide +kernel⟩, List.mem_of_getElem? (i := 462) (by decide +kernel), List.mem_of_getElem? (i := 590) (by decide +kernel), List.mem_of_getElem? (i := 591) (by decide +kernel)⟩
theorem lw_p22 : lw_okq (⟨"StreamMultiplexerModel", "frameAt", "(III)I"⟩, 10) := ⟨⟨by decide +kernel, by decide +kernel⟩, List.mem_of_getElem? (i := 462) (by decide +kernel), List.mem_of_getElem? (i := 594) (by decide +kernel), List.mem_of_getElem? (i := 595) (by decide +kernel)⟩
theorem lw_p23 : lw_okq (⟨"StreamMultiplexerModel", "allWaitingSizes", "()I"⟩, 10) := ⟨⟨by decide +kernel, by decide +kernel⟩, List.mem_of_getElem? (i := 462) (by decide +kernel), List.mem_of_getElem? (i := 610) (by decide +kernel), List.mem_of_getElem? (i := 611) (by decide +kernel)⟩
theorem lw_p24 : lw_okq (⟨"StreamMultiplexerModel", "waitingSize", "(I)I"⟩, 10) := ⟨⟨by decide +kernel, by decide +kernel⟩, List.mem_of_getElem? (i := 462) (by decide +kernel), List.mem_of_getElem? (i := 614) (by decide +kernel), List.mem_of_getElem? (i := 615) (by decide +kernel)⟩
theorem lw_p25 : lw_okq (⟨"StreamMultiplexerModel", "candidates", "()I"⟩, 10) := ⟨⟨by decide +kernel, by decide +kernel⟩, List.mem_of_getElem? (i := 462) (by decide +kernel), List.mem_of_getElem? (i := 618) (by decide +kernel), List.mem_of_getElem? (i := 619) (by decide +kernel)⟩
theorem lw_p26 : lw_okq (⟨"StreamMultiplexerModel", "isCommitted", "()Z"⟩, 10) := ⟨⟨by decide +kernel, by decide +kernel⟩, List.mem_of_getElem? (i := 462) (by decide +kernel), List.mem_of_getElem? (i := 622) (by decide +kernel), List.mem_of_getElem? (i := 623) (by decide +kernel)⟩
theorem lw_p27 : lw_okq (⟨"StreamMultiplexerModel", "before", "(I)I"⟩, 10) := ⟨⟨by decide +kernel, by decide +kernel⟩, List.mem_of_getElem? (i := 462) (by decide +kernel), List.mem_of_getElem? (i := 630) (by decide +kernel), List.mem_of_getElem? (i := 631) (by decide +kernel)⟩
theorem lw_p28 : lw_okq (⟨"StreamMultiplexerModel", "isOrder", "(I)Z"⟩, 10) := ⟨⟨by decide +kernel, by decide +kernel⟩, List.mem_of_getElem? (i := 462) (by decide +kernel), List.mem_of_getElem? (i := 646) (by decide +kernel), List.mem_of_getElem? (i := 647) (by decide +kernel)⟩
theorem lw_p29 : lw_okq (⟨"StreamMultiplexerModel", "openSet", "()I"⟩, 10) := ⟨⟨by decide +kernel, by decide +kernel⟩, List.mem_of_getElem? (i := 462) (by decide +kernel), List.mem_of_getElem? (i := 654) (by decide +kernel), List.mem_of_getElem? (i := 655) (by decide +kernel)⟩
theorem lw_p30 : lw_okq (⟨"StreamMultiplexerModel", "pairs", "(I)I"⟩, 10) := ⟨⟨by decide +kernel, by decide +kernel⟩, List.mem_of_getElem? (i := 462) (by decide +kernel), List.mem_of_getElem? (i := 658) (by decide +kernel), List.mem_of_getElem? (i := 659) (by decide +kernel)⟩
theorem lw_p31 : lw_okq (⟨"StreamMultiplexerModel", "longest", "(I)I"⟩, 10) := ⟨⟨by decide +kernel, by decide +kernel⟩, List.mem_of_getElem? (i := 462) (by decide +kernel), List.mem_of_getElem? (i := 662) (by decide +kernel), List.mem_of_getElem? (i := 663) (by decide +kernel)⟩
def lw_privs_2 : List (MethodName × Nat) := [(⟨"StreamMultiplexerModel", "layLeft", "(I)V"⟩, 10), (⟨"StreamMultiplexerModel", "waiting", "()I"⟩, 10), (⟨"StreamMultiplexerModel", "sendNext", "()I"⟩, 10), (⟨"StreamMultiplexerModel", "nextStream", "()I"⟩, 10), (⟨"StreamMultiplexerModel", "isCandidate", "(I)Z"⟩, 10), (⟨"StreamMultiplexerModel", "blocking", "(I)I"⟩, 10), (⟨"StreamMultiplexerModel", "frameAt", "(III)I"⟩, 10), (⟨"StreamMultiplexerModel", "allWaitingSizes", "()I"⟩, 10), (⟨"StreamMultiplexerModel", "waitingSize", "(I)I"⟩, 10), (⟨"StreamMultiplexerModel", "candidates", "()I"⟩, 10), (⟨"StreamMultiplexerModel", "isCommitted", "()Z"⟩, 10), (⟨"StreamMultiplexerModel", "before", "(I)I"⟩, 10), (⟨"StreamMultiplexerModel", "isOrder", "(I)Z"⟩, 10), (⟨"StreamMultiplexerModel", "openSet", "()I"⟩, 10), (⟨"StreamMultiplexerModel", "pairs", "(I)I"⟩, 10), (⟨"StreamMultiplexerModel", "longest", "(I)I"⟩, 10)]
theorem lw_r2 : ∀ q ∈ lw_privs_2, lw_okq q := List.forall_mem_cons.mpr ⟨lw_p16, List.forall_mem_cons.mpr ⟨lw_p17, List.forall_mem_cons.mpr ⟨lw_p18, List.forall_mem_cons.mpr ⟨lw_p19, List.forall_mem_cons.mpr ⟨lw_p20, List.forall_mem_cons.mpr ⟨lw_p21, List.forall_mem_cons.mpr ⟨lw_p22, List.forall_mem_cons.mpr ⟨lw_p23, List.forall_mem_cons.mpr ⟨lw_p24, List.forall_mem_cons.mpr ⟨lw_p25, List.forall_mem_cons.mpr ⟨lw_p26, List.forall_mem_cons.mpr ⟨lw_p27, List.forall_mem_cons.mpr ⟨lw_p28, List.forall_mem_cons.mpr ⟨lw_p29, List.forall_mem_cons.mpr ⟨lw_p30, List.forall_mem_cons.mpr ⟨lw_p31, fun _ h => absurd h List.not_mem_nil⟩⟩⟩⟩⟩⟩⟩⟩⟩⟩⟩⟩⟩⟩⟩⟩
theorem lw_p32 : lw_okq (⟨"StreamMultiplexerModel", "widest", "(I)I"⟩, 10) := ⟨⟨by decide +kernel, by decide +kernel⟩, List.mem_of_getElem? (i := 462) (by decide +kernel), List.mem_of_getElem? (i := 666) (by decide +kernel), List.mem_of_getElem? (i := 667) (by decide +kernel)⟩
theorem lw_p33 : lw_okq (⟨"StreamMultiplexerModel", "first", "(I)I"⟩, 10) := ⟨⟨by decide +kernel, by decide +kernel⟩, List.mem_of_getElem? (i := 462) (by decide +kernel), List.mem_of_getElem? (i := 670) (by decide +kernel), List.mem_of_getElem? (i := 671) (by decide +kernel)⟩
theorem lw_p34 : lw_okq (⟨"StreamMultiplexerModel", "superfluous", "(I)I"⟩, 10) := ⟨⟨by decide +kernel, by decide +kernel⟩, List.mem_of_getElem? (i := 462) (by decide +kernel), List.mem_of_getElem? (i := 674) (by decide +kernel), List.mem_of_getElem? (i := 675) (by decide +kernel)⟩
def lw_privs_3 : List (MethodName × Nat) := [(⟨"StreamMultiplexerModel", "widest", "(I)I"⟩, 10), (⟨"StreamMultiplexerModel", "first", "(I)I"⟩, 10), (⟨"StreamMultiplexerModel", "superfluous", "(I)I"⟩, 10)]
theorem lw_r3 : ∀ q ∈ lw_privs_3, lw_okq q := List.forall_mem_cons.mpr ⟨lw_p32, List.forall_mem_cons.mpr ⟨lw_p33, List.forall_mem_cons.mpr ⟨lw_p34, fun _ h => absurd h List.not_mem_nil⟩⟩⟩
def lw_privs : List (MethodName × Nat) := lw_privs_1 ++ (lw_privs_2 ++ (lw_privs_3))
def lw_tbl : List Cond := k2_sels lw_privs ++ tables_1
theorem lw_privs_ok : ∀ q ∈ lw_privs, lw_okq q := by
  show ∀ q ∈ lw_privs_1 ++ (lw_privs_2 ++ (lw_privs_3)), lw_okq q
  exact List.forall_mem_append.mpr ⟨lw_r1, List.forall_mem_append.mpr ⟨lw_r2, lw_r3⟩⟩
end
section
/-! ===== BEGIN words of one list among another's, by their places ===== -/
theorem goodIn_r {big : List Cond} (ws : List Cond) (ps : List Nat) (hp : ws = ps.filterMap (fun i => big[i]?)) (h : ws.all goodWord = true) : GoodIn big ws := by
  intro w hw
  have h1 := List.all_eq_true.mp h w hw
  rw [hp] at hw
  obtain ⟨i, -, hi⟩ := List.mem_filterMap.mp hw
  have hm : w ∈ big := by first | exact List.mem_of_getElem? hi | exact List.getElem?_mem hi
  exact ⟨hm, good_of_word h1⟩
theorem goodIn_app {big a b : List Cond} (ha : GoodIn big a) (hb : GoodIn big b) : GoodIn big (a ++ b) := fun w h => (List.mem_append.mp h).elim (ha w) (hb w)
theorem goodIn_ca {big a b : List Cond} {c : Cond} (ha : GoodIn big (c :: a)) (hb : GoodIn big b) : GoodIn big (c :: (a ++ b)) := fun w h => (List.mem_cons.mp h).elim (fun e => ha w (List.mem_cons.mpr (Or.inl e))) (fun h => (List.mem_append.mp h).elim (fun h => ha w (List.mem_cons.mpr (Or.inr h))) (hb w))
theorem goodIn_sub {big ws : List Cond} (hm : ∀ w ∈ ws, w ∈ big) (h : ws.all goodWord = true) : GoodIn big ws := fun w hw => ⟨hm w hw, good_of_word (List.all_eq_true.mp h w hw)⟩
/-! ===== END ===== -/

/-! ===== BEGIN printed: names, fields, word lists, decode rows ===== -/
def RX0 : String := "StreamMultiplexer$Frames"
def TX0 : u_T := fun k => match k with
  | 0 => ("StreamMultiplexer$Frames", "numbers", "[I", true)
  | 1 => ("StreamMultiplexer$Frames", "streams", "[I", true)
  | 2 => ("StreamMultiplexer$Frames", "sizes", "[I", true)
  | 3 => ("StreamMultiplexer$Frames", "epochs", "[I", true)
  | _ => ("StreamMultiplexer$Frames", "count", "I", false)
def tyX0 : Nat → FieldType := fun k => match k with
  | 0 => .array .int
  | 1 => .array .int
  | 2 => .array .int
  | 3 => .array .int
  | _ => .int
abbrev wsX00 : List Cond := u_ws RX0 TX0 5
theorem nmX0 : ∀ a, a < 5 → ∀ b, b < 5 → a ≠ b → (TX0 a).2.1 ≠ (TX0 b).2.1 := by decide +kernel
theorem tyX0_ok : ∀ k, k < 5 → parseFieldDescriptor (TX0 k).2.2.1 = some (tyX0 k) := by decide +kernel
abbrev cX0_init : ByteArray := prog_2_method_1_code
def yX0_init : MethodName := ⟨RX0, "<init>", "(I)V"⟩
abbrev cX0_copyFrom : ByteArray := prog_2_method_2_code
def yX0_copyFrom : MethodName := ⟨RX0, "copyFrom", "(LStreamMultiplexer$Frames;)V"⟩
abbrev cX0_isFull : ByteArray := prog_2_method_3_code
def yX0_isFull : MethodName := ⟨RX0, "isFull", "()Z"⟩
abbrev cX0_hasFrame : ByteArray := prog_2_method_4_code
def yX0_hasFrame : MethodName := ⟨RX0, "hasFrame", "(I)Z"⟩
abbrev cX0_numberAt : ByteArray := prog_2_method_5_code
def yX0_numberAt : MethodName := ⟨RX0, "numberAt", "(I)I"⟩
abbrev cX0_streamAt : ByteArray := prog_2_method_6_code
def yX0_streamAt : MethodName := ⟨RX0, "streamAt", "(I)I"⟩
abbrev cX0_sizeAt : ByteArray := prog_2_method_7_code
def yX0_sizeAt : MethodName := ⟨RX0, "sizeAt", "(I)I"⟩
abbrev cX0_epochAt : ByteArray := prog_2_method_8_code
def yX0_epochAt : MethodName := ⟨RX0, "epochAt", "(I)I"⟩
abbrev cX0_add : ByteArray := prog_2_method_9_code
def yX0_add : MethodName := ⟨RX0, "add", "(IIII)V"⟩
abbrev cX0_removeFirst : ByteArray := prog_2_method_10_code
def yX0_removeFirst : MethodName := ⟨RX0, "removeFirst", "()V"⟩
abbrev cX0_sizeOfAll : ByteArray := prog_2_method_11_code
def yX0_sizeOfAll : MethodName := ⟨RX0, "sizeOfAll", "()I"⟩
abbrev cX0_countOfEpochUpTo : ByteArray := prog_2_method_12_code
def yX0_countOfEpochUpTo : MethodName := ⟨RX0, "countOfEpochUpTo", "(I)I"⟩
def RX1 : String := "StreamMultiplexer$Order"
def TX1 : u_T := fun k => match k with
  | 0 => ("StreamMultiplexer$Order", "next", "[I", true)
  | _ => ("StreamMultiplexer$Order", "preceded", "[I", true)
def tyX1 : Nat → FieldType := fun k => match k with
  | 0 => .array .int
  | _ => .array .int
abbrev wsX10 : List Cond := u_ws RX1 TX1 2
theorem nmX1 : ∀ a, a < 2 → ∀ b, b < 2 → a ≠ b → (TX1 a).2.1 ≠ (TX1 b).2.1 := by decide +kernel
theorem tyX1_ok : ∀ k, k < 2 → parseFieldDescriptor (TX1 k).2.2.1 = some (tyX1 k) := by decide +kernel
abbrev cX1_init : ByteArray := prog_3_method_1_code
def yX1_init : MethodName := ⟨RX1, "<init>", "()V"⟩
abbrev cX1_copyFrom : ByteArray := prog_3_method_2_code
def yX1_copyFrom : MethodName := ⟨RX1, "copyFrom", "(LStreamMultiplexer$Order;)V"⟩
abbrev cX1_hasEdge : ByteArray := prog_3_method_3_code
def yX1_hasEdge : MethodName := ⟨RX1, "hasEdge", "(II)Z"⟩
abbrev cX1_precedes : ByteArray := prog_3_method_4_code
def yX1_precedes : MethodName := ⟨RX1, "precedes", "(II)Z"⟩
abbrev cX1_putEdge : ByteArray := prog_3_method_5_code
def yX1_putEdge : MethodName := ⟨RX1, "putEdge", "(IIZ)V"⟩
abbrev cX1_findPreceded : ByteArray := prog_3_method_6_code
def yX1_findPreceded : MethodName := ⟨RX1, "findPreceded", "()V"⟩
abbrev cX1_edgeCount : ByteArray := prog_3_method_7_code
def yX1_edgeCount : MethodName := ⟨RX1, "edgeCount", "()I"⟩
abbrev cX1_hasSameEdges : ByteArray := prog_3_method_8_code
def yX1_hasSameEdges : MethodName := ⟨RX1, "hasSameEdges", "(LStreamMultiplexer$Order;)Z"⟩
abbrev cX1_distance : ByteArray := prog_3_method_9_code
def yX1_distance : MethodName := ⟨RX1, "distance", "(II)I"⟩
abbrev cX1_nextOfAll : ByteArray := prog_3_method_10_code
def yX1_nextOfAll : MethodName := ⟨RX1, "nextOfAll", "(I)I"⟩
abbrev cX1_streamOfWalk : ByteArray := prog_3_method_11_code
def yX1_streamOfWalk : MethodName := ⟨RX1, "streamOfWalk", "(III)I"⟩
abbrev cX1_lowestNextAt : ByteArray := prog_3_method_12_code
def yX1_lowestNextAt : MethodName := ⟨RX1, "lowestNextAt", "(III)I"⟩
abbrev cX1_pairsAmong : ByteArray := prog_3_method_13_code
def yX1_pairsAmong : MethodName := ⟨RX1, "pairsAmong", "(I)I"⟩
abbrev cX1_firstOf : ByteArray := prog_3_method_14_code
def yX1_firstOf : MethodName := ⟨RX1, "firstOf", "(I)I"⟩
abbrev cX1_longestChainAmong : ByteArray := prog_3_method_15_code
def yX1_longestChainAmong : MethodName := ⟨RX1, "longestChainAmong", "(I)I"⟩
abbrev cX1_widestChoiceAmong : ByteArray := prog_3_method_16_code
def yX1_widestChoiceAmong : MethodName := ⟨RX1, "widestChoiceAmong", "(I)I"⟩
abbrev cX1_needlessEdges : ByteArray := prog_3_method_17_code
def yX1_needlessEdges : MethodName := ⟨RX1, "needlessEdges", "()I"⟩
abbrev cX1_isPrecededByNextOf : ByteArray := prog_3_method_18_code
def yX1_isPrecededByNextOf : MethodName := ⟨RX1, "isPrecededByNextOf", "(II)Z"⟩
abbrev cX1_countLists : ByteArray := prog_3_method_19_code
def yX1_countLists : MethodName := ⟨RX1, "countLists", "(I[J)J"⟩
abbrev cX1_listsByLast : ByteArray := prog_3_method_20_code
def yX1_listsByLast : MethodName := ⟨RX1, "listsByLast", "(I[J)J"⟩
def RX2 : String := "StreamMultiplexer$State"
def TX2 : u_T := fun k => match k with
  | 0 => ("StreamMultiplexer$State", "opened", "I", false)
  | 1 => ("StreamMultiplexer$State", "weights", "[I", true)
  | 2 => ("StreamMultiplexer$State", "amounts", "[I", true)
  | 3 => ("StreamMultiplexer$State", "queues", "[LStreamMultiplexer$Frames;", true)
  | 4 => ("StreamMultiplexer$State", "draft", "LStreamMultiplexer$Order;", true)
  | 5 => ("StreamMultiplexer$State", "orders", "[LStreamMultiplexer$Order;", true)
  | 6 => ("StreamMultiplexer$State", "epochCount", "I", false)
  | 7 => ("StreamMultiplexer$State", "came", "I", false)
  | 8 => ("StreamMultiplexer$State", "sent", "I", false)
  | _ => ("StreamMultiplexer$State", "sentFrames", "LStreamMultiplexer$Frames;", true)
def tyX2 : Nat → FieldType := fun k => match k with
  | 0 => .int
  | 1 => .array .int
  | 2 => .array .int
  | 3 => .array (.object "StreamMultiplexer$Frames")
  | 4 => .object "StreamMultiplexer$Order"
  | 5 => .array (.object "StreamMultiplexer$Order")
  | 6 => .int
  | 7 => .int
  | 8 => .int
  | _ => .object "StreamMultiplexer$Frames"
abbrev wsX20 : List Cond := u_ws RX2 TX2 10
theorem nmX2 : ∀ a, a < 10 → ∀ b, b < 10 → a ≠ b → (TX2 a).2.1 ≠ (TX2 b).2.1 := by decide +kernel
theorem tyX2_ok : ∀ k, k < 10 → parseFieldDescriptor (TX2 k).2.2.1 = some (tyX2 k) := by decide +kernel
abbrev cX2_init : ByteArray := prog_4_method_1_code
def yX2_init : MethodName := ⟨RX2, "<init>", "()V"⟩
abbrev cX2_copyFrom : ByteArray := prog_4_method_2_code
def yX2_copyFrom : MethodName := ⟨RX2, "copyFrom", "(LStreamMultiplexer$State;)V"⟩
abbrev cX2_isOpen : ByteArray := prog_4_method_3_code
def yX2_isOpen : MethodName := ⟨RX2, "isOpen", "(I)Z"⟩
abbrev cX2_openStream : ByteArray := prog_4_method_4_code
def yX2_openStream : MethodName := ⟨RX2, "openStream", "(II)V"⟩
abbrev cX2_closeStream : ByteArray := prog_4_method_5_code
def yX2_closeStream : MethodName := ⟨RX2, "closeStream", "(I)V"⟩
abbrev cX2_currentEpoch : ByteArray := prog_4_method_6_code
def yX2_currentEpoch : MethodName := ⟨RX2, "currentEpoch", "()I"⟩
abbrev cX2_orderOf : ByteArray := prog_4_method_7_code
def yX2_orderOf : MethodName := ⟨RX2, "orderOf", "(I)LStreamMultiplexer$Order;"⟩
abbrev cX2_beginEpoch : ByteArray := prog_4_method_8_code
def yX2_beginEpoch : MethodName := ⟨RX2, "beginEpoch", "()V"⟩
abbrev cX2_takeFrame : ByteArray := prog_4_method_9_code
def yX2_takeFrame : MethodName := ⟨RX2, "takeFrame", "(II)I"⟩
abbrev cX2_waitingCount : ByteArray := prog_4_method_10_code
def yX2_waitingCount : MethodName := ⟨RX2, "waitingCount", "()I"⟩
abbrev cX2_waitingSize : ByteArray := prog_4_method_11_code
def yX2_waitingSize : MethodName := ⟨RX2, "waitingSize", "()I"⟩
abbrev cX2_blockersOfFirst : ByteArray := prog_4_method_12_code
def yX2_blockersOfFirst : MethodName := ⟨RX2, "blockersOfFirst", "(I)I"⟩
abbrev cX2_isCandidate : ByteArray := prog_4_method_13_code
def yX2_isCandidate : MethodName := ⟨RX2, "isCandidate", "(I)Z"⟩
abbrev cX2_candidateCount : ByteArray := prog_4_method_14_code
def yX2_candidateCount : MethodName := ⟨RX2, "candidateCount", "()I"⟩
abbrev cX2_nextStream : ByteArray := prog_4_method_15_code
def yX2_nextStream : MethodName := ⟨RX2, "nextStream", "()I"⟩
abbrev cX2_isLessServed : ByteArray := prog_4_method_16_code
def yX2_isLessServed : MethodName := ⟨RX2, "isLessServed", "(II)Z"⟩
abbrev cX2_sendFirst : ByteArray := prog_4_method_17_code
def yX2_sendFirst : MethodName := ⟨RX2, "sendFirst", "(I)V"⟩
def RX3 : String := "StreamMultiplexer"
def TX3 : u_T := fun k => match k with
  | 0 => ("StreamMultiplexer", "present", "LStreamMultiplexer$State;", false)
  | 1 => ("StreamMultiplexer", "forecast", "LStreamMultiplexer$State;", true)
  | 2 => ("StreamMultiplexer", "history", "[LStreamMultiplexer$State;", true)
  | 3 => ("StreamMultiplexer", "historyCount", "I", false)
  | 4 => ("StreamMultiplexer", "images", "[LStreamMultiplexer$State;", true)
  | 5 => ("StreamMultiplexer", "kept", "[Z", true)
  | _ => ("StreamMultiplexer", "listsOfSet", "[J", true)
def tyX3 : Nat → FieldType := fun k => match k with
  | 0 => .object "StreamMultiplexer$State"
  | 1 => .object "StreamMultiplexer$State"
  | 2 => .array (.object "StreamMultiplexer$State")
  | 3 => .int
  | 4 => .array (.object "StreamMultiplexer$State")
  | 5 => .array .boolean
  | _ => .array .long
abbrev wsX30 : List Cond := u_ws RX3 TX3 7
theorem nmX3 : ∀ a, a < 7 → ∀ b, b < 7 → a ≠ b → (TX3 a).2.1 ≠ (TX3 b).2.1 := by decide +kernel
theorem tyX3_ok : ∀ k, k < 7 → parseFieldDescriptor (TX3 k).2.2.1 = some (tyX3 k) := by decide +kernel
abbrev cX3_init : ByteArray := prog_1_method_1_code
def yX3_init : MethodName := ⟨RX3, "<init>", "()V"⟩
abbrev cX3_open : ByteArray := prog_1_method_2_code
def yX3_open : MethodName := ⟨RX3, "open", "(II)I"⟩
abbrev cX3_close : ByteArray := prog_1_method_3_code
def yX3_close : MethodName := ⟨RX3, "close", "(I)I"⟩
abbrev cX3_setWeight : ByteArray := prog_1_method_4_code
def yX3_setWeight : MethodName := ⟨RX3, "setWeight", "(II)I"⟩
abbrev cX3_push : ByteArray := prog_1_method_5_code
def yX3_push : MethodName := ⟨RX3, "push", "(II)I"⟩
abbrev cX3_edge : ByteArray := prog_1_method_6_code
def yX3_edge : MethodName := ⟨RX3, "edge", "(III)I"⟩
abbrev cX3_commit : ByteArray := prog_1_method_7_code
def yX3_commit : MethodName := ⟨RX3, "commit", "()I"⟩
abbrev cX3_revert : ByteArray := prog_1_method_8_code
def yX3_revert : MethodName := ⟨RX3, "revert", "(I)I"⟩
abbrev cX3_witness : ByteArray := prog_1_method_9_code
def yX3_witness : MethodName := ⟨RX3, "witness", "(III)I"⟩
abbrev cX3_send : ByteArray := prog_1_method_10_code
def yX3_send : MethodName := ⟨RX3, "send", "()I"⟩
abbrev cX3_sendSome : ByteArray := prog_1_method_11_code
def yX3_sendSome : MethodName := ⟨RX3, "sendSome", "(I)I"⟩
abbrev cX3_undo : ByteArray := prog_1_method_12_code
def yX3_undo : MethodName := ⟨RX3, "undo", "()I"⟩
abbrev cX3_told : ByteArray := prog_1_method_13_code
def yX3_told : MethodName := ⟨RX3, "told", "(I)I"⟩
abbrev cX3_stream : ByteArray := prog_1_method_14_code
def yX3_stream : MethodName := ⟨RX3, "stream", "(II)I"⟩
abbrev cX3_frame : ByteArray := prog_1_method_15_code
def yX3_frame : MethodName := ⟨RX3, "frame", "(III)I"⟩
abbrev cX3_log : ByteArray := prog_1_method_16_code
def yX3_log : MethodName := ⟨RX3, "log", "(II)I"⟩
abbrev cX3_relation : ByteArray := prog_1_method_17_code
def yX3_relation : MethodName := ⟨RX3, "relation", "(III)I"⟩
abbrev cX3_order : ByteArray := prog_1_method_18_code
def yX3_order : MethodName := ⟨RX3, "order", "(II)I"⟩
abbrev cX3_lists : ByteArray := prog_1_method_19_code
def yX3_lists : MethodName := ⟨RX3, "lists", "(I)J"⟩
abbrev cX3_keep : ByteArray := prog_1_method_20_code
def yX3_keep : MethodName := ⟨RX3, "keep", "(I)I"⟩
abbrev cX3_back : ByteArray := prog_1_method_21_code
def yX3_back : MethodName := ⟨RX3, "back", "(I)I"⟩
abbrev cX3_isWithin : ByteArray := prog_1_method_22_code
def yX3_isWithin : MethodName := ⟨RX3, "isWithin", "(III)Z"⟩
abbrev cX3_isStream : ByteArray := prog_1_method_23_code
def yX3_isStream : MethodName := ⟨RX3, "isStream", "(I)Z"⟩
abbrev cX3_areTwoStreams : ByteArray := prog_1_method_24_code
def yX3_areTwoStreams : MethodName := ⟨RX3, "areTwoStreams", "(II)Z"⟩
abbrev cX3_setOf : ByteArray := prog_1_method_25_code
def yX3_setOf : MethodName := ⟨RX3, "setOf", "(I)I"⟩
abbrev cX3_isIn : ByteArray := prog_1_method_26_code
def yX3_isIn : MethodName := ⟨RX3, "isIn", "(II)Z"⟩
abbrev cX3_isEpoch : ByteArray := prog_1_method_27_code
def yX3_isEpoch : MethodName := ⟨RX3, "isEpoch", "(I)Z"⟩
abbrev cX3_isEpochOrDraft : ByteArray := prog_1_method_28_code
def yX3_isEpochOrDraft : MethodName := ⟨RX3, "isEpochOrDraft", "(I)Z"⟩
abbrev cX3_record : ByteArray := prog_1_method_29_code
def yX3_record : MethodName := ⟨RX3, "record", "()V"⟩
abbrev cX3_dropOldest : ByteArray := prog_1_method_30_code
def yX3_dropOldest : MethodName := ⟨RX3, "dropOldest", "()V"⟩
abbrev cX3_sentBefore : ByteArray := prog_1_method_31_code
def yX3_sentBefore : MethodName := ⟨RX3, "sentBefore", "(II)I"⟩
def RX4 : String := "StreamMultiplexerModel"
def TX4 : u_T := fun k => match k with
  | 0 => ("StreamMultiplexerModel", "w", "[I", true)
  | 1 => ("StreamMultiplexerModel", "past", "[I", true)
  | 2 => ("StreamMultiplexerModel", "pastMany", "I", false)
  | 3 => ("StreamMultiplexerModel", "images", "[I", true)
  | 4 => ("StreamMultiplexerModel", "filled", "I", false)
  | 5 => ("StreamMultiplexerModel", "after", "[I", true)
  | 6 => ("StreamMultiplexerModel", "held", "[I", true)
  | 7 => ("StreamMultiplexerModel", "left", "[I", true)
  | 8 => ("StreamMultiplexerModel", "chain", "[I", true)
  | _ => ("StreamMultiplexerModel", "counts", "[J", true)
def tyX4 : Nat → FieldType := fun k => match k with
  | 0 => .array .int
  | 1 => .array .int
  | 2 => .int
  | 3 => .array .int
  | 4 => .int
  | 5 => .array .int
  | 6 => .array .int
  | 7 => .array .int
  | 8 => .array .int
  | _ => .array .long
abbrev wsX40 : List Cond := u_ws RX4 TX4 10
theorem nmX4 : ∀ a, a < 10 → ∀ b, b < 10 → a ≠ b → (TX4 a).2.1 ≠ (TX4 b).2.1 := by decide +kernel
theorem tyX4_ok : ∀ k, k < 10 → parseFieldDescriptor (TX4 k).2.2.1 = some (tyX4 k) := by decide +kernel
abbrev cX4_init : ByteArray := prog_6_method_1_code
def yX4_init : MethodName := ⟨RX4, "<init>", "()V"⟩
abbrev cX4_isIn : ByteArray := prog_6_method_3_code
def yX4_isIn : MethodName := ⟨RX4, "isIn", "(III)Z"⟩
abbrev cX4_has : ByteArray := prog_6_method_4_code
def yX4_has : MethodName := ⟨RX4, "has", "(II)Z"⟩
abbrev cX4_isStream : ByteArray := prog_6_method_5_code
def yX4_isStream : MethodName := ⟨RX4, "isStream", "(I)Z"⟩
abbrev cX4_isOpen : ByteArray := prog_6_method_6_code
def yX4_isOpen : MethodName := ⟨RX4, "isOpen", "(I)Z"⟩
abbrev cX4_remember : ByteArray := prog_6_method_7_code
def yX4_remember : MethodName := ⟨RX4, "remember", "()V"⟩
abbrev cX4_frameAt : ByteArray := prog_6_method_8_code
def yX4_frameAt : MethodName := ⟨RX4, "frameAt", "(III)I"⟩
abbrev cX4_orderOf : ByteArray := prog_6_method_9_code
def yX4_orderOf : MethodName := ⟨RX4, "orderOf", "(I)I"⟩
abbrev cX4_isOrder : ByteArray := prog_6_method_10_code
def yX4_isOrder : MethodName := ⟨RX4, "isOrder", "(I)Z"⟩
abbrev cX4_layAfter : ByteArray := prog_6_method_11_code
def yX4_layAfter : MethodName := ⟨RX4, "layAfter", "(I)V"⟩
abbrev cX4_size : ByteArray := prog_6_method_12_code
def yX4_size : MethodName := ⟨RX4, "size", "(I)I"⟩
abbrev cX4_edges : ByteArray := prog_6_method_13_code
def yX4_edges : MethodName := ⟨RX4, "edges", "(I)I"⟩
abbrev cX4_blocking : ByteArray := prog_6_method_14_code
def yX4_blocking : MethodName := ⟨RX4, "blocking", "(I)I"⟩
abbrev cX4_isCandidate : ByteArray := prog_6_method_15_code
def yX4_isCandidate : MethodName := ⟨RX4, "isCandidate", "(I)Z"⟩
abbrev cX4_nextStream : ByteArray := prog_6_method_16_code
def yX4_nextStream : MethodName := ⟨RX4, "nextStream", "()I"⟩
abbrev cX4_sendNext : ByteArray := prog_6_method_17_code
def yX4_sendNext : MethodName := ⟨RX4, "sendNext", "()I"⟩
abbrev cX4_waiting : ByteArray := prog_6_method_18_code
def yX4_waiting : MethodName := ⟨RX4, "waiting", "()I"⟩
abbrev cX4_before : ByteArray := prog_6_method_19_code
def yX4_before : MethodName := ⟨RX4, "before", "(I)I"⟩
abbrev cX4_opened : ByteArray := prog_6_method_20_code
def yX4_opened : MethodName := ⟨RX4, "opened", "()I"⟩
abbrev cX4_open : ByteArray := prog_6_method_21_code
def yX4_open : MethodName := ⟨RX4, "open", "(II)I"⟩
abbrev cX4_close : ByteArray := prog_6_method_22_code
def yX4_close : MethodName := ⟨RX4, "close", "(I)I"⟩
abbrev cX4_setWeight : ByteArray := prog_6_method_23_code
def yX4_setWeight : MethodName := ⟨RX4, "setWeight", "(II)I"⟩
abbrev cX4_push : ByteArray := prog_6_method_24_code
def yX4_push : MethodName := ⟨RX4, "push", "(II)I"⟩
abbrev cX4_edge : ByteArray := prog_6_method_25_code
def yX4_edge : MethodName := ⟨RX4, "edge", "(III)I"⟩
abbrev cX4_commit : ByteArray := prog_6_method_26_code
def yX4_commit : MethodName := ⟨RX4, "commit", "()I"⟩
abbrev cX4_revert : ByteArray := prog_6_method_27_code
def yX4_revert : MethodName := ⟨RX4, "revert", "(I)I"⟩
abbrev cX4_layLeft : ByteArray := prog_6_method_28_code
def yX4_layLeft : MethodName := ⟨RX4, "layLeft", "(I)V"⟩
abbrev cX4_witness : ByteArray := prog_6_method_29_code
def yX4_witness : MethodName := ⟨RX4, "witness", "(III)I"⟩
abbrev cX4_send : ByteArray := prog_6_method_30_code
def yX4_send : MethodName := ⟨RX4, "send", "()I"⟩
abbrev cX4_sendSome : ByteArray := prog_6_method_31_code
def yX4_sendSome : MethodName := ⟨RX4, "sendSome", "(I)I"⟩
abbrev cX4_undo : ByteArray := prog_6_method_32_code
def yX4_undo : MethodName := ⟨RX4, "undo", "()I"⟩
abbrev cX4_waitingSize : ByteArray := prog_6_method_33_code
def yX4_waitingSize : MethodName := ⟨RX4, "waitingSize", "(I)I"⟩
abbrev cX4_allWaitingSizes : ByteArray := prog_6_method_34_code
def yX4_allWaitingSizes : MethodName := ⟨RX4, "allWaitingSizes", "()I"⟩
abbrev cX4_candidates : ByteArray := prog_6_method_35_code
def yX4_candidates : MethodName := ⟨RX4, "candidates", "()I"⟩
abbrev cX4_isCommitted : ByteArray := prog_6_method_36_code
def yX4_isCommitted : MethodName := ⟨RX4, "isCommitted", "()Z"⟩
abbrev cX4_told : ByteArray := prog_6_method_37_code
def yX4_told : MethodName := ⟨RX4, "told", "(I)I"⟩
abbrev cX4_stream : ByteArray := prog_6_method_38_code
def yX4_stream : MethodName := ⟨RX4, "stream", "(II)I"⟩
abbrev cX4_frame : ByteArray := prog_6_method_39_code
def yX4_frame : MethodName := ⟨RX4, "frame", "(III)I"⟩
abbrev cX4_log : ByteArray := prog_6_method_40_code
def yX4_log : MethodName := ⟨RX4, "log", "(II)I"⟩
abbrev cX4_relation : ByteArray := prog_6_method_41_code
def yX4_relation : MethodName := ⟨RX4, "relation", "(III)I"⟩
abbrev cX4_openSet : ByteArray := prog_6_method_42_code
def yX4_openSet : MethodName := ⟨RX4, "openSet", "()I"⟩
abbrev cX4_pairs : ByteArray := prog_6_method_43_code
def yX4_pairs : MethodName := ⟨RX4, "pairs", "(I)I"⟩
abbrev cX4_longest : ByteArray := prog_6_method_44_code
def yX4_longest : MethodName := ⟨RX4, "longest", "(I)I"⟩
abbrev cX4_widest : ByteArray := prog_6_method_45_code
def yX4_widest : MethodName := ⟨RX4, "widest", "(I)I"⟩
abbrev cX4_first : ByteArray := prog_6_method_46_code
def yX4_first : MethodName := ⟨RX4, "first", "(I)I"⟩
abbrev cX4_superfluous : ByteArray := prog_6_method_47_code
def yX4_superfluous : MethodName := ⟨RX4, "superfluous", "(I)I"⟩
abbrev cX4_order : ByteArray := prog_6_method_48_code
def yX4_order : MethodName := ⟨RX4, "order", "(II)I"⟩
abbrev cX4_lists : ByteArray := prog_6_method_49_code
def yX4_lists : MethodName := ⟨RX4, "lists", "(I)J"⟩
abbrev cX4_isImage : ByteArray := prog_6_method_50_code
def yX4_isImage : MethodName := ⟨RX4, "isImage", "(I)Z"⟩
abbrev cX4_keep : ByteArray := prog_6_method_51_code
def yX4_keep : MethodName := ⟨RX4, "keep", "(I)I"⟩
abbrev cX4_back : ByteArray := prog_6_method_52_code
def yX4_back : MethodName := ⟨RX4, "back", "(I)I"⟩
def RJ6 : String := "java/lang/Integer"
def TJ6 : u_T := fun k => match k with
  | _ => ("", "", "", false)
def tyJ6 : Nat → FieldType := fun k => match k with
  | _ => .int
abbrev wsJ60 : List Cond := u_ws RJ6 TJ6 0
theorem nmJ6 : ∀ a, a < 0 → ∀ b, b < 0 → a ≠ b → (TJ6 a).2.1 ≠ (TJ6 b).2.1 := by decide +kernel
theorem tyJ6_ok : ∀ k, k < 0 → parseFieldDescriptor (TJ6 k).2.2.1 = some (tyJ6 k) := by decide +kernel
abbrev cJ6_bitCount_0f7a4 : ByteArray := prog_7_method_49_code
def yJ6_bitCount_0f7a4 : MethodName := ⟨RJ6, "bitCount", "(I)I"⟩
def RJ9 : String := "java/lang/Math"
def TJ9 : u_T := fun k => match k with
  | _ => ("", "", "", false)
def tyJ9 : Nat → FieldType := fun k => match k with
  | _ => .int
abbrev wsJ90 : List Cond := u_ws RJ9 TJ9 0
theorem nmJ9 : ∀ a, a < 0 → ∀ b, b < 0 → a ≠ b → (TJ9 a).2.1 ≠ (TJ9 b).2.1 := by decide +kernel
theorem tyJ9_ok : ∀ k, k < 0 → parseFieldDescriptor (TJ9 k).2.2.1 = some (tyJ9 k) := by decide +kernel
abbrev cJ9_max_7cf53 : ByteArray := prog_8_method_65_code
def yJ9_max_7cf53 : MethodName := ⟨RJ9, "max", "(II)I"⟩
abbrev cJ9_min_7cf53 : ByteArray := prog_8_method_69_code
def yJ9_min_7cf53 : MethodName := ⟨RJ9, "min", "(II)I"⟩
def RL : String := "StreamMultiplexerLaw"
abbrev cL_law : ByteArray := code
def yL_law : MethodName := ⟨RL, "law", "([I)Z"⟩
def wsX0_init : List Cond := .code yX0_init cX0_init 3 none :: ([.methodLink RX0 3 objectInit, .instanceMethod objectInit, .code objectInit ⟨#[0xb1]⟩ 1 none, .methodLink RX0 9 Lib.Math.max.name, .static Lib.Math.max.name, .initialized "java/lang/Math", .code Lib.Math.max.name Lib.Math.max.code 2 (some .int), .arrayClass .int, .fieldLink RX0 15 "StreamMultiplexer$Frames" "numbers" "[I", .fieldLink RX0 21 "StreamMultiplexer$Frames" "streams" "[I", .fieldLink RX0 24 "StreamMultiplexer$Frames" "sizes" "[I", .fieldLink RX0 27 "StreamMultiplexer$Frames" "epochs" "[I", .fieldLink RX0 30 "StreamMultiplexer$Frames" "count" "I"] ++ wsX00)
def wsX0_copyFrom : List Cond := .code yX0_copyFrom cX0_copyFrom 3 none :: ([.fieldLink RX0 30 "StreamMultiplexer$Frames" "count" "I", .fieldLink RX0 15 "StreamMultiplexer$Frames" "numbers" "[I", .methodLink RX0 34 Lib.Math.min.name, .static Lib.Math.min.name, .initialized "java/lang/Math", .code Lib.Math.min.name Lib.Math.min.code 2 (some .int), .fieldLink RX0 21 "StreamMultiplexer$Frames" "streams" "[I", .fieldLink RX0 24 "StreamMultiplexer$Frames" "sizes" "[I", .fieldLink RX0 27 "StreamMultiplexer$Frames" "epochs" "[I"] ++ wsX00)
def wsX0_isFull : List Cond := .code yX0_isFull cX0_isFull 1 (some .boolean) :: ([.fieldLink RX0 30 "StreamMultiplexer$Frames" "count" "I", .fieldLink RX0 15 "StreamMultiplexer$Frames" "numbers" "[I"] ++ wsX00)
def wsX0_hasFrame : List Cond := .code yX0_hasFrame cX0_hasFrame 2 (some .boolean) :: ([.fieldLink RX0 30 "StreamMultiplexer$Frames" "count" "I"] ++ wsX00)
def wsX0_numberAt : List Cond := .code yX0_numberAt cX0_numberAt 2 (some .int) :: ([.fieldLink RX0 15 "StreamMultiplexer$Frames" "numbers" "[I", .methodLink RX0 37 yX0_hasFrame, .instanceMethod yX0_hasFrame, .selects RX0 yX0_hasFrame yX0_hasFrame, .initialized RX0, .code yX0_hasFrame cX0_hasFrame 2 (some .boolean), .fieldLink RX0 30 "StreamMultiplexer$Frames" "count" "I"] ++ wsX00)
def wsX0_streamAt : List Cond := .code yX0_streamAt cX0_streamAt 2 (some .int) :: ([.fieldLink RX0 21 "StreamMultiplexer$Frames" "streams" "[I", .methodLink RX0 37 yX0_hasFrame, .instanceMethod yX0_hasFrame, .selects RX0 yX0_hasFrame yX0_hasFrame, .initialized RX0, .code yX0_hasFrame cX0_hasFrame 2 (some .boolean), .fieldLink RX0 30 "StreamMultiplexer$Frames" "count" "I"] ++ wsX00)
def wsX0_sizeAt : List Cond := .code yX0_sizeAt cX0_sizeAt 2 (some .int) :: ([.fieldLink RX0 24 "StreamMultiplexer$Frames" "sizes" "[I", .methodLink RX0 37 yX0_hasFrame, .instanceMethod yX0_hasFrame, .selects RX0 yX0_hasFrame yX0_hasFrame, .initialized RX0, .code yX0_hasFrame cX0_hasFrame 2 (some .boolean), .fieldLink RX0 30 "StreamMultiplexer$Frames" "count" "I"] ++ wsX00)
def wsX0_epochAt : List Cond := .code yX0_epochAt cX0_epochAt 2 (some .int) :: ([.fieldLink RX0 27 "StreamMultiplexer$Frames" "epochs" "[I", .methodLink RX0 37 yX0_hasFrame, .instanceMethod yX0_hasFrame, .selects RX0 yX0_hasFrame yX0_hasFrame, .initialized RX0, .code yX0_hasFrame cX0_hasFrame 2 (some .boolean), .fieldLink RX0 30 "StreamMultiplexer$Frames" "count" "I"] ++ wsX00)
def wsX0_add : List Cond := .code yX0_add cX0_add 5 none :: ([.fieldLink RX0 15 "StreamMultiplexer$Frames" "numbers" "[I", .fieldLink RX0 30 "StreamMultiplexer$Frames" "count" "I", .fieldLink RX0 21 "StreamMultiplexer$Frames" "streams" "[I", .fieldLink RX0 24 "StreamMultiplexer$Frames" "sizes" "[I", .fieldLink RX0 27 "StreamMultiplexer$Frames" "epochs" "[I", .methodLink RX0 41 yX0_isFull, .instanceMethod yX0_isFull, .selects RX0 yX0_isFull yX0_isFull, .initialized RX0, .code yX0_isFull cX0_isFull 1 (some .boolean)] ++ wsX00)
def wsX0_removeFirst : List Cond := .code yX0_removeFirst cX0_removeFirst 2 none :: ([.fieldLink RX0 30 "StreamMultiplexer$Frames" "count" "I", .fieldLink RX0 15 "StreamMultiplexer$Frames" "numbers" "[I", .fieldLink RX0 21 "StreamMultiplexer$Frames" "streams" "[I", .fieldLink RX0 24 "StreamMultiplexer$Frames" "sizes" "[I", .fieldLink RX0 27 "StreamMultiplexer$Frames" "epochs" "[I"] ++ wsX00)
def wsX0_sizeOfAll : List Cond := .code yX0_sizeOfAll cX0_sizeOfAll 3 (some .int) :: ([.fieldLink RX0 30 "StreamMultiplexer$Frames" "count" "I", .fieldLink RX0 24 "StreamMultiplexer$Frames" "sizes" "[I"] ++ wsX00)
def wsX0_countOfEpochUpTo : List Cond := .code yX0_countOfEpochUpTo cX0_countOfEpochUpTo 4 (some .int) :: ([.fieldLink RX0 30 "StreamMultiplexer$Frames" "count" "I", .fieldLink RX0 27 "StreamMultiplexer$Frames" "epochs" "[I"] ++ wsX00)
def wsX1_init : List Cond := .code yX1_init cX1_init 1 none :: ([.methodLink RX1 3 objectInit, .instanceMethod objectInit, .code objectInit ⟨#[0xb1]⟩ 1 none, .arrayClass .int, .fieldLink RX1 9 "StreamMultiplexer$Order" "next" "[I", .fieldLink RX1 15 "StreamMultiplexer$Order" "preceded" "[I"] ++ wsX10)
def wsX1_copyFrom : List Cond := .code yX1_copyFrom cX1_copyFrom 3 none :: ([.fieldLink RX1 9 "StreamMultiplexer$Order" "next" "[I", .fieldLink RX1 15 "StreamMultiplexer$Order" "preceded" "[I"] ++ wsX10)
def wsX3_isStream : List Cond := .code yX3_isStream cX3_isStream 1 (some .boolean) :: ([])
def wsX3_isIn : List Cond := .code yX3_isIn cX3_isIn 2 (some .boolean) :: ([])
def wsX1_hasEdge : List Cond := .code yX1_hasEdge cX1_hasEdge 3 (some .boolean) :: ([.fieldLink RX1 9 "StreamMultiplexer$Order" "next" "[I", .static yX3_isStream, .initialized RX3, .code yX3_isStream cX3_isStream 1 (some .boolean), .static yX3_isIn, .code yX3_isIn cX3_isIn 2 (some .boolean)] ++ wsX10)
def wsX1_precedes : List Cond := .code yX1_precedes cX1_precedes 3 (some .boolean) :: ([.fieldLink RX1 15 "StreamMultiplexer$Order" "preceded" "[I", .static yX3_isStream, .initialized RX3, .code yX3_isStream cX3_isStream 1 (some .boolean), .static yX3_isIn, .code yX3_isIn cX3_isIn 2 (some .boolean)] ++ wsX10)
def wsX3_areTwoStreams : List Cond := .code yX3_areTwoStreams cX3_areTwoStreams 2 (some .boolean) :: ([.methodLink RX3 38 yX3_isStream, .static yX3_isStream, .initialized RX3, .code yX3_isStream cX3_isStream 1 (some .boolean)])
def wsX3_setOf : List Cond := .code yX3_setOf cX3_setOf 1 (some .int) :: ([])
def wsX1_findPreceded : List Cond := .code yX1_findPreceded cX1_findPreceded 3 none :: ([.fieldLink RX1 15 "StreamMultiplexer$Order" "preceded" "[I", .fieldLink RX1 9 "StreamMultiplexer$Order" "next" "[I", .static yX3_isIn, .initialized RX3, .code yX3_isIn cX3_isIn 2 (some .boolean)] ++ wsX10)
def wsX1_putEdge : List Cond := .code yX1_putEdge cX1_putEdge 4 none :: ([.fieldLink RX1 9 "StreamMultiplexer$Order" "next" "[I", .static yX3_areTwoStreams, .initialized RX3, .code yX3_areTwoStreams cX3_areTwoStreams 2 (some .boolean), .methodLink RX3 38 yX3_isStream, .static yX3_isStream, .code yX3_isStream cX3_isStream 1 (some .boolean), .static yX3_setOf, .code yX3_setOf cX3_setOf 1 (some .int), .methodLink RX1 33 yX1_findPreceded, .instanceMethod yX1_findPreceded, .selects RX1 yX1_findPreceded yX1_findPreceded, .initialized RX1, .code yX1_findPreceded cX1_findPreceded 3 none, .fieldLink RX1 15 "StreamMultiplexer$Order" "preceded" "[I", .static yX3_isIn, .code yX3_isIn cX3_isIn 2 (some .boolean)] ++ wsX10)
def wsJ6_bitCount_0f7a4 : List Cond := .code yJ6_bitCount_0f7a4 cJ6_bitCount_0f7a4 1 (some .int) :: ([.constant RJ6 265 (1431655765), .constant RJ6 266 (858993459), .constant RJ6 267 (252645135)])
def wsX1_edgeCount : List Cond := .code yX1_edgeCount cX1_edgeCount 3 (some .int) :: ([.fieldLink RX1 9 "StreamMultiplexer$Order" "next" "[I", .methodLink RX1 36 yJ6_bitCount_0f7a4, .static yJ6_bitCount_0f7a4, .initialized RJ6, .code yJ6_bitCount_0f7a4 cJ6_bitCount_0f7a4 1 (some .int), .constant RJ6 265 (1431655765), .constant RJ6 266 (858993459), .constant RJ6 267 (252645135)] ++ wsX10)
def wsX1_hasSameEdges : List Cond := .code yX1_hasSameEdges cX1_hasSameEdges 3 (some .boolean) :: ([.fieldLink RX1 9 "StreamMultiplexer$Order" "next" "[I"] ++ wsX10)
def wsX1_nextOfAll : List Cond := .code yX1_nextOfAll cX1_nextOfAll 4 (some .int) :: ([.fieldLink RX1 9 "StreamMultiplexer$Order" "next" "[I", .static yX3_isIn, .initialized RX3, .code yX3_isIn cX3_isIn 2 (some .boolean)] ++ wsX10)
def wsX1_distance : List Cond := .code yX1_distance cX1_distance 5 (some .int) :: ([.static yX3_setOf, .initialized RX3, .code yX3_setOf cX3_setOf 1 (some .int), .static yX3_isIn, .code yX3_isIn cX3_isIn 2 (some .boolean), .methodLink RX1 41 yX1_nextOfAll, .instanceMethod yX1_nextOfAll, .selects RX1 yX1_nextOfAll yX1_nextOfAll, .initialized RX1, .code yX1_nextOfAll cX1_nextOfAll 4 (some .int), .fieldLink RX1 9 "StreamMultiplexer$Order" "next" "[I"] ++ wsX10)
def wsX1_lowestNextAt : List Cond := .code yX1_lowestNextAt cX1_lowestNextAt 5 (some .int) :: ([.methodLink RX1 52 yX1_hasEdge, .instanceMethod yX1_hasEdge, .selects RX1 yX1_hasEdge yX1_hasEdge, .initialized RX1, .code yX1_hasEdge cX1_hasEdge 3 (some .boolean), .fieldLink RX1 9 "StreamMultiplexer$Order" "next" "[I", .static yX3_isStream, .initialized RX3, .code yX3_isStream cX3_isStream 1 (some .boolean), .static yX3_isIn, .code yX3_isIn cX3_isIn 2 (some .boolean), .methodLink RX1 44 yX1_distance, .instanceMethod yX1_distance, .selects RX1 yX1_distance yX1_distance, .code yX1_distance cX1_distance 5 (some .int), .static yX3_setOf, .code yX3_setOf cX3_setOf 1 (some .int), .methodLink RX1 41 yX1_nextOfAll, .instanceMethod yX1_nextOfAll, .selects RX1 yX1_nextOfAll yX1_nextOfAll, .code yX1_nextOfAll cX1_nextOfAll 4 (some .int)] ++ wsX10)
def wsX1_streamOfWalk_r1 : List Cond := [Cond.methodLink RX1 44 yX1_distance, Cond.instanceMethod yX1_distance, Cond.selects RX1 yX1_distance yX1_distance, Cond.initialized RX1, Cond.code yX1_distance cX1_distance 5 (some .int), Cond.static yX3_setOf, Cond.initialized RX3, Cond.code yX3_setOf cX3_setOf 1 (some .int), Cond.static yX3_isIn, Cond.code yX3_isIn cX3_isIn 2 (some .boolean), Cond.methodLink RX1 41 yX1_nextOfAll, Cond.instanceMethod yX1_nextOfAll, Cond.selects RX1 yX1_nextOfAll yX1_nextOfAll, Cond.code yX1_nextOfAll cX1_nextOfAll 4 (some .int), Cond.fieldLink RX1 9 "StreamMultiplexer$Order" "next" "[I", Cond.methodLink RX1 48 yX1_lowestNextAt, Cond.instanceMethod yX1_lowestNextAt, Cond.selects RX1 yX1_lowestNextAt yX1_lowestNextAt, Cond.code yX1_lowestNextAt cX1_lowestNextAt 5 (some .int), Cond.methodLink RX1 52 yX1_hasEdge, Cond.instanceMethod yX1_hasEdge, Cond.selects RX1 yX1_hasEdge yX1_hasEdge, Cond.code yX1_hasEdge cX1_hasEdge 3 (some .boolean), Cond.static yX3_isStream]
def wsX1_streamOfWalk_r2 : List Cond := [Cond.code yX3_isStream cX3_isStream 1 (some .boolean)]
def wsX1_streamOfWalk : List Cond := .code yX1_streamOfWalk cX1_streamOfWalk 7 (some .int) :: ((wsX1_streamOfWalk_r1 ++ wsX1_streamOfWalk_r2) ++ wsX10)
def wsX1_pairsAmong : List Cond := .code yX1_pairsAmong cX1_pairsAmong 4 (some .int) :: ([.fieldLink RX1 15 "StreamMultiplexer$Order" "preceded" "[I", .static yX3_isIn, .initialized RX3, .code yX3_isIn cX3_isIn 2 (some .boolean), .methodLink RX1 36 yJ6_bitCount_0f7a4, .static yJ6_bitCount_0f7a4, .initialized RJ6, .code yJ6_bitCount_0f7a4 cJ6_bitCount_0f7a4 1 (some .int), .constant RJ6 265 (1431655765), .constant RJ6 266 (858993459), .constant RJ6 267 (252645135)] ++ wsX10)
def wsX1_firstOf : List Cond := .code yX1_firstOf cX1_firstOf 4 (some .int) :: ([.fieldLink RX1 15 "StreamMultiplexer$Order" "preceded" "[I", .static yX3_isIn, .initialized RX3, .code yX3_isIn cX3_isIn 2 (some .boolean)] ++ wsX10)
def wsX1_longestChainAmong : List Cond := .code yX1_longestChainAmong cX1_longestChainAmong 4 (some .int) :: ([.methodLink RX1 55 yX1_firstOf, .instanceMethod yX1_firstOf, .selects RX1 yX1_firstOf yX1_firstOf, .initialized RX1, .code yX1_firstOf cX1_firstOf 4 (some .int), .fieldLink RX1 15 "StreamMultiplexer$Order" "preceded" "[I", .static yX3_isIn, .initialized RX3, .code yX3_isIn cX3_isIn 2 (some .boolean)] ++ wsX10)
def wsX1_widestChoiceAmong : List Cond := .code yX1_widestChoiceAmong cX1_widestChoiceAmong 5 (some .int) :: ([.methodLink RX1 36 yJ6_bitCount_0f7a4, .static yJ6_bitCount_0f7a4, .initialized RJ6, .code yJ6_bitCount_0f7a4 cJ6_bitCount_0f7a4 1 (some .int), .constant RJ6 265 (1431655765), .constant RJ6 266 (858993459), .constant RJ6 267 (252645135), .methodLink RX1 55 yX1_firstOf, .instanceMethod yX1_firstOf, .selects RX1 yX1_firstOf yX1_firstOf, .initialized RX1, .code yX1_firstOf cX1_firstOf 4 (some .int), .fieldLink RX1 15 "StreamMultiplexer$Order" "preceded" "[I", .static yX3_isIn, .initialized RX3, .code yX3_isIn cX3_isIn 2 (some .boolean)] ++ wsX10)
def wsX1_isPrecededByNextOf : List Cond := .code yX1_isPrecededByNextOf cX1_isPrecededByNextOf 4 (some .boolean) :: ([.methodLink RX1 52 yX1_hasEdge, .instanceMethod yX1_hasEdge, .selects RX1 yX1_hasEdge yX1_hasEdge, .initialized RX1, .code yX1_hasEdge cX1_hasEdge 3 (some .boolean), .fieldLink RX1 9 "StreamMultiplexer$Order" "next" "[I", .static yX3_isStream, .initialized RX3, .code yX3_isStream cX3_isStream 1 (some .boolean), .static yX3_isIn, .code yX3_isIn cX3_isIn 2 (some .boolean), .methodLink RX1 61 yX1_precedes, .instanceMethod yX1_precedes, .selects RX1 yX1_precedes yX1_precedes, .code yX1_precedes cX1_precedes 3 (some .boolean), .fieldLink RX1 15 "StreamMultiplexer$Order" "preceded" "[I"] ++ wsX10)
def wsX1_needlessEdges : List Cond := .code yX1_needlessEdges cX1_needlessEdges 4 (some .int) :: ([.methodLink RX1 52 yX1_hasEdge, .instanceMethod yX1_hasEdge, .selects RX1 yX1_hasEdge yX1_hasEdge, .initialized RX1, .code yX1_hasEdge cX1_hasEdge 3 (some .boolean), .fieldLink RX1 9 "StreamMultiplexer$Order" "next" "[I", .static yX3_isStream, .initialized RX3, .code yX3_isStream cX3_isStream 1 (some .boolean), .static yX3_isIn, .code yX3_isIn cX3_isIn 2 (some .boolean), .methodLink RX1 58 yX1_isPrecededByNextOf, .instanceMethod yX1_isPrecededByNextOf, .selects RX1 yX1_isPrecededByNextOf yX1_isPrecededByNextOf, .code yX1_isPrecededByNextOf cX1_isPrecededByNextOf 4 (some .boolean), .methodLink RX1 61 yX1_precedes, .instanceMethod yX1_precedes, .selects RX1 yX1_precedes yX1_precedes, .code yX1_precedes cX1_precedes 3 (some .boolean), .fieldLink RX1 15 "StreamMultiplexer$Order" "preceded" "[I"] ++ wsX10)
def wsX1_listsByLast : List Cond := .code yX1_listsByLast cX1_listsByLast 6 (some .long) :: ([.fieldLink RX1 15 "StreamMultiplexer$Order" "preceded" "[I", .static yX3_isIn, .initialized RX3, .code yX3_isIn cX3_isIn 2 (some .boolean), .static yX3_setOf, .code yX3_setOf cX3_setOf 1 (some .int)] ++ wsX10)
def wsX1_countLists : List Cond := .code yX1_countLists cX1_countLists 4 (some .long) :: ([.methodLink RX1 64 yX1_listsByLast, .instanceMethod yX1_listsByLast, .selects RX1 yX1_listsByLast yX1_listsByLast, .initialized RX1, .code yX1_listsByLast cX1_listsByLast 6 (some .long), .fieldLink RX1 15 "StreamMultiplexer$Order" "preceded" "[I", .static yX3_isIn, .initialized RX3, .code yX3_isIn cX3_isIn 2 (some .boolean), .static yX3_setOf, .code yX3_setOf cX3_setOf 1 (some .int)] ++ wsX10)
def wsX2_init_r1 : List Cond := [Cond.methodLink RX2 3 objectInit, Cond.instanceMethod objectInit, Cond.code objectInit ⟨#[0xb1]⟩ 1 none, Cond.fieldLink RX2 9 "StreamMultiplexer$State" "opened" "I", Cond.arrayClass .int, Cond.fieldLink RX2 15 "StreamMultiplexer$State" "weights" "[I", Cond.fieldLink RX2 19 "StreamMultiplexer$State" "amounts" "[I", Cond.classLink RX2 22 RX0, Cond.fieldLink RX2 24 "StreamMultiplexer$State" "queues" "[LStreamMultiplexer$Frames;", Cond.instantiable RX0 5, Cond.initialized RX0, Cond.classLink RX2 31 RX1, Cond.instantiable RX1 2, Cond.initialized RX1, Cond.fieldLink RX2 34 "StreamMultiplexer$State" "draft" "LStreamMultiplexer$Order;", Cond.fieldLink RX2 38 "StreamMultiplexer$State" "orders" "[LStreamMultiplexer$Order;", Cond.fieldLink RX2 42 "StreamMultiplexer$State" "epochCount" "I", Cond.fieldLink RX2 45 "StreamMultiplexer$State" "came" "I", Cond.fieldLink RX2 48 "StreamMultiplexer$State" "sent" "I", Cond.fieldLink RX2 51 "StreamMultiplexer$State" "sentFrames" "LStreamMultiplexer$Frames;", Cond.methodLink RX2 28 yX0_init, Cond.instanceMethod yX0_init, Cond.code yX0_init cX0_init 3 none, Cond.methodLink RX0 3 objectInit]
def wsX2_init_r2 : List Cond := [Cond.methodLink RX0 9 Lib.Math.max.name, Cond.static Lib.Math.max.name, Cond.initialized "java/lang/Math", Cond.code Lib.Math.max.name Lib.Math.max.code 2 (some .int), Cond.fieldLink RX0 15 "StreamMultiplexer$Frames" "numbers" "[I", Cond.fieldLink RX0 21 "StreamMultiplexer$Frames" "streams" "[I", Cond.fieldLink RX0 24 "StreamMultiplexer$Frames" "sizes" "[I", Cond.fieldLink RX0 27 "StreamMultiplexer$Frames" "epochs" "[I", Cond.fieldLink RX0 30 "StreamMultiplexer$Frames" "count" "I", Cond.methodLink RX2 33 yX1_init, Cond.instanceMethod yX1_init, Cond.code yX1_init cX1_init 1 none, Cond.methodLink RX1 3 objectInit, Cond.fieldLink RX1 9 "StreamMultiplexer$Order" "next" "[I", Cond.fieldLink RX1 15 "StreamMultiplexer$Order" "preceded" "[I"]
def wsX2_init : List Cond := .code yX2_init cX2_init 2 none :: ((wsX2_init_r1 ++ wsX2_init_r2) ++ wsX20 ++ wsX00 ++ wsX10)
def wsX2_copyFrom_r1 : List Cond := [Cond.fieldLink RX2 9 "StreamMultiplexer$State" "opened" "I", Cond.fieldLink RX2 15 "StreamMultiplexer$State" "weights" "[I", Cond.fieldLink RX2 19 "StreamMultiplexer$State" "amounts" "[I", Cond.fieldLink RX2 24 "StreamMultiplexer$State" "queues" "[LStreamMultiplexer$Frames;", Cond.fieldLink RX2 34 "StreamMultiplexer$State" "draft" "LStreamMultiplexer$Order;", Cond.fieldLink RX2 42 "StreamMultiplexer$State" "epochCount" "I", Cond.fieldLink RX2 38 "StreamMultiplexer$State" "orders" "[LStreamMultiplexer$Order;", Cond.fieldLink RX2 45 "StreamMultiplexer$State" "came" "I", Cond.fieldLink RX2 48 "StreamMultiplexer$State" "sent" "I", Cond.fieldLink RX2 51 "StreamMultiplexer$State" "sentFrames" "LStreamMultiplexer$Frames;", Cond.methodLink RX2 55 yX0_copyFrom, Cond.instanceMethod yX0_copyFrom, Cond.selects RX0 yX0_copyFrom yX0_copyFrom, Cond.initialized RX0, Cond.code yX0_copyFrom cX0_copyFrom 3 none, Cond.fieldLink RX0 30 "StreamMultiplexer$Frames" "count" "I", Cond.fieldLink RX0 15 "StreamMultiplexer$Frames" "numbers" "[I", Cond.methodLink RX0 34 Lib.Math.min.name, Cond.static Lib.Math.min.name, Cond.initialized "java/lang/Math", Cond.code Lib.Math.min.name Lib.Math.min.code 2 (some .int), Cond.fieldLink RX0 21 "StreamMultiplexer$Frames" "streams" "[I", Cond.fieldLink RX0 24 "StreamMultiplexer$Frames" "sizes" "[I", Cond.fieldLink RX0 27 "StreamMultiplexer$Frames" "epochs" "[I"]
def wsX2_copyFrom_r2 : List Cond := [Cond.methodLink RX2 59 yX1_copyFrom, Cond.instanceMethod yX1_copyFrom, Cond.selects RX1 yX1_copyFrom yX1_copyFrom, Cond.initialized RX1, Cond.code yX1_copyFrom cX1_copyFrom 3 none, Cond.fieldLink RX1 9 "StreamMultiplexer$Order" "next" "[I", Cond.fieldLink RX1 15 "StreamMultiplexer$Order" "preceded" "[I"]
def wsX2_copyFrom : List Cond := .code yX2_copyFrom cX2_copyFrom 3 none :: ((wsX2_copyFrom_r1 ++ wsX2_copyFrom_r2) ++ wsX20 ++ wsX00 ++ wsX10)
def wsX2_isOpen : List Cond := .code yX2_isOpen cX2_isOpen 2 (some .boolean) :: ([.fieldLink RX2 9 "StreamMultiplexer$State" "opened" "I", .static yX3_isIn, .initialized RX3, .code yX3_isIn cX3_isIn 2 (some .boolean)] ++ wsX20)
def wsX2_openStream : List Cond := .code yX2_openStream cX2_openStream 3 none :: ([.fieldLink RX2 9 "StreamMultiplexer$State" "opened" "I", .fieldLink RX2 15 "StreamMultiplexer$State" "weights" "[I", .fieldLink RX2 19 "StreamMultiplexer$State" "amounts" "[I", .static yX3_isStream, .initialized RX3, .code yX3_isStream cX3_isStream 1 (some .boolean), .static yX3_setOf, .code yX3_setOf cX3_setOf 1 (some .int)] ++ wsX20)
def wsX2_closeStream : List Cond := .code yX2_closeStream cX2_closeStream 2 none :: ([.fieldLink RX2 9 "StreamMultiplexer$State" "opened" "I", .static yX3_setOf, .initialized RX3, .code yX3_setOf cX3_setOf 1 (some .int)] ++ wsX20)
def wsX2_currentEpoch : List Cond := .code yX2_currentEpoch cX2_currentEpoch 1 (some .int) :: ([.fieldLink RX2 42 "StreamMultiplexer$State" "epochCount" "I"] ++ wsX20)
def wsX2_orderOf : List Cond := .code yX2_orderOf cX2_orderOf 2 (some (.object "StreamMultiplexer$Order")) :: ([.fieldLink RX2 42 "StreamMultiplexer$State" "epochCount" "I", .fieldLink RX2 38 "StreamMultiplexer$State" "orders" "[LStreamMultiplexer$Order;", .fieldLink RX2 34 "StreamMultiplexer$State" "draft" "LStreamMultiplexer$Order;"] ++ wsX20)
def wsX2_beginEpoch : List Cond := .code yX2_beginEpoch cX2_beginEpoch 1 none :: ([.fieldLink RX2 42 "StreamMultiplexer$State" "epochCount" "I", .fieldLink RX2 38 "StreamMultiplexer$State" "orders" "[LStreamMultiplexer$Order;", .fieldLink RX2 34 "StreamMultiplexer$State" "draft" "LStreamMultiplexer$Order;", .methodLink RX2 59 yX1_copyFrom, .instanceMethod yX1_copyFrom, .selects RX1 yX1_copyFrom yX1_copyFrom, .initialized RX1, .code yX1_copyFrom cX1_copyFrom 3 none, .fieldLink RX1 9 "StreamMultiplexer$Order" "next" "[I", .fieldLink RX1 15 "StreamMultiplexer$Order" "preceded" "[I"] ++ wsX20 ++ wsX10)
def wsX2_takeFrame_r1 : List Cond := [Cond.fieldLink RX2 45 "StreamMultiplexer$State" "came" "I", Cond.fieldLink RX2 24 "StreamMultiplexer$State" "queues" "[LStreamMultiplexer$Frames;", Cond.static yX3_isStream, Cond.initialized RX3, Cond.code yX3_isStream cX3_isStream 1 (some .boolean), Cond.methodLink RX2 74 yX2_currentEpoch, Cond.instanceMethod yX2_currentEpoch, Cond.selects RX2 yX2_currentEpoch yX2_currentEpoch, Cond.initialized RX2, Cond.code yX2_currentEpoch cX2_currentEpoch 1 (some .int), Cond.fieldLink RX2 42 "StreamMultiplexer$State" "epochCount" "I", Cond.methodLink RX2 78 yX0_add, Cond.instanceMethod yX0_add, Cond.selects RX0 yX0_add yX0_add, Cond.initialized RX0, Cond.code yX0_add cX0_add 5 none, Cond.fieldLink RX0 15 "StreamMultiplexer$Frames" "numbers" "[I", Cond.fieldLink RX0 30 "StreamMultiplexer$Frames" "count" "I", Cond.fieldLink RX0 21 "StreamMultiplexer$Frames" "streams" "[I", Cond.fieldLink RX0 24 "StreamMultiplexer$Frames" "sizes" "[I", Cond.fieldLink RX0 27 "StreamMultiplexer$Frames" "epochs" "[I", Cond.methodLink RX0 41 yX0_isFull, Cond.instanceMethod yX0_isFull, Cond.selects RX0 yX0_isFull yX0_isFull]
def wsX2_takeFrame_r2 : List Cond := [Cond.code yX0_isFull cX0_isFull 1 (some .boolean)]
def wsX2_takeFrame : List Cond := .code yX2_takeFrame cX2_takeFrame 4 (some .int) :: ((wsX2_takeFrame_r1 ++ wsX2_takeFrame_r2) ++ wsX20 ++ wsX00)
def wsX2_waitingCount : List Cond := .code yX2_waitingCount cX2_waitingCount 3 (some .int) :: ([.fieldLink RX2 24 "StreamMultiplexer$State" "queues" "[LStreamMultiplexer$Frames;", .fieldLink RX2 82 "StreamMultiplexer$Frames" "count" "I"] ++ wsX20 ++ wsX00)
def wsX2_waitingSize : List Cond := .code yX2_waitingSize cX2_waitingSize 3 (some .int) :: ([.fieldLink RX2 24 "StreamMultiplexer$State" "queues" "[LStreamMultiplexer$Frames;", .methodLink RX2 85 yX0_sizeOfAll, .instanceMethod yX0_sizeOfAll, .selects RX0 yX0_sizeOfAll yX0_sizeOfAll, .initialized RX0, .code yX0_sizeOfAll cX0_sizeOfAll 3 (some .int), .fieldLink RX0 30 "StreamMultiplexer$Frames" "count" "I", .fieldLink RX0 24 "StreamMultiplexer$Frames" "sizes" "[I"] ++ wsX20 ++ wsX00)
def wsX2_blockersOfFirst_r1 : List Cond := [Cond.fieldLink RX2 24 "StreamMultiplexer$State" "queues" "[LStreamMultiplexer$Frames;", Cond.fieldLink RX2 82 "StreamMultiplexer$Frames" "count" "I", Cond.static yX3_isStream, Cond.initialized RX3, Cond.code yX3_isStream cX3_isStream 1 (some .boolean), Cond.methodLink RX2 88 yX0_epochAt, Cond.instanceMethod yX0_epochAt, Cond.selects RX0 yX0_epochAt yX0_epochAt, Cond.initialized RX0, Cond.code yX0_epochAt cX0_epochAt 2 (some .int), Cond.fieldLink RX0 27 "StreamMultiplexer$Frames" "epochs" "[I", Cond.methodLink RX0 37 yX0_hasFrame, Cond.instanceMethod yX0_hasFrame, Cond.selects RX0 yX0_hasFrame yX0_hasFrame, Cond.code yX0_hasFrame cX0_hasFrame 2 (some .boolean), Cond.fieldLink RX0 30 "StreamMultiplexer$Frames" "count" "I", Cond.methodLink RX2 91 yX2_orderOf, Cond.instanceMethod yX2_orderOf, Cond.selects RX2 yX2_orderOf yX2_orderOf, Cond.initialized RX2, Cond.code yX2_orderOf cX2_orderOf 2 (some (.object "StreamMultiplexer$Order")), Cond.fieldLink RX2 42 "StreamMultiplexer$State" "epochCount" "I", Cond.fieldLink RX2 38 "StreamMultiplexer$State" "orders" "[LStreamMultiplexer$Order;", Cond.fieldLink RX2 34 "StreamMultiplexer$State" "draft" "LStreamMultiplexer$Order;"]
def wsX2_blockersOfFirst_r2 : List Cond := [Cond.methodLink RX2 95 yX1_precedes, Cond.instanceMethod yX1_precedes, Cond.selects RX1 yX1_precedes yX1_precedes, Cond.initialized RX1, Cond.code yX1_precedes cX1_precedes 3 (some .boolean), Cond.fieldLink RX1 15 "StreamMultiplexer$Order" "preceded" "[I", Cond.static yX3_isIn, Cond.code yX3_isIn cX3_isIn 2 (some .boolean), Cond.methodLink RX2 98 yX0_countOfEpochUpTo, Cond.instanceMethod yX0_countOfEpochUpTo, Cond.selects RX0 yX0_countOfEpochUpTo yX0_countOfEpochUpTo, Cond.code yX0_countOfEpochUpTo cX0_countOfEpochUpTo 4 (some .int)]
def wsX2_blockersOfFirst : List Cond := .code yX2_blockersOfFirst cX2_blockersOfFirst 6 (some .int) :: ((wsX2_blockersOfFirst_r1 ++ wsX2_blockersOfFirst_r2) ++ wsX20 ++ wsX00 ++ wsX10)
def wsX2_isCandidate_r1 : List Cond := [Cond.fieldLink RX2 24 "StreamMultiplexer$State" "queues" "[LStreamMultiplexer$Frames;", Cond.fieldLink RX2 82 "StreamMultiplexer$Frames" "count" "I", Cond.static yX3_isStream, Cond.initialized RX3, Cond.code yX3_isStream cX3_isStream 1 (some .boolean), Cond.methodLink RX2 101 yX2_blockersOfFirst, Cond.instanceMethod yX2_blockersOfFirst, Cond.selects RX2 yX2_blockersOfFirst yX2_blockersOfFirst, Cond.initialized RX2, Cond.code yX2_blockersOfFirst cX2_blockersOfFirst 6 (some .int), Cond.methodLink RX2 88 yX0_epochAt, Cond.instanceMethod yX0_epochAt, Cond.selects RX0 yX0_epochAt yX0_epochAt, Cond.initialized RX0, Cond.code yX0_epochAt cX0_epochAt 2 (some .int), Cond.fieldLink RX0 27 "StreamMultiplexer$Frames" "epochs" "[I", Cond.methodLink RX0 37 yX0_hasFrame, Cond.instanceMethod yX0_hasFrame, Cond.selects RX0 yX0_hasFrame yX0_hasFrame, Cond.code yX0_hasFrame cX0_hasFrame 2 (some .boolean), Cond.fieldLink RX0 30 "StreamMultiplexer$Frames" "count" "I", Cond.methodLink RX2 91 yX2_orderOf, Cond.instanceMethod yX2_orderOf, Cond.selects RX2 yX2_orderOf yX2_orderOf]
def wsX2_isCandidate_r2 : List Cond := [Cond.code yX2_orderOf cX2_orderOf 2 (some (.object "StreamMultiplexer$Order")), Cond.fieldLink RX2 42 "StreamMultiplexer$State" "epochCount" "I", Cond.fieldLink RX2 38 "StreamMultiplexer$State" "orders" "[LStreamMultiplexer$Order;", Cond.fieldLink RX2 34 "StreamMultiplexer$State" "draft" "LStreamMultiplexer$Order;", Cond.methodLink RX2 95 yX1_precedes, Cond.instanceMethod yX1_precedes, Cond.selects RX1 yX1_precedes yX1_precedes, Cond.initialized RX1, Cond.code yX1_precedes cX1_precedes 3 (some .boolean), Cond.fieldLink RX1 15 "StreamMultiplexer$Order" "preceded" "[I", Cond.static yX3_isIn, Cond.code yX3_isIn cX3_isIn 2 (some .boolean), Cond.methodLink RX2 98 yX0_countOfEpochUpTo, Cond.instanceMethod yX0_countOfEpochUpTo, Cond.selects RX0 yX0_countOfEpochUpTo yX0_countOfEpochUpTo, Cond.code yX0_countOfEpochUpTo cX0_countOfEpochUpTo 4 (some .int)]
def wsX2_isCandidate : List Cond := .code yX2_isCandidate cX2_isCandidate 2 (some .boolean) :: ((wsX2_isCandidate_r1 ++ wsX2_isCandidate_r2) ++ wsX20 ++ wsX00 ++ wsX10)
def wsX2_candidateCount_r1 : List Cond := [Cond.methodLink RX2 104 yX2_isCandidate, Cond.instanceMethod yX2_isCandidate, Cond.selects RX2 yX2_isCandidate yX2_isCandidate, Cond.initialized RX2, Cond.code yX2_isCandidate cX2_isCandidate 2 (some .boolean), Cond.fieldLink RX2 24 "StreamMultiplexer$State" "queues" "[LStreamMultiplexer$Frames;", Cond.fieldLink RX2 82 "StreamMultiplexer$Frames" "count" "I", Cond.static yX3_isStream, Cond.initialized RX3, Cond.code yX3_isStream cX3_isStream 1 (some .boolean), Cond.methodLink RX2 101 yX2_blockersOfFirst, Cond.instanceMethod yX2_blockersOfFirst, Cond.selects RX2 yX2_blockersOfFirst yX2_blockersOfFirst, Cond.code yX2_blockersOfFirst cX2_blockersOfFirst 6 (some .int), Cond.methodLink RX2 88 yX0_epochAt, Cond.instanceMethod yX0_epochAt, Cond.selects RX0 yX0_epochAt yX0_epochAt, Cond.initialized RX0, Cond.code yX0_epochAt cX0_epochAt 2 (some .int), Cond.fieldLink RX0 27 "StreamMultiplexer$Frames" "epochs" "[I", Cond.methodLink RX0 37 yX0_hasFrame, Cond.instanceMethod yX0_hasFrame, Cond.selects RX0 yX0_hasFrame yX0_hasFrame, Cond.code yX0_hasFrame cX0_hasFrame 2 (some .boolean)]
def wsX2_candidateCount_r2 : List Cond := [Cond.fieldLink RX0 30 "StreamMultiplexer$Frames" "count" "I", Cond.methodLink RX2 91 yX2_orderOf, Cond.instanceMethod yX2_orderOf, Cond.selects RX2 yX2_orderOf yX2_orderOf, Cond.code yX2_orderOf cX2_orderOf 2 (some (.object "StreamMultiplexer$Order")), Cond.fieldLink RX2 42 "StreamMultiplexer$State" "epochCount" "I", Cond.fieldLink RX2 38 "StreamMultiplexer$State" "orders" "[LStreamMultiplexer$Order;", Cond.fieldLink RX2 34 "StreamMultiplexer$State" "draft" "LStreamMultiplexer$Order;", Cond.methodLink RX2 95 yX1_precedes, Cond.instanceMethod yX1_precedes, Cond.selects RX1 yX1_precedes yX1_precedes, Cond.initialized RX1, Cond.code yX1_precedes cX1_precedes 3 (some .boolean), Cond.fieldLink RX1 15 "StreamMultiplexer$Order" "preceded" "[I", Cond.static yX3_isIn, Cond.code yX3_isIn cX3_isIn 2 (some .boolean), Cond.methodLink RX2 98 yX0_countOfEpochUpTo, Cond.instanceMethod yX0_countOfEpochUpTo, Cond.selects RX0 yX0_countOfEpochUpTo yX0_countOfEpochUpTo, Cond.code yX0_countOfEpochUpTo cX0_countOfEpochUpTo 4 (some .int)]
def wsX2_candidateCount : List Cond := .code yX2_candidateCount cX2_candidateCount 3 (some .int) :: ((wsX2_candidateCount_r1 ++ wsX2_candidateCount_r2) ++ wsX20 ++ wsX00 ++ wsX10)
def wsX2_isLessServed : List Cond := .code yX2_isLessServed cX2_isLessServed 3 (some .boolean) :: ([.fieldLink RX2 19 "StreamMultiplexer$State" "amounts" "[I", .fieldLink RX2 15 "StreamMultiplexer$State" "weights" "[I", .static yX3_isStream, .initialized RX3, .code yX3_isStream cX3_isStream 1 (some .boolean)] ++ wsX20)
def wsX2_nextStream_r1 : List Cond := [Cond.methodLink RX2 104 yX2_isCandidate, Cond.instanceMethod yX2_isCandidate, Cond.selects RX2 yX2_isCandidate yX2_isCandidate, Cond.initialized RX2, Cond.code yX2_isCandidate cX2_isCandidate 2 (some .boolean), Cond.fieldLink RX2 24 "StreamMultiplexer$State" "queues" "[LStreamMultiplexer$Frames;", Cond.fieldLink RX2 82 "StreamMultiplexer$Frames" "count" "I", Cond.static yX3_isStream, Cond.initialized RX3, Cond.code yX3_isStream cX3_isStream 1 (some .boolean), Cond.methodLink RX2 101 yX2_blockersOfFirst, Cond.instanceMethod yX2_blockersOfFirst, Cond.selects RX2 yX2_blockersOfFirst yX2_blockersOfFirst, Cond.code yX2_blockersOfFirst cX2_blockersOfFirst 6 (some .int), Cond.methodLink RX2 88 yX0_epochAt, Cond.instanceMethod yX0_epochAt, Cond.selects RX0 yX0_epochAt yX0_epochAt, Cond.initialized RX0, Cond.code yX0_epochAt cX0_epochAt 2 (some .int), Cond.fieldLink RX0 27 "StreamMultiplexer$Frames" "epochs" "[I", Cond.methodLink RX0 37 yX0_hasFrame, Cond.instanceMethod yX0_hasFrame, Cond.selects RX0 yX0_hasFrame yX0_hasFrame, Cond.code yX0_hasFrame cX0_hasFrame 2 (some .boolean)]
def wsX2_nextStream_r2 : List Cond := [Cond.fieldLink RX0 30 "StreamMultiplexer$Frames" "count" "I", Cond.methodLink RX2 91 yX2_orderOf, Cond.instanceMethod yX2_orderOf, Cond.selects RX2 yX2_orderOf yX2_orderOf, Cond.code yX2_orderOf cX2_orderOf 2 (some (.object "StreamMultiplexer$Order")), Cond.fieldLink RX2 42 "StreamMultiplexer$State" "epochCount" "I", Cond.fieldLink RX2 38 "StreamMultiplexer$State" "orders" "[LStreamMultiplexer$Order;", Cond.fieldLink RX2 34 "StreamMultiplexer$State" "draft" "LStreamMultiplexer$Order;", Cond.methodLink RX2 95 yX1_precedes, Cond.instanceMethod yX1_precedes, Cond.selects RX1 yX1_precedes yX1_precedes, Cond.initialized RX1, Cond.code yX1_precedes cX1_precedes 3 (some .boolean), Cond.fieldLink RX1 15 "StreamMultiplexer$Order" "preceded" "[I", Cond.static yX3_isIn, Cond.code yX3_isIn cX3_isIn 2 (some .boolean), Cond.methodLink RX2 98 yX0_countOfEpochUpTo, Cond.instanceMethod yX0_countOfEpochUpTo, Cond.selects RX0 yX0_countOfEpochUpTo yX0_countOfEpochUpTo, Cond.code yX0_countOfEpochUpTo cX0_countOfEpochUpTo 4 (some .int), Cond.methodLink RX2 107 yX2_isLessServed, Cond.instanceMethod yX2_isLessServed, Cond.selects RX2 yX2_isLessServed yX2_isLessServed, Cond.code yX2_isLessServed cX2_isLessServed 3 (some .boolean)]
def wsX2_nextStream_r3 : List Cond := [Cond.fieldLink RX2 19 "StreamMultiplexer$State" "amounts" "[I", Cond.fieldLink RX2 15 "StreamMultiplexer$State" "weights" "[I"]
def wsX2_nextStream : List Cond := .code yX2_nextStream cX2_nextStream 3 (some .int) :: ((wsX2_nextStream_r1 ++ (wsX2_nextStream_r2 ++ wsX2_nextStream_r3)) ++ wsX20 ++ wsX00 ++ wsX10)
def wsX2_sendFirst_r1 : List Cond := [Cond.fieldLink RX2 24 "StreamMultiplexer$State" "queues" "[LStreamMultiplexer$Frames;", Cond.fieldLink RX2 82 "StreamMultiplexer$Frames" "count" "I", Cond.fieldLink RX2 51 "StreamMultiplexer$State" "sentFrames" "LStreamMultiplexer$Frames;", Cond.fieldLink RX2 19 "StreamMultiplexer$State" "amounts" "[I", Cond.fieldLink RX2 48 "StreamMultiplexer$State" "sent" "I", Cond.static yX3_isStream, Cond.initialized RX3, Cond.code yX3_isStream cX3_isStream 1 (some .boolean), Cond.methodLink RX2 110 yX0_sizeAt, Cond.instanceMethod yX0_sizeAt, Cond.selects RX0 yX0_sizeAt yX0_sizeAt, Cond.initialized RX0, Cond.code yX0_sizeAt cX0_sizeAt 2 (some .int), Cond.fieldLink RX0 24 "StreamMultiplexer$Frames" "sizes" "[I", Cond.methodLink RX0 37 yX0_hasFrame, Cond.instanceMethod yX0_hasFrame, Cond.selects RX0 yX0_hasFrame yX0_hasFrame, Cond.code yX0_hasFrame cX0_hasFrame 2 (some .boolean), Cond.fieldLink RX0 30 "StreamMultiplexer$Frames" "count" "I", Cond.methodLink RX2 113 yX0_isFull, Cond.instanceMethod yX0_isFull, Cond.selects RX0 yX0_isFull yX0_isFull, Cond.code yX0_isFull cX0_isFull 1 (some .boolean), Cond.fieldLink RX0 15 "StreamMultiplexer$Frames" "numbers" "[I"]
def wsX2_sendFirst_r2 : List Cond := [Cond.methodLink RX2 117 yX0_removeFirst, Cond.instanceMethod yX0_removeFirst, Cond.selects RX0 yX0_removeFirst yX0_removeFirst, Cond.code yX0_removeFirst cX0_removeFirst 2 none, Cond.fieldLink RX0 21 "StreamMultiplexer$Frames" "streams" "[I", Cond.fieldLink RX0 27 "StreamMultiplexer$Frames" "epochs" "[I", Cond.methodLink RX2 120 yX0_numberAt, Cond.instanceMethod yX0_numberAt, Cond.selects RX0 yX0_numberAt yX0_numberAt, Cond.code yX0_numberAt cX0_numberAt 2 (some .int), Cond.methodLink RX2 88 yX0_epochAt, Cond.instanceMethod yX0_epochAt, Cond.selects RX0 yX0_epochAt yX0_epochAt, Cond.code yX0_epochAt cX0_epochAt 2 (some .int), Cond.methodLink RX2 78 yX0_add, Cond.instanceMethod yX0_add, Cond.selects RX0 yX0_add yX0_add, Cond.code yX0_add cX0_add 5 none, Cond.methodLink RX0 41 yX0_isFull]
def wsX2_sendFirst : List Cond := .code yX2_sendFirst cX2_sendFirst 4 none :: ((wsX2_sendFirst_r1 ++ wsX2_sendFirst_r2) ++ wsX20 ++ wsX00)
def wsX3_init_r1 : List Cond := [Cond.methodLink RX3 1 objectInit, Cond.instanceMethod objectInit, Cond.code objectInit ⟨#[0xb1]⟩ 1 none, Cond.classLink RX3 7 RX2, Cond.instantiable RX2 10, Cond.initialized RX2, Cond.fieldLink RX3 10 "StreamMultiplexer" "present" "LStreamMultiplexer$State;", Cond.fieldLink RX3 16 "StreamMultiplexer" "forecast" "LStreamMultiplexer$State;", Cond.fieldLink RX3 19 "StreamMultiplexer" "history" "[LStreamMultiplexer$State;", Cond.fieldLink RX3 23 "StreamMultiplexer" "historyCount" "I", Cond.fieldLink RX3 27 "StreamMultiplexer" "images" "[LStreamMultiplexer$State;", Cond.arrayClass .boolean, Cond.fieldLink RX3 30 "StreamMultiplexer" "kept" "[Z", Cond.arrayClass .long, Cond.fieldLink RX3 34 "StreamMultiplexer" "listsOfSet" "[J", Cond.methodLink RX3 9 yX2_init, Cond.instanceMethod yX2_init, Cond.code yX2_init cX2_init 2 none, Cond.methodLink RX2 3 objectInit, Cond.fieldLink RX2 9 "StreamMultiplexer$State" "opened" "I", Cond.arrayClass .int, Cond.fieldLink RX2 15 "StreamMultiplexer$State" "weights" "[I", Cond.fieldLink RX2 19 "StreamMultiplexer$State" "amounts" "[I", Cond.classLink RX2 22 RX0]
def wsX3_init_r2 : List Cond := [Cond.fieldLink RX2 24 "StreamMultiplexer$State" "queues" "[LStreamMultiplexer$Frames;", Cond.instantiable RX0 5, Cond.initialized RX0, Cond.classLink RX2 31 RX1, Cond.instantiable RX1 2, Cond.initialized RX1, Cond.fieldLink RX2 34 "StreamMultiplexer$State" "draft" "LStreamMultiplexer$Order;", Cond.fieldLink RX2 38 "StreamMultiplexer$State" "orders" "[LStreamMultiplexer$Order;", Cond.fieldLink RX2 42 "StreamMultiplexer$State" "epochCount" "I", Cond.fieldLink RX2 45 "StreamMultiplexer$State" "came" "I", Cond.fieldLink RX2 48 "StreamMultiplexer$State" "sent" "I", Cond.fieldLink RX2 51 "StreamMultiplexer$State" "sentFrames" "LStreamMultiplexer$Frames;", Cond.methodLink RX2 28 yX0_init, Cond.instanceMethod yX0_init, Cond.code yX0_init cX0_init 3 none, Cond.methodLink RX0 3 objectInit, Cond.methodLink RX0 9 Lib.Math.max.name, Cond.static Lib.Math.max.name, Cond.initialized "java/lang/Math", Cond.code Lib.Math.max.name Lib.Math.max.code 2 (some .int), Cond.fieldLink RX0 15 "StreamMultiplexer$Frames" "numbers" "[I", Cond.fieldLink RX0 21 "StreamMultiplexer$Frames" "streams" "[I", Cond.fieldLink RX0 24 "StreamMultiplexer$Frames" "sizes" "[I", Cond.fieldLink RX0 27 "StreamMultiplexer$Frames" "epochs" "[I"]
def wsX3_init_r3 : List Cond := [Cond.fieldLink RX0 30 "StreamMultiplexer$Frames" "count" "I", Cond.methodLink RX2 33 yX1_init, Cond.instanceMethod yX1_init, Cond.code yX1_init cX1_init 1 none, Cond.methodLink RX1 3 objectInit, Cond.fieldLink RX1 9 "StreamMultiplexer$Order" "next" "[I", Cond.fieldLink RX1 15 "StreamMultiplexer$Order" "preceded" "[I"]
def wsX3_init : List Cond := .code yX3_init cX3_init 2 none :: ((wsX3_init_r1 ++ (wsX3_init_r2 ++ wsX3_init_r3)) ++ wsX20 ++ wsX30 ++ wsX00 ++ wsX10)
def wsX3_isWithin : List Cond := .code yX3_isWithin cX3_isWithin 3 (some .boolean) :: ([])
def wsX3_dropOldest : List Cond := .code yX3_dropOldest cX3_dropOldest 3 none :: ([.fieldLink RX3 19 "StreamMultiplexer" "history" "[LStreamMultiplexer$State;", .fieldLink RX3 23 "StreamMultiplexer" "historyCount" "I"] ++ wsX30)
def wsX3_record_r1 : List Cond := [Cond.fieldLink RX3 23 "StreamMultiplexer" "historyCount" "I", Cond.fieldLink RX3 19 "StreamMultiplexer" "history" "[LStreamMultiplexer$State;", Cond.fieldLink RX3 10 "StreamMultiplexer" "present" "LStreamMultiplexer$State;", Cond.methodLink RX3 224 yX3_dropOldest, Cond.instanceMethod yX3_dropOldest, Cond.selects RX3 yX3_dropOldest yX3_dropOldest, Cond.initialized RX3, Cond.code yX3_dropOldest cX3_dropOldest 3 none, Cond.methodLink RX3 221 yX2_copyFrom, Cond.instanceMethod yX2_copyFrom, Cond.selects RX2 yX2_copyFrom yX2_copyFrom, Cond.initialized RX2, Cond.code yX2_copyFrom cX2_copyFrom 3 none, Cond.fieldLink RX2 9 "StreamMultiplexer$State" "opened" "I", Cond.fieldLink RX2 15 "StreamMultiplexer$State" "weights" "[I", Cond.fieldLink RX2 19 "StreamMultiplexer$State" "amounts" "[I", Cond.fieldLink RX2 24 "StreamMultiplexer$State" "queues" "[LStreamMultiplexer$Frames;", Cond.fieldLink RX2 34 "StreamMultiplexer$State" "draft" "LStreamMultiplexer$Order;", Cond.fieldLink RX2 42 "StreamMultiplexer$State" "epochCount" "I", Cond.fieldLink RX2 38 "StreamMultiplexer$State" "orders" "[LStreamMultiplexer$Order;", Cond.fieldLink RX2 45 "StreamMultiplexer$State" "came" "I", Cond.fieldLink RX2 48 "StreamMultiplexer$State" "sent" "I", Cond.fieldLink RX2 51 "StreamMultiplexer$State" "sentFrames" "LStreamMultiplexer$Frames;", Cond.methodLink RX2 55 yX0_copyFrom]
def wsX3_record_r2 : List Cond := [Cond.instanceMethod yX0_copyFrom, Cond.selects RX0 yX0_copyFrom yX0_copyFrom, Cond.initialized RX0, Cond.code yX0_copyFrom cX0_copyFrom 3 none, Cond.fieldLink RX0 30 "StreamMultiplexer$Frames" "count" "I", Cond.fieldLink RX0 15 "StreamMultiplexer$Frames" "numbers" "[I", Cond.methodLink RX0 34 Lib.Math.min.name, Cond.static Lib.Math.min.name, Cond.initialized "java/lang/Math", Cond.code Lib.Math.min.name Lib.Math.min.code 2 (some .int), Cond.fieldLink RX0 21 "StreamMultiplexer$Frames" "streams" "[I", Cond.fieldLink RX0 24 "StreamMultiplexer$Frames" "sizes" "[I", Cond.fieldLink RX0 27 "StreamMultiplexer$Frames" "epochs" "[I", Cond.methodLink RX2 59 yX1_copyFrom, Cond.instanceMethod yX1_copyFrom, Cond.selects RX1 yX1_copyFrom yX1_copyFrom, Cond.initialized RX1, Cond.code yX1_copyFrom cX1_copyFrom 3 none, Cond.fieldLink RX1 9 "StreamMultiplexer$Order" "next" "[I", Cond.fieldLink RX1 15 "StreamMultiplexer$Order" "preceded" "[I"]
def wsX3_record : List Cond := .code yX3_record cX3_record 1 none :: ((wsX3_record_r1 ++ wsX3_record_r2) ++ wsX30 ++ wsX20 ++ wsX00 ++ wsX10)
def wsX3_open_r1 : List Cond := [Cond.fieldLink RX3 10 "StreamMultiplexer" "present" "LStreamMultiplexer$State;", Cond.fieldLink RX3 56 "StreamMultiplexer$State" "opened" "I", Cond.methodLink RX3 38 yX3_isStream, Cond.static yX3_isStream, Cond.initialized RX3, Cond.code yX3_isStream cX3_isStream 1 (some .boolean), Cond.methodLink RX3 42 yX3_isWithin, Cond.static yX3_isWithin, Cond.code yX3_isWithin cX3_isWithin 3 (some .boolean), Cond.methodLink RX3 46 yX2_isOpen, Cond.instanceMethod yX2_isOpen, Cond.selects RX2 yX2_isOpen yX2_isOpen, Cond.initialized RX2, Cond.code yX2_isOpen cX2_isOpen 2 (some .boolean), Cond.fieldLink RX2 9 "StreamMultiplexer$State" "opened" "I", Cond.static yX3_isIn, Cond.code yX3_isIn cX3_isIn 2 (some .boolean), Cond.methodLink RX3 49 yX3_record, Cond.instanceMethod yX3_record, Cond.selects RX3 yX3_record yX3_record, Cond.code yX3_record cX3_record 1 none, Cond.fieldLink RX3 23 "StreamMultiplexer" "historyCount" "I", Cond.fieldLink RX3 19 "StreamMultiplexer" "history" "[LStreamMultiplexer$State;", Cond.methodLink RX3 224 yX3_dropOldest]
def wsX3_open_r2 : List Cond := [Cond.instanceMethod yX3_dropOldest, Cond.selects RX3 yX3_dropOldest yX3_dropOldest, Cond.code yX3_dropOldest cX3_dropOldest 3 none, Cond.methodLink RX3 221 yX2_copyFrom, Cond.instanceMethod yX2_copyFrom, Cond.selects RX2 yX2_copyFrom yX2_copyFrom, Cond.code yX2_copyFrom cX2_copyFrom 3 none, Cond.fieldLink RX2 15 "StreamMultiplexer$State" "weights" "[I", Cond.fieldLink RX2 19 "StreamMultiplexer$State" "amounts" "[I", Cond.fieldLink RX2 24 "StreamMultiplexer$State" "queues" "[LStreamMultiplexer$Frames;", Cond.fieldLink RX2 34 "StreamMultiplexer$State" "draft" "LStreamMultiplexer$Order;", Cond.fieldLink RX2 42 "StreamMultiplexer$State" "epochCount" "I", Cond.fieldLink RX2 38 "StreamMultiplexer$State" "orders" "[LStreamMultiplexer$Order;", Cond.fieldLink RX2 45 "StreamMultiplexer$State" "came" "I", Cond.fieldLink RX2 48 "StreamMultiplexer$State" "sent" "I", Cond.fieldLink RX2 51 "StreamMultiplexer$State" "sentFrames" "LStreamMultiplexer$Frames;", Cond.methodLink RX2 55 yX0_copyFrom, Cond.instanceMethod yX0_copyFrom, Cond.selects RX0 yX0_copyFrom yX0_copyFrom, Cond.initialized RX0, Cond.code yX0_copyFrom cX0_copyFrom 3 none, Cond.fieldLink RX0 30 "StreamMultiplexer$Frames" "count" "I", Cond.fieldLink RX0 15 "StreamMultiplexer$Frames" "numbers" "[I", Cond.methodLink RX0 34 Lib.Math.min.name]
def wsX3_open_r3 : List Cond := [Cond.static Lib.Math.min.name, Cond.initialized "java/lang/Math", Cond.code Lib.Math.min.name Lib.Math.min.code 2 (some .int), Cond.fieldLink RX0 21 "StreamMultiplexer$Frames" "streams" "[I", Cond.fieldLink RX0 24 "StreamMultiplexer$Frames" "sizes" "[I", Cond.fieldLink RX0 27 "StreamMultiplexer$Frames" "epochs" "[I", Cond.methodLink RX2 59 yX1_copyFrom, Cond.instanceMethod yX1_copyFrom, Cond.selects RX1 yX1_copyFrom yX1_copyFrom, Cond.initialized RX1, Cond.code yX1_copyFrom cX1_copyFrom 3 none, Cond.fieldLink RX1 9 "StreamMultiplexer$Order" "next" "[I", Cond.fieldLink RX1 15 "StreamMultiplexer$Order" "preceded" "[I", Cond.methodLink RX3 52 yX2_openStream, Cond.instanceMethod yX2_openStream, Cond.selects RX2 yX2_openStream yX2_openStream, Cond.code yX2_openStream cX2_openStream 3 none, Cond.static yX3_setOf, Cond.code yX3_setOf cX3_setOf 1 (some .int), Cond.methodLink RX3 59 yJ6_bitCount_0f7a4, Cond.static yJ6_bitCount_0f7a4, Cond.initialized RJ6, Cond.code yJ6_bitCount_0f7a4 cJ6_bitCount_0f7a4 1 (some .int), Cond.constant RJ6 265 (1431655765)]
def wsX3_open_r4 : List Cond := [Cond.constant RJ6 266 (858993459), Cond.constant RJ6 267 (252645135)]
def wsX3_open : List Cond := .code yX3_open cX3_open 3 (some .int) :: ((wsX3_open_r1 ++ (wsX3_open_r2 ++ (wsX3_open_r3 ++ wsX3_open_r4))) ++ wsX30 ++ wsX20 ++ wsX00 ++ wsX10)
def wsX3_close_r1 : List Cond := [Cond.fieldLink RX3 10 "StreamMultiplexer" "present" "LStreamMultiplexer$State;", Cond.fieldLink RX3 65 "StreamMultiplexer$State" "queues" "[LStreamMultiplexer$Frames;", Cond.fieldLink RX3 69 "StreamMultiplexer$Frames" "count" "I", Cond.fieldLink RX3 78 "StreamMultiplexer$State" "amounts" "[I", Cond.methodLink RX3 38 yX3_isStream, Cond.static yX3_isStream, Cond.initialized RX3, Cond.code yX3_isStream cX3_isStream 1 (some .boolean), Cond.methodLink RX3 46 yX2_isOpen, Cond.instanceMethod yX2_isOpen, Cond.selects RX2 yX2_isOpen yX2_isOpen, Cond.initialized RX2, Cond.code yX2_isOpen cX2_isOpen 2 (some .boolean), Cond.fieldLink RX2 9 "StreamMultiplexer$State" "opened" "I", Cond.static yX3_isIn, Cond.code yX3_isIn cX3_isIn 2 (some .boolean), Cond.methodLink RX3 49 yX3_record, Cond.instanceMethod yX3_record, Cond.selects RX3 yX3_record yX3_record, Cond.code yX3_record cX3_record 1 none, Cond.fieldLink RX3 23 "StreamMultiplexer" "historyCount" "I", Cond.fieldLink RX3 19 "StreamMultiplexer" "history" "[LStreamMultiplexer$State;", Cond.methodLink RX3 224 yX3_dropOldest, Cond.instanceMethod yX3_dropOldest]
def wsX3_close_r2 : List Cond := [Cond.selects RX3 yX3_dropOldest yX3_dropOldest, Cond.code yX3_dropOldest cX3_dropOldest 3 none, Cond.methodLink RX3 221 yX2_copyFrom, Cond.instanceMethod yX2_copyFrom, Cond.selects RX2 yX2_copyFrom yX2_copyFrom, Cond.code yX2_copyFrom cX2_copyFrom 3 none, Cond.fieldLink RX2 15 "StreamMultiplexer$State" "weights" "[I", Cond.fieldLink RX2 19 "StreamMultiplexer$State" "amounts" "[I", Cond.fieldLink RX2 24 "StreamMultiplexer$State" "queues" "[LStreamMultiplexer$Frames;", Cond.fieldLink RX2 34 "StreamMultiplexer$State" "draft" "LStreamMultiplexer$Order;", Cond.fieldLink RX2 42 "StreamMultiplexer$State" "epochCount" "I", Cond.fieldLink RX2 38 "StreamMultiplexer$State" "orders" "[LStreamMultiplexer$Order;", Cond.fieldLink RX2 45 "StreamMultiplexer$State" "came" "I", Cond.fieldLink RX2 48 "StreamMultiplexer$State" "sent" "I", Cond.fieldLink RX2 51 "StreamMultiplexer$State" "sentFrames" "LStreamMultiplexer$Frames;", Cond.methodLink RX2 55 yX0_copyFrom, Cond.instanceMethod yX0_copyFrom, Cond.selects RX0 yX0_copyFrom yX0_copyFrom, Cond.initialized RX0, Cond.code yX0_copyFrom cX0_copyFrom 3 none, Cond.fieldLink RX0 30 "StreamMultiplexer$Frames" "count" "I", Cond.fieldLink RX0 15 "StreamMultiplexer$Frames" "numbers" "[I", Cond.methodLink RX0 34 Lib.Math.min.name, Cond.static Lib.Math.min.name]
def wsX3_close_r3 : List Cond := [Cond.initialized "java/lang/Math", Cond.code Lib.Math.min.name Lib.Math.min.code 2 (some .int), Cond.fieldLink RX0 21 "StreamMultiplexer$Frames" "streams" "[I", Cond.fieldLink RX0 24 "StreamMultiplexer$Frames" "sizes" "[I", Cond.fieldLink RX0 27 "StreamMultiplexer$Frames" "epochs" "[I", Cond.methodLink RX2 59 yX1_copyFrom, Cond.instanceMethod yX1_copyFrom, Cond.selects RX1 yX1_copyFrom yX1_copyFrom, Cond.initialized RX1, Cond.code yX1_copyFrom cX1_copyFrom 3 none, Cond.fieldLink RX1 9 "StreamMultiplexer$Order" "next" "[I", Cond.fieldLink RX1 15 "StreamMultiplexer$Order" "preceded" "[I", Cond.methodLink RX3 74 yX2_closeStream, Cond.instanceMethod yX2_closeStream, Cond.selects RX2 yX2_closeStream yX2_closeStream, Cond.code yX2_closeStream cX2_closeStream 2 none, Cond.static yX3_setOf, Cond.code yX3_setOf cX3_setOf 1 (some .int)]
def wsX3_close : List Cond := .code yX3_close cX3_close 2 (some .int) :: ((wsX3_close_r1 ++ (wsX3_close_r2 ++ wsX3_close_r3)) ++ wsX30 ++ wsX20 ++ wsX00 ++ wsX10)
def wsX3_setWeight_r1 : List Cond := [Cond.fieldLink RX3 10 "StreamMultiplexer" "present" "LStreamMultiplexer$State;", Cond.fieldLink RX3 82 "StreamMultiplexer$State" "weights" "[I", Cond.methodLink RX3 38 yX3_isStream, Cond.static yX3_isStream, Cond.initialized RX3, Cond.code yX3_isStream cX3_isStream 1 (some .boolean), Cond.methodLink RX3 42 yX3_isWithin, Cond.static yX3_isWithin, Cond.code yX3_isWithin cX3_isWithin 3 (some .boolean), Cond.methodLink RX3 46 yX2_isOpen, Cond.instanceMethod yX2_isOpen, Cond.selects RX2 yX2_isOpen yX2_isOpen, Cond.initialized RX2, Cond.code yX2_isOpen cX2_isOpen 2 (some .boolean), Cond.fieldLink RX2 9 "StreamMultiplexer$State" "opened" "I", Cond.static yX3_isIn, Cond.code yX3_isIn cX3_isIn 2 (some .boolean), Cond.methodLink RX3 49 yX3_record, Cond.instanceMethod yX3_record, Cond.selects RX3 yX3_record yX3_record, Cond.code yX3_record cX3_record 1 none, Cond.fieldLink RX3 23 "StreamMultiplexer" "historyCount" "I", Cond.fieldLink RX3 19 "StreamMultiplexer" "history" "[LStreamMultiplexer$State;", Cond.methodLink RX3 224 yX3_dropOldest]
def wsX3_setWeight_r2 : List Cond := [Cond.instanceMethod yX3_dropOldest, Cond.selects RX3 yX3_dropOldest yX3_dropOldest, Cond.code yX3_dropOldest cX3_dropOldest 3 none, Cond.methodLink RX3 221 yX2_copyFrom, Cond.instanceMethod yX2_copyFrom, Cond.selects RX2 yX2_copyFrom yX2_copyFrom, Cond.code yX2_copyFrom cX2_copyFrom 3 none, Cond.fieldLink RX2 15 "StreamMultiplexer$State" "weights" "[I", Cond.fieldLink RX2 19 "StreamMultiplexer$State" "amounts" "[I", Cond.fieldLink RX2 24 "StreamMultiplexer$State" "queues" "[LStreamMultiplexer$Frames;", Cond.fieldLink RX2 34 "StreamMultiplexer$State" "draft" "LStreamMultiplexer$Order;", Cond.fieldLink RX2 42 "StreamMultiplexer$State" "epochCount" "I", Cond.fieldLink RX2 38 "StreamMultiplexer$State" "orders" "[LStreamMultiplexer$Order;", Cond.fieldLink RX2 45 "StreamMultiplexer$State" "came" "I", Cond.fieldLink RX2 48 "StreamMultiplexer$State" "sent" "I", Cond.fieldLink RX2 51 "StreamMultiplexer$State" "sentFrames" "LStreamMultiplexer$Frames;", Cond.methodLink RX2 55 yX0_copyFrom, Cond.instanceMethod yX0_copyFrom, Cond.selects RX0 yX0_copyFrom yX0_copyFrom, Cond.initialized RX0, Cond.code yX0_copyFrom cX0_copyFrom 3 none, Cond.fieldLink RX0 30 "StreamMultiplexer$Frames" "count" "I", Cond.fieldLink RX0 15 "StreamMultiplexer$Frames" "numbers" "[I", Cond.methodLink RX0 34 Lib.Math.min.name]
def wsX3_setWeight_r3 : List Cond := [Cond.static Lib.Math.min.name, Cond.initialized "java/lang/Math", Cond.code Lib.Math.min.name Lib.Math.min.code 2 (some .int), Cond.fieldLink RX0 21 "StreamMultiplexer$Frames" "streams" "[I", Cond.fieldLink RX0 24 "StreamMultiplexer$Frames" "sizes" "[I", Cond.fieldLink RX0 27 "StreamMultiplexer$Frames" "epochs" "[I", Cond.methodLink RX2 59 yX1_copyFrom, Cond.instanceMethod yX1_copyFrom, Cond.selects RX1 yX1_copyFrom yX1_copyFrom, Cond.initialized RX1, Cond.code yX1_copyFrom cX1_copyFrom 3 none, Cond.fieldLink RX1 9 "StreamMultiplexer$Order" "next" "[I", Cond.fieldLink RX1 15 "StreamMultiplexer$Order" "preceded" "[I"]
def wsX3_setWeight : List Cond := .code yX3_setWeight cX3_setWeight 4 (some .int) :: ((wsX3_setWeight_r1 ++ (wsX3_setWeight_r2 ++ wsX3_setWeight_r3)) ++ wsX30 ++ wsX20 ++ wsX00 ++ wsX10)
def wsX3_push_r1 : List Cond := [Cond.fieldLink RX3 10 "StreamMultiplexer" "present" "LStreamMultiplexer$State;", Cond.fieldLink RX3 65 "StreamMultiplexer$State" "queues" "[LStreamMultiplexer$Frames;", Cond.methodLink RX3 38 yX3_isStream, Cond.static yX3_isStream, Cond.initialized RX3, Cond.code yX3_isStream cX3_isStream 1 (some .boolean), Cond.methodLink RX3 42 yX3_isWithin, Cond.static yX3_isWithin, Cond.code yX3_isWithin cX3_isWithin 3 (some .boolean), Cond.methodLink RX3 46 yX2_isOpen, Cond.instanceMethod yX2_isOpen, Cond.selects RX2 yX2_isOpen yX2_isOpen, Cond.initialized RX2, Cond.code yX2_isOpen cX2_isOpen 2 (some .boolean), Cond.fieldLink RX2 9 "StreamMultiplexer$State" "opened" "I", Cond.static yX3_isIn, Cond.code yX3_isIn cX3_isIn 2 (some .boolean), Cond.methodLink RX3 85 yX0_isFull, Cond.instanceMethod yX0_isFull, Cond.selects RX0 yX0_isFull yX0_isFull, Cond.initialized RX0, Cond.code yX0_isFull cX0_isFull 1 (some .boolean), Cond.fieldLink RX0 30 "StreamMultiplexer$Frames" "count" "I", Cond.fieldLink RX0 15 "StreamMultiplexer$Frames" "numbers" "[I"]
def wsX3_push_r2 : List Cond := [Cond.methodLink RX3 49 yX3_record, Cond.instanceMethod yX3_record, Cond.selects RX3 yX3_record yX3_record, Cond.code yX3_record cX3_record 1 none, Cond.fieldLink RX3 23 "StreamMultiplexer" "historyCount" "I", Cond.fieldLink RX3 19 "StreamMultiplexer" "history" "[LStreamMultiplexer$State;", Cond.methodLink RX3 224 yX3_dropOldest, Cond.instanceMethod yX3_dropOldest, Cond.selects RX3 yX3_dropOldest yX3_dropOldest, Cond.code yX3_dropOldest cX3_dropOldest 3 none, Cond.methodLink RX3 221 yX2_copyFrom, Cond.instanceMethod yX2_copyFrom, Cond.selects RX2 yX2_copyFrom yX2_copyFrom, Cond.code yX2_copyFrom cX2_copyFrom 3 none, Cond.fieldLink RX2 15 "StreamMultiplexer$State" "weights" "[I", Cond.fieldLink RX2 19 "StreamMultiplexer$State" "amounts" "[I", Cond.fieldLink RX2 24 "StreamMultiplexer$State" "queues" "[LStreamMultiplexer$Frames;", Cond.fieldLink RX2 34 "StreamMultiplexer$State" "draft" "LStreamMultiplexer$Order;", Cond.fieldLink RX2 42 "StreamMultiplexer$State" "epochCount" "I", Cond.fieldLink RX2 38 "StreamMultiplexer$State" "orders" "[LStreamMultiplexer$Order;", Cond.fieldLink RX2 45 "StreamMultiplexer$State" "came" "I", Cond.fieldLink RX2 48 "StreamMultiplexer$State" "sent" "I", Cond.fieldLink RX2 51 "StreamMultiplexer$State" "sentFrames" "LStreamMultiplexer$Frames;", Cond.methodLink RX2 55 yX0_copyFrom]
def wsX3_push_r3 : List Cond := [Cond.instanceMethod yX0_copyFrom, Cond.selects RX0 yX0_copyFrom yX0_copyFrom, Cond.code yX0_copyFrom cX0_copyFrom 3 none, Cond.methodLink RX0 34 Lib.Math.min.name, Cond.static Lib.Math.min.name, Cond.initialized "java/lang/Math", Cond.code Lib.Math.min.name Lib.Math.min.code 2 (some .int), Cond.fieldLink RX0 21 "StreamMultiplexer$Frames" "streams" "[I", Cond.fieldLink RX0 24 "StreamMultiplexer$Frames" "sizes" "[I", Cond.fieldLink RX0 27 "StreamMultiplexer$Frames" "epochs" "[I", Cond.methodLink RX2 59 yX1_copyFrom, Cond.instanceMethod yX1_copyFrom, Cond.selects RX1 yX1_copyFrom yX1_copyFrom, Cond.initialized RX1, Cond.code yX1_copyFrom cX1_copyFrom 3 none, Cond.fieldLink RX1 9 "StreamMultiplexer$Order" "next" "[I", Cond.fieldLink RX1 15 "StreamMultiplexer$Order" "preceded" "[I", Cond.methodLink RX3 89 yX2_takeFrame, Cond.instanceMethod yX2_takeFrame, Cond.selects RX2 yX2_takeFrame yX2_takeFrame, Cond.code yX2_takeFrame cX2_takeFrame 4 (some .int), Cond.methodLink RX2 74 yX2_currentEpoch, Cond.instanceMethod yX2_currentEpoch, Cond.selects RX2 yX2_currentEpoch yX2_currentEpoch]
def wsX3_push_r4 : List Cond := [Cond.code yX2_currentEpoch cX2_currentEpoch 1 (some .int), Cond.methodLink RX2 78 yX0_add, Cond.instanceMethod yX0_add, Cond.selects RX0 yX0_add yX0_add, Cond.code yX0_add cX0_add 5 none, Cond.methodLink RX0 41 yX0_isFull]
def wsX3_push : List Cond := .code yX3_push cX3_push 3 (some .int) :: ((wsX3_push_r1 ++ (wsX3_push_r2 ++ (wsX3_push_r3 ++ wsX3_push_r4))) ++ wsX30 ++ wsX20 ++ wsX00 ++ wsX10)
def wsX3_edge_r1 : List Cond := [Cond.fieldLink RX3 10 "StreamMultiplexer" "present" "LStreamMultiplexer$State;", Cond.fieldLink RX3 97 "StreamMultiplexer$State" "draft" "LStreamMultiplexer$Order;", Cond.methodLink RX3 93 yX3_areTwoStreams, Cond.static yX3_areTwoStreams, Cond.initialized RX3, Cond.code yX3_areTwoStreams cX3_areTwoStreams 2 (some .boolean), Cond.methodLink RX3 38 yX3_isStream, Cond.static yX3_isStream, Cond.code yX3_isStream cX3_isStream 1 (some .boolean), Cond.methodLink RX3 42 yX3_isWithin, Cond.static yX3_isWithin, Cond.code yX3_isWithin cX3_isWithin 3 (some .boolean), Cond.methodLink RX3 101 yX1_precedes, Cond.instanceMethod yX1_precedes, Cond.selects RX1 yX1_precedes yX1_precedes, Cond.initialized RX1, Cond.code yX1_precedes cX1_precedes 3 (some .boolean), Cond.fieldLink RX1 15 "StreamMultiplexer$Order" "preceded" "[I", Cond.static yX3_isIn, Cond.code yX3_isIn cX3_isIn 2 (some .boolean), Cond.methodLink RX3 49 yX3_record, Cond.instanceMethod yX3_record, Cond.selects RX3 yX3_record yX3_record, Cond.code yX3_record cX3_record 1 none]
def wsX3_edge_r2 : List Cond := [Cond.fieldLink RX3 23 "StreamMultiplexer" "historyCount" "I", Cond.fieldLink RX3 19 "StreamMultiplexer" "history" "[LStreamMultiplexer$State;", Cond.methodLink RX3 224 yX3_dropOldest, Cond.instanceMethod yX3_dropOldest, Cond.selects RX3 yX3_dropOldest yX3_dropOldest, Cond.code yX3_dropOldest cX3_dropOldest 3 none, Cond.methodLink RX3 221 yX2_copyFrom, Cond.instanceMethod yX2_copyFrom, Cond.selects RX2 yX2_copyFrom yX2_copyFrom, Cond.initialized RX2, Cond.code yX2_copyFrom cX2_copyFrom 3 none, Cond.fieldLink RX2 9 "StreamMultiplexer$State" "opened" "I", Cond.fieldLink RX2 15 "StreamMultiplexer$State" "weights" "[I", Cond.fieldLink RX2 19 "StreamMultiplexer$State" "amounts" "[I", Cond.fieldLink RX2 24 "StreamMultiplexer$State" "queues" "[LStreamMultiplexer$Frames;", Cond.fieldLink RX2 34 "StreamMultiplexer$State" "draft" "LStreamMultiplexer$Order;", Cond.fieldLink RX2 42 "StreamMultiplexer$State" "epochCount" "I", Cond.fieldLink RX2 38 "StreamMultiplexer$State" "orders" "[LStreamMultiplexer$Order;", Cond.fieldLink RX2 45 "StreamMultiplexer$State" "came" "I", Cond.fieldLink RX2 48 "StreamMultiplexer$State" "sent" "I", Cond.fieldLink RX2 51 "StreamMultiplexer$State" "sentFrames" "LStreamMultiplexer$Frames;", Cond.methodLink RX2 55 yX0_copyFrom, Cond.instanceMethod yX0_copyFrom, Cond.selects RX0 yX0_copyFrom yX0_copyFrom]
def wsX3_edge_r3 : List Cond := [Cond.initialized RX0, Cond.code yX0_copyFrom cX0_copyFrom 3 none, Cond.fieldLink RX0 30 "StreamMultiplexer$Frames" "count" "I", Cond.fieldLink RX0 15 "StreamMultiplexer$Frames" "numbers" "[I", Cond.methodLink RX0 34 Lib.Math.min.name, Cond.static Lib.Math.min.name, Cond.initialized "java/lang/Math", Cond.code Lib.Math.min.name Lib.Math.min.code 2 (some .int), Cond.fieldLink RX0 21 "StreamMultiplexer$Frames" "streams" "[I", Cond.fieldLink RX0 24 "StreamMultiplexer$Frames" "sizes" "[I", Cond.fieldLink RX0 27 "StreamMultiplexer$Frames" "epochs" "[I", Cond.methodLink RX2 59 yX1_copyFrom, Cond.instanceMethod yX1_copyFrom, Cond.selects RX1 yX1_copyFrom yX1_copyFrom, Cond.code yX1_copyFrom cX1_copyFrom 3 none, Cond.fieldLink RX1 9 "StreamMultiplexer$Order" "next" "[I", Cond.methodLink RX3 106 yX1_hasEdge, Cond.instanceMethod yX1_hasEdge, Cond.selects RX1 yX1_hasEdge yX1_hasEdge, Cond.code yX1_hasEdge cX1_hasEdge 3 (some .boolean), Cond.methodLink RX3 109 yX1_putEdge, Cond.instanceMethod yX1_putEdge, Cond.selects RX1 yX1_putEdge yX1_putEdge, Cond.code yX1_putEdge cX1_putEdge 4 none]
def wsX3_edge_r4 : List Cond := [Cond.static yX3_setOf, Cond.code yX3_setOf cX3_setOf 1 (some .int), Cond.methodLink RX1 33 yX1_findPreceded, Cond.instanceMethod yX1_findPreceded, Cond.selects RX1 yX1_findPreceded yX1_findPreceded, Cond.code yX1_findPreceded cX1_findPreceded 3 none]
def wsX3_edge : List Cond := .code yX3_edge cX3_edge 5 (some .int) :: ((wsX3_edge_r1 ++ (wsX3_edge_r2 ++ (wsX3_edge_r3 ++ wsX3_edge_r4))) ++ wsX30 ++ wsX20 ++ wsX10 ++ wsX00)
def wsX3_commit_r1 : List Cond := [Cond.fieldLink RX3 10 "StreamMultiplexer" "present" "LStreamMultiplexer$State;", Cond.fieldLink RX3 113 "StreamMultiplexer$State" "epochCount" "I", Cond.methodLink RX3 49 yX3_record, Cond.instanceMethod yX3_record, Cond.selects RX3 yX3_record yX3_record, Cond.initialized RX3, Cond.code yX3_record cX3_record 1 none, Cond.fieldLink RX3 23 "StreamMultiplexer" "historyCount" "I", Cond.fieldLink RX3 19 "StreamMultiplexer" "history" "[LStreamMultiplexer$State;", Cond.methodLink RX3 224 yX3_dropOldest, Cond.instanceMethod yX3_dropOldest, Cond.selects RX3 yX3_dropOldest yX3_dropOldest, Cond.code yX3_dropOldest cX3_dropOldest 3 none, Cond.methodLink RX3 221 yX2_copyFrom, Cond.instanceMethod yX2_copyFrom, Cond.selects RX2 yX2_copyFrom yX2_copyFrom, Cond.initialized RX2, Cond.code yX2_copyFrom cX2_copyFrom 3 none, Cond.fieldLink RX2 9 "StreamMultiplexer$State" "opened" "I", Cond.fieldLink RX2 15 "StreamMultiplexer$State" "weights" "[I", Cond.fieldLink RX2 19 "StreamMultiplexer$State" "amounts" "[I", Cond.fieldLink RX2 24 "StreamMultiplexer$State" "queues" "[LStreamMultiplexer$Frames;", Cond.fieldLink RX2 34 "StreamMultiplexer$State" "draft" "LStreamMultiplexer$Order;", Cond.fieldLink RX2 42 "StreamMultiplexer$State" "epochCount" "I"]
def wsX3_commit_r2 : List Cond := [Cond.fieldLink RX2 38 "StreamMultiplexer$State" "orders" "[LStreamMultiplexer$Order;", Cond.fieldLink RX2 45 "StreamMultiplexer$State" "came" "I", Cond.fieldLink RX2 48 "StreamMultiplexer$State" "sent" "I", Cond.fieldLink RX2 51 "StreamMultiplexer$State" "sentFrames" "LStreamMultiplexer$Frames;", Cond.methodLink RX2 55 yX0_copyFrom, Cond.instanceMethod yX0_copyFrom, Cond.selects RX0 yX0_copyFrom yX0_copyFrom, Cond.initialized RX0, Cond.code yX0_copyFrom cX0_copyFrom 3 none, Cond.fieldLink RX0 30 "StreamMultiplexer$Frames" "count" "I", Cond.fieldLink RX0 15 "StreamMultiplexer$Frames" "numbers" "[I", Cond.methodLink RX0 34 Lib.Math.min.name, Cond.static Lib.Math.min.name, Cond.initialized "java/lang/Math", Cond.code Lib.Math.min.name Lib.Math.min.code 2 (some .int), Cond.fieldLink RX0 21 "StreamMultiplexer$Frames" "streams" "[I", Cond.fieldLink RX0 24 "StreamMultiplexer$Frames" "sizes" "[I", Cond.fieldLink RX0 27 "StreamMultiplexer$Frames" "epochs" "[I", Cond.methodLink RX2 59 yX1_copyFrom, Cond.instanceMethod yX1_copyFrom, Cond.selects RX1 yX1_copyFrom yX1_copyFrom, Cond.initialized RX1, Cond.code yX1_copyFrom cX1_copyFrom 3 none, Cond.fieldLink RX1 9 "StreamMultiplexer$Order" "next" "[I"]
def wsX3_commit_r3 : List Cond := [Cond.fieldLink RX1 15 "StreamMultiplexer$Order" "preceded" "[I", Cond.methodLink RX3 116 yX2_beginEpoch, Cond.instanceMethod yX2_beginEpoch, Cond.selects RX2 yX2_beginEpoch yX2_beginEpoch, Cond.code yX2_beginEpoch cX2_beginEpoch 1 none, Cond.methodLink RX3 119 yX2_currentEpoch, Cond.instanceMethod yX2_currentEpoch, Cond.selects RX2 yX2_currentEpoch yX2_currentEpoch, Cond.code yX2_currentEpoch cX2_currentEpoch 1 (some .int)]
def wsX3_commit : List Cond := .code yX3_commit cX3_commit 1 (some .int) :: ((wsX3_commit_r1 ++ (wsX3_commit_r2 ++ wsX3_commit_r3)) ++ wsX30 ++ wsX20 ++ wsX00 ++ wsX10)
def wsX3_isEpoch : List Cond := .code yX3_isEpoch cX3_isEpoch 2 (some .boolean) :: ([.fieldLink RX3 10 "StreamMultiplexer" "present" "LStreamMultiplexer$State;", .fieldLink RX3 113 "StreamMultiplexer$State" "epochCount" "I"] ++ wsX30 ++ wsX20)
def wsX3_revert_r1 : List Cond := [Cond.fieldLink RX3 10 "StreamMultiplexer" "present" "LStreamMultiplexer$State;", Cond.fieldLink RX3 97 "StreamMultiplexer$State" "draft" "LStreamMultiplexer$Order;", Cond.methodLink RX3 123 yX3_isEpoch, Cond.instanceMethod yX3_isEpoch, Cond.selects RX3 yX3_isEpoch yX3_isEpoch, Cond.initialized RX3, Cond.code yX3_isEpoch cX3_isEpoch 2 (some .boolean), Cond.fieldLink RX3 113 "StreamMultiplexer$State" "epochCount" "I", Cond.methodLink RX3 49 yX3_record, Cond.instanceMethod yX3_record, Cond.selects RX3 yX3_record yX3_record, Cond.code yX3_record cX3_record 1 none, Cond.fieldLink RX3 23 "StreamMultiplexer" "historyCount" "I", Cond.fieldLink RX3 19 "StreamMultiplexer" "history" "[LStreamMultiplexer$State;", Cond.methodLink RX3 224 yX3_dropOldest, Cond.instanceMethod yX3_dropOldest, Cond.selects RX3 yX3_dropOldest yX3_dropOldest, Cond.code yX3_dropOldest cX3_dropOldest 3 none, Cond.methodLink RX3 221 yX2_copyFrom, Cond.instanceMethod yX2_copyFrom, Cond.selects RX2 yX2_copyFrom yX2_copyFrom, Cond.initialized RX2, Cond.code yX2_copyFrom cX2_copyFrom 3 none, Cond.fieldLink RX2 9 "StreamMultiplexer$State" "opened" "I"]
def wsX3_revert_r2 : List Cond := [Cond.fieldLink RX2 15 "StreamMultiplexer$State" "weights" "[I", Cond.fieldLink RX2 19 "StreamMultiplexer$State" "amounts" "[I", Cond.fieldLink RX2 24 "StreamMultiplexer$State" "queues" "[LStreamMultiplexer$Frames;", Cond.fieldLink RX2 34 "StreamMultiplexer$State" "draft" "LStreamMultiplexer$Order;", Cond.fieldLink RX2 42 "StreamMultiplexer$State" "epochCount" "I", Cond.fieldLink RX2 38 "StreamMultiplexer$State" "orders" "[LStreamMultiplexer$Order;", Cond.fieldLink RX2 45 "StreamMultiplexer$State" "came" "I", Cond.fieldLink RX2 48 "StreamMultiplexer$State" "sent" "I", Cond.fieldLink RX2 51 "StreamMultiplexer$State" "sentFrames" "LStreamMultiplexer$Frames;", Cond.methodLink RX2 55 yX0_copyFrom, Cond.instanceMethod yX0_copyFrom, Cond.selects RX0 yX0_copyFrom yX0_copyFrom, Cond.initialized RX0, Cond.code yX0_copyFrom cX0_copyFrom 3 none, Cond.fieldLink RX0 30 "StreamMultiplexer$Frames" "count" "I", Cond.fieldLink RX0 15 "StreamMultiplexer$Frames" "numbers" "[I", Cond.methodLink RX0 34 Lib.Math.min.name, Cond.static Lib.Math.min.name, Cond.initialized "java/lang/Math", Cond.code Lib.Math.min.name Lib.Math.min.code 2 (some .int), Cond.fieldLink RX0 21 "StreamMultiplexer$Frames" "streams" "[I", Cond.fieldLink RX0 24 "StreamMultiplexer$Frames" "sizes" "[I", Cond.fieldLink RX0 27 "StreamMultiplexer$Frames" "epochs" "[I", Cond.methodLink RX2 59 yX1_copyFrom]
def wsX3_revert_r3 : List Cond := [Cond.instanceMethod yX1_copyFrom, Cond.selects RX1 yX1_copyFrom yX1_copyFrom, Cond.initialized RX1, Cond.code yX1_copyFrom cX1_copyFrom 3 none, Cond.fieldLink RX1 9 "StreamMultiplexer$Order" "next" "[I", Cond.fieldLink RX1 15 "StreamMultiplexer$Order" "preceded" "[I", Cond.methodLink RX3 126 yX2_orderOf, Cond.instanceMethod yX2_orderOf, Cond.selects RX2 yX2_orderOf yX2_orderOf, Cond.code yX2_orderOf cX2_orderOf 2 (some (.object "StreamMultiplexer$Order")), Cond.methodLink RX3 130 yX1_copyFrom, Cond.methodLink RX3 134 yX1_edgeCount, Cond.instanceMethod yX1_edgeCount, Cond.selects RX1 yX1_edgeCount yX1_edgeCount, Cond.code yX1_edgeCount cX1_edgeCount 3 (some .int), Cond.methodLink RX1 36 yJ6_bitCount_0f7a4, Cond.static yJ6_bitCount_0f7a4, Cond.initialized RJ6, Cond.code yJ6_bitCount_0f7a4 cJ6_bitCount_0f7a4 1 (some .int), Cond.constant RJ6 265 (1431655765), Cond.constant RJ6 266 (858993459), Cond.constant RJ6 267 (252645135)]
def wsX3_revert : List Cond := .code yX3_revert cX3_revert 2 (some .int) :: ((wsX3_revert_r1 ++ (wsX3_revert_r2 ++ wsX3_revert_r3)) ++ wsX30 ++ wsX20 ++ wsX00 ++ wsX10)
def wsX3_witness_r1 : List Cond := [Cond.fieldLink RX3 10 "StreamMultiplexer" "present" "LStreamMultiplexer$State;", Cond.fieldLink RX3 97 "StreamMultiplexer$State" "draft" "LStreamMultiplexer$Order;", Cond.methodLink RX3 93 yX3_areTwoStreams, Cond.static yX3_areTwoStreams, Cond.initialized RX3, Cond.code yX3_areTwoStreams cX3_areTwoStreams 2 (some .boolean), Cond.methodLink RX3 38 yX3_isStream, Cond.static yX3_isStream, Cond.code yX3_isStream cX3_isStream 1 (some .boolean), Cond.methodLink RX3 137 yX1_distance, Cond.instanceMethod yX1_distance, Cond.selects RX1 yX1_distance yX1_distance, Cond.initialized RX1, Cond.code yX1_distance cX1_distance 5 (some .int), Cond.static yX3_setOf, Cond.code yX3_setOf cX3_setOf 1 (some .int), Cond.static yX3_isIn, Cond.code yX3_isIn cX3_isIn 2 (some .boolean), Cond.methodLink RX1 41 yX1_nextOfAll, Cond.instanceMethod yX1_nextOfAll, Cond.selects RX1 yX1_nextOfAll yX1_nextOfAll, Cond.code yX1_nextOfAll cX1_nextOfAll 4 (some .int), Cond.fieldLink RX1 9 "StreamMultiplexer$Order" "next" "[I", Cond.methodLink RX3 140 yX1_streamOfWalk]
def wsX3_witness_r2 : List Cond := [Cond.instanceMethod yX1_streamOfWalk, Cond.selects RX1 yX1_streamOfWalk yX1_streamOfWalk, Cond.code yX1_streamOfWalk cX1_streamOfWalk 7 (some .int), Cond.methodLink RX1 44 yX1_distance, Cond.methodLink RX1 48 yX1_lowestNextAt, Cond.instanceMethod yX1_lowestNextAt, Cond.selects RX1 yX1_lowestNextAt yX1_lowestNextAt, Cond.code yX1_lowestNextAt cX1_lowestNextAt 5 (some .int), Cond.methodLink RX1 52 yX1_hasEdge, Cond.instanceMethod yX1_hasEdge, Cond.selects RX1 yX1_hasEdge yX1_hasEdge, Cond.code yX1_hasEdge cX1_hasEdge 3 (some .boolean)]
def wsX3_witness : List Cond := .code yX3_witness cX3_witness 5 (some .int) :: ((wsX3_witness_r1 ++ wsX3_witness_r2) ++ wsX30 ++ wsX20 ++ wsX10)
def wsX3_send_r1 : List Cond := [Cond.fieldLink RX3 10 "StreamMultiplexer" "present" "LStreamMultiplexer$State;", Cond.fieldLink RX3 65 "StreamMultiplexer$State" "queues" "[LStreamMultiplexer$Frames;", Cond.methodLink RX3 144 yX2_nextStream, Cond.instanceMethod yX2_nextStream, Cond.selects RX2 yX2_nextStream yX2_nextStream, Cond.initialized RX2, Cond.code yX2_nextStream cX2_nextStream 3 (some .int), Cond.methodLink RX2 104 yX2_isCandidate, Cond.instanceMethod yX2_isCandidate, Cond.selects RX2 yX2_isCandidate yX2_isCandidate, Cond.code yX2_isCandidate cX2_isCandidate 2 (some .boolean), Cond.fieldLink RX2 24 "StreamMultiplexer$State" "queues" "[LStreamMultiplexer$Frames;", Cond.fieldLink RX2 82 "StreamMultiplexer$Frames" "count" "I", Cond.static yX3_isStream, Cond.initialized RX3, Cond.code yX3_isStream cX3_isStream 1 (some .boolean), Cond.methodLink RX2 101 yX2_blockersOfFirst, Cond.instanceMethod yX2_blockersOfFirst, Cond.selects RX2 yX2_blockersOfFirst yX2_blockersOfFirst, Cond.code yX2_blockersOfFirst cX2_blockersOfFirst 6 (some .int), Cond.methodLink RX2 88 yX0_epochAt, Cond.instanceMethod yX0_epochAt, Cond.selects RX0 yX0_epochAt yX0_epochAt, Cond.initialized RX0]
def wsX3_send_r2 : List Cond := [Cond.code yX0_epochAt cX0_epochAt 2 (some .int), Cond.fieldLink RX0 27 "StreamMultiplexer$Frames" "epochs" "[I", Cond.methodLink RX0 37 yX0_hasFrame, Cond.instanceMethod yX0_hasFrame, Cond.selects RX0 yX0_hasFrame yX0_hasFrame, Cond.code yX0_hasFrame cX0_hasFrame 2 (some .boolean), Cond.fieldLink RX0 30 "StreamMultiplexer$Frames" "count" "I", Cond.methodLink RX2 91 yX2_orderOf, Cond.instanceMethod yX2_orderOf, Cond.selects RX2 yX2_orderOf yX2_orderOf, Cond.code yX2_orderOf cX2_orderOf 2 (some (.object "StreamMultiplexer$Order")), Cond.fieldLink RX2 42 "StreamMultiplexer$State" "epochCount" "I", Cond.fieldLink RX2 38 "StreamMultiplexer$State" "orders" "[LStreamMultiplexer$Order;", Cond.fieldLink RX2 34 "StreamMultiplexer$State" "draft" "LStreamMultiplexer$Order;", Cond.methodLink RX2 95 yX1_precedes, Cond.instanceMethod yX1_precedes, Cond.selects RX1 yX1_precedes yX1_precedes, Cond.initialized RX1, Cond.code yX1_precedes cX1_precedes 3 (some .boolean), Cond.fieldLink RX1 15 "StreamMultiplexer$Order" "preceded" "[I", Cond.static yX3_isIn, Cond.code yX3_isIn cX3_isIn 2 (some .boolean), Cond.methodLink RX2 98 yX0_countOfEpochUpTo, Cond.instanceMethod yX0_countOfEpochUpTo]
def wsX3_send_r3 : List Cond := [Cond.selects RX0 yX0_countOfEpochUpTo yX0_countOfEpochUpTo, Cond.code yX0_countOfEpochUpTo cX0_countOfEpochUpTo 4 (some .int), Cond.methodLink RX2 107 yX2_isLessServed, Cond.instanceMethod yX2_isLessServed, Cond.selects RX2 yX2_isLessServed yX2_isLessServed, Cond.code yX2_isLessServed cX2_isLessServed 3 (some .boolean), Cond.fieldLink RX2 19 "StreamMultiplexer$State" "amounts" "[I", Cond.fieldLink RX2 15 "StreamMultiplexer$State" "weights" "[I", Cond.methodLink RX3 49 yX3_record, Cond.instanceMethod yX3_record, Cond.selects RX3 yX3_record yX3_record, Cond.code yX3_record cX3_record 1 none, Cond.fieldLink RX3 23 "StreamMultiplexer" "historyCount" "I", Cond.fieldLink RX3 19 "StreamMultiplexer" "history" "[LStreamMultiplexer$State;", Cond.methodLink RX3 224 yX3_dropOldest, Cond.instanceMethod yX3_dropOldest, Cond.selects RX3 yX3_dropOldest yX3_dropOldest, Cond.code yX3_dropOldest cX3_dropOldest 3 none, Cond.methodLink RX3 221 yX2_copyFrom, Cond.instanceMethod yX2_copyFrom, Cond.selects RX2 yX2_copyFrom yX2_copyFrom, Cond.code yX2_copyFrom cX2_copyFrom 3 none, Cond.fieldLink RX2 9 "StreamMultiplexer$State" "opened" "I", Cond.fieldLink RX2 45 "StreamMultiplexer$State" "came" "I"]
def wsX3_send_r4 : List Cond := [Cond.fieldLink RX2 48 "StreamMultiplexer$State" "sent" "I", Cond.fieldLink RX2 51 "StreamMultiplexer$State" "sentFrames" "LStreamMultiplexer$Frames;", Cond.methodLink RX2 55 yX0_copyFrom, Cond.instanceMethod yX0_copyFrom, Cond.selects RX0 yX0_copyFrom yX0_copyFrom, Cond.code yX0_copyFrom cX0_copyFrom 3 none, Cond.fieldLink RX0 15 "StreamMultiplexer$Frames" "numbers" "[I", Cond.methodLink RX0 34 Lib.Math.min.name, Cond.static Lib.Math.min.name, Cond.initialized "java/lang/Math", Cond.code Lib.Math.min.name Lib.Math.min.code 2 (some .int), Cond.fieldLink RX0 21 "StreamMultiplexer$Frames" "streams" "[I", Cond.fieldLink RX0 24 "StreamMultiplexer$Frames" "sizes" "[I", Cond.methodLink RX2 59 yX1_copyFrom, Cond.instanceMethod yX1_copyFrom, Cond.selects RX1 yX1_copyFrom yX1_copyFrom, Cond.code yX1_copyFrom cX1_copyFrom 3 none, Cond.fieldLink RX1 9 "StreamMultiplexer$Order" "next" "[I", Cond.methodLink RX3 147 yX0_numberAt, Cond.instanceMethod yX0_numberAt, Cond.selects RX0 yX0_numberAt yX0_numberAt, Cond.code yX0_numberAt cX0_numberAt 2 (some .int), Cond.methodLink RX3 150 yX2_sendFirst, Cond.instanceMethod yX2_sendFirst]
def wsX3_send_r5 : List Cond := [Cond.selects RX2 yX2_sendFirst yX2_sendFirst, Cond.code yX2_sendFirst cX2_sendFirst 4 none, Cond.methodLink RX2 110 yX0_sizeAt, Cond.instanceMethod yX0_sizeAt, Cond.selects RX0 yX0_sizeAt yX0_sizeAt, Cond.code yX0_sizeAt cX0_sizeAt 2 (some .int), Cond.methodLink RX2 113 yX0_isFull, Cond.instanceMethod yX0_isFull, Cond.selects RX0 yX0_isFull yX0_isFull, Cond.code yX0_isFull cX0_isFull 1 (some .boolean), Cond.methodLink RX2 117 yX0_removeFirst, Cond.instanceMethod yX0_removeFirst, Cond.selects RX0 yX0_removeFirst yX0_removeFirst, Cond.code yX0_removeFirst cX0_removeFirst 2 none, Cond.methodLink RX2 120 yX0_numberAt, Cond.methodLink RX2 78 yX0_add, Cond.instanceMethod yX0_add, Cond.selects RX0 yX0_add yX0_add, Cond.code yX0_add cX0_add 5 none, Cond.methodLink RX0 41 yX0_isFull]
def wsX3_send : List Cond := .code yX3_send cX3_send 3 (some .int) :: ((wsX3_send_r1 ++ (wsX3_send_r2 ++ (wsX3_send_r3 ++ (wsX3_send_r4 ++ wsX3_send_r5)))) ++ wsX30 ++ wsX20 ++ wsX00 ++ wsX10)
def wsX3_sendSome_r1 : List Cond := [Cond.fieldLink RX3 10 "StreamMultiplexer" "present" "LStreamMultiplexer$State;", Cond.fieldLink RX3 65 "StreamMultiplexer$State" "queues" "[LStreamMultiplexer$Frames;", Cond.methodLink RX3 42 yX3_isWithin, Cond.static yX3_isWithin, Cond.initialized RX3, Cond.code yX3_isWithin cX3_isWithin 3 (some .boolean), Cond.methodLink RX3 49 yX3_record, Cond.instanceMethod yX3_record, Cond.selects RX3 yX3_record yX3_record, Cond.code yX3_record cX3_record 1 none, Cond.fieldLink RX3 23 "StreamMultiplexer" "historyCount" "I", Cond.fieldLink RX3 19 "StreamMultiplexer" "history" "[LStreamMultiplexer$State;", Cond.methodLink RX3 224 yX3_dropOldest, Cond.instanceMethod yX3_dropOldest, Cond.selects RX3 yX3_dropOldest yX3_dropOldest, Cond.code yX3_dropOldest cX3_dropOldest 3 none, Cond.methodLink RX3 221 yX2_copyFrom, Cond.instanceMethod yX2_copyFrom, Cond.selects RX2 yX2_copyFrom yX2_copyFrom, Cond.initialized RX2, Cond.code yX2_copyFrom cX2_copyFrom 3 none, Cond.fieldLink RX2 9 "StreamMultiplexer$State" "opened" "I", Cond.fieldLink RX2 15 "StreamMultiplexer$State" "weights" "[I", Cond.fieldLink RX2 19 "StreamMultiplexer$State" "amounts" "[I"]
def wsX3_sendSome_r2 : List Cond := [Cond.fieldLink RX2 24 "StreamMultiplexer$State" "queues" "[LStreamMultiplexer$Frames;", Cond.fieldLink RX2 34 "StreamMultiplexer$State" "draft" "LStreamMultiplexer$Order;", Cond.fieldLink RX2 42 "StreamMultiplexer$State" "epochCount" "I", Cond.fieldLink RX2 38 "StreamMultiplexer$State" "orders" "[LStreamMultiplexer$Order;", Cond.fieldLink RX2 45 "StreamMultiplexer$State" "came" "I", Cond.fieldLink RX2 48 "StreamMultiplexer$State" "sent" "I", Cond.fieldLink RX2 51 "StreamMultiplexer$State" "sentFrames" "LStreamMultiplexer$Frames;", Cond.methodLink RX2 55 yX0_copyFrom, Cond.instanceMethod yX0_copyFrom, Cond.selects RX0 yX0_copyFrom yX0_copyFrom, Cond.initialized RX0, Cond.code yX0_copyFrom cX0_copyFrom 3 none, Cond.fieldLink RX0 30 "StreamMultiplexer$Frames" "count" "I", Cond.fieldLink RX0 15 "StreamMultiplexer$Frames" "numbers" "[I", Cond.methodLink RX0 34 Lib.Math.min.name, Cond.static Lib.Math.min.name, Cond.initialized "java/lang/Math", Cond.code Lib.Math.min.name Lib.Math.min.code 2 (some .int), Cond.fieldLink RX0 21 "StreamMultiplexer$Frames" "streams" "[I", Cond.fieldLink RX0 24 "StreamMultiplexer$Frames" "sizes" "[I", Cond.fieldLink RX0 27 "StreamMultiplexer$Frames" "epochs" "[I", Cond.methodLink RX2 59 yX1_copyFrom, Cond.instanceMethod yX1_copyFrom, Cond.selects RX1 yX1_copyFrom yX1_copyFrom]
def wsX3_sendSome_r3 : List Cond := [Cond.initialized RX1, Cond.code yX1_copyFrom cX1_copyFrom 3 none, Cond.fieldLink RX1 9 "StreamMultiplexer$Order" "next" "[I", Cond.fieldLink RX1 15 "StreamMultiplexer$Order" "preceded" "[I", Cond.methodLink RX3 144 yX2_nextStream, Cond.instanceMethod yX2_nextStream, Cond.selects RX2 yX2_nextStream yX2_nextStream, Cond.code yX2_nextStream cX2_nextStream 3 (some .int), Cond.methodLink RX2 104 yX2_isCandidate, Cond.instanceMethod yX2_isCandidate, Cond.selects RX2 yX2_isCandidate yX2_isCandidate, Cond.code yX2_isCandidate cX2_isCandidate 2 (some .boolean), Cond.fieldLink RX2 82 "StreamMultiplexer$Frames" "count" "I", Cond.static yX3_isStream, Cond.code yX3_isStream cX3_isStream 1 (some .boolean), Cond.methodLink RX2 101 yX2_blockersOfFirst, Cond.instanceMethod yX2_blockersOfFirst, Cond.selects RX2 yX2_blockersOfFirst yX2_blockersOfFirst, Cond.code yX2_blockersOfFirst cX2_blockersOfFirst 6 (some .int), Cond.methodLink RX2 88 yX0_epochAt, Cond.instanceMethod yX0_epochAt, Cond.selects RX0 yX0_epochAt yX0_epochAt, Cond.code yX0_epochAt cX0_epochAt 2 (some .int), Cond.methodLink RX0 37 yX0_hasFrame]
def wsX3_sendSome_r4 : List Cond := [Cond.instanceMethod yX0_hasFrame, Cond.selects RX0 yX0_hasFrame yX0_hasFrame, Cond.code yX0_hasFrame cX0_hasFrame 2 (some .boolean), Cond.methodLink RX2 91 yX2_orderOf, Cond.instanceMethod yX2_orderOf, Cond.selects RX2 yX2_orderOf yX2_orderOf, Cond.code yX2_orderOf cX2_orderOf 2 (some (.object "StreamMultiplexer$Order")), Cond.methodLink RX2 95 yX1_precedes, Cond.instanceMethod yX1_precedes, Cond.selects RX1 yX1_precedes yX1_precedes, Cond.code yX1_precedes cX1_precedes 3 (some .boolean), Cond.static yX3_isIn, Cond.code yX3_isIn cX3_isIn 2 (some .boolean), Cond.methodLink RX2 98 yX0_countOfEpochUpTo, Cond.instanceMethod yX0_countOfEpochUpTo, Cond.selects RX0 yX0_countOfEpochUpTo yX0_countOfEpochUpTo, Cond.code yX0_countOfEpochUpTo cX0_countOfEpochUpTo 4 (some .int), Cond.methodLink RX2 107 yX2_isLessServed, Cond.instanceMethod yX2_isLessServed, Cond.selects RX2 yX2_isLessServed yX2_isLessServed, Cond.code yX2_isLessServed cX2_isLessServed 3 (some .boolean), Cond.methodLink RX3 153 yX0_sizeAt, Cond.instanceMethod yX0_sizeAt, Cond.selects RX0 yX0_sizeAt yX0_sizeAt]
def wsX3_sendSome_r5 : List Cond := [Cond.code yX0_sizeAt cX0_sizeAt 2 (some .int), Cond.methodLink RX3 150 yX2_sendFirst, Cond.instanceMethod yX2_sendFirst, Cond.selects RX2 yX2_sendFirst yX2_sendFirst, Cond.code yX2_sendFirst cX2_sendFirst 4 none, Cond.methodLink RX2 110 yX0_sizeAt, Cond.methodLink RX2 113 yX0_isFull, Cond.instanceMethod yX0_isFull, Cond.selects RX0 yX0_isFull yX0_isFull, Cond.code yX0_isFull cX0_isFull 1 (some .boolean), Cond.methodLink RX2 117 yX0_removeFirst, Cond.instanceMethod yX0_removeFirst, Cond.selects RX0 yX0_removeFirst yX0_removeFirst, Cond.code yX0_removeFirst cX0_removeFirst 2 none, Cond.methodLink RX2 120 yX0_numberAt, Cond.instanceMethod yX0_numberAt, Cond.selects RX0 yX0_numberAt yX0_numberAt, Cond.code yX0_numberAt cX0_numberAt 2 (some .int), Cond.methodLink RX2 78 yX0_add, Cond.instanceMethod yX0_add, Cond.selects RX0 yX0_add yX0_add, Cond.code yX0_add cX0_add 5 none, Cond.methodLink RX0 41 yX0_isFull]
def wsX3_sendSome : List Cond := .code yX3_sendSome cX3_sendSome 5 (some .int) :: ((wsX3_sendSome_r1 ++ (wsX3_sendSome_r2 ++ (wsX3_sendSome_r3 ++ (wsX3_sendSome_r4 ++ wsX3_sendSome_r5)))) ++ wsX30 ++ wsX20 ++ wsX00 ++ wsX10)
def wsX3_undo : List Cond := .code yX3_undo cX3_undo 2 (some .int) :: ([.fieldLink RX3 23 "StreamMultiplexer" "historyCount" "I", .fieldLink RX3 10 "StreamMultiplexer" "present" "LStreamMultiplexer$State;", .fieldLink RX3 19 "StreamMultiplexer" "history" "[LStreamMultiplexer$State;"] ++ wsX30)
def wsX3_told_r1 : List Cond := [Cond.fieldLink RX3 10 "StreamMultiplexer" "present" "LStreamMultiplexer$State;", Cond.fieldLink RX3 56 "StreamMultiplexer$State" "opened" "I", Cond.fieldLink RX3 159 "StreamMultiplexer$State" "came" "I", Cond.fieldLink RX3 162 "StreamMultiplexer$State" "sent" "I", Cond.fieldLink RX3 97 "StreamMultiplexer$State" "draft" "LStreamMultiplexer$Order;", Cond.fieldLink RX3 171 "StreamMultiplexer$State" "sentFrames" "LStreamMultiplexer$Frames;", Cond.fieldLink RX3 69 "StreamMultiplexer$Frames" "count" "I", Cond.fieldLink RX3 23 "StreamMultiplexer" "historyCount" "I", Cond.methodLink RX3 42 yX3_isWithin, Cond.static yX3_isWithin, Cond.initialized RX3, Cond.code yX3_isWithin cX3_isWithin 3 (some .boolean), Cond.methodLink RX3 59 yJ6_bitCount_0f7a4, Cond.static yJ6_bitCount_0f7a4, Cond.initialized RJ6, Cond.code yJ6_bitCount_0f7a4 cJ6_bitCount_0f7a4 1 (some .int), Cond.constant RJ6 265 (1431655765), Cond.constant RJ6 266 (858993459), Cond.constant RJ6 267 (252645135), Cond.methodLink RX3 156 yX2_waitingCount, Cond.instanceMethod yX2_waitingCount, Cond.selects RX2 yX2_waitingCount yX2_waitingCount, Cond.initialized RX2, Cond.code yX2_waitingCount cX2_waitingCount 3 (some .int)]
def wsX3_told_r2 : List Cond := [Cond.fieldLink RX2 24 "StreamMultiplexer$State" "queues" "[LStreamMultiplexer$Frames;", Cond.fieldLink RX2 82 "StreamMultiplexer$Frames" "count" "I", Cond.methodLink RX3 165 yX2_waitingSize, Cond.instanceMethod yX2_waitingSize, Cond.selects RX2 yX2_waitingSize yX2_waitingSize, Cond.code yX2_waitingSize cX2_waitingSize 3 (some .int), Cond.methodLink RX2 85 yX0_sizeOfAll, Cond.instanceMethod yX0_sizeOfAll, Cond.selects RX0 yX0_sizeOfAll yX0_sizeOfAll, Cond.initialized RX0, Cond.code yX0_sizeOfAll cX0_sizeOfAll 3 (some .int), Cond.fieldLink RX0 30 "StreamMultiplexer$Frames" "count" "I", Cond.fieldLink RX0 24 "StreamMultiplexer$Frames" "sizes" "[I", Cond.methodLink RX3 119 yX2_currentEpoch, Cond.instanceMethod yX2_currentEpoch, Cond.selects RX2 yX2_currentEpoch yX2_currentEpoch, Cond.code yX2_currentEpoch cX2_currentEpoch 1 (some .int), Cond.fieldLink RX2 42 "StreamMultiplexer$State" "epochCount" "I", Cond.methodLink RX3 134 yX1_edgeCount, Cond.instanceMethod yX1_edgeCount, Cond.selects RX1 yX1_edgeCount yX1_edgeCount, Cond.initialized RX1, Cond.code yX1_edgeCount cX1_edgeCount 3 (some .int), Cond.fieldLink RX1 9 "StreamMultiplexer$Order" "next" "[I"]
def wsX3_told_r3 : List Cond := [Cond.methodLink RX1 36 yJ6_bitCount_0f7a4, Cond.methodLink RX3 168 yX2_candidateCount, Cond.instanceMethod yX2_candidateCount, Cond.selects RX2 yX2_candidateCount yX2_candidateCount, Cond.code yX2_candidateCount cX2_candidateCount 3 (some .int), Cond.methodLink RX2 104 yX2_isCandidate, Cond.instanceMethod yX2_isCandidate, Cond.selects RX2 yX2_isCandidate yX2_isCandidate, Cond.code yX2_isCandidate cX2_isCandidate 2 (some .boolean), Cond.static yX3_isStream, Cond.code yX3_isStream cX3_isStream 1 (some .boolean), Cond.methodLink RX2 101 yX2_blockersOfFirst, Cond.instanceMethod yX2_blockersOfFirst, Cond.selects RX2 yX2_blockersOfFirst yX2_blockersOfFirst, Cond.code yX2_blockersOfFirst cX2_blockersOfFirst 6 (some .int), Cond.methodLink RX2 88 yX0_epochAt, Cond.instanceMethod yX0_epochAt, Cond.selects RX0 yX0_epochAt yX0_epochAt, Cond.code yX0_epochAt cX0_epochAt 2 (some .int), Cond.fieldLink RX0 27 "StreamMultiplexer$Frames" "epochs" "[I", Cond.methodLink RX0 37 yX0_hasFrame, Cond.instanceMethod yX0_hasFrame, Cond.selects RX0 yX0_hasFrame yX0_hasFrame, Cond.code yX0_hasFrame cX0_hasFrame 2 (some .boolean)]
def wsX3_told_r4 : List Cond := [Cond.methodLink RX2 91 yX2_orderOf, Cond.instanceMethod yX2_orderOf, Cond.selects RX2 yX2_orderOf yX2_orderOf, Cond.code yX2_orderOf cX2_orderOf 2 (some (.object "StreamMultiplexer$Order")), Cond.fieldLink RX2 38 "StreamMultiplexer$State" "orders" "[LStreamMultiplexer$Order;", Cond.fieldLink RX2 34 "StreamMultiplexer$State" "draft" "LStreamMultiplexer$Order;", Cond.methodLink RX2 95 yX1_precedes, Cond.instanceMethod yX1_precedes, Cond.selects RX1 yX1_precedes yX1_precedes, Cond.code yX1_precedes cX1_precedes 3 (some .boolean), Cond.fieldLink RX1 15 "StreamMultiplexer$Order" "preceded" "[I", Cond.static yX3_isIn, Cond.code yX3_isIn cX3_isIn 2 (some .boolean), Cond.methodLink RX2 98 yX0_countOfEpochUpTo, Cond.instanceMethod yX0_countOfEpochUpTo, Cond.selects RX0 yX0_countOfEpochUpTo yX0_countOfEpochUpTo, Cond.code yX0_countOfEpochUpTo cX0_countOfEpochUpTo 4 (some .int), Cond.methodLink RX3 144 yX2_nextStream, Cond.instanceMethod yX2_nextStream, Cond.selects RX2 yX2_nextStream yX2_nextStream, Cond.code yX2_nextStream cX2_nextStream 3 (some .int), Cond.methodLink RX2 107 yX2_isLessServed, Cond.instanceMethod yX2_isLessServed, Cond.selects RX2 yX2_isLessServed yX2_isLessServed]
def wsX3_told_r5 : List Cond := [Cond.code yX2_isLessServed cX2_isLessServed 3 (some .boolean), Cond.fieldLink RX2 19 "StreamMultiplexer$State" "amounts" "[I", Cond.fieldLink RX2 15 "StreamMultiplexer$State" "weights" "[I", Cond.methodLink RX3 126 yX2_orderOf, Cond.methodLink RX3 175 yX1_hasSameEdges, Cond.instanceMethod yX1_hasSameEdges, Cond.selects RX1 yX1_hasSameEdges yX1_hasSameEdges, Cond.code yX1_hasSameEdges cX1_hasSameEdges 3 (some .boolean)]
def wsX3_told : List Cond := .code yX3_told cX3_told 2 (some .int) :: ((wsX3_told_r1 ++ (wsX3_told_r2 ++ (wsX3_told_r3 ++ (wsX3_told_r4 ++ wsX3_told_r5)))) ++ wsX30 ++ wsX20 ++ wsX00 ++ wsX10)
def wsX3_sentBefore_r1 : List Cond := [Cond.fieldLink RX3 16 "StreamMultiplexer" "forecast" "LStreamMultiplexer$State;", Cond.fieldLink RX3 10 "StreamMultiplexer" "present" "LStreamMultiplexer$State;", Cond.methodLink RX3 221 yX2_copyFrom, Cond.instanceMethod yX2_copyFrom, Cond.selects RX2 yX2_copyFrom yX2_copyFrom, Cond.initialized RX2, Cond.code yX2_copyFrom cX2_copyFrom 3 none, Cond.fieldLink RX2 9 "StreamMultiplexer$State" "opened" "I", Cond.fieldLink RX2 15 "StreamMultiplexer$State" "weights" "[I", Cond.fieldLink RX2 19 "StreamMultiplexer$State" "amounts" "[I", Cond.fieldLink RX2 24 "StreamMultiplexer$State" "queues" "[LStreamMultiplexer$Frames;", Cond.fieldLink RX2 34 "StreamMultiplexer$State" "draft" "LStreamMultiplexer$Order;", Cond.fieldLink RX2 42 "StreamMultiplexer$State" "epochCount" "I", Cond.fieldLink RX2 38 "StreamMultiplexer$State" "orders" "[LStreamMultiplexer$Order;", Cond.fieldLink RX2 45 "StreamMultiplexer$State" "came" "I", Cond.fieldLink RX2 48 "StreamMultiplexer$State" "sent" "I", Cond.fieldLink RX2 51 "StreamMultiplexer$State" "sentFrames" "LStreamMultiplexer$Frames;", Cond.methodLink RX2 55 yX0_copyFrom, Cond.instanceMethod yX0_copyFrom, Cond.selects RX0 yX0_copyFrom yX0_copyFrom, Cond.initialized RX0, Cond.code yX0_copyFrom cX0_copyFrom 3 none, Cond.fieldLink RX0 30 "StreamMultiplexer$Frames" "count" "I", Cond.fieldLink RX0 15 "StreamMultiplexer$Frames" "numbers" "[I"]
def wsX3_sentBefore_r2 : List Cond := [Cond.methodLink RX0 34 Lib.Math.min.name, Cond.static Lib.Math.min.name, Cond.initialized "java/lang/Math", Cond.code Lib.Math.min.name Lib.Math.min.code 2 (some .int), Cond.fieldLink RX0 21 "StreamMultiplexer$Frames" "streams" "[I", Cond.fieldLink RX0 24 "StreamMultiplexer$Frames" "sizes" "[I", Cond.fieldLink RX0 27 "StreamMultiplexer$Frames" "epochs" "[I", Cond.methodLink RX2 59 yX1_copyFrom, Cond.instanceMethod yX1_copyFrom, Cond.selects RX1 yX1_copyFrom yX1_copyFrom, Cond.initialized RX1, Cond.code yX1_copyFrom cX1_copyFrom 3 none, Cond.fieldLink RX1 9 "StreamMultiplexer$Order" "next" "[I", Cond.fieldLink RX1 15 "StreamMultiplexer$Order" "preceded" "[I", Cond.methodLink RX3 144 yX2_nextStream, Cond.instanceMethod yX2_nextStream, Cond.selects RX2 yX2_nextStream yX2_nextStream, Cond.code yX2_nextStream cX2_nextStream 3 (some .int), Cond.methodLink RX2 104 yX2_isCandidate, Cond.instanceMethod yX2_isCandidate, Cond.selects RX2 yX2_isCandidate yX2_isCandidate, Cond.code yX2_isCandidate cX2_isCandidate 2 (some .boolean), Cond.fieldLink RX2 82 "StreamMultiplexer$Frames" "count" "I", Cond.static yX3_isStream]
def wsX3_sentBefore_r3 : List Cond := [Cond.initialized RX3, Cond.code yX3_isStream cX3_isStream 1 (some .boolean), Cond.methodLink RX2 101 yX2_blockersOfFirst, Cond.instanceMethod yX2_blockersOfFirst, Cond.selects RX2 yX2_blockersOfFirst yX2_blockersOfFirst, Cond.code yX2_blockersOfFirst cX2_blockersOfFirst 6 (some .int), Cond.methodLink RX2 88 yX0_epochAt, Cond.instanceMethod yX0_epochAt, Cond.selects RX0 yX0_epochAt yX0_epochAt, Cond.code yX0_epochAt cX0_epochAt 2 (some .int), Cond.methodLink RX0 37 yX0_hasFrame, Cond.instanceMethod yX0_hasFrame, Cond.selects RX0 yX0_hasFrame yX0_hasFrame, Cond.code yX0_hasFrame cX0_hasFrame 2 (some .boolean), Cond.methodLink RX2 91 yX2_orderOf, Cond.instanceMethod yX2_orderOf, Cond.selects RX2 yX2_orderOf yX2_orderOf, Cond.code yX2_orderOf cX2_orderOf 2 (some (.object "StreamMultiplexer$Order")), Cond.methodLink RX2 95 yX1_precedes, Cond.instanceMethod yX1_precedes, Cond.selects RX1 yX1_precedes yX1_precedes, Cond.code yX1_precedes cX1_precedes 3 (some .boolean), Cond.static yX3_isIn, Cond.code yX3_isIn cX3_isIn 2 (some .boolean)]
def wsX3_sentBefore_r4 : List Cond := [Cond.methodLink RX2 98 yX0_countOfEpochUpTo, Cond.instanceMethod yX0_countOfEpochUpTo, Cond.selects RX0 yX0_countOfEpochUpTo yX0_countOfEpochUpTo, Cond.code yX0_countOfEpochUpTo cX0_countOfEpochUpTo 4 (some .int), Cond.methodLink RX2 107 yX2_isLessServed, Cond.instanceMethod yX2_isLessServed, Cond.selects RX2 yX2_isLessServed yX2_isLessServed, Cond.code yX2_isLessServed cX2_isLessServed 3 (some .boolean), Cond.methodLink RX3 150 yX2_sendFirst, Cond.instanceMethod yX2_sendFirst, Cond.selects RX2 yX2_sendFirst yX2_sendFirst, Cond.code yX2_sendFirst cX2_sendFirst 4 none, Cond.methodLink RX2 110 yX0_sizeAt, Cond.instanceMethod yX0_sizeAt, Cond.selects RX0 yX0_sizeAt yX0_sizeAt, Cond.code yX0_sizeAt cX0_sizeAt 2 (some .int), Cond.methodLink RX2 113 yX0_isFull, Cond.instanceMethod yX0_isFull, Cond.selects RX0 yX0_isFull yX0_isFull, Cond.code yX0_isFull cX0_isFull 1 (some .boolean), Cond.methodLink RX2 117 yX0_removeFirst, Cond.instanceMethod yX0_removeFirst, Cond.selects RX0 yX0_removeFirst yX0_removeFirst, Cond.code yX0_removeFirst cX0_removeFirst 2 none]
def wsX3_sentBefore_r5 : List Cond := [Cond.methodLink RX2 120 yX0_numberAt, Cond.instanceMethod yX0_numberAt, Cond.selects RX0 yX0_numberAt yX0_numberAt, Cond.code yX0_numberAt cX0_numberAt 2 (some .int), Cond.methodLink RX2 78 yX0_add, Cond.instanceMethod yX0_add, Cond.selects RX0 yX0_add yX0_add, Cond.code yX0_add cX0_add 5 none, Cond.methodLink RX0 41 yX0_isFull]
def wsX3_sentBefore : List Cond := .code yX3_sentBefore cX3_sentBefore 6 (some .int) :: ((wsX3_sentBefore_r1 ++ (wsX3_sentBefore_r2 ++ (wsX3_sentBefore_r3 ++ (wsX3_sentBefore_r4 ++ wsX3_sentBefore_r5)))) ++ wsX30 ++ wsX20 ++ wsX00 ++ wsX10)
def wsX3_stream_r1 : List Cond := [Cond.fieldLink RX3 10 "StreamMultiplexer" "present" "LStreamMultiplexer$State;", Cond.fieldLink RX3 65 "StreamMultiplexer$State" "queues" "[LStreamMultiplexer$Frames;", Cond.fieldLink RX3 69 "StreamMultiplexer$Frames" "count" "I", Cond.fieldLink RX3 82 "StreamMultiplexer$State" "weights" "[I", Cond.fieldLink RX3 78 "StreamMultiplexer$State" "amounts" "[I", Cond.methodLink RX3 38 yX3_isStream, Cond.static yX3_isStream, Cond.initialized RX3, Cond.code yX3_isStream cX3_isStream 1 (some .boolean), Cond.methodLink RX3 42 yX3_isWithin, Cond.static yX3_isWithin, Cond.code yX3_isWithin cX3_isWithin 3 (some .boolean), Cond.methodLink RX3 46 yX2_isOpen, Cond.instanceMethod yX2_isOpen, Cond.selects RX2 yX2_isOpen yX2_isOpen, Cond.initialized RX2, Cond.code yX2_isOpen cX2_isOpen 2 (some .boolean), Cond.fieldLink RX2 9 "StreamMultiplexer$State" "opened" "I", Cond.static yX3_isIn, Cond.code yX3_isIn cX3_isIn 2 (some .boolean), Cond.methodLink RX3 179 yX0_sizeOfAll, Cond.instanceMethod yX0_sizeOfAll, Cond.selects RX0 yX0_sizeOfAll yX0_sizeOfAll, Cond.initialized RX0]
def wsX3_stream_r2 : List Cond := [Cond.code yX0_sizeOfAll cX0_sizeOfAll 3 (some .int), Cond.fieldLink RX0 30 "StreamMultiplexer$Frames" "count" "I", Cond.fieldLink RX0 24 "StreamMultiplexer$Frames" "sizes" "[I", Cond.methodLink RX3 182 yX2_isCandidate, Cond.instanceMethod yX2_isCandidate, Cond.selects RX2 yX2_isCandidate yX2_isCandidate, Cond.code yX2_isCandidate cX2_isCandidate 2 (some .boolean), Cond.fieldLink RX2 24 "StreamMultiplexer$State" "queues" "[LStreamMultiplexer$Frames;", Cond.fieldLink RX2 82 "StreamMultiplexer$Frames" "count" "I", Cond.methodLink RX2 101 yX2_blockersOfFirst, Cond.instanceMethod yX2_blockersOfFirst, Cond.selects RX2 yX2_blockersOfFirst yX2_blockersOfFirst, Cond.code yX2_blockersOfFirst cX2_blockersOfFirst 6 (some .int), Cond.methodLink RX2 88 yX0_epochAt, Cond.instanceMethod yX0_epochAt, Cond.selects RX0 yX0_epochAt yX0_epochAt, Cond.code yX0_epochAt cX0_epochAt 2 (some .int), Cond.fieldLink RX0 27 "StreamMultiplexer$Frames" "epochs" "[I", Cond.methodLink RX0 37 yX0_hasFrame, Cond.instanceMethod yX0_hasFrame, Cond.selects RX0 yX0_hasFrame yX0_hasFrame, Cond.code yX0_hasFrame cX0_hasFrame 2 (some .boolean), Cond.methodLink RX2 91 yX2_orderOf, Cond.instanceMethod yX2_orderOf]
def wsX3_stream_r3 : List Cond := [Cond.selects RX2 yX2_orderOf yX2_orderOf, Cond.code yX2_orderOf cX2_orderOf 2 (some (.object "StreamMultiplexer$Order")), Cond.fieldLink RX2 42 "StreamMultiplexer$State" "epochCount" "I", Cond.fieldLink RX2 38 "StreamMultiplexer$State" "orders" "[LStreamMultiplexer$Order;", Cond.fieldLink RX2 34 "StreamMultiplexer$State" "draft" "LStreamMultiplexer$Order;", Cond.methodLink RX2 95 yX1_precedes, Cond.instanceMethod yX1_precedes, Cond.selects RX1 yX1_precedes yX1_precedes, Cond.initialized RX1, Cond.code yX1_precedes cX1_precedes 3 (some .boolean), Cond.fieldLink RX1 15 "StreamMultiplexer$Order" "preceded" "[I", Cond.methodLink RX2 98 yX0_countOfEpochUpTo, Cond.instanceMethod yX0_countOfEpochUpTo, Cond.selects RX0 yX0_countOfEpochUpTo yX0_countOfEpochUpTo, Cond.code yX0_countOfEpochUpTo cX0_countOfEpochUpTo 4 (some .int), Cond.methodLink RX3 185 yX2_blockersOfFirst, Cond.methodLink RX3 188 yX3_sentBefore, Cond.instanceMethod yX3_sentBefore, Cond.selects RX3 yX3_sentBefore yX3_sentBefore, Cond.code yX3_sentBefore cX3_sentBefore 6 (some .int), Cond.fieldLink RX3 16 "StreamMultiplexer" "forecast" "LStreamMultiplexer$State;", Cond.methodLink RX3 221 yX2_copyFrom, Cond.instanceMethod yX2_copyFrom, Cond.selects RX2 yX2_copyFrom yX2_copyFrom]
def wsX3_stream_r4 : List Cond := [Cond.code yX2_copyFrom cX2_copyFrom 3 none, Cond.fieldLink RX2 15 "StreamMultiplexer$State" "weights" "[I", Cond.fieldLink RX2 19 "StreamMultiplexer$State" "amounts" "[I", Cond.fieldLink RX2 45 "StreamMultiplexer$State" "came" "I", Cond.fieldLink RX2 48 "StreamMultiplexer$State" "sent" "I", Cond.fieldLink RX2 51 "StreamMultiplexer$State" "sentFrames" "LStreamMultiplexer$Frames;", Cond.methodLink RX2 55 yX0_copyFrom, Cond.instanceMethod yX0_copyFrom, Cond.selects RX0 yX0_copyFrom yX0_copyFrom, Cond.code yX0_copyFrom cX0_copyFrom 3 none, Cond.fieldLink RX0 15 "StreamMultiplexer$Frames" "numbers" "[I", Cond.methodLink RX0 34 Lib.Math.min.name, Cond.static Lib.Math.min.name, Cond.initialized "java/lang/Math", Cond.code Lib.Math.min.name Lib.Math.min.code 2 (some .int), Cond.fieldLink RX0 21 "StreamMultiplexer$Frames" "streams" "[I", Cond.methodLink RX2 59 yX1_copyFrom, Cond.instanceMethod yX1_copyFrom, Cond.selects RX1 yX1_copyFrom yX1_copyFrom, Cond.code yX1_copyFrom cX1_copyFrom 3 none, Cond.fieldLink RX1 9 "StreamMultiplexer$Order" "next" "[I", Cond.methodLink RX3 144 yX2_nextStream, Cond.instanceMethod yX2_nextStream, Cond.selects RX2 yX2_nextStream yX2_nextStream]
def wsX3_stream_r5 : List Cond := [Cond.code yX2_nextStream cX2_nextStream 3 (some .int), Cond.methodLink RX2 104 yX2_isCandidate, Cond.methodLink RX2 107 yX2_isLessServed, Cond.instanceMethod yX2_isLessServed, Cond.selects RX2 yX2_isLessServed yX2_isLessServed, Cond.code yX2_isLessServed cX2_isLessServed 3 (some .boolean), Cond.methodLink RX3 150 yX2_sendFirst, Cond.instanceMethod yX2_sendFirst, Cond.selects RX2 yX2_sendFirst yX2_sendFirst, Cond.code yX2_sendFirst cX2_sendFirst 4 none, Cond.methodLink RX2 110 yX0_sizeAt, Cond.instanceMethod yX0_sizeAt, Cond.selects RX0 yX0_sizeAt yX0_sizeAt, Cond.code yX0_sizeAt cX0_sizeAt 2 (some .int), Cond.methodLink RX2 113 yX0_isFull, Cond.instanceMethod yX0_isFull, Cond.selects RX0 yX0_isFull yX0_isFull, Cond.code yX0_isFull cX0_isFull 1 (some .boolean), Cond.methodLink RX2 117 yX0_removeFirst, Cond.instanceMethod yX0_removeFirst, Cond.selects RX0 yX0_removeFirst yX0_removeFirst, Cond.code yX0_removeFirst cX0_removeFirst 2 none, Cond.methodLink RX2 120 yX0_numberAt, Cond.instanceMethod yX0_numberAt]
def wsX3_stream_r6 : List Cond := [Cond.selects RX0 yX0_numberAt yX0_numberAt, Cond.code yX0_numberAt cX0_numberAt 2 (some .int), Cond.methodLink RX2 78 yX0_add, Cond.instanceMethod yX0_add, Cond.selects RX0 yX0_add yX0_add, Cond.code yX0_add cX0_add 5 none, Cond.methodLink RX0 41 yX0_isFull]
def wsX3_stream : List Cond := .code yX3_stream cX3_stream 5 (some .int) :: ((wsX3_stream_r1 ++ (wsX3_stream_r2 ++ (wsX3_stream_r3 ++ (wsX3_stream_r4 ++ (wsX3_stream_r5 ++ wsX3_stream_r6))))) ++ wsX30 ++ wsX20 ++ wsX00 ++ wsX10)
def wsX3_frame_r1 : List Cond := [Cond.fieldLink RX3 10 "StreamMultiplexer" "present" "LStreamMultiplexer$State;", Cond.fieldLink RX3 65 "StreamMultiplexer$State" "queues" "[LStreamMultiplexer$Frames;", Cond.fieldLink RX3 69 "StreamMultiplexer$Frames" "count" "I", Cond.methodLink RX3 38 yX3_isStream, Cond.static yX3_isStream, Cond.initialized RX3, Cond.code yX3_isStream cX3_isStream 1 (some .boolean), Cond.methodLink RX3 42 yX3_isWithin, Cond.static yX3_isWithin, Cond.code yX3_isWithin cX3_isWithin 3 (some .boolean), Cond.methodLink RX3 147 yX0_numberAt, Cond.instanceMethod yX0_numberAt, Cond.selects RX0 yX0_numberAt yX0_numberAt, Cond.initialized RX0, Cond.code yX0_numberAt cX0_numberAt 2 (some .int), Cond.fieldLink RX0 15 "StreamMultiplexer$Frames" "numbers" "[I", Cond.methodLink RX0 37 yX0_hasFrame, Cond.instanceMethod yX0_hasFrame, Cond.selects RX0 yX0_hasFrame yX0_hasFrame, Cond.code yX0_hasFrame cX0_hasFrame 2 (some .boolean), Cond.fieldLink RX0 30 "StreamMultiplexer$Frames" "count" "I", Cond.methodLink RX3 153 yX0_sizeAt, Cond.instanceMethod yX0_sizeAt, Cond.selects RX0 yX0_sizeAt yX0_sizeAt]
def wsX3_frame_r2 : List Cond := [Cond.code yX0_sizeAt cX0_sizeAt 2 (some .int), Cond.fieldLink RX0 24 "StreamMultiplexer$Frames" "sizes" "[I", Cond.methodLink RX3 191 yX0_epochAt, Cond.instanceMethod yX0_epochAt, Cond.selects RX0 yX0_epochAt yX0_epochAt, Cond.code yX0_epochAt cX0_epochAt 2 (some .int), Cond.fieldLink RX0 27 "StreamMultiplexer$Frames" "epochs" "[I", Cond.methodLink RX3 188 yX3_sentBefore, Cond.instanceMethod yX3_sentBefore, Cond.selects RX3 yX3_sentBefore yX3_sentBefore, Cond.code yX3_sentBefore cX3_sentBefore 6 (some .int), Cond.fieldLink RX3 16 "StreamMultiplexer" "forecast" "LStreamMultiplexer$State;", Cond.methodLink RX3 221 yX2_copyFrom, Cond.instanceMethod yX2_copyFrom, Cond.selects RX2 yX2_copyFrom yX2_copyFrom, Cond.initialized RX2, Cond.code yX2_copyFrom cX2_copyFrom 3 none, Cond.fieldLink RX2 9 "StreamMultiplexer$State" "opened" "I", Cond.fieldLink RX2 15 "StreamMultiplexer$State" "weights" "[I", Cond.fieldLink RX2 19 "StreamMultiplexer$State" "amounts" "[I", Cond.fieldLink RX2 24 "StreamMultiplexer$State" "queues" "[LStreamMultiplexer$Frames;", Cond.fieldLink RX2 34 "StreamMultiplexer$State" "draft" "LStreamMultiplexer$Order;", Cond.fieldLink RX2 42 "StreamMultiplexer$State" "epochCount" "I", Cond.fieldLink RX2 38 "StreamMultiplexer$State" "orders" "[LStreamMultiplexer$Order;"]
def wsX3_frame_r3 : List Cond := [Cond.fieldLink RX2 45 "StreamMultiplexer$State" "came" "I", Cond.fieldLink RX2 48 "StreamMultiplexer$State" "sent" "I", Cond.fieldLink RX2 51 "StreamMultiplexer$State" "sentFrames" "LStreamMultiplexer$Frames;", Cond.methodLink RX2 55 yX0_copyFrom, Cond.instanceMethod yX0_copyFrom, Cond.selects RX0 yX0_copyFrom yX0_copyFrom, Cond.code yX0_copyFrom cX0_copyFrom 3 none, Cond.methodLink RX0 34 Lib.Math.min.name, Cond.static Lib.Math.min.name, Cond.initialized "java/lang/Math", Cond.code Lib.Math.min.name Lib.Math.min.code 2 (some .int), Cond.fieldLink RX0 21 "StreamMultiplexer$Frames" "streams" "[I", Cond.methodLink RX2 59 yX1_copyFrom, Cond.instanceMethod yX1_copyFrom, Cond.selects RX1 yX1_copyFrom yX1_copyFrom, Cond.initialized RX1, Cond.code yX1_copyFrom cX1_copyFrom 3 none, Cond.fieldLink RX1 9 "StreamMultiplexer$Order" "next" "[I", Cond.fieldLink RX1 15 "StreamMultiplexer$Order" "preceded" "[I", Cond.methodLink RX3 144 yX2_nextStream, Cond.instanceMethod yX2_nextStream, Cond.selects RX2 yX2_nextStream yX2_nextStream, Cond.code yX2_nextStream cX2_nextStream 3 (some .int), Cond.methodLink RX2 104 yX2_isCandidate]
def wsX3_frame_r4 : List Cond := [Cond.instanceMethod yX2_isCandidate, Cond.selects RX2 yX2_isCandidate yX2_isCandidate, Cond.code yX2_isCandidate cX2_isCandidate 2 (some .boolean), Cond.fieldLink RX2 82 "StreamMultiplexer$Frames" "count" "I", Cond.methodLink RX2 101 yX2_blockersOfFirst, Cond.instanceMethod yX2_blockersOfFirst, Cond.selects RX2 yX2_blockersOfFirst yX2_blockersOfFirst, Cond.code yX2_blockersOfFirst cX2_blockersOfFirst 6 (some .int), Cond.methodLink RX2 88 yX0_epochAt, Cond.methodLink RX2 91 yX2_orderOf, Cond.instanceMethod yX2_orderOf, Cond.selects RX2 yX2_orderOf yX2_orderOf, Cond.code yX2_orderOf cX2_orderOf 2 (some (.object "StreamMultiplexer$Order")), Cond.methodLink RX2 95 yX1_precedes, Cond.instanceMethod yX1_precedes, Cond.selects RX1 yX1_precedes yX1_precedes, Cond.code yX1_precedes cX1_precedes 3 (some .boolean), Cond.static yX3_isIn, Cond.code yX3_isIn cX3_isIn 2 (some .boolean), Cond.methodLink RX2 98 yX0_countOfEpochUpTo, Cond.instanceMethod yX0_countOfEpochUpTo, Cond.selects RX0 yX0_countOfEpochUpTo yX0_countOfEpochUpTo, Cond.code yX0_countOfEpochUpTo cX0_countOfEpochUpTo 4 (some .int), Cond.methodLink RX2 107 yX2_isLessServed]
def wsX3_frame_r5 : List Cond := [Cond.instanceMethod yX2_isLessServed, Cond.selects RX2 yX2_isLessServed yX2_isLessServed, Cond.code yX2_isLessServed cX2_isLessServed 3 (some .boolean), Cond.methodLink RX3 150 yX2_sendFirst, Cond.instanceMethod yX2_sendFirst, Cond.selects RX2 yX2_sendFirst yX2_sendFirst, Cond.code yX2_sendFirst cX2_sendFirst 4 none, Cond.methodLink RX2 110 yX0_sizeAt, Cond.methodLink RX2 113 yX0_isFull, Cond.instanceMethod yX0_isFull, Cond.selects RX0 yX0_isFull yX0_isFull, Cond.code yX0_isFull cX0_isFull 1 (some .boolean), Cond.methodLink RX2 117 yX0_removeFirst, Cond.instanceMethod yX0_removeFirst, Cond.selects RX0 yX0_removeFirst yX0_removeFirst, Cond.code yX0_removeFirst cX0_removeFirst 2 none, Cond.methodLink RX2 120 yX0_numberAt, Cond.methodLink RX2 78 yX0_add, Cond.instanceMethod yX0_add, Cond.selects RX0 yX0_add yX0_add, Cond.code yX0_add cX0_add 5 none, Cond.methodLink RX0 41 yX0_isFull]
def wsX3_frame : List Cond := .code yX3_frame cX3_frame 5 (some .int) :: ((wsX3_frame_r1 ++ (wsX3_frame_r2 ++ (wsX3_frame_r3 ++ (wsX3_frame_r4 ++ wsX3_frame_r5)))) ++ wsX30 ++ wsX20 ++ wsX00 ++ wsX10)
def wsX3_log_r1 : List Cond := [Cond.fieldLink RX3 10 "StreamMultiplexer" "present" "LStreamMultiplexer$State;", Cond.fieldLink RX3 171 "StreamMultiplexer$State" "sentFrames" "LStreamMultiplexer$Frames;", Cond.fieldLink RX3 69 "StreamMultiplexer$Frames" "count" "I", Cond.methodLink RX3 42 yX3_isWithin, Cond.static yX3_isWithin, Cond.initialized RX3, Cond.code yX3_isWithin cX3_isWithin 3 (some .boolean), Cond.methodLink RX3 147 yX0_numberAt, Cond.instanceMethod yX0_numberAt, Cond.selects RX0 yX0_numberAt yX0_numberAt, Cond.initialized RX0, Cond.code yX0_numberAt cX0_numberAt 2 (some .int), Cond.fieldLink RX0 15 "StreamMultiplexer$Frames" "numbers" "[I", Cond.methodLink RX0 37 yX0_hasFrame, Cond.instanceMethod yX0_hasFrame, Cond.selects RX0 yX0_hasFrame yX0_hasFrame, Cond.code yX0_hasFrame cX0_hasFrame 2 (some .boolean), Cond.fieldLink RX0 30 "StreamMultiplexer$Frames" "count" "I", Cond.methodLink RX3 194 yX0_streamAt, Cond.instanceMethod yX0_streamAt, Cond.selects RX0 yX0_streamAt yX0_streamAt, Cond.code yX0_streamAt cX0_streamAt 2 (some .int), Cond.fieldLink RX0 21 "StreamMultiplexer$Frames" "streams" "[I", Cond.methodLink RX3 153 yX0_sizeAt]
def wsX3_log_r2 : List Cond := [Cond.instanceMethod yX0_sizeAt, Cond.selects RX0 yX0_sizeAt yX0_sizeAt, Cond.code yX0_sizeAt cX0_sizeAt 2 (some .int), Cond.fieldLink RX0 24 "StreamMultiplexer$Frames" "sizes" "[I", Cond.methodLink RX3 191 yX0_epochAt, Cond.instanceMethod yX0_epochAt, Cond.selects RX0 yX0_epochAt yX0_epochAt, Cond.code yX0_epochAt cX0_epochAt 2 (some .int), Cond.fieldLink RX0 27 "StreamMultiplexer$Frames" "epochs" "[I"]
def wsX3_log : List Cond := .code yX3_log cX3_log 4 (some .int) :: ((wsX3_log_r1 ++ wsX3_log_r2) ++ wsX30 ++ wsX20 ++ wsX00)
def wsX3_isEpochOrDraft : List Cond := .code yX3_isEpochOrDraft cX3_isEpochOrDraft 2 (some .boolean) :: ([.methodLink RX3 123 yX3_isEpoch, .instanceMethod yX3_isEpoch, .selects RX3 yX3_isEpoch yX3_isEpoch, .initialized RX3, .code yX3_isEpoch cX3_isEpoch 2 (some .boolean), .fieldLink RX3 10 "StreamMultiplexer" "present" "LStreamMultiplexer$State;", .fieldLink RX3 113 "StreamMultiplexer$State" "epochCount" "I"] ++ wsX30 ++ wsX20)
def wsX3_relation_r1 : List Cond := [Cond.fieldLink RX3 10 "StreamMultiplexer" "present" "LStreamMultiplexer$State;", Cond.methodLink RX3 197 yX3_isEpochOrDraft, Cond.instanceMethod yX3_isEpochOrDraft, Cond.selects RX3 yX3_isEpochOrDraft yX3_isEpochOrDraft, Cond.initialized RX3, Cond.code yX3_isEpochOrDraft cX3_isEpochOrDraft 2 (some .boolean), Cond.methodLink RX3 123 yX3_isEpoch, Cond.instanceMethod yX3_isEpoch, Cond.selects RX3 yX3_isEpoch yX3_isEpoch, Cond.code yX3_isEpoch cX3_isEpoch 2 (some .boolean), Cond.fieldLink RX3 113 "StreamMultiplexer$State" "epochCount" "I", Cond.methodLink RX3 93 yX3_areTwoStreams, Cond.static yX3_areTwoStreams, Cond.code yX3_areTwoStreams cX3_areTwoStreams 2 (some .boolean), Cond.methodLink RX3 38 yX3_isStream, Cond.static yX3_isStream, Cond.code yX3_isStream cX3_isStream 1 (some .boolean), Cond.methodLink RX3 126 yX2_orderOf, Cond.instanceMethod yX2_orderOf, Cond.selects RX2 yX2_orderOf yX2_orderOf, Cond.initialized RX2, Cond.code yX2_orderOf cX2_orderOf 2 (some (.object "StreamMultiplexer$Order")), Cond.fieldLink RX2 42 "StreamMultiplexer$State" "epochCount" "I", Cond.fieldLink RX2 38 "StreamMultiplexer$State" "orders" "[LStreamMultiplexer$Order;"]
def wsX3_relation_r2 : List Cond := [Cond.fieldLink RX2 34 "StreamMultiplexer$State" "draft" "LStreamMultiplexer$Order;", Cond.methodLink RX3 101 yX1_precedes, Cond.instanceMethod yX1_precedes, Cond.selects RX1 yX1_precedes yX1_precedes, Cond.initialized RX1, Cond.code yX1_precedes cX1_precedes 3 (some .boolean), Cond.fieldLink RX1 15 "StreamMultiplexer$Order" "preceded" "[I", Cond.static yX3_isIn, Cond.code yX3_isIn cX3_isIn 2 (some .boolean), Cond.methodLink RX3 106 yX1_hasEdge, Cond.instanceMethod yX1_hasEdge, Cond.selects RX1 yX1_hasEdge yX1_hasEdge, Cond.code yX1_hasEdge cX1_hasEdge 3 (some .boolean), Cond.fieldLink RX1 9 "StreamMultiplexer$Order" "next" "[I"]
def wsX3_relation : List Cond := .code yX3_relation cX3_relation 5 (some .int) :: ((wsX3_relation_r1 ++ wsX3_relation_r2) ++ wsX30 ++ wsX20 ++ wsX10)
def wsX3_order_r1 : List Cond := [Cond.fieldLink RX3 10 "StreamMultiplexer" "present" "LStreamMultiplexer$State;", Cond.fieldLink RX3 56 "StreamMultiplexer$State" "opened" "I", Cond.methodLink RX3 197 yX3_isEpochOrDraft, Cond.instanceMethod yX3_isEpochOrDraft, Cond.selects RX3 yX3_isEpochOrDraft yX3_isEpochOrDraft, Cond.initialized RX3, Cond.code yX3_isEpochOrDraft cX3_isEpochOrDraft 2 (some .boolean), Cond.methodLink RX3 123 yX3_isEpoch, Cond.instanceMethod yX3_isEpoch, Cond.selects RX3 yX3_isEpoch yX3_isEpoch, Cond.code yX3_isEpoch cX3_isEpoch 2 (some .boolean), Cond.fieldLink RX3 113 "StreamMultiplexer$State" "epochCount" "I", Cond.methodLink RX3 42 yX3_isWithin, Cond.static yX3_isWithin, Cond.code yX3_isWithin cX3_isWithin 3 (some .boolean), Cond.methodLink RX3 126 yX2_orderOf, Cond.instanceMethod yX2_orderOf, Cond.selects RX2 yX2_orderOf yX2_orderOf, Cond.initialized RX2, Cond.code yX2_orderOf cX2_orderOf 2 (some (.object "StreamMultiplexer$Order")), Cond.fieldLink RX2 42 "StreamMultiplexer$State" "epochCount" "I", Cond.fieldLink RX2 38 "StreamMultiplexer$State" "orders" "[LStreamMultiplexer$Order;", Cond.fieldLink RX2 34 "StreamMultiplexer$State" "draft" "LStreamMultiplexer$Order;", Cond.methodLink RX3 200 yX1_pairsAmong]
def wsX3_order_r2 : List Cond := [Cond.instanceMethod yX1_pairsAmong, Cond.selects RX1 yX1_pairsAmong yX1_pairsAmong, Cond.initialized RX1, Cond.code yX1_pairsAmong cX1_pairsAmong 4 (some .int), Cond.fieldLink RX1 15 "StreamMultiplexer$Order" "preceded" "[I", Cond.static yX3_isIn, Cond.code yX3_isIn cX3_isIn 2 (some .boolean), Cond.methodLink RX1 36 yJ6_bitCount_0f7a4, Cond.static yJ6_bitCount_0f7a4, Cond.initialized RJ6, Cond.code yJ6_bitCount_0f7a4 cJ6_bitCount_0f7a4 1 (some .int), Cond.constant RJ6 265 (1431655765), Cond.constant RJ6 266 (858993459), Cond.constant RJ6 267 (252645135), Cond.methodLink RX3 203 yX1_longestChainAmong, Cond.instanceMethod yX1_longestChainAmong, Cond.selects RX1 yX1_longestChainAmong yX1_longestChainAmong, Cond.code yX1_longestChainAmong cX1_longestChainAmong 4 (some .int), Cond.methodLink RX1 55 yX1_firstOf, Cond.instanceMethod yX1_firstOf, Cond.selects RX1 yX1_firstOf yX1_firstOf, Cond.code yX1_firstOf cX1_firstOf 4 (some .int), Cond.methodLink RX3 206 yX1_widestChoiceAmong, Cond.instanceMethod yX1_widestChoiceAmong]
def wsX3_order_r3 : List Cond := [Cond.selects RX1 yX1_widestChoiceAmong yX1_widestChoiceAmong, Cond.code yX1_widestChoiceAmong cX1_widestChoiceAmong 5 (some .int), Cond.methodLink RX3 209 yX1_firstOf, Cond.methodLink RX3 59 yJ6_bitCount_0f7a4, Cond.methodLink RX3 212 yX1_needlessEdges, Cond.instanceMethod yX1_needlessEdges, Cond.selects RX1 yX1_needlessEdges yX1_needlessEdges, Cond.code yX1_needlessEdges cX1_needlessEdges 4 (some .int), Cond.methodLink RX1 52 yX1_hasEdge, Cond.instanceMethod yX1_hasEdge, Cond.selects RX1 yX1_hasEdge yX1_hasEdge, Cond.code yX1_hasEdge cX1_hasEdge 3 (some .boolean), Cond.fieldLink RX1 9 "StreamMultiplexer$Order" "next" "[I", Cond.static yX3_isStream, Cond.code yX3_isStream cX3_isStream 1 (some .boolean), Cond.methodLink RX1 58 yX1_isPrecededByNextOf, Cond.instanceMethod yX1_isPrecededByNextOf, Cond.selects RX1 yX1_isPrecededByNextOf yX1_isPrecededByNextOf, Cond.code yX1_isPrecededByNextOf cX1_isPrecededByNextOf 4 (some .boolean), Cond.methodLink RX1 61 yX1_precedes, Cond.instanceMethod yX1_precedes, Cond.selects RX1 yX1_precedes yX1_precedes, Cond.code yX1_precedes cX1_precedes 3 (some .boolean)]
def wsX3_order : List Cond := .code yX3_order cX3_order 4 (some .int) :: ((wsX3_order_r1 ++ (wsX3_order_r2 ++ wsX3_order_r3)) ++ wsX30 ++ wsX20 ++ wsX10)
def wsX3_lists_r1 : List Cond := [Cond.constantLong RX3 215 (-1), Cond.fieldLink RX3 10 "StreamMultiplexer" "present" "LStreamMultiplexer$State;", Cond.fieldLink RX3 56 "StreamMultiplexer$State" "opened" "I", Cond.fieldLink RX3 34 "StreamMultiplexer" "listsOfSet" "[J", Cond.methodLink RX3 197 yX3_isEpochOrDraft, Cond.instanceMethod yX3_isEpochOrDraft, Cond.selects RX3 yX3_isEpochOrDraft yX3_isEpochOrDraft, Cond.initialized RX3, Cond.code yX3_isEpochOrDraft cX3_isEpochOrDraft 2 (some .boolean), Cond.methodLink RX3 123 yX3_isEpoch, Cond.instanceMethod yX3_isEpoch, Cond.selects RX3 yX3_isEpoch yX3_isEpoch, Cond.code yX3_isEpoch cX3_isEpoch 2 (some .boolean), Cond.fieldLink RX3 113 "StreamMultiplexer$State" "epochCount" "I", Cond.methodLink RX3 126 yX2_orderOf, Cond.instanceMethod yX2_orderOf, Cond.selects RX2 yX2_orderOf yX2_orderOf, Cond.initialized RX2, Cond.code yX2_orderOf cX2_orderOf 2 (some (.object "StreamMultiplexer$Order")), Cond.fieldLink RX2 42 "StreamMultiplexer$State" "epochCount" "I", Cond.fieldLink RX2 38 "StreamMultiplexer$State" "orders" "[LStreamMultiplexer$Order;", Cond.fieldLink RX2 34 "StreamMultiplexer$State" "draft" "LStreamMultiplexer$Order;", Cond.methodLink RX3 217 yX1_countLists, Cond.instanceMethod yX1_countLists]
def wsX3_lists_r2 : List Cond := [Cond.selects RX1 yX1_countLists yX1_countLists, Cond.initialized RX1, Cond.code yX1_countLists cX1_countLists 4 (some .long), Cond.methodLink RX1 64 yX1_listsByLast, Cond.instanceMethod yX1_listsByLast, Cond.selects RX1 yX1_listsByLast yX1_listsByLast, Cond.code yX1_listsByLast cX1_listsByLast 6 (some .long), Cond.fieldLink RX1 15 "StreamMultiplexer$Order" "preceded" "[I", Cond.static yX3_isIn, Cond.code yX3_isIn cX3_isIn 2 (some .boolean), Cond.static yX3_setOf, Cond.code yX3_setOf cX3_setOf 1 (some .int)]
def wsX3_lists : List Cond := .code yX3_lists cX3_lists 2 (some .long) :: ((wsX3_lists_r1 ++ wsX3_lists_r2) ++ wsX30 ++ wsX20 ++ wsX10)
def wsX3_keep_r1 : List Cond := [Cond.fieldLink RX3 27 "StreamMultiplexer" "images" "[LStreamMultiplexer$State;", Cond.fieldLink RX3 10 "StreamMultiplexer" "present" "LStreamMultiplexer$State;", Cond.fieldLink RX3 30 "StreamMultiplexer" "kept" "[Z", Cond.methodLink RX3 42 yX3_isWithin, Cond.static yX3_isWithin, Cond.initialized RX3, Cond.code yX3_isWithin cX3_isWithin 3 (some .boolean), Cond.methodLink RX3 221 yX2_copyFrom, Cond.instanceMethod yX2_copyFrom, Cond.selects RX2 yX2_copyFrom yX2_copyFrom, Cond.initialized RX2, Cond.code yX2_copyFrom cX2_copyFrom 3 none, Cond.fieldLink RX2 9 "StreamMultiplexer$State" "opened" "I", Cond.fieldLink RX2 15 "StreamMultiplexer$State" "weights" "[I", Cond.fieldLink RX2 19 "StreamMultiplexer$State" "amounts" "[I", Cond.fieldLink RX2 24 "StreamMultiplexer$State" "queues" "[LStreamMultiplexer$Frames;", Cond.fieldLink RX2 34 "StreamMultiplexer$State" "draft" "LStreamMultiplexer$Order;", Cond.fieldLink RX2 42 "StreamMultiplexer$State" "epochCount" "I", Cond.fieldLink RX2 38 "StreamMultiplexer$State" "orders" "[LStreamMultiplexer$Order;", Cond.fieldLink RX2 45 "StreamMultiplexer$State" "came" "I", Cond.fieldLink RX2 48 "StreamMultiplexer$State" "sent" "I", Cond.fieldLink RX2 51 "StreamMultiplexer$State" "sentFrames" "LStreamMultiplexer$Frames;", Cond.methodLink RX2 55 yX0_copyFrom, Cond.instanceMethod yX0_copyFrom]
def wsX3_keep_r2 : List Cond := [Cond.selects RX0 yX0_copyFrom yX0_copyFrom, Cond.initialized RX0, Cond.code yX0_copyFrom cX0_copyFrom 3 none, Cond.fieldLink RX0 30 "StreamMultiplexer$Frames" "count" "I", Cond.fieldLink RX0 15 "StreamMultiplexer$Frames" "numbers" "[I", Cond.methodLink RX0 34 Lib.Math.min.name, Cond.static Lib.Math.min.name, Cond.initialized "java/lang/Math", Cond.code Lib.Math.min.name Lib.Math.min.code 2 (some .int), Cond.fieldLink RX0 21 "StreamMultiplexer$Frames" "streams" "[I", Cond.fieldLink RX0 24 "StreamMultiplexer$Frames" "sizes" "[I", Cond.fieldLink RX0 27 "StreamMultiplexer$Frames" "epochs" "[I", Cond.methodLink RX2 59 yX1_copyFrom, Cond.instanceMethod yX1_copyFrom, Cond.selects RX1 yX1_copyFrom yX1_copyFrom, Cond.initialized RX1, Cond.code yX1_copyFrom cX1_copyFrom 3 none, Cond.fieldLink RX1 9 "StreamMultiplexer$Order" "next" "[I", Cond.fieldLink RX1 15 "StreamMultiplexer$Order" "preceded" "[I", Cond.methodLink RX3 156 yX2_waitingCount, Cond.instanceMethod yX2_waitingCount, Cond.selects RX2 yX2_waitingCount yX2_waitingCount, Cond.code yX2_waitingCount cX2_waitingCount 3 (some .int), Cond.fieldLink RX2 82 "StreamMultiplexer$Frames" "count" "I"]
def wsX3_keep : List Cond := .code yX3_keep cX3_keep 2 (some .int) :: ((wsX3_keep_r1 ++ wsX3_keep_r2) ++ wsX30 ++ wsX20 ++ wsX00 ++ wsX10)
def wsX3_back_r1 : List Cond := [Cond.fieldLink RX3 30 "StreamMultiplexer" "kept" "[Z", Cond.fieldLink RX3 10 "StreamMultiplexer" "present" "LStreamMultiplexer$State;", Cond.fieldLink RX3 27 "StreamMultiplexer" "images" "[LStreamMultiplexer$State;", Cond.methodLink RX3 42 yX3_isWithin, Cond.static yX3_isWithin, Cond.initialized RX3, Cond.code yX3_isWithin cX3_isWithin 3 (some .boolean), Cond.methodLink RX3 49 yX3_record, Cond.instanceMethod yX3_record, Cond.selects RX3 yX3_record yX3_record, Cond.code yX3_record cX3_record 1 none, Cond.fieldLink RX3 23 "StreamMultiplexer" "historyCount" "I", Cond.fieldLink RX3 19 "StreamMultiplexer" "history" "[LStreamMultiplexer$State;", Cond.methodLink RX3 224 yX3_dropOldest, Cond.instanceMethod yX3_dropOldest, Cond.selects RX3 yX3_dropOldest yX3_dropOldest, Cond.code yX3_dropOldest cX3_dropOldest 3 none, Cond.methodLink RX3 221 yX2_copyFrom, Cond.instanceMethod yX2_copyFrom, Cond.selects RX2 yX2_copyFrom yX2_copyFrom, Cond.initialized RX2, Cond.code yX2_copyFrom cX2_copyFrom 3 none, Cond.fieldLink RX2 9 "StreamMultiplexer$State" "opened" "I", Cond.fieldLink RX2 15 "StreamMultiplexer$State" "weights" "[I"]
def wsX3_back_r2 : List Cond := [Cond.fieldLink RX2 19 "StreamMultiplexer$State" "amounts" "[I", Cond.fieldLink RX2 24 "StreamMultiplexer$State" "queues" "[LStreamMultiplexer$Frames;", Cond.fieldLink RX2 34 "StreamMultiplexer$State" "draft" "LStreamMultiplexer$Order;", Cond.fieldLink RX2 42 "StreamMultiplexer$State" "epochCount" "I", Cond.fieldLink RX2 38 "StreamMultiplexer$State" "orders" "[LStreamMultiplexer$Order;", Cond.fieldLink RX2 45 "StreamMultiplexer$State" "came" "I", Cond.fieldLink RX2 48 "StreamMultiplexer$State" "sent" "I", Cond.fieldLink RX2 51 "StreamMultiplexer$State" "sentFrames" "LStreamMultiplexer$Frames;", Cond.methodLink RX2 55 yX0_copyFrom, Cond.instanceMethod yX0_copyFrom, Cond.selects RX0 yX0_copyFrom yX0_copyFrom, Cond.initialized RX0, Cond.code yX0_copyFrom cX0_copyFrom 3 none, Cond.fieldLink RX0 30 "StreamMultiplexer$Frames" "count" "I", Cond.fieldLink RX0 15 "StreamMultiplexer$Frames" "numbers" "[I", Cond.methodLink RX0 34 Lib.Math.min.name, Cond.static Lib.Math.min.name, Cond.initialized "java/lang/Math", Cond.code Lib.Math.min.name Lib.Math.min.code 2 (some .int), Cond.fieldLink RX0 21 "StreamMultiplexer$Frames" "streams" "[I", Cond.fieldLink RX0 24 "StreamMultiplexer$Frames" "sizes" "[I", Cond.fieldLink RX0 27 "StreamMultiplexer$Frames" "epochs" "[I", Cond.methodLink RX2 59 yX1_copyFrom, Cond.instanceMethod yX1_copyFrom]
def wsX3_back_r3 : List Cond := [Cond.selects RX1 yX1_copyFrom yX1_copyFrom, Cond.initialized RX1, Cond.code yX1_copyFrom cX1_copyFrom 3 none, Cond.fieldLink RX1 9 "StreamMultiplexer$Order" "next" "[I", Cond.fieldLink RX1 15 "StreamMultiplexer$Order" "preceded" "[I", Cond.methodLink RX3 156 yX2_waitingCount, Cond.instanceMethod yX2_waitingCount, Cond.selects RX2 yX2_waitingCount yX2_waitingCount, Cond.code yX2_waitingCount cX2_waitingCount 3 (some .int), Cond.fieldLink RX2 82 "StreamMultiplexer$Frames" "count" "I"]
def wsX3_back : List Cond := .code yX3_back cX3_back 2 (some .int) :: ((wsX3_back_r1 ++ (wsX3_back_r2 ++ wsX3_back_r3)) ++ wsX30 ++ wsX20 ++ wsX00 ++ wsX10)
def wsX4_init : List Cond := .code yX4_init cX4_init 1 none :: ([.methodLink RX4 1 objectInit, .instanceMethod objectInit, .code objectInit ⟨#[0xb1]⟩ 1 none, .arrayClass .int, .fieldLink RX4 7 "StreamMultiplexerModel" "w" "[I", .fieldLink RX4 13 "StreamMultiplexerModel" "past" "[I", .fieldLink RX4 16 "StreamMultiplexerModel" "images" "[I", .fieldLink RX4 19 "StreamMultiplexerModel" "after" "[I", .fieldLink RX4 22 "StreamMultiplexerModel" "held" "[I", .fieldLink RX4 25 "StreamMultiplexerModel" "left" "[I", .fieldLink RX4 28 "StreamMultiplexerModel" "chain" "[I", .arrayClass .long, .fieldLink RX4 31 "StreamMultiplexerModel" "counts" "[J"] ++ wsX40)
def wsX4_isIn : List Cond := .code yX4_isIn cX4_isIn 3 (some .boolean) :: ([])
def wsX4_has : List Cond := .code yX4_has cX4_has 2 (some .boolean) :: ([])
def wsX4_isStream : List Cond := .code yX4_isStream cX4_isStream 1 (some .boolean) :: ([.methodLink RX4 35 yX4_isIn, .static yX4_isIn, .initialized RX4, .code yX4_isIn cX4_isIn 3 (some .boolean)])
def wsX4_isOpen : List Cond := .code yX4_isOpen cX4_isOpen 2 (some .boolean) :: ([.fieldLink RX4 7 "StreamMultiplexerModel" "w" "[I"] ++ wsX40)
def wsX4_remember : List Cond := .code yX4_remember cX4_remember 2 none :: ([.fieldLink RX4 39 "StreamMultiplexerModel" "pastMany" "I", .fieldLink RX4 13 "StreamMultiplexerModel" "past" "[I", .fieldLink RX4 7 "StreamMultiplexerModel" "w" "[I"] ++ wsX40)
def wsX4_frameAt : List Cond := .code yX4_frameAt cX4_frameAt 4 (some .int) :: ([.fieldLink RX4 7 "StreamMultiplexerModel" "w" "[I"] ++ wsX40)
def wsX4_orderOf : List Cond := .code yX4_orderOf cX4_orderOf 1 (some .int) :: ([])
def wsX4_isOrder : List Cond := .code yX4_isOrder cX4_isOrder 2 (some .boolean) :: ([.fieldLink RX4 7 "StreamMultiplexerModel" "w" "[I", .methodLink RX4 35 yX4_isIn, .static yX4_isIn, .initialized RX4, .code yX4_isIn cX4_isIn 3 (some .boolean)] ++ wsX40)
def wsX4_layAfter : List Cond := .code yX4_layAfter cX4_layAfter 4 none :: ([.fieldLink RX4 19 "StreamMultiplexerModel" "after" "[I", .fieldLink RX4 7 "StreamMultiplexerModel" "w" "[I", .methodLink RX4 43 yX4_has, .static yX4_has, .initialized RX4, .code yX4_has cX4_has 2 (some .boolean)] ++ wsX40)
def wsX4_size : List Cond := .code yX4_size cX4_size 3 (some .int) :: ([])
def wsX4_edges : List Cond := .code yX4_edges cX4_edges 4 (some .int) :: ([.fieldLink RX4 7 "StreamMultiplexerModel" "w" "[I", .methodLink RX4 47 yX4_size, .static yX4_size, .initialized RX4, .code yX4_size cX4_size 3 (some .int)] ++ wsX40)
def wsX4_blocking : List Cond := .code yX4_blocking cX4_blocking 6 (some .int) :: ([.fieldLink RX4 7 "StreamMultiplexerModel" "w" "[I", .fieldLink RX4 19 "StreamMultiplexerModel" "after" "[I", .methodLink RX4 51 yX4_frameAt, .instanceMethod yX4_frameAt, .selects RX4 yX4_frameAt yX4_frameAt, .initialized RX4, .code yX4_frameAt cX4_frameAt 4 (some .int), .methodLink RX4 55 yX4_orderOf, .static yX4_orderOf, .code yX4_orderOf cX4_orderOf 1 (some .int), .methodLink RX4 58 yX4_layAfter, .instanceMethod yX4_layAfter, .selects RX4 yX4_layAfter yX4_layAfter, .code yX4_layAfter cX4_layAfter 4 none, .methodLink RX4 43 yX4_has, .static yX4_has, .code yX4_has cX4_has 2 (some .boolean)] ++ wsX40)
def wsX4_isCandidate : List Cond := .code yX4_isCandidate cX4_isCandidate 2 (some .boolean) :: ([.fieldLink RX4 7 "StreamMultiplexerModel" "w" "[I", .methodLink RX4 62 yX4_blocking, .instanceMethod yX4_blocking, .selects RX4 yX4_blocking yX4_blocking, .initialized RX4, .code yX4_blocking cX4_blocking 6 (some .int), .fieldLink RX4 19 "StreamMultiplexerModel" "after" "[I", .methodLink RX4 51 yX4_frameAt, .instanceMethod yX4_frameAt, .selects RX4 yX4_frameAt yX4_frameAt, .code yX4_frameAt cX4_frameAt 4 (some .int), .methodLink RX4 55 yX4_orderOf, .static yX4_orderOf, .code yX4_orderOf cX4_orderOf 1 (some .int), .methodLink RX4 58 yX4_layAfter, .instanceMethod yX4_layAfter, .selects RX4 yX4_layAfter yX4_layAfter, .code yX4_layAfter cX4_layAfter 4 none, .methodLink RX4 43 yX4_has, .static yX4_has, .code yX4_has cX4_has 2 (some .boolean)] ++ wsX40)
def wsX4_nextStream_r1 : List Cond := [Cond.fieldLink RX4 7 "StreamMultiplexerModel" "w" "[I", Cond.methodLink RX4 65 yX4_isCandidate, Cond.instanceMethod yX4_isCandidate, Cond.selects RX4 yX4_isCandidate yX4_isCandidate, Cond.initialized RX4, Cond.code yX4_isCandidate cX4_isCandidate 2 (some .boolean), Cond.methodLink RX4 62 yX4_blocking, Cond.instanceMethod yX4_blocking, Cond.selects RX4 yX4_blocking yX4_blocking, Cond.code yX4_blocking cX4_blocking 6 (some .int), Cond.fieldLink RX4 19 "StreamMultiplexerModel" "after" "[I", Cond.methodLink RX4 51 yX4_frameAt, Cond.instanceMethod yX4_frameAt, Cond.selects RX4 yX4_frameAt yX4_frameAt, Cond.code yX4_frameAt cX4_frameAt 4 (some .int), Cond.methodLink RX4 55 yX4_orderOf, Cond.static yX4_orderOf, Cond.code yX4_orderOf cX4_orderOf 1 (some .int), Cond.methodLink RX4 58 yX4_layAfter, Cond.instanceMethod yX4_layAfter, Cond.selects RX4 yX4_layAfter yX4_layAfter, Cond.code yX4_layAfter cX4_layAfter 4 none, Cond.methodLink RX4 43 yX4_has, Cond.static yX4_has]
def wsX4_nextStream_r2 : List Cond := [Cond.code yX4_has cX4_has 2 (some .boolean)]
def wsX4_nextStream : List Cond := .code yX4_nextStream cX4_nextStream 4 (some .int) :: ((wsX4_nextStream_r1 ++ wsX4_nextStream_r2) ++ wsX40)
def wsX4_sendNext_r1 : List Cond := [Cond.fieldLink RX4 7 "StreamMultiplexerModel" "w" "[I", Cond.methodLink RX4 69 yX4_nextStream, Cond.instanceMethod yX4_nextStream, Cond.selects RX4 yX4_nextStream yX4_nextStream, Cond.initialized RX4, Cond.code yX4_nextStream cX4_nextStream 4 (some .int), Cond.methodLink RX4 65 yX4_isCandidate, Cond.instanceMethod yX4_isCandidate, Cond.selects RX4 yX4_isCandidate yX4_isCandidate, Cond.code yX4_isCandidate cX4_isCandidate 2 (some .boolean), Cond.methodLink RX4 62 yX4_blocking, Cond.instanceMethod yX4_blocking, Cond.selects RX4 yX4_blocking yX4_blocking, Cond.code yX4_blocking cX4_blocking 6 (some .int), Cond.fieldLink RX4 19 "StreamMultiplexerModel" "after" "[I", Cond.methodLink RX4 51 yX4_frameAt, Cond.instanceMethod yX4_frameAt, Cond.selects RX4 yX4_frameAt yX4_frameAt, Cond.code yX4_frameAt cX4_frameAt 4 (some .int), Cond.methodLink RX4 55 yX4_orderOf, Cond.static yX4_orderOf, Cond.code yX4_orderOf cX4_orderOf 1 (some .int), Cond.methodLink RX4 58 yX4_layAfter, Cond.instanceMethod yX4_layAfter]
def wsX4_sendNext_r2 : List Cond := [Cond.selects RX4 yX4_layAfter yX4_layAfter, Cond.code yX4_layAfter cX4_layAfter 4 none, Cond.methodLink RX4 43 yX4_has, Cond.static yX4_has, Cond.code yX4_has cX4_has 2 (some .boolean)]
def wsX4_sendNext : List Cond := .code yX4_sendNext cX4_sendNext 5 (some .int) :: ((wsX4_sendNext_r1 ++ wsX4_sendNext_r2) ++ wsX40)
def wsX4_waiting : List Cond := .code yX4_waiting cX4_waiting 3 (some .int) :: ([.fieldLink RX4 7 "StreamMultiplexerModel" "w" "[I"] ++ wsX40)
def wsX4_before_r1 : List Cond := [Cond.fieldLink RX4 22 "StreamMultiplexerModel" "held" "[I", Cond.fieldLink RX4 7 "StreamMultiplexerModel" "w" "[I", Cond.methodLink RX4 73 yX4_sendNext, Cond.instanceMethod yX4_sendNext, Cond.selects RX4 yX4_sendNext yX4_sendNext, Cond.initialized RX4, Cond.code yX4_sendNext cX4_sendNext 5 (some .int), Cond.methodLink RX4 69 yX4_nextStream, Cond.instanceMethod yX4_nextStream, Cond.selects RX4 yX4_nextStream yX4_nextStream, Cond.code yX4_nextStream cX4_nextStream 4 (some .int), Cond.methodLink RX4 65 yX4_isCandidate, Cond.instanceMethod yX4_isCandidate, Cond.selects RX4 yX4_isCandidate yX4_isCandidate, Cond.code yX4_isCandidate cX4_isCandidate 2 (some .boolean), Cond.methodLink RX4 62 yX4_blocking, Cond.instanceMethod yX4_blocking, Cond.selects RX4 yX4_blocking yX4_blocking, Cond.code yX4_blocking cX4_blocking 6 (some .int), Cond.fieldLink RX4 19 "StreamMultiplexerModel" "after" "[I", Cond.methodLink RX4 51 yX4_frameAt, Cond.instanceMethod yX4_frameAt, Cond.selects RX4 yX4_frameAt yX4_frameAt, Cond.code yX4_frameAt cX4_frameAt 4 (some .int)]
def wsX4_before_r2 : List Cond := [Cond.methodLink RX4 55 yX4_orderOf, Cond.static yX4_orderOf, Cond.code yX4_orderOf cX4_orderOf 1 (some .int), Cond.methodLink RX4 58 yX4_layAfter, Cond.instanceMethod yX4_layAfter, Cond.selects RX4 yX4_layAfter yX4_layAfter, Cond.code yX4_layAfter cX4_layAfter 4 none, Cond.methodLink RX4 43 yX4_has, Cond.static yX4_has, Cond.code yX4_has cX4_has 2 (some .boolean)]
def wsX4_before : List Cond := .code yX4_before cX4_before 4 (some .int) :: ((wsX4_before_r1 ++ wsX4_before_r2) ++ wsX40)
def wsX4_opened : List Cond := .code yX4_opened cX4_opened 3 (some .int) :: ([.fieldLink RX4 7 "StreamMultiplexerModel" "w" "[I"] ++ wsX40)
def wsX4_open : List Cond := .code yX4_open cX4_open 3 (some .int) :: ([.fieldLink RX4 7 "StreamMultiplexerModel" "w" "[I", .methodLink RX4 76 yX4_isStream, .static yX4_isStream, .initialized RX4, .code yX4_isStream cX4_isStream 1 (some .boolean), .methodLink RX4 35 yX4_isIn, .static yX4_isIn, .code yX4_isIn cX4_isIn 3 (some .boolean), .methodLink RX4 79 yX4_isOpen, .instanceMethod yX4_isOpen, .selects RX4 yX4_isOpen yX4_isOpen, .code yX4_isOpen cX4_isOpen 2 (some .boolean), .methodLink RX4 82 yX4_remember, .instanceMethod yX4_remember, .selects RX4 yX4_remember yX4_remember, .code yX4_remember cX4_remember 2 none, .fieldLink RX4 39 "StreamMultiplexerModel" "pastMany" "I", .fieldLink RX4 13 "StreamMultiplexerModel" "past" "[I", .methodLink RX4 85 yX4_opened, .instanceMethod yX4_opened, .selects RX4 yX4_opened yX4_opened, .code yX4_opened cX4_opened 3 (some .int)] ++ wsX40)
def wsX4_close : List Cond := .code yX4_close cX4_close 3 (some .int) :: ([.fieldLink RX4 7 "StreamMultiplexerModel" "w" "[I", .methodLink RX4 76 yX4_isStream, .static yX4_isStream, .initialized RX4, .code yX4_isStream cX4_isStream 1 (some .boolean), .methodLink RX4 35 yX4_isIn, .static yX4_isIn, .code yX4_isIn cX4_isIn 3 (some .boolean), .methodLink RX4 79 yX4_isOpen, .instanceMethod yX4_isOpen, .selects RX4 yX4_isOpen yX4_isOpen, .code yX4_isOpen cX4_isOpen 2 (some .boolean), .methodLink RX4 82 yX4_remember, .instanceMethod yX4_remember, .selects RX4 yX4_remember yX4_remember, .code yX4_remember cX4_remember 2 none, .fieldLink RX4 39 "StreamMultiplexerModel" "pastMany" "I", .fieldLink RX4 13 "StreamMultiplexerModel" "past" "[I"] ++ wsX40)
def wsX4_setWeight : List Cond := .code yX4_setWeight cX4_setWeight 4 (some .int) :: ([.fieldLink RX4 7 "StreamMultiplexerModel" "w" "[I", .methodLink RX4 76 yX4_isStream, .static yX4_isStream, .initialized RX4, .code yX4_isStream cX4_isStream 1 (some .boolean), .methodLink RX4 35 yX4_isIn, .static yX4_isIn, .code yX4_isIn cX4_isIn 3 (some .boolean), .methodLink RX4 79 yX4_isOpen, .instanceMethod yX4_isOpen, .selects RX4 yX4_isOpen yX4_isOpen, .code yX4_isOpen cX4_isOpen 2 (some .boolean), .methodLink RX4 82 yX4_remember, .instanceMethod yX4_remember, .selects RX4 yX4_remember yX4_remember, .code yX4_remember cX4_remember 2 none, .fieldLink RX4 39 "StreamMultiplexerModel" "pastMany" "I", .fieldLink RX4 13 "StreamMultiplexerModel" "past" "[I"] ++ wsX40)
def wsX4_push : List Cond := .code yX4_push cX4_push 4 (some .int) :: ([.fieldLink RX4 7 "StreamMultiplexerModel" "w" "[I", .methodLink RX4 76 yX4_isStream, .static yX4_isStream, .initialized RX4, .code yX4_isStream cX4_isStream 1 (some .boolean), .methodLink RX4 35 yX4_isIn, .static yX4_isIn, .code yX4_isIn cX4_isIn 3 (some .boolean), .methodLink RX4 79 yX4_isOpen, .instanceMethod yX4_isOpen, .selects RX4 yX4_isOpen yX4_isOpen, .code yX4_isOpen cX4_isOpen 2 (some .boolean), .methodLink RX4 82 yX4_remember, .instanceMethod yX4_remember, .selects RX4 yX4_remember yX4_remember, .code yX4_remember cX4_remember 2 none, .fieldLink RX4 39 "StreamMultiplexerModel" "pastMany" "I", .fieldLink RX4 13 "StreamMultiplexerModel" "past" "[I"] ++ wsX40)
def wsX4_edge : List Cond := .code yX4_edge cX4_edge 5 (some .int) :: ([.fieldLink RX4 19 "StreamMultiplexerModel" "after" "[I", .fieldLink RX4 7 "StreamMultiplexerModel" "w" "[I", .methodLink RX4 76 yX4_isStream, .static yX4_isStream, .initialized RX4, .code yX4_isStream cX4_isStream 1 (some .boolean), .methodLink RX4 35 yX4_isIn, .static yX4_isIn, .code yX4_isIn cX4_isIn 3 (some .boolean), .methodLink RX4 58 yX4_layAfter, .instanceMethod yX4_layAfter, .selects RX4 yX4_layAfter yX4_layAfter, .code yX4_layAfter cX4_layAfter 4 none, .methodLink RX4 43 yX4_has, .static yX4_has, .code yX4_has cX4_has 2 (some .boolean), .methodLink RX4 82 yX4_remember, .instanceMethod yX4_remember, .selects RX4 yX4_remember yX4_remember, .code yX4_remember cX4_remember 2 none, .fieldLink RX4 39 "StreamMultiplexerModel" "pastMany" "I", .fieldLink RX4 13 "StreamMultiplexerModel" "past" "[I"] ++ wsX40)
def wsX4_commit : List Cond := .code yX4_commit cX4_commit 2 (some .int) :: ([.fieldLink RX4 7 "StreamMultiplexerModel" "w" "[I", .methodLink RX4 82 yX4_remember, .instanceMethod yX4_remember, .selects RX4 yX4_remember yX4_remember, .initialized RX4, .code yX4_remember cX4_remember 2 none, .fieldLink RX4 39 "StreamMultiplexerModel" "pastMany" "I", .fieldLink RX4 13 "StreamMultiplexerModel" "past" "[I", .methodLink RX4 55 yX4_orderOf, .static yX4_orderOf, .code yX4_orderOf cX4_orderOf 1 (some .int)] ++ wsX40)
def wsX4_revert : List Cond := .code yX4_revert cX4_revert 3 (some .int) :: ([.fieldLink RX4 7 "StreamMultiplexerModel" "w" "[I", .methodLink RX4 35 yX4_isIn, .static yX4_isIn, .initialized RX4, .code yX4_isIn cX4_isIn 3 (some .boolean), .methodLink RX4 82 yX4_remember, .instanceMethod yX4_remember, .selects RX4 yX4_remember yX4_remember, .code yX4_remember cX4_remember 2 none, .fieldLink RX4 39 "StreamMultiplexerModel" "pastMany" "I", .fieldLink RX4 13 "StreamMultiplexerModel" "past" "[I", .methodLink RX4 55 yX4_orderOf, .static yX4_orderOf, .code yX4_orderOf cX4_orderOf 1 (some .int), .methodLink RX4 88 yX4_edges, .instanceMethod yX4_edges, .selects RX4 yX4_edges yX4_edges, .code yX4_edges cX4_edges 4 (some .int), .methodLink RX4 47 yX4_size, .static yX4_size, .code yX4_size cX4_size 3 (some .int)] ++ wsX40)
def wsX4_layLeft : List Cond := .code yX4_layLeft cX4_layLeft 5 none :: ([.fieldLink RX4 25 "StreamMultiplexerModel" "left" "[I", .fieldLink RX4 7 "StreamMultiplexerModel" "w" "[I", .methodLink RX4 43 yX4_has, .static yX4_has, .initialized RX4, .code yX4_has cX4_has 2 (some .boolean)] ++ wsX40)
def wsX4_witness : List Cond := .code yX4_witness cX4_witness 7 (some .int) :: ([.fieldLink RX4 25 "StreamMultiplexerModel" "left" "[I", .fieldLink RX4 7 "StreamMultiplexerModel" "w" "[I", .methodLink RX4 76 yX4_isStream, .static yX4_isStream, .initialized RX4, .code yX4_isStream cX4_isStream 1 (some .boolean), .methodLink RX4 35 yX4_isIn, .static yX4_isIn, .code yX4_isIn cX4_isIn 3 (some .boolean), .methodLink RX4 91 yX4_layLeft, .instanceMethod yX4_layLeft, .selects RX4 yX4_layLeft yX4_layLeft, .code yX4_layLeft cX4_layLeft 5 none, .methodLink RX4 43 yX4_has, .static yX4_has, .code yX4_has cX4_has 2 (some .boolean)] ++ wsX40)
def wsX4_send_r1 : List Cond := [Cond.methodLink RX4 94 yX4_waiting, Cond.instanceMethod yX4_waiting, Cond.selects RX4 yX4_waiting yX4_waiting, Cond.initialized RX4, Cond.code yX4_waiting cX4_waiting 3 (some .int), Cond.fieldLink RX4 7 "StreamMultiplexerModel" "w" "[I", Cond.methodLink RX4 82 yX4_remember, Cond.instanceMethod yX4_remember, Cond.selects RX4 yX4_remember yX4_remember, Cond.code yX4_remember cX4_remember 2 none, Cond.fieldLink RX4 39 "StreamMultiplexerModel" "pastMany" "I", Cond.fieldLink RX4 13 "StreamMultiplexerModel" "past" "[I", Cond.methodLink RX4 73 yX4_sendNext, Cond.instanceMethod yX4_sendNext, Cond.selects RX4 yX4_sendNext yX4_sendNext, Cond.code yX4_sendNext cX4_sendNext 5 (some .int), Cond.methodLink RX4 69 yX4_nextStream, Cond.instanceMethod yX4_nextStream, Cond.selects RX4 yX4_nextStream yX4_nextStream, Cond.code yX4_nextStream cX4_nextStream 4 (some .int), Cond.methodLink RX4 65 yX4_isCandidate, Cond.instanceMethod yX4_isCandidate, Cond.selects RX4 yX4_isCandidate yX4_isCandidate, Cond.code yX4_isCandidate cX4_isCandidate 2 (some .boolean)]
def wsX4_send_r2 : List Cond := [Cond.methodLink RX4 62 yX4_blocking, Cond.instanceMethod yX4_blocking, Cond.selects RX4 yX4_blocking yX4_blocking, Cond.code yX4_blocking cX4_blocking 6 (some .int), Cond.fieldLink RX4 19 "StreamMultiplexerModel" "after" "[I", Cond.methodLink RX4 51 yX4_frameAt, Cond.instanceMethod yX4_frameAt, Cond.selects RX4 yX4_frameAt yX4_frameAt, Cond.code yX4_frameAt cX4_frameAt 4 (some .int), Cond.methodLink RX4 55 yX4_orderOf, Cond.static yX4_orderOf, Cond.code yX4_orderOf cX4_orderOf 1 (some .int), Cond.methodLink RX4 58 yX4_layAfter, Cond.instanceMethod yX4_layAfter, Cond.selects RX4 yX4_layAfter yX4_layAfter, Cond.code yX4_layAfter cX4_layAfter 4 none, Cond.methodLink RX4 43 yX4_has, Cond.static yX4_has, Cond.code yX4_has cX4_has 2 (some .boolean)]
def wsX4_send : List Cond := .code yX4_send cX4_send 1 (some .int) :: ((wsX4_send_r1 ++ wsX4_send_r2) ++ wsX40)
def wsX4_sendSome_r1 : List Cond := [Cond.methodLink RX4 35 yX4_isIn, Cond.static yX4_isIn, Cond.initialized RX4, Cond.code yX4_isIn cX4_isIn 3 (some .boolean), Cond.methodLink RX4 82 yX4_remember, Cond.instanceMethod yX4_remember, Cond.selects RX4 yX4_remember yX4_remember, Cond.code yX4_remember cX4_remember 2 none, Cond.fieldLink RX4 39 "StreamMultiplexerModel" "pastMany" "I", Cond.fieldLink RX4 13 "StreamMultiplexerModel" "past" "[I", Cond.fieldLink RX4 7 "StreamMultiplexerModel" "w" "[I", Cond.methodLink RX4 69 yX4_nextStream, Cond.instanceMethod yX4_nextStream, Cond.selects RX4 yX4_nextStream yX4_nextStream, Cond.code yX4_nextStream cX4_nextStream 4 (some .int), Cond.methodLink RX4 65 yX4_isCandidate, Cond.instanceMethod yX4_isCandidate, Cond.selects RX4 yX4_isCandidate yX4_isCandidate, Cond.code yX4_isCandidate cX4_isCandidate 2 (some .boolean), Cond.methodLink RX4 62 yX4_blocking, Cond.instanceMethod yX4_blocking, Cond.selects RX4 yX4_blocking yX4_blocking, Cond.code yX4_blocking cX4_blocking 6 (some .int), Cond.fieldLink RX4 19 "StreamMultiplexerModel" "after" "[I"]
def wsX4_sendSome_r2 : List Cond := [Cond.methodLink RX4 51 yX4_frameAt, Cond.instanceMethod yX4_frameAt, Cond.selects RX4 yX4_frameAt yX4_frameAt, Cond.code yX4_frameAt cX4_frameAt 4 (some .int), Cond.methodLink RX4 55 yX4_orderOf, Cond.static yX4_orderOf, Cond.code yX4_orderOf cX4_orderOf 1 (some .int), Cond.methodLink RX4 58 yX4_layAfter, Cond.instanceMethod yX4_layAfter, Cond.selects RX4 yX4_layAfter yX4_layAfter, Cond.code yX4_layAfter cX4_layAfter 4 none, Cond.methodLink RX4 43 yX4_has, Cond.static yX4_has, Cond.code yX4_has cX4_has 2 (some .boolean), Cond.methodLink RX4 73 yX4_sendNext, Cond.instanceMethod yX4_sendNext, Cond.selects RX4 yX4_sendNext yX4_sendNext, Cond.code yX4_sendNext cX4_sendNext 5 (some .int)]
def wsX4_sendSome : List Cond := .code yX4_sendSome cX4_sendSome 7 (some .int) :: ((wsX4_sendSome_r1 ++ wsX4_sendSome_r2) ++ wsX40)
def wsX4_undo : List Cond := .code yX4_undo cX4_undo 2 (some .int) :: ([.fieldLink RX4 39 "StreamMultiplexerModel" "pastMany" "I", .fieldLink RX4 7 "StreamMultiplexerModel" "w" "[I", .fieldLink RX4 13 "StreamMultiplexerModel" "past" "[I"] ++ wsX40)
def wsX4_waitingSize : List Cond := .code yX4_waitingSize cX4_waitingSize 4 (some .int) :: ([.fieldLink RX4 7 "StreamMultiplexerModel" "w" "[I", .methodLink RX4 51 yX4_frameAt, .instanceMethod yX4_frameAt, .selects RX4 yX4_frameAt yX4_frameAt, .initialized RX4, .code yX4_frameAt cX4_frameAt 4 (some .int)] ++ wsX40)
def wsX4_allWaitingSizes : List Cond := .code yX4_allWaitingSizes cX4_allWaitingSizes 3 (some .int) :: ([.methodLink RX4 97 yX4_waitingSize, .instanceMethod yX4_waitingSize, .selects RX4 yX4_waitingSize yX4_waitingSize, .initialized RX4, .code yX4_waitingSize cX4_waitingSize 4 (some .int), .fieldLink RX4 7 "StreamMultiplexerModel" "w" "[I", .methodLink RX4 51 yX4_frameAt, .instanceMethod yX4_frameAt, .selects RX4 yX4_frameAt yX4_frameAt, .code yX4_frameAt cX4_frameAt 4 (some .int)] ++ wsX40)
def wsX4_candidates_r1 : List Cond := [Cond.methodLink RX4 65 yX4_isCandidate, Cond.instanceMethod yX4_isCandidate, Cond.selects RX4 yX4_isCandidate yX4_isCandidate, Cond.initialized RX4, Cond.code yX4_isCandidate cX4_isCandidate 2 (some .boolean), Cond.fieldLink RX4 7 "StreamMultiplexerModel" "w" "[I", Cond.methodLink RX4 62 yX4_blocking, Cond.instanceMethod yX4_blocking, Cond.selects RX4 yX4_blocking yX4_blocking, Cond.code yX4_blocking cX4_blocking 6 (some .int), Cond.fieldLink RX4 19 "StreamMultiplexerModel" "after" "[I", Cond.methodLink RX4 51 yX4_frameAt, Cond.instanceMethod yX4_frameAt, Cond.selects RX4 yX4_frameAt yX4_frameAt, Cond.code yX4_frameAt cX4_frameAt 4 (some .int), Cond.methodLink RX4 55 yX4_orderOf, Cond.static yX4_orderOf, Cond.code yX4_orderOf cX4_orderOf 1 (some .int), Cond.methodLink RX4 58 yX4_layAfter, Cond.instanceMethod yX4_layAfter, Cond.selects RX4 yX4_layAfter yX4_layAfter, Cond.code yX4_layAfter cX4_layAfter 4 none, Cond.methodLink RX4 43 yX4_has, Cond.static yX4_has]
def wsX4_candidates_r2 : List Cond := [Cond.code yX4_has cX4_has 2 (some .boolean)]
def wsX4_candidates : List Cond := .code yX4_candidates cX4_candidates 3 (some .int) :: ((wsX4_candidates_r1 ++ wsX4_candidates_r2) ++ wsX40)
def wsX4_isCommitted : List Cond := .code yX4_isCommitted cX4_isCommitted 3 (some .boolean) :: ([.fieldLink RX4 7 "StreamMultiplexerModel" "w" "[I", .methodLink RX4 55 yX4_orderOf, .static yX4_orderOf, .initialized RX4, .code yX4_orderOf cX4_orderOf 1 (some .int)] ++ wsX40)
def wsX4_told_r1 : List Cond := [Cond.fieldLink RX4 7 "StreamMultiplexerModel" "w" "[I", Cond.fieldLink RX4 39 "StreamMultiplexerModel" "pastMany" "I", Cond.methodLink RX4 85 yX4_opened, Cond.instanceMethod yX4_opened, Cond.selects RX4 yX4_opened yX4_opened, Cond.initialized RX4, Cond.code yX4_opened cX4_opened 3 (some .int), Cond.methodLink RX4 94 yX4_waiting, Cond.instanceMethod yX4_waiting, Cond.selects RX4 yX4_waiting yX4_waiting, Cond.code yX4_waiting cX4_waiting 3 (some .int), Cond.methodLink RX4 100 yX4_allWaitingSizes, Cond.instanceMethod yX4_allWaitingSizes, Cond.selects RX4 yX4_allWaitingSizes yX4_allWaitingSizes, Cond.code yX4_allWaitingSizes cX4_allWaitingSizes 3 (some .int), Cond.methodLink RX4 97 yX4_waitingSize, Cond.instanceMethod yX4_waitingSize, Cond.selects RX4 yX4_waitingSize yX4_waitingSize, Cond.code yX4_waitingSize cX4_waitingSize 4 (some .int), Cond.methodLink RX4 51 yX4_frameAt, Cond.instanceMethod yX4_frameAt, Cond.selects RX4 yX4_frameAt yX4_frameAt, Cond.code yX4_frameAt cX4_frameAt 4 (some .int), Cond.methodLink RX4 88 yX4_edges]
def wsX4_told_r2 : List Cond := [Cond.instanceMethod yX4_edges, Cond.selects RX4 yX4_edges yX4_edges, Cond.code yX4_edges cX4_edges 4 (some .int), Cond.methodLink RX4 47 yX4_size, Cond.static yX4_size, Cond.code yX4_size cX4_size 3 (some .int), Cond.methodLink RX4 103 yX4_candidates, Cond.instanceMethod yX4_candidates, Cond.selects RX4 yX4_candidates yX4_candidates, Cond.code yX4_candidates cX4_candidates 3 (some .int), Cond.methodLink RX4 65 yX4_isCandidate, Cond.instanceMethod yX4_isCandidate, Cond.selects RX4 yX4_isCandidate yX4_isCandidate, Cond.code yX4_isCandidate cX4_isCandidate 2 (some .boolean), Cond.methodLink RX4 62 yX4_blocking, Cond.instanceMethod yX4_blocking, Cond.selects RX4 yX4_blocking yX4_blocking, Cond.code yX4_blocking cX4_blocking 6 (some .int), Cond.fieldLink RX4 19 "StreamMultiplexerModel" "after" "[I", Cond.methodLink RX4 55 yX4_orderOf, Cond.static yX4_orderOf, Cond.code yX4_orderOf cX4_orderOf 1 (some .int), Cond.methodLink RX4 58 yX4_layAfter, Cond.instanceMethod yX4_layAfter]
def wsX4_told_r3 : List Cond := [Cond.selects RX4 yX4_layAfter yX4_layAfter, Cond.code yX4_layAfter cX4_layAfter 4 none, Cond.methodLink RX4 43 yX4_has, Cond.static yX4_has, Cond.code yX4_has cX4_has 2 (some .boolean), Cond.methodLink RX4 69 yX4_nextStream, Cond.instanceMethod yX4_nextStream, Cond.selects RX4 yX4_nextStream yX4_nextStream, Cond.code yX4_nextStream cX4_nextStream 4 (some .int), Cond.methodLink RX4 106 yX4_isCommitted, Cond.instanceMethod yX4_isCommitted, Cond.selects RX4 yX4_isCommitted yX4_isCommitted, Cond.code yX4_isCommitted cX4_isCommitted 3 (some .boolean)]
def wsX4_told : List Cond := .code yX4_told cX4_told 2 (some .int) :: ((wsX4_told_r1 ++ (wsX4_told_r2 ++ wsX4_told_r3)) ++ wsX40)
def wsX4_stream_r1 : List Cond := [Cond.fieldLink RX4 7 "StreamMultiplexerModel" "w" "[I", Cond.methodLink RX4 76 yX4_isStream, Cond.static yX4_isStream, Cond.initialized RX4, Cond.code yX4_isStream cX4_isStream 1 (some .boolean), Cond.methodLink RX4 35 yX4_isIn, Cond.static yX4_isIn, Cond.code yX4_isIn cX4_isIn 3 (some .boolean), Cond.methodLink RX4 97 yX4_waitingSize, Cond.instanceMethod yX4_waitingSize, Cond.selects RX4 yX4_waitingSize yX4_waitingSize, Cond.code yX4_waitingSize cX4_waitingSize 4 (some .int), Cond.methodLink RX4 51 yX4_frameAt, Cond.instanceMethod yX4_frameAt, Cond.selects RX4 yX4_frameAt yX4_frameAt, Cond.code yX4_frameAt cX4_frameAt 4 (some .int), Cond.methodLink RX4 65 yX4_isCandidate, Cond.instanceMethod yX4_isCandidate, Cond.selects RX4 yX4_isCandidate yX4_isCandidate, Cond.code yX4_isCandidate cX4_isCandidate 2 (some .boolean), Cond.methodLink RX4 62 yX4_blocking, Cond.instanceMethod yX4_blocking, Cond.selects RX4 yX4_blocking yX4_blocking, Cond.code yX4_blocking cX4_blocking 6 (some .int)]
def wsX4_stream_r2 : List Cond := [Cond.fieldLink RX4 19 "StreamMultiplexerModel" "after" "[I", Cond.methodLink RX4 55 yX4_orderOf, Cond.static yX4_orderOf, Cond.code yX4_orderOf cX4_orderOf 1 (some .int), Cond.methodLink RX4 58 yX4_layAfter, Cond.instanceMethod yX4_layAfter, Cond.selects RX4 yX4_layAfter yX4_layAfter, Cond.code yX4_layAfter cX4_layAfter 4 none, Cond.methodLink RX4 43 yX4_has, Cond.static yX4_has, Cond.code yX4_has cX4_has 2 (some .boolean), Cond.methodLink RX4 110 yX4_before, Cond.instanceMethod yX4_before, Cond.selects RX4 yX4_before yX4_before, Cond.code yX4_before cX4_before 4 (some .int), Cond.fieldLink RX4 22 "StreamMultiplexerModel" "held" "[I", Cond.methodLink RX4 73 yX4_sendNext, Cond.instanceMethod yX4_sendNext, Cond.selects RX4 yX4_sendNext yX4_sendNext, Cond.code yX4_sendNext cX4_sendNext 5 (some .int), Cond.methodLink RX4 69 yX4_nextStream, Cond.instanceMethod yX4_nextStream, Cond.selects RX4 yX4_nextStream yX4_nextStream, Cond.code yX4_nextStream cX4_nextStream 4 (some .int)]
def wsX4_stream : List Cond := .code yX4_stream cX4_stream 3 (some .int) :: ((wsX4_stream_r1 ++ wsX4_stream_r2) ++ wsX40)
def wsX4_frame_r1 : List Cond := [Cond.fieldLink RX4 7 "StreamMultiplexerModel" "w" "[I", Cond.methodLink RX4 76 yX4_isStream, Cond.static yX4_isStream, Cond.initialized RX4, Cond.code yX4_isStream cX4_isStream 1 (some .boolean), Cond.methodLink RX4 35 yX4_isIn, Cond.static yX4_isIn, Cond.code yX4_isIn cX4_isIn 3 (some .boolean), Cond.methodLink RX4 51 yX4_frameAt, Cond.instanceMethod yX4_frameAt, Cond.selects RX4 yX4_frameAt yX4_frameAt, Cond.code yX4_frameAt cX4_frameAt 4 (some .int), Cond.methodLink RX4 110 yX4_before, Cond.instanceMethod yX4_before, Cond.selects RX4 yX4_before yX4_before, Cond.code yX4_before cX4_before 4 (some .int), Cond.fieldLink RX4 22 "StreamMultiplexerModel" "held" "[I", Cond.methodLink RX4 73 yX4_sendNext, Cond.instanceMethod yX4_sendNext, Cond.selects RX4 yX4_sendNext yX4_sendNext, Cond.code yX4_sendNext cX4_sendNext 5 (some .int), Cond.methodLink RX4 69 yX4_nextStream, Cond.instanceMethod yX4_nextStream, Cond.selects RX4 yX4_nextStream yX4_nextStream]
def wsX4_frame_r2 : List Cond := [Cond.code yX4_nextStream cX4_nextStream 4 (some .int), Cond.methodLink RX4 65 yX4_isCandidate, Cond.instanceMethod yX4_isCandidate, Cond.selects RX4 yX4_isCandidate yX4_isCandidate, Cond.code yX4_isCandidate cX4_isCandidate 2 (some .boolean), Cond.methodLink RX4 62 yX4_blocking, Cond.instanceMethod yX4_blocking, Cond.selects RX4 yX4_blocking yX4_blocking, Cond.code yX4_blocking cX4_blocking 6 (some .int), Cond.fieldLink RX4 19 "StreamMultiplexerModel" "after" "[I", Cond.methodLink RX4 55 yX4_orderOf, Cond.static yX4_orderOf, Cond.code yX4_orderOf cX4_orderOf 1 (some .int), Cond.methodLink RX4 58 yX4_layAfter, Cond.instanceMethod yX4_layAfter, Cond.selects RX4 yX4_layAfter yX4_layAfter, Cond.code yX4_layAfter cX4_layAfter 4 none, Cond.methodLink RX4 43 yX4_has, Cond.static yX4_has, Cond.code yX4_has cX4_has 2 (some .boolean)]
def wsX4_frame : List Cond := .code yX4_frame cX4_frame 4 (some .int) :: ((wsX4_frame_r1 ++ wsX4_frame_r2) ++ wsX40)
def wsX4_log : List Cond := .code yX4_log cX4_log 3 (some .int) :: ([.fieldLink RX4 7 "StreamMultiplexerModel" "w" "[I", .methodLink RX4 35 yX4_isIn, .static yX4_isIn, .initialized RX4, .code yX4_isIn cX4_isIn 3 (some .boolean)] ++ wsX40)
def wsX4_relation : List Cond := .code yX4_relation cX4_relation 5 (some .int) :: ([.fieldLink RX4 19 "StreamMultiplexerModel" "after" "[I", .fieldLink RX4 7 "StreamMultiplexerModel" "w" "[I", .methodLink RX4 113 yX4_isOrder, .instanceMethod yX4_isOrder, .selects RX4 yX4_isOrder yX4_isOrder, .initialized RX4, .code yX4_isOrder cX4_isOrder 2 (some .boolean), .methodLink RX4 35 yX4_isIn, .static yX4_isIn, .code yX4_isIn cX4_isIn 3 (some .boolean), .methodLink RX4 76 yX4_isStream, .static yX4_isStream, .code yX4_isStream cX4_isStream 1 (some .boolean), .methodLink RX4 55 yX4_orderOf, .static yX4_orderOf, .code yX4_orderOf cX4_orderOf 1 (some .int), .methodLink RX4 58 yX4_layAfter, .instanceMethod yX4_layAfter, .selects RX4 yX4_layAfter yX4_layAfter, .code yX4_layAfter cX4_layAfter 4 none, .methodLink RX4 43 yX4_has, .static yX4_has, .code yX4_has cX4_has 2 (some .boolean)] ++ wsX40)
def wsX4_openSet : List Cond := .code yX4_openSet cX4_openSet 3 (some .int) :: ([.fieldLink RX4 7 "StreamMultiplexerModel" "w" "[I"] ++ wsX40)
def wsX4_pairs : List Cond := .code yX4_pairs cX4_pairs 4 (some .int) :: ([.fieldLink RX4 19 "StreamMultiplexerModel" "after" "[I", .methodLink RX4 43 yX4_has, .static yX4_has, .initialized RX4, .code yX4_has cX4_has 2 (some .boolean), .methodLink RX4 47 yX4_size, .static yX4_size, .code yX4_size cX4_size 3 (some .int)] ++ wsX40)
def wsX4_longest : List Cond := .code yX4_longest cX4_longest 7 (some .int) :: ([.fieldLink RX4 19 "StreamMultiplexerModel" "after" "[I", .fieldLink RX4 28 "StreamMultiplexerModel" "chain" "[I", .methodLink RX4 43 yX4_has, .static yX4_has, .initialized RX4, .code yX4_has cX4_has 2 (some .boolean)] ++ wsX40)
def wsX4_widest : List Cond := .code yX4_widest cX4_widest 4 (some .int) :: ([.methodLink RX4 116 yX4_pairs, .instanceMethod yX4_pairs, .selects RX4 yX4_pairs yX4_pairs, .initialized RX4, .code yX4_pairs cX4_pairs 4 (some .int), .fieldLink RX4 19 "StreamMultiplexerModel" "after" "[I", .methodLink RX4 43 yX4_has, .static yX4_has, .code yX4_has cX4_has 2 (some .boolean), .methodLink RX4 47 yX4_size, .static yX4_size, .code yX4_size cX4_size 3 (some .int)] ++ wsX40)
def wsX4_first : List Cond := .code yX4_first cX4_first 4 (some .int) :: ([.fieldLink RX4 19 "StreamMultiplexerModel" "after" "[I", .methodLink RX4 43 yX4_has, .static yX4_has, .initialized RX4, .code yX4_has cX4_has 2 (some .boolean), .methodLink RX4 47 yX4_size, .static yX4_size, .code yX4_size cX4_size 3 (some .int)] ++ wsX40)
def wsX4_superfluous : List Cond := .code yX4_superfluous cX4_superfluous 6 (some .int) :: ([.fieldLink RX4 7 "StreamMultiplexerModel" "w" "[I", .fieldLink RX4 19 "StreamMultiplexerModel" "after" "[I", .methodLink RX4 43 yX4_has, .static yX4_has, .initialized RX4, .code yX4_has cX4_has 2 (some .boolean), .methodLink RX4 47 yX4_size, .static yX4_size, .code yX4_size cX4_size 3 (some .int)] ++ wsX40)
def wsX4_order_r1 : List Cond := [Cond.methodLink RX4 113 yX4_isOrder, Cond.instanceMethod yX4_isOrder, Cond.selects RX4 yX4_isOrder yX4_isOrder, Cond.initialized RX4, Cond.code yX4_isOrder cX4_isOrder 2 (some .boolean), Cond.fieldLink RX4 7 "StreamMultiplexerModel" "w" "[I", Cond.methodLink RX4 35 yX4_isIn, Cond.static yX4_isIn, Cond.code yX4_isIn cX4_isIn 3 (some .boolean), Cond.methodLink RX4 55 yX4_orderOf, Cond.static yX4_orderOf, Cond.code yX4_orderOf cX4_orderOf 1 (some .int), Cond.methodLink RX4 58 yX4_layAfter, Cond.instanceMethod yX4_layAfter, Cond.selects RX4 yX4_layAfter yX4_layAfter, Cond.code yX4_layAfter cX4_layAfter 4 none, Cond.fieldLink RX4 19 "StreamMultiplexerModel" "after" "[I", Cond.methodLink RX4 43 yX4_has, Cond.static yX4_has, Cond.code yX4_has cX4_has 2 (some .boolean), Cond.methodLink RX4 119 yX4_openSet, Cond.instanceMethod yX4_openSet, Cond.selects RX4 yX4_openSet yX4_openSet, Cond.code yX4_openSet cX4_openSet 3 (some .int)]
def wsX4_order_r2 : List Cond := [Cond.methodLink RX4 116 yX4_pairs, Cond.instanceMethod yX4_pairs, Cond.selects RX4 yX4_pairs yX4_pairs, Cond.code yX4_pairs cX4_pairs 4 (some .int), Cond.methodLink RX4 47 yX4_size, Cond.static yX4_size, Cond.code yX4_size cX4_size 3 (some .int), Cond.methodLink RX4 122 yX4_longest, Cond.instanceMethod yX4_longest, Cond.selects RX4 yX4_longest yX4_longest, Cond.code yX4_longest cX4_longest 7 (some .int), Cond.fieldLink RX4 28 "StreamMultiplexerModel" "chain" "[I", Cond.methodLink RX4 125 yX4_widest, Cond.instanceMethod yX4_widest, Cond.selects RX4 yX4_widest yX4_widest, Cond.code yX4_widest cX4_widest 4 (some .int), Cond.methodLink RX4 128 yX4_first, Cond.instanceMethod yX4_first, Cond.selects RX4 yX4_first yX4_first, Cond.code yX4_first cX4_first 4 (some .int), Cond.methodLink RX4 131 yX4_superfluous, Cond.instanceMethod yX4_superfluous, Cond.selects RX4 yX4_superfluous yX4_superfluous, Cond.code yX4_superfluous cX4_superfluous 6 (some .int)]
def wsX4_order : List Cond := .code yX4_order cX4_order 4 (some .int) :: ((wsX4_order_r1 ++ wsX4_order_r2) ++ wsX40)
def wsX4_lists_r1 : List Cond := [Cond.constantLong RX4 134 (-1), Cond.fieldLink RX4 31 "StreamMultiplexerModel" "counts" "[J", Cond.fieldLink RX4 19 "StreamMultiplexerModel" "after" "[I", Cond.methodLink RX4 113 yX4_isOrder, Cond.instanceMethod yX4_isOrder, Cond.selects RX4 yX4_isOrder yX4_isOrder, Cond.initialized RX4, Cond.code yX4_isOrder cX4_isOrder 2 (some .boolean), Cond.fieldLink RX4 7 "StreamMultiplexerModel" "w" "[I", Cond.methodLink RX4 35 yX4_isIn, Cond.static yX4_isIn, Cond.code yX4_isIn cX4_isIn 3 (some .boolean), Cond.methodLink RX4 55 yX4_orderOf, Cond.static yX4_orderOf, Cond.code yX4_orderOf cX4_orderOf 1 (some .int), Cond.methodLink RX4 58 yX4_layAfter, Cond.instanceMethod yX4_layAfter, Cond.selects RX4 yX4_layAfter yX4_layAfter, Cond.code yX4_layAfter cX4_layAfter 4 none, Cond.methodLink RX4 43 yX4_has, Cond.static yX4_has, Cond.code yX4_has cX4_has 2 (some .boolean), Cond.methodLink RX4 119 yX4_openSet, Cond.instanceMethod yX4_openSet]
def wsX4_lists_r2 : List Cond := [Cond.selects RX4 yX4_openSet yX4_openSet, Cond.code yX4_openSet cX4_openSet 3 (some .int)]
def wsX4_lists : List Cond := .code yX4_lists cX4_lists 6 (some .long) :: ((wsX4_lists_r1 ++ wsX4_lists_r2) ++ wsX40)
def wsX4_isImage : List Cond := .code yX4_isImage cX4_isImage 1 (some .boolean) :: ([.methodLink RX4 35 yX4_isIn, .static yX4_isIn, .initialized RX4, .code yX4_isIn cX4_isIn 3 (some .boolean)])
def wsX4_keep : List Cond := .code yX4_keep cX4_keep 3 (some .int) :: ([.fieldLink RX4 16 "StreamMultiplexerModel" "images" "[I", .fieldLink RX4 7 "StreamMultiplexerModel" "w" "[I", .fieldLink RX4 139 "StreamMultiplexerModel" "filled" "I", .methodLink RX4 136 yX4_isImage, .static yX4_isImage, .initialized RX4, .code yX4_isImage cX4_isImage 1 (some .boolean), .methodLink RX4 35 yX4_isIn, .static yX4_isIn, .code yX4_isIn cX4_isIn 3 (some .boolean), .methodLink RX4 94 yX4_waiting, .instanceMethod yX4_waiting, .selects RX4 yX4_waiting yX4_waiting, .code yX4_waiting cX4_waiting 3 (some .int)] ++ wsX40)
def wsX4_back : List Cond := .code yX4_back cX4_back 3 (some .int) :: ([.fieldLink RX4 139 "StreamMultiplexerModel" "filled" "I", .fieldLink RX4 7 "StreamMultiplexerModel" "w" "[I", .fieldLink RX4 16 "StreamMultiplexerModel" "images" "[I", .methodLink RX4 136 yX4_isImage, .static yX4_isImage, .initialized RX4, .code yX4_isImage cX4_isImage 1 (some .boolean), .methodLink RX4 35 yX4_isIn, .static yX4_isIn, .code yX4_isIn cX4_isIn 3 (some .boolean), .methodLink RX4 43 yX4_has, .static yX4_has, .code yX4_has cX4_has 2 (some .boolean), .methodLink RX4 82 yX4_remember, .instanceMethod yX4_remember, .selects RX4 yX4_remember yX4_remember, .code yX4_remember cX4_remember 2 none, .fieldLink RX4 39 "StreamMultiplexerModel" "pastMany" "I", .fieldLink RX4 13 "StreamMultiplexerModel" "past" "[I", .methodLink RX4 94 yX4_waiting, .instanceMethod yX4_waiting, .selects RX4 yX4_waiting yX4_waiting, .code yX4_waiting cX4_waiting 3 (some .int)] ++ wsX40)
def wsJ9_max_7cf53 : List Cond := .code yJ9_max_7cf53 cJ9_max_7cf53 2 (some .int) :: ([])
def wsJ9_min_7cf53 : List Cond := .code yJ9_min_7cf53 cJ9_min_7cf53 2 (some .int) :: ([])
def wsL_law_r1 : List Cond := [Cond.classLink RL 7 RX3, Cond.instantiable RX3 7, Cond.initialized RX3, Cond.classLink RL 10 RX4, Cond.instantiable RX4 10, Cond.initialized RX4, Cond.methodLink RL 9 yX3_init, Cond.instanceMethod yX3_init, Cond.code yX3_init cX3_init 2 none, Cond.methodLink RX3 1 objectInit, Cond.instanceMethod objectInit, Cond.code objectInit ⟨#[0xb1]⟩ 1 none, Cond.classLink RX3 7 RX2, Cond.instantiable RX2 10, Cond.initialized RX2, Cond.fieldLink RX3 10 "StreamMultiplexer" "present" "LStreamMultiplexer$State;", Cond.fieldLink RX3 16 "StreamMultiplexer" "forecast" "LStreamMultiplexer$State;", Cond.fieldLink RX3 19 "StreamMultiplexer" "history" "[LStreamMultiplexer$State;", Cond.fieldLink RX3 23 "StreamMultiplexer" "historyCount" "I", Cond.fieldLink RX3 27 "StreamMultiplexer" "images" "[LStreamMultiplexer$State;", Cond.arrayClass .boolean, Cond.fieldLink RX3 30 "StreamMultiplexer" "kept" "[Z", Cond.arrayClass .long, Cond.fieldLink RX3 34 "StreamMultiplexer" "listsOfSet" "[J"]
def wsL_law_r2 : List Cond := [Cond.methodLink RX3 9 yX2_init, Cond.instanceMethod yX2_init, Cond.code yX2_init cX2_init 2 none, Cond.methodLink RX2 3 objectInit, Cond.fieldLink RX2 9 "StreamMultiplexer$State" "opened" "I", Cond.arrayClass .int, Cond.fieldLink RX2 15 "StreamMultiplexer$State" "weights" "[I", Cond.fieldLink RX2 19 "StreamMultiplexer$State" "amounts" "[I", Cond.classLink RX2 22 RX0, Cond.fieldLink RX2 24 "StreamMultiplexer$State" "queues" "[LStreamMultiplexer$Frames;", Cond.instantiable RX0 5, Cond.initialized RX0, Cond.classLink RX2 31 RX1, Cond.instantiable RX1 2, Cond.initialized RX1, Cond.fieldLink RX2 34 "StreamMultiplexer$State" "draft" "LStreamMultiplexer$Order;", Cond.fieldLink RX2 38 "StreamMultiplexer$State" "orders" "[LStreamMultiplexer$Order;", Cond.fieldLink RX2 42 "StreamMultiplexer$State" "epochCount" "I", Cond.fieldLink RX2 45 "StreamMultiplexer$State" "came" "I", Cond.fieldLink RX2 48 "StreamMultiplexer$State" "sent" "I", Cond.fieldLink RX2 51 "StreamMultiplexer$State" "sentFrames" "LStreamMultiplexer$Frames;", Cond.methodLink RX2 28 yX0_init, Cond.instanceMethod yX0_init, Cond.code yX0_init cX0_init 3 none]
def wsL_law_r3 : List Cond := [Cond.methodLink RX0 3 objectInit, Cond.methodLink RX0 9 Lib.Math.max.name, Cond.static Lib.Math.max.name, Cond.initialized "java/lang/Math", Cond.code Lib.Math.max.name Lib.Math.max.code 2 (some .int), Cond.fieldLink RX0 15 "StreamMultiplexer$Frames" "numbers" "[I", Cond.fieldLink RX0 21 "StreamMultiplexer$Frames" "streams" "[I", Cond.fieldLink RX0 24 "StreamMultiplexer$Frames" "sizes" "[I", Cond.fieldLink RX0 27 "StreamMultiplexer$Frames" "epochs" "[I", Cond.fieldLink RX0 30 "StreamMultiplexer$Frames" "count" "I", Cond.methodLink RX2 33 yX1_init, Cond.instanceMethod yX1_init, Cond.code yX1_init cX1_init 1 none, Cond.methodLink RX1 3 objectInit, Cond.fieldLink RX1 9 "StreamMultiplexer$Order" "next" "[I", Cond.fieldLink RX1 15 "StreamMultiplexer$Order" "preceded" "[I", Cond.methodLink RL 12 yX4_init, Cond.instanceMethod yX4_init, Cond.code yX4_init cX4_init 1 none, Cond.methodLink RX4 1 objectInit, Cond.fieldLink RX4 7 "StreamMultiplexerModel" "w" "[I", Cond.fieldLink RX4 13 "StreamMultiplexerModel" "past" "[I", Cond.fieldLink RX4 16 "StreamMultiplexerModel" "images" "[I", Cond.fieldLink RX4 19 "StreamMultiplexerModel" "after" "[I"]
def wsL_law_r4 : List Cond := [Cond.fieldLink RX4 22 "StreamMultiplexerModel" "held" "[I", Cond.fieldLink RX4 25 "StreamMultiplexerModel" "left" "[I", Cond.fieldLink RX4 28 "StreamMultiplexerModel" "chain" "[I", Cond.fieldLink RX4 31 "StreamMultiplexerModel" "counts" "[J", Cond.methodLink RL 13 yX3_open, Cond.instanceMethod yX3_open, Cond.selects RX3 yX3_open yX3_open, Cond.code yX3_open cX3_open 3 (some .int), Cond.fieldLink RX3 56 "StreamMultiplexer$State" "opened" "I", Cond.methodLink RX3 38 yX3_isStream, Cond.static yX3_isStream, Cond.code yX3_isStream cX3_isStream 1 (some .boolean), Cond.methodLink RX3 42 yX3_isWithin, Cond.static yX3_isWithin, Cond.code yX3_isWithin cX3_isWithin 3 (some .boolean), Cond.methodLink RX3 46 yX2_isOpen, Cond.instanceMethod yX2_isOpen, Cond.selects RX2 yX2_isOpen yX2_isOpen, Cond.code yX2_isOpen cX2_isOpen 2 (some .boolean), Cond.static yX3_isIn, Cond.code yX3_isIn cX3_isIn 2 (some .boolean), Cond.methodLink RX3 49 yX3_record, Cond.instanceMethod yX3_record, Cond.selects RX3 yX3_record yX3_record]
def wsL_law_r5 : List Cond := [Cond.code yX3_record cX3_record 1 none, Cond.methodLink RX3 224 yX3_dropOldest, Cond.instanceMethod yX3_dropOldest, Cond.selects RX3 yX3_dropOldest yX3_dropOldest, Cond.code yX3_dropOldest cX3_dropOldest 3 none, Cond.methodLink RX3 221 yX2_copyFrom, Cond.instanceMethod yX2_copyFrom, Cond.selects RX2 yX2_copyFrom yX2_copyFrom, Cond.code yX2_copyFrom cX2_copyFrom 3 none, Cond.methodLink RX2 55 yX0_copyFrom, Cond.instanceMethod yX0_copyFrom, Cond.selects RX0 yX0_copyFrom yX0_copyFrom, Cond.code yX0_copyFrom cX0_copyFrom 3 none, Cond.methodLink RX0 34 Lib.Math.min.name, Cond.static Lib.Math.min.name, Cond.code Lib.Math.min.name Lib.Math.min.code 2 (some .int), Cond.methodLink RX2 59 yX1_copyFrom, Cond.instanceMethod yX1_copyFrom, Cond.selects RX1 yX1_copyFrom yX1_copyFrom, Cond.code yX1_copyFrom cX1_copyFrom 3 none, Cond.methodLink RX3 52 yX2_openStream, Cond.instanceMethod yX2_openStream, Cond.selects RX2 yX2_openStream yX2_openStream, Cond.code yX2_openStream cX2_openStream 3 none]
def wsL_law_r6 : List Cond := [Cond.static yX3_setOf, Cond.code yX3_setOf cX3_setOf 1 (some .int), Cond.methodLink RX3 59 yJ6_bitCount_0f7a4, Cond.static yJ6_bitCount_0f7a4, Cond.initialized RJ6, Cond.code yJ6_bitCount_0f7a4 cJ6_bitCount_0f7a4 1 (some .int), Cond.constant RJ6 265 (1431655765), Cond.constant RJ6 266 (858993459), Cond.constant RJ6 267 (252645135), Cond.methodLink RL 17 yX4_open, Cond.instanceMethod yX4_open, Cond.selects RX4 yX4_open yX4_open, Cond.code yX4_open cX4_open 3 (some .int), Cond.methodLink RX4 76 yX4_isStream, Cond.static yX4_isStream, Cond.code yX4_isStream cX4_isStream 1 (some .boolean), Cond.methodLink RX4 35 yX4_isIn, Cond.static yX4_isIn, Cond.code yX4_isIn cX4_isIn 3 (some .boolean), Cond.methodLink RX4 79 yX4_isOpen, Cond.instanceMethod yX4_isOpen, Cond.selects RX4 yX4_isOpen yX4_isOpen, Cond.code yX4_isOpen cX4_isOpen 2 (some .boolean), Cond.methodLink RX4 82 yX4_remember]
def wsL_law_r7 : List Cond := [Cond.instanceMethod yX4_remember, Cond.selects RX4 yX4_remember yX4_remember, Cond.code yX4_remember cX4_remember 2 none, Cond.fieldLink RX4 39 "StreamMultiplexerModel" "pastMany" "I", Cond.methodLink RX4 85 yX4_opened, Cond.instanceMethod yX4_opened, Cond.selects RX4 yX4_opened yX4_opened, Cond.code yX4_opened cX4_opened 3 (some .int), Cond.methodLink RL 18 yX3_close, Cond.instanceMethod yX3_close, Cond.selects RX3 yX3_close yX3_close, Cond.code yX3_close cX3_close 2 (some .int), Cond.fieldLink RX3 65 "StreamMultiplexer$State" "queues" "[LStreamMultiplexer$Frames;", Cond.fieldLink RX3 69 "StreamMultiplexer$Frames" "count" "I", Cond.fieldLink RX3 78 "StreamMultiplexer$State" "amounts" "[I", Cond.methodLink RX3 74 yX2_closeStream, Cond.instanceMethod yX2_closeStream, Cond.selects RX2 yX2_closeStream yX2_closeStream, Cond.code yX2_closeStream cX2_closeStream 2 none, Cond.methodLink RL 22 yX4_close, Cond.instanceMethod yX4_close, Cond.selects RX4 yX4_close yX4_close, Cond.code yX4_close cX4_close 3 (some .int), Cond.methodLink RL 23 yX3_setWeight]
def wsL_law_r8 : List Cond := [Cond.instanceMethod yX3_setWeight, Cond.selects RX3 yX3_setWeight yX3_setWeight, Cond.code yX3_setWeight cX3_setWeight 4 (some .int), Cond.fieldLink RX3 82 "StreamMultiplexer$State" "weights" "[I", Cond.methodLink RL 26 yX4_setWeight, Cond.instanceMethod yX4_setWeight, Cond.selects RX4 yX4_setWeight yX4_setWeight, Cond.code yX4_setWeight cX4_setWeight 4 (some .int), Cond.methodLink RL 27 yX3_push, Cond.instanceMethod yX3_push, Cond.selects RX3 yX3_push yX3_push, Cond.code yX3_push cX3_push 3 (some .int), Cond.methodLink RX3 85 yX0_isFull, Cond.instanceMethod yX0_isFull, Cond.selects RX0 yX0_isFull yX0_isFull, Cond.code yX0_isFull cX0_isFull 1 (some .boolean), Cond.methodLink RX3 89 yX2_takeFrame, Cond.instanceMethod yX2_takeFrame, Cond.selects RX2 yX2_takeFrame yX2_takeFrame, Cond.code yX2_takeFrame cX2_takeFrame 4 (some .int), Cond.methodLink RX2 74 yX2_currentEpoch, Cond.instanceMethod yX2_currentEpoch, Cond.selects RX2 yX2_currentEpoch yX2_currentEpoch, Cond.code yX2_currentEpoch cX2_currentEpoch 1 (some .int)]
def wsL_law_r9 : List Cond := [Cond.methodLink RX2 78 yX0_add, Cond.instanceMethod yX0_add, Cond.selects RX0 yX0_add yX0_add, Cond.code yX0_add cX0_add 5 none, Cond.methodLink RX0 41 yX0_isFull, Cond.methodLink RL 30 yX4_push, Cond.instanceMethod yX4_push, Cond.selects RX4 yX4_push yX4_push, Cond.code yX4_push cX4_push 4 (some .int), Cond.methodLink RL 31 yX3_edge, Cond.instanceMethod yX3_edge, Cond.selects RX3 yX3_edge yX3_edge, Cond.code yX3_edge cX3_edge 5 (some .int), Cond.fieldLink RX3 97 "StreamMultiplexer$State" "draft" "LStreamMultiplexer$Order;", Cond.methodLink RX3 93 yX3_areTwoStreams, Cond.static yX3_areTwoStreams, Cond.code yX3_areTwoStreams cX3_areTwoStreams 2 (some .boolean), Cond.methodLink RX3 101 yX1_precedes, Cond.instanceMethod yX1_precedes, Cond.selects RX1 yX1_precedes yX1_precedes, Cond.code yX1_precedes cX1_precedes 3 (some .boolean), Cond.methodLink RX3 106 yX1_hasEdge, Cond.instanceMethod yX1_hasEdge, Cond.selects RX1 yX1_hasEdge yX1_hasEdge]
def wsL_law_r10 : List Cond := [Cond.code yX1_hasEdge cX1_hasEdge 3 (some .boolean), Cond.methodLink RX3 109 yX1_putEdge, Cond.instanceMethod yX1_putEdge, Cond.selects RX1 yX1_putEdge yX1_putEdge, Cond.code yX1_putEdge cX1_putEdge 4 none, Cond.methodLink RX1 33 yX1_findPreceded, Cond.instanceMethod yX1_findPreceded, Cond.selects RX1 yX1_findPreceded yX1_findPreceded, Cond.code yX1_findPreceded cX1_findPreceded 3 none, Cond.methodLink RL 35 yX4_edge, Cond.instanceMethod yX4_edge, Cond.selects RX4 yX4_edge yX4_edge, Cond.code yX4_edge cX4_edge 5 (some .int), Cond.methodLink RX4 58 yX4_layAfter, Cond.instanceMethod yX4_layAfter, Cond.selects RX4 yX4_layAfter yX4_layAfter, Cond.code yX4_layAfter cX4_layAfter 4 none, Cond.methodLink RX4 43 yX4_has, Cond.static yX4_has, Cond.code yX4_has cX4_has 2 (some .boolean), Cond.methodLink RL 36 yX3_commit, Cond.instanceMethod yX3_commit, Cond.selects RX3 yX3_commit yX3_commit, Cond.code yX3_commit cX3_commit 1 (some .int)]
def wsL_law_r11 : List Cond := [Cond.fieldLink RX3 113 "StreamMultiplexer$State" "epochCount" "I", Cond.methodLink RX3 116 yX2_beginEpoch, Cond.instanceMethod yX2_beginEpoch, Cond.selects RX2 yX2_beginEpoch yX2_beginEpoch, Cond.code yX2_beginEpoch cX2_beginEpoch 1 none, Cond.methodLink RX3 119 yX2_currentEpoch, Cond.methodLink RL 40 yX4_commit, Cond.instanceMethod yX4_commit, Cond.selects RX4 yX4_commit yX4_commit, Cond.code yX4_commit cX4_commit 2 (some .int), Cond.methodLink RX4 55 yX4_orderOf, Cond.static yX4_orderOf, Cond.code yX4_orderOf cX4_orderOf 1 (some .int), Cond.methodLink RL 41 yX3_revert, Cond.instanceMethod yX3_revert, Cond.selects RX3 yX3_revert yX3_revert, Cond.code yX3_revert cX3_revert 2 (some .int), Cond.methodLink RX3 123 yX3_isEpoch, Cond.instanceMethod yX3_isEpoch, Cond.selects RX3 yX3_isEpoch yX3_isEpoch, Cond.code yX3_isEpoch cX3_isEpoch 2 (some .boolean), Cond.methodLink RX3 126 yX2_orderOf, Cond.instanceMethod yX2_orderOf, Cond.selects RX2 yX2_orderOf yX2_orderOf]
def wsL_law_r12 : List Cond := [Cond.code yX2_orderOf cX2_orderOf 2 (some (.object "StreamMultiplexer$Order")), Cond.methodLink RX3 130 yX1_copyFrom, Cond.methodLink RX3 134 yX1_edgeCount, Cond.instanceMethod yX1_edgeCount, Cond.selects RX1 yX1_edgeCount yX1_edgeCount, Cond.code yX1_edgeCount cX1_edgeCount 3 (some .int), Cond.methodLink RX1 36 yJ6_bitCount_0f7a4, Cond.methodLink RL 44 yX4_revert, Cond.instanceMethod yX4_revert, Cond.selects RX4 yX4_revert yX4_revert, Cond.code yX4_revert cX4_revert 3 (some .int), Cond.methodLink RX4 88 yX4_edges, Cond.instanceMethod yX4_edges, Cond.selects RX4 yX4_edges yX4_edges, Cond.code yX4_edges cX4_edges 4 (some .int), Cond.methodLink RX4 47 yX4_size, Cond.static yX4_size, Cond.code yX4_size cX4_size 3 (some .int), Cond.methodLink RL 45 yX3_witness, Cond.instanceMethod yX3_witness, Cond.selects RX3 yX3_witness yX3_witness, Cond.code yX3_witness cX3_witness 5 (some .int), Cond.methodLink RX3 137 yX1_distance, Cond.instanceMethod yX1_distance]
def wsL_law_r13 : List Cond := [Cond.selects RX1 yX1_distance yX1_distance, Cond.code yX1_distance cX1_distance 5 (some .int), Cond.methodLink RX1 41 yX1_nextOfAll, Cond.instanceMethod yX1_nextOfAll, Cond.selects RX1 yX1_nextOfAll yX1_nextOfAll, Cond.code yX1_nextOfAll cX1_nextOfAll 4 (some .int), Cond.methodLink RX3 140 yX1_streamOfWalk, Cond.instanceMethod yX1_streamOfWalk, Cond.selects RX1 yX1_streamOfWalk yX1_streamOfWalk, Cond.code yX1_streamOfWalk cX1_streamOfWalk 7 (some .int), Cond.methodLink RX1 44 yX1_distance, Cond.methodLink RX1 48 yX1_lowestNextAt, Cond.instanceMethod yX1_lowestNextAt, Cond.selects RX1 yX1_lowestNextAt yX1_lowestNextAt, Cond.code yX1_lowestNextAt cX1_lowestNextAt 5 (some .int), Cond.methodLink RX1 52 yX1_hasEdge, Cond.methodLink RL 48 yX4_witness, Cond.instanceMethod yX4_witness, Cond.selects RX4 yX4_witness yX4_witness, Cond.code yX4_witness cX4_witness 7 (some .int), Cond.methodLink RX4 91 yX4_layLeft, Cond.instanceMethod yX4_layLeft, Cond.selects RX4 yX4_layLeft yX4_layLeft, Cond.code yX4_layLeft cX4_layLeft 5 none]
def wsL_law_r14 : List Cond := [Cond.methodLink RL 49 yX3_send, Cond.instanceMethod yX3_send, Cond.selects RX3 yX3_send yX3_send, Cond.code yX3_send cX3_send 3 (some .int), Cond.methodLink RX3 144 yX2_nextStream, Cond.instanceMethod yX2_nextStream, Cond.selects RX2 yX2_nextStream yX2_nextStream, Cond.code yX2_nextStream cX2_nextStream 3 (some .int), Cond.methodLink RX2 104 yX2_isCandidate, Cond.instanceMethod yX2_isCandidate, Cond.selects RX2 yX2_isCandidate yX2_isCandidate, Cond.code yX2_isCandidate cX2_isCandidate 2 (some .boolean), Cond.fieldLink RX2 82 "StreamMultiplexer$Frames" "count" "I", Cond.methodLink RX2 101 yX2_blockersOfFirst, Cond.instanceMethod yX2_blockersOfFirst, Cond.selects RX2 yX2_blockersOfFirst yX2_blockersOfFirst, Cond.code yX2_blockersOfFirst cX2_blockersOfFirst 6 (some .int), Cond.methodLink RX2 88 yX0_epochAt, Cond.instanceMethod yX0_epochAt, Cond.selects RX0 yX0_epochAt yX0_epochAt, Cond.code yX0_epochAt cX0_epochAt 2 (some .int), Cond.methodLink RX0 37 yX0_hasFrame, Cond.instanceMethod yX0_hasFrame, Cond.selects RX0 yX0_hasFrame yX0_hasFrame]
def wsL_law_r15 : List Cond := [Cond.code yX0_hasFrame cX0_hasFrame 2 (some .boolean), Cond.methodLink RX2 91 yX2_orderOf, Cond.methodLink RX2 95 yX1_precedes, Cond.methodLink RX2 98 yX0_countOfEpochUpTo, Cond.instanceMethod yX0_countOfEpochUpTo, Cond.selects RX0 yX0_countOfEpochUpTo yX0_countOfEpochUpTo, Cond.code yX0_countOfEpochUpTo cX0_countOfEpochUpTo 4 (some .int), Cond.methodLink RX2 107 yX2_isLessServed, Cond.instanceMethod yX2_isLessServed, Cond.selects RX2 yX2_isLessServed yX2_isLessServed, Cond.code yX2_isLessServed cX2_isLessServed 3 (some .boolean), Cond.methodLink RX3 147 yX0_numberAt, Cond.instanceMethod yX0_numberAt, Cond.selects RX0 yX0_numberAt yX0_numberAt, Cond.code yX0_numberAt cX0_numberAt 2 (some .int), Cond.methodLink RX3 150 yX2_sendFirst, Cond.instanceMethod yX2_sendFirst, Cond.selects RX2 yX2_sendFirst yX2_sendFirst, Cond.code yX2_sendFirst cX2_sendFirst 4 none, Cond.methodLink RX2 110 yX0_sizeAt, Cond.instanceMethod yX0_sizeAt, Cond.selects RX0 yX0_sizeAt yX0_sizeAt, Cond.code yX0_sizeAt cX0_sizeAt 2 (some .int), Cond.methodLink RX2 113 yX0_isFull]
def wsL_law_r16 : List Cond := [Cond.methodLink RX2 117 yX0_removeFirst, Cond.instanceMethod yX0_removeFirst, Cond.selects RX0 yX0_removeFirst yX0_removeFirst, Cond.code yX0_removeFirst cX0_removeFirst 2 none, Cond.methodLink RX2 120 yX0_numberAt, Cond.methodLink RL 52 yX4_send, Cond.instanceMethod yX4_send, Cond.selects RX4 yX4_send yX4_send, Cond.code yX4_send cX4_send 1 (some .int), Cond.methodLink RX4 94 yX4_waiting, Cond.instanceMethod yX4_waiting, Cond.selects RX4 yX4_waiting yX4_waiting, Cond.code yX4_waiting cX4_waiting 3 (some .int), Cond.methodLink RX4 73 yX4_sendNext, Cond.instanceMethod yX4_sendNext, Cond.selects RX4 yX4_sendNext yX4_sendNext, Cond.code yX4_sendNext cX4_sendNext 5 (some .int), Cond.methodLink RX4 69 yX4_nextStream, Cond.instanceMethod yX4_nextStream, Cond.selects RX4 yX4_nextStream yX4_nextStream, Cond.code yX4_nextStream cX4_nextStream 4 (some .int), Cond.methodLink RX4 65 yX4_isCandidate, Cond.instanceMethod yX4_isCandidate, Cond.selects RX4 yX4_isCandidate yX4_isCandidate]
def wsL_law_r17 : List Cond := [Cond.code yX4_isCandidate cX4_isCandidate 2 (some .boolean), Cond.methodLink RX4 62 yX4_blocking, Cond.instanceMethod yX4_blocking, Cond.selects RX4 yX4_blocking yX4_blocking, Cond.code yX4_blocking cX4_blocking 6 (some .int), Cond.methodLink RX4 51 yX4_frameAt, Cond.instanceMethod yX4_frameAt, Cond.selects RX4 yX4_frameAt yX4_frameAt, Cond.code yX4_frameAt cX4_frameAt 4 (some .int), Cond.methodLink RL 53 yX3_sendSome, Cond.instanceMethod yX3_sendSome, Cond.selects RX3 yX3_sendSome yX3_sendSome, Cond.code yX3_sendSome cX3_sendSome 5 (some .int), Cond.methodLink RX3 153 yX0_sizeAt, Cond.methodLink RL 56 yX4_sendSome, Cond.instanceMethod yX4_sendSome, Cond.selects RX4 yX4_sendSome yX4_sendSome, Cond.code yX4_sendSome cX4_sendSome 7 (some .int), Cond.methodLink RL 57 yX3_undo, Cond.instanceMethod yX3_undo, Cond.selects RX3 yX3_undo yX3_undo, Cond.code yX3_undo cX3_undo 2 (some .int), Cond.methodLink RL 60 yX4_undo, Cond.instanceMethod yX4_undo]
def wsL_law_r18 : List Cond := [Cond.selects RX4 yX4_undo yX4_undo, Cond.code yX4_undo cX4_undo 2 (some .int), Cond.methodLink RL 61 yX3_told, Cond.instanceMethod yX3_told, Cond.selects RX3 yX3_told yX3_told, Cond.code yX3_told cX3_told 2 (some .int), Cond.fieldLink RX3 159 "StreamMultiplexer$State" "came" "I", Cond.fieldLink RX3 162 "StreamMultiplexer$State" "sent" "I", Cond.fieldLink RX3 171 "StreamMultiplexer$State" "sentFrames" "LStreamMultiplexer$Frames;", Cond.methodLink RX3 156 yX2_waitingCount, Cond.instanceMethod yX2_waitingCount, Cond.selects RX2 yX2_waitingCount yX2_waitingCount, Cond.code yX2_waitingCount cX2_waitingCount 3 (some .int), Cond.methodLink RX3 165 yX2_waitingSize, Cond.instanceMethod yX2_waitingSize, Cond.selects RX2 yX2_waitingSize yX2_waitingSize, Cond.code yX2_waitingSize cX2_waitingSize 3 (some .int), Cond.methodLink RX2 85 yX0_sizeOfAll, Cond.instanceMethod yX0_sizeOfAll, Cond.selects RX0 yX0_sizeOfAll yX0_sizeOfAll, Cond.code yX0_sizeOfAll cX0_sizeOfAll 3 (some .int), Cond.methodLink RX3 168 yX2_candidateCount, Cond.instanceMethod yX2_candidateCount, Cond.selects RX2 yX2_candidateCount yX2_candidateCount]
def wsL_law_r19 : List Cond := [Cond.code yX2_candidateCount cX2_candidateCount 3 (some .int), Cond.methodLink RX3 175 yX1_hasSameEdges, Cond.instanceMethod yX1_hasSameEdges, Cond.selects RX1 yX1_hasSameEdges yX1_hasSameEdges, Cond.code yX1_hasSameEdges cX1_hasSameEdges 3 (some .boolean), Cond.methodLink RL 64 yX4_told, Cond.instanceMethod yX4_told, Cond.selects RX4 yX4_told yX4_told, Cond.code yX4_told cX4_told 2 (some .int), Cond.methodLink RX4 100 yX4_allWaitingSizes, Cond.instanceMethod yX4_allWaitingSizes, Cond.selects RX4 yX4_allWaitingSizes yX4_allWaitingSizes, Cond.code yX4_allWaitingSizes cX4_allWaitingSizes 3 (some .int), Cond.methodLink RX4 97 yX4_waitingSize, Cond.instanceMethod yX4_waitingSize, Cond.selects RX4 yX4_waitingSize yX4_waitingSize, Cond.code yX4_waitingSize cX4_waitingSize 4 (some .int), Cond.methodLink RX4 103 yX4_candidates, Cond.instanceMethod yX4_candidates, Cond.selects RX4 yX4_candidates yX4_candidates, Cond.code yX4_candidates cX4_candidates 3 (some .int), Cond.methodLink RX4 106 yX4_isCommitted, Cond.instanceMethod yX4_isCommitted, Cond.selects RX4 yX4_isCommitted yX4_isCommitted]
def wsL_law_r20 : List Cond := [Cond.code yX4_isCommitted cX4_isCommitted 3 (some .boolean), Cond.methodLink RL 65 yX3_stream, Cond.instanceMethod yX3_stream, Cond.selects RX3 yX3_stream yX3_stream, Cond.code yX3_stream cX3_stream 5 (some .int), Cond.methodLink RX3 179 yX0_sizeOfAll, Cond.methodLink RX3 182 yX2_isCandidate, Cond.methodLink RX3 185 yX2_blockersOfFirst, Cond.methodLink RX3 188 yX3_sentBefore, Cond.instanceMethod yX3_sentBefore, Cond.selects RX3 yX3_sentBefore yX3_sentBefore, Cond.code yX3_sentBefore cX3_sentBefore 6 (some .int), Cond.methodLink RL 68 yX4_stream, Cond.instanceMethod yX4_stream, Cond.selects RX4 yX4_stream yX4_stream, Cond.code yX4_stream cX4_stream 3 (some .int), Cond.methodLink RX4 110 yX4_before, Cond.instanceMethod yX4_before, Cond.selects RX4 yX4_before yX4_before, Cond.code yX4_before cX4_before 4 (some .int), Cond.methodLink RL 69 yX3_frame, Cond.instanceMethod yX3_frame, Cond.selects RX3 yX3_frame yX3_frame, Cond.code yX3_frame cX3_frame 5 (some .int)]
def wsL_law_r21 : List Cond := [Cond.methodLink RX3 191 yX0_epochAt, Cond.methodLink RL 72 yX4_frame, Cond.instanceMethod yX4_frame, Cond.selects RX4 yX4_frame yX4_frame, Cond.code yX4_frame cX4_frame 4 (some .int), Cond.methodLink RL 73 yX3_log, Cond.instanceMethod yX3_log, Cond.selects RX3 yX3_log yX3_log, Cond.code yX3_log cX3_log 4 (some .int), Cond.methodLink RX3 194 yX0_streamAt, Cond.instanceMethod yX0_streamAt, Cond.selects RX0 yX0_streamAt yX0_streamAt, Cond.code yX0_streamAt cX0_streamAt 2 (some .int), Cond.methodLink RL 76 yX4_log, Cond.instanceMethod yX4_log, Cond.selects RX4 yX4_log yX4_log, Cond.code yX4_log cX4_log 3 (some .int), Cond.methodLink RL 77 yX3_relation, Cond.instanceMethod yX3_relation, Cond.selects RX3 yX3_relation yX3_relation, Cond.code yX3_relation cX3_relation 5 (some .int), Cond.methodLink RX3 197 yX3_isEpochOrDraft, Cond.instanceMethod yX3_isEpochOrDraft, Cond.selects RX3 yX3_isEpochOrDraft yX3_isEpochOrDraft]
def wsL_law_r22 : List Cond := [Cond.code yX3_isEpochOrDraft cX3_isEpochOrDraft 2 (some .boolean), Cond.methodLink RL 80 yX4_relation, Cond.instanceMethod yX4_relation, Cond.selects RX4 yX4_relation yX4_relation, Cond.code yX4_relation cX4_relation 5 (some .int), Cond.methodLink RX4 113 yX4_isOrder, Cond.instanceMethod yX4_isOrder, Cond.selects RX4 yX4_isOrder yX4_isOrder, Cond.code yX4_isOrder cX4_isOrder 2 (some .boolean), Cond.methodLink RL 81 yX3_order, Cond.instanceMethod yX3_order, Cond.selects RX3 yX3_order yX3_order, Cond.code yX3_order cX3_order 4 (some .int), Cond.methodLink RX3 200 yX1_pairsAmong, Cond.instanceMethod yX1_pairsAmong, Cond.selects RX1 yX1_pairsAmong yX1_pairsAmong, Cond.code yX1_pairsAmong cX1_pairsAmong 4 (some .int), Cond.methodLink RX3 203 yX1_longestChainAmong, Cond.instanceMethod yX1_longestChainAmong, Cond.selects RX1 yX1_longestChainAmong yX1_longestChainAmong, Cond.code yX1_longestChainAmong cX1_longestChainAmong 4 (some .int), Cond.methodLink RX1 55 yX1_firstOf, Cond.instanceMethod yX1_firstOf, Cond.selects RX1 yX1_firstOf yX1_firstOf]
def wsL_law_r23 : List Cond := [Cond.code yX1_firstOf cX1_firstOf 4 (some .int), Cond.methodLink RX3 206 yX1_widestChoiceAmong, Cond.instanceMethod yX1_widestChoiceAmong, Cond.selects RX1 yX1_widestChoiceAmong yX1_widestChoiceAmong, Cond.code yX1_widestChoiceAmong cX1_widestChoiceAmong 5 (some .int), Cond.methodLink RX3 209 yX1_firstOf, Cond.methodLink RX3 212 yX1_needlessEdges, Cond.instanceMethod yX1_needlessEdges, Cond.selects RX1 yX1_needlessEdges yX1_needlessEdges, Cond.code yX1_needlessEdges cX1_needlessEdges 4 (some .int), Cond.methodLink RX1 58 yX1_isPrecededByNextOf, Cond.instanceMethod yX1_isPrecededByNextOf, Cond.selects RX1 yX1_isPrecededByNextOf yX1_isPrecededByNextOf, Cond.code yX1_isPrecededByNextOf cX1_isPrecededByNextOf 4 (some .boolean), Cond.methodLink RX1 61 yX1_precedes, Cond.methodLink RL 84 yX4_order, Cond.instanceMethod yX4_order, Cond.selects RX4 yX4_order yX4_order, Cond.code yX4_order cX4_order 4 (some .int), Cond.methodLink RX4 119 yX4_openSet, Cond.instanceMethod yX4_openSet, Cond.selects RX4 yX4_openSet yX4_openSet, Cond.code yX4_openSet cX4_openSet 3 (some .int), Cond.methodLink RX4 116 yX4_pairs]
def wsL_law_r24 : List Cond := [Cond.instanceMethod yX4_pairs, Cond.selects RX4 yX4_pairs yX4_pairs, Cond.code yX4_pairs cX4_pairs 4 (some .int), Cond.methodLink RX4 122 yX4_longest, Cond.instanceMethod yX4_longest, Cond.selects RX4 yX4_longest yX4_longest, Cond.code yX4_longest cX4_longest 7 (some .int), Cond.methodLink RX4 125 yX4_widest, Cond.instanceMethod yX4_widest, Cond.selects RX4 yX4_widest yX4_widest, Cond.code yX4_widest cX4_widest 4 (some .int), Cond.methodLink RX4 128 yX4_first, Cond.instanceMethod yX4_first, Cond.selects RX4 yX4_first yX4_first, Cond.code yX4_first cX4_first 4 (some .int), Cond.methodLink RX4 131 yX4_superfluous, Cond.instanceMethod yX4_superfluous, Cond.selects RX4 yX4_superfluous yX4_superfluous, Cond.code yX4_superfluous cX4_superfluous 6 (some .int), Cond.methodLink RL 85 yX3_lists, Cond.instanceMethod yX3_lists, Cond.selects RX3 yX3_lists yX3_lists, Cond.code yX3_lists cX3_lists 2 (some .long), Cond.constantLong RX3 215 (-1)]
def wsL_law_r25 : List Cond := [Cond.methodLink RX3 217 yX1_countLists, Cond.instanceMethod yX1_countLists, Cond.selects RX1 yX1_countLists yX1_countLists, Cond.code yX1_countLists cX1_countLists 4 (some .long), Cond.methodLink RX1 64 yX1_listsByLast, Cond.instanceMethod yX1_listsByLast, Cond.selects RX1 yX1_listsByLast yX1_listsByLast, Cond.code yX1_listsByLast cX1_listsByLast 6 (some .long), Cond.methodLink RL 89 yX4_lists, Cond.instanceMethod yX4_lists, Cond.selects RX4 yX4_lists yX4_lists, Cond.code yX4_lists cX4_lists 6 (some .long), Cond.constantLong RX4 134 (-1), Cond.methodLink RL 90 yX3_keep, Cond.instanceMethod yX3_keep, Cond.selects RX3 yX3_keep yX3_keep, Cond.code yX3_keep cX3_keep 2 (some .int), Cond.methodLink RL 93 yX4_keep, Cond.instanceMethod yX4_keep, Cond.selects RX4 yX4_keep yX4_keep, Cond.code yX4_keep cX4_keep 3 (some .int), Cond.fieldLink RX4 139 "StreamMultiplexerModel" "filled" "I", Cond.methodLink RX4 136 yX4_isImage, Cond.static yX4_isImage]
def wsL_law_r26 : List Cond := [Cond.code yX4_isImage cX4_isImage 1 (some .boolean), Cond.methodLink RL 94 yX3_back, Cond.instanceMethod yX3_back, Cond.selects RX3 yX3_back yX3_back, Cond.code yX3_back cX3_back 2 (some .int), Cond.methodLink RL 97 yX4_back, Cond.instanceMethod yX4_back, Cond.selects RX4 yX4_back yX4_back, Cond.code yX4_back cX4_back 3 (some .int)]
def wsL_law : List Cond := (wsL_law_r1 ++ (wsL_law_r2 ++ (wsL_law_r3 ++ (wsL_law_r4 ++ (wsL_law_r5 ++ (wsL_law_r6 ++ (wsL_law_r7 ++ (wsL_law_r8 ++ (wsL_law_r9 ++ (wsL_law_r10 ++ (wsL_law_r11 ++ (wsL_law_r12 ++ (wsL_law_r13 ++ (wsL_law_r14 ++ (wsL_law_r15 ++ (wsL_law_r16 ++ (wsL_law_r17 ++ (wsL_law_r18 ++ (wsL_law_r19 ++ (wsL_law_r20 ++ (wsL_law_r21 ++ (wsL_law_r22 ++ (wsL_law_r23 ++ (wsL_law_r24 ++ (wsL_law_r25 ++ wsL_law_r26))))))))))))))))))))))))) ++ wsX30 ++ wsX40 ++ wsX20 ++ wsX00 ++ wsX10 ++ ([] : List Cond)
abbrev vwCl : List vw_C := [(RX0, TX0, 5), (RX1, TX1, 2), (RX2, TX2, 10), (RX3, TX3, 7), (RX4, TX4, 10)]
end
section
/-! OWN KIT. The memory of the system as functions: what stands at an address (Sh), the ints (I: address, place), the longs (J). -/
abbrev hm_K : Type := (Bool × Nat) ⊕ (Nat ⊕ ((Nat × Nat × (Nat → Option Nat)) ⊕ (Nat × List (Option (Option Nat)))))
abbrev hm_S : Type := Nat → hm_K
abbrev hm_I : Type := Nat → Nat → Int32
abbrev hm_J : Type := Nat → Nat → Int64
def kI (n : Nat) : hm_K := .inl (false, n)
def kZ (n : Nat) : hm_K := .inl (true, n)
def kJ (n : Nat) : hm_K := .inr (.inl n)
def kR (t n : Nat) (f : Nat → Option Nat) : hm_K := .inr (.inr (.inl (t, n, f)))
def kO (ci : Nat) (fs : List (Option (Option Nat))) : hm_K := .inr (.inr (.inr (ci, fs)))
def hm_fs : List (Option (Option Nat)) → (Nat → Int32) → List Value
  | [], _ => []
  | none :: r, g => .int (g 0) :: hm_fs r (fun k => g (k + 1))
  | some v :: r, g => va_rf v :: hm_fs r (fun k => g (k + 1))
theorem hm_fs_none : ∀ {fs : List (Option (Option Nat))} {g : Nat → Int32} {k : Nat}, fs[k]? = some none → (hm_fs fs g)[k]? = some (.int (g k))
  | [], _, _, h => by simp at h
  | none :: r, g, 0, _ => rfl
  | some v :: r, g, 0, h => by simp at h
  | none :: r, g, k + 1, h => by
    have h' : r[k]? = some none := h
    exact hm_fs_none (fs := r) (g := fun k => g (k + 1)) h'
  | some v :: r, g, k + 1, h => by
    have h' : r[k]? = some none := h
    exact hm_fs_none (fs := r) (g := fun k => g (k + 1)) h'
theorem hm_fs_some : ∀ {fs : List (Option (Option Nat))} {g : Nat → Int32} {k : Nat} {v : Option Nat}, fs[k]? = some (some v) → (hm_fs fs g)[k]? = some (va_rf v)
  | [], _, _, _, h => by simp at h
  | none :: r, g, 0, _, h => by simp at h
  | some v :: r, g, 0, w, h => by
    have h' : v = w := by simpa using h
    subst h'
    rfl
  | none :: r, g, k + 1, _, h => by
    have h' : r[k]? = some (some _) := h
    exact hm_fs_some (fs := r) (g := fun k => g (k + 1)) h'
  | some v :: r, g, k + 1, _, h => by
    have h' : r[k]? = some (some _) := h
    exact hm_fs_some (fs := r) (g := fun k => g (k + 1)) h'
theorem hm_fs_len : ∀ (fs : List (Option (Option Nat))) (g : Nat → Int32), (hm_fs fs g).length = fs.length
  | [], _ => rfl
  | none :: r, g => by simp [hm_fs, hm_fs_len r]
  | some v :: r, g => by simp [hm_fs, hm_fs_len r]
theorem hm_fs_cong : ∀ (fs : List (Option (Option Nat))) {f g : Nat → Int32}, (∀ k, f k = g k) → hm_fs fs f = hm_fs fs g
  | [], _, _, _ => rfl
  | none :: r, f, g, h => by simp [hm_fs, h 0, hm_fs_cong r (fun k => h (k + 1))]
  | some v :: r, f, g, h => by simp [hm_fs, hm_fs_cong r (fun k => h (k + 1))]
theorem hm_fs_upd : ∀ {fs : List (Option (Option Nat))} {g : Nat → Int32} {k : Nat} (x : Int32), fs[k]? = some none → (hm_fs fs g).set k (.int x) = hm_fs fs (upd g k x)
  | [], _, _, _, h => by simp at h
  | none :: r, g, 0, x, _ => by
    show Value.int x :: _ = Value.int (upd g 0 x 0) :: _
    exact congr (congrArg List.cons (by simp [upd])) (hm_fs_cong r (fun k => by simp [upd]))
  | some v :: r, g, 0, _, h => by simp at h
  | none :: r, g, k + 1, x, h => by
    have h' : r[k]? = some none := h
    show Value.int (g 0) :: _ = Value.int (upd g (k + 1) x 0) :: _
    exact congr (congrArg List.cons (by simp [upd])) ((hm_fs_upd x h').trans (hm_fs_cong r (fun j => by simp [upd])))
  | some v :: r, g, k + 1, x, h => by
    have h' : r[k]? = some none := h
    show va_rf v :: _ = va_rf v :: _
    exact congrArg (List.cons (va_rf v)) ((hm_fs_upd x h').trans (hm_fs_cong r (fun j => by simp [upd])))
theorem hm_fs_set : ∀ {fs : List (Option (Option Nat))} {g : Nat → Int32} {k : Nat} {v : Option Nat} (w : Option Nat), fs[k]? = some (some v) → (hm_fs fs g).set k (va_rf w) = hm_fs (fs.set k (some w)) g
  | [], _, _, _, _, h => by simp at h
  | none :: r, g, 0, _, _, h => by simp at h
  | some v :: r, g, 0, _, w, h => rfl
  | none :: r, g, k + 1, v, w, h => by
    have h' : r[k]? = some (some v) := h
    show Value.int (g 0) :: _ = Value.int (g 0) :: _
    exact congrArg (List.cons (Value.int (g 0))) (hm_fs_set w h')
  | some u :: r, g, k + 1, v, w, h => by
    have h' : r[k]? = some (some v) := h
    show va_rf u :: _ = va_rf u :: _
    exact congrArg (List.cons (va_rf u)) (hm_fs_set w h')
def hm_e (T : Nat → ClassId) (Sh : hm_S) (I : hm_I) (J : hm_J) (a : Nat) : va_E := match Sh a with
  | .inl (b, n) => .inl (T (if b = true then 1 else 0), n, .inl (I a))
  | .inr (.inl n) => .inl (T 2, n, .inr (.inl (J a)))
  | .inr (.inr (.inl (t, n, f))) => .inl (T (3 + t), n, .inr (.inr (.inr (.inr f))))
  | .inr (.inr (.inr (ci, fs))) => .inr (ci, hm_fs fs (I a))
def hm_tys (T : Nat → ClassId) : List (ClassId × FieldType) := [(T 0, .int), (T 1, .boolean), (T 2, .long), (T 3, .object RX0), (T 4, .object RX1), (T 5, .object RX2)]
def hm (D : va_G) (T : Nat → ClassId) (L : List Nat) (A : Nat → Prop) (Sh : hm_S) (I : hm_I) (J : hm_J) (H : Heap) : Prop :=
  va_P D vwCl (va_pl L (hm_e T Sh I J)) H ∧ va_D A (va_pl L (hm_e T Sh I J))
/-- what holds of the machine's tables all the way -/
def hm_N (U : State) : Prop := va_Nw (.methodLinkNest RX1 18 yX3_isStream RX3) U ∧ va_Nw (.methodLinkNest RX1 22 yX3_isIn RX3) U ∧ va_Nw (.methodLinkNest RX1 26 yX3_areTwoStreams RX3) U ∧ va_Nw (.methodLinkNest RX1 29 yX3_setOf RX3) U ∧ va_Nw (.methodLinkNest RX2 62 yX3_isIn RX3) U ∧ va_Nw (.methodLinkNest RX2 66 yX3_isStream RX3) U ∧ va_Nw (.methodLinkNest RX2 70 yX3_setOf RX3) U
def Kx (D : va_G) (T : Nat → ClassId) (U : State) : Prop := va_K D vwCl (hm_tys T) U ∧ hm_N U
theorem Kx.same {D : va_G} {T : Nat → ClassId} {u U : State} (h : u.vm = U.vm) (k : Kx D T u) : Kx D T U := by
  obtain ⟨k1, a1, a2, a3, a4, a5, a6, a7⟩ := k
  exact ⟨va_K.moved (by rw [h]; exact Vm.Alike.refl U.vm) k1, va_Nw.same rfl h a1, va_Nw.same rfl h a2, va_Nw.same rfl h a3, va_Nw.same rfl h a4, va_Nw.same rfl h a5, va_Nw.same rfl h a6, va_Nw.same rfl h a7⟩
theorem Kx.warm {D : va_G} {T : Nat → ClassId} {s U : State} (hW : s.WarmedH U.vm) (k : Kx D T s) : Kx D T U := by
  obtain ⟨k1, a1, a2, a3, a4, a5, a6, a7⟩ := k
  exact ⟨va_K.moved hW.alike k1, va_Nw.warmM hW a1, va_Nw.warmM hW a2, va_Nw.warmM hW a3, va_Nw.warmM hW a4, va_Nw.warmM hW a5, va_Nw.warmM hW a6, va_Nw.warmM hW a7⟩
/-- a contract: from memory P, with arguments av, the method answers v and leaves memory Q; nothing outside A changes -/
def CtQ (A : Nat → Prop) (v : Option Value) (Q : Heap → Prop) : Array Value → State → Outcome → State → Prop := fun _ st oc t => oc = .returned v ∧ Q t.heap ∧ va_F A st t
def Ct (l : Launch) (y : MethodName) (ws : List Cond) (rm : Room) (mc ms : Nat) (D : va_G) (T : Nat → ClassId) (A : Nat → Prop) (av : List Value) (P : Heap → Prop) (v : Option Value) (Q : Heap → Prop) : Prop :=
  Met l y ws rm (va_Pc av (fun U => P U.heap ∧ Kx D T U)) (CtQ A v Q) mc ms A
def Cx (p : Program) (s : State) (m : MethodId) (args : Array Value) (c : Code) (cc : ByteArray) (nL : Nat) (Ts : List Cond) (own : String) (D : va_G) (T : Nat → ClassId) : Prop :=
  CallFix p m c cc nL s args Ts own ∧ Kx D T s
theorem Ct.ofW {l : Launch} {y : MethodName} {ws ws' : List Cond} {rm : Room} {mc ms : Nat} {D : va_G} {T : Nat → ClassId} {A : Nat → Prop} {av : List Value} {P : Heap → Prop} {v : Option Value} {Q : Heap → Prop} {cc : ByteArray} {maxL : Nat} {ret : Option FieldType}
    (hy : plainName y.cls = true) (hw : ws = Cond.code y cc maxL ret :: ws') (hn : (lg_sl av).length ≤ maxL)
    (body : ∀ (p : Program) (e : Env) (s : State) (m : MethodId) (args : Array Value) (below : List Frame) (meth : Method) (c : Code) (ls : Array Slot) (R : Room) (Qq : State → Prop), R = rm → Qq = MQ below (CtQ A v Q) args s mc ms A → Cx p s m args c cc maxL ws y.cls D T → meth.sig.returnType = ret → meth.locks = false → meth.name = y.name → P s.heap → lv_has ls maxL (lv_args 0 av) →
      W p l e R s m args below meth c s.heap [] 0 0 Qq (F0 m 0 ls [])) : Ct l y ws rm mc ms D T A av P v Q := by
  refine Met.ofW (cc := cc) (maxL := maxL) (ret := ret) hy hw ?_
  intro p e s m args below meth c s₁ B hml hv
  obtain ⟨rfl, hP, hK⟩ := hv
  have hl := lv_entry av (n := maxL) hn
  rw [lg_entry_eq]
  exact body p e s m _ below meth c _ _ _ rfl rfl ⟨⟨B.exec, B.bytes, hml, findClass_of_methodNamed B.named, atoms_spec (ws := ws) B.pre⟩, hK⟩ B.returns B.notSynchronized (name_of_methodNamed B.named B.method).1 hP hl
theorem Ct.weak {l : Launch} {y : MethodName} {ws : List Cond} {rm : Room} {mc ms : Nat} {D : va_G} {T : Nat → ClassId} {A : Nat → Prop} {av : List Value} {P P' : Heap → Prop} {v v' : Option Value} {Q Q' : Heap → Prop} (h : Ct l y ws rm mc ms D T A av P v Q) (hP : ∀ H, P' H → P H) (hv : v = v') (hQ : ∀ H, Q H → Q' H) : Ct l y ws rm mc ms D T A av P' v' Q' := by
  subst hv
  unfold Ct Met at *
  intro p e a1 a2 a3 s m args below b1 b2 b3 b4
  obtain ⟨t, o, k1, k2, k3, k4, k5⟩ := h p e a1 a2 a3 s m args below b1 b2 ⟨b3.1, hP _ b3.2.1, b3.2.2⟩ b4
  exact ⟨t, o, k1, k2, k3, ⟨k4.1, hQ _ k4.2.1, k4.2.2⟩, k5⟩
end
section
/-! OWN ROWS over the memory of part 03 -/
section HR
variable {p : Program} {l : Launch} {e : Env} {R : Room} {s : State} {m : MethodId} {args : Array Value} {below : List Frame} {meth : Method} {c : Code} {H : Heap} {locs : List Loc} {cells slots : Nat} {Qq : State → Prop}
variable {cc : ByteArray} {nL : Nat} {Ts : List Cond} {own : String} {D : va_G} {T : Nat → ClassId} {L : List Nat} {A : Nat → Prop} {Sh : hm_S} {I : hm_I} {J : hm_J} {pc : Nat} {ls : Array Slot} {rest : List Value} {a : Nat} {H0 : Heap}
theorem hm_place (ha : a ∈ L) {x : va_E} (hx : hm_e T Sh I J a = x) : ∃ q : Nat, (va_pl L (hm_e T Sh I J))[q]? = some (a, x) := by
  obtain ⟨q, hq⟩ := va_pl_get (X := []) (f := hm_e T Sh I J) ha
  exact ⟨q, by rw [← hx]; exact hq⟩
theorem hm_e_O {ci : Nat} {fs : List (Option (Option Nat))} (hs : Sh a = kO ci fs) : hm_e T Sh I J a = .inr (ci, hm_fs fs (I a)) := by simp [hm_e, hs, kO]
theorem hm_e_I {n : Nat} (hs : Sh a = kI n) : hm_e T Sh I J a = .inl (T 0, n, .inl (I a)) := by simp [hm_e, hs, kI]
theorem hm_e_Z {n : Nat} (hs : Sh a = kZ n) : hm_e T Sh I J a = .inl (T 1, n, .inl (I a)) := by simp [hm_e, hs, kZ]
theorem hm_e_J {n : Nat} (hs : Sh a = kJ n) : hm_e T Sh I J a = .inl (T 2, n, .inr (.inl (J a))) := by simp [hm_e, hs, kJ]
theorem hm_e_R {t n : Nat} {f : Nat → Option Nat} (hs : Sh a = kR t n f) : hm_e T Sh I J a = .inl (T (3 + t), n, .inr (.inr (.inr (.inr f)))) := by simp [hm_e, hs, kR]
/-- a written cell: the memory with that cell new -/
theorem hm_write {Sh' : hm_S} {I' : hm_I} {J' : hm_J} {x0 x : va_E} {q : Nat} {H1 : Heap} (hM : hm D T L A Sh I J H) (ha : a ∈ L) (hx0 : hm_e T Sh I J a = x0) (hq : (va_pl L (hm_e T Sh I J))[q]? = some (a, x0)) (hx : hm_e T Sh' I' J' a = x) (ho : ∀ b, b ≠ a → hm_e T Sh' I' J' b = hm_e T Sh I J b)
    (hP : va_P D vwCl ((va_pl L (hm_e T Sh I J)).set q (a, x)) H1) (hD : va_D A ((va_pl L (hm_e T Sh I J)).set q (a, x))) : hm D T L A Sh' I' J' H1 := by
  have e1 : (va_pl L (hm_e T Sh I J)).set q (a, x) = va_pl L (va_up (hm_e T Sh I J) a x) := va_pl_set (X := []) hM.2 ha (by rw [hx0]; exact hq)
  have e2 : va_up (hm_e T Sh I J) a x = hm_e T Sh' I' J' := by
    funext b
    by_cases hb : b = a
    · subst hb
      rw [va_up_self, hx]
    · rw [va_up_ne _ _ hb, ho b hb]
  rw [e1, e2] at hP hD
  exact ⟨hP, hD⟩
theorem mr_geti {C : String} {TT : u_T} {N ci index : Nat} (C0 : Cx p s m args c cc nL Ts own D T) (hin : ∀ w ∈ u_ws C TT N, w ∈ Ts) (hM : hm D T L A Sh I J H) {fs : List (Option (Option Nat))} (ha : a ∈ L) (hs : Sh a = kO ci fs) (hc : vwCl[ci]? = some (C, TT, N)) (k : Nat) (hk : k < N) (hf : fs[k]? = some none) {v : Int32} (hv : I a k = v)
    (hlink : Cond.fieldLink own index C (TT k).2.1 (TT k).2.2.1 ∈ Ts) (hCC : (TT k).1 = C) (hdg : decode cc pc = .ok (.getfield index, 3)) (kk : W p l e R s m args below meth c H locs cells slots Qq (F0 m (pc + 3) ls (.int v :: rest))) : W p l e R s m args below meth c H locs cells slots Qq (F0 m pc ls (.ref a :: rest)) := by
  obtain ⟨⟨hx, hb, hml, hown, hts⟩, hK, hN⟩ := C0
  obtain ⟨q, hq⟩ := hm_place (J := J) ha (hm_e_O (I := I) (J := J) (T := T) hs)
  subst hv
  exact va_get hx hb hts hin hown hK hM.1 q hq hc k hk (hts _ hlink) (fun _ h => by rw [hCC] at h; exact h) (hm_fs_none hf) hdg kk
theorem mr_getr {C : String} {TT : u_T} {N ci index : Nat} (C0 : Cx p s m args c cc nL Ts own D T) (hin : ∀ w ∈ u_ws C TT N, w ∈ Ts) (hM : hm D T L A Sh I J H) {fs : List (Option (Option Nat))} (ha : a ∈ L) (hs : Sh a = kO ci fs) (hc : vwCl[ci]? = some (C, TT, N)) (k : Nat) (hk : k < N) {r : Nat} (hf : fs[k]? = some (some (some r)))
    (hlink : Cond.fieldLink own index C (TT k).2.1 (TT k).2.2.1 ∈ Ts) (hCC : (TT k).1 = C) (hdg : decode cc pc = .ok (.getfield index, 3)) (kk : W p l e R s m args below meth c H locs cells slots Qq (F0 m (pc + 3) ls (.ref r :: rest))) : W p l e R s m args below meth c H locs cells slots Qq (F0 m pc ls (.ref a :: rest)) := by
  obtain ⟨⟨hx, hb, hml, hown, hts⟩, hK, hN⟩ := C0
  obtain ⟨q, hq⟩ := hm_place (J := J) ha (hm_e_O (I := I) (J := J) (T := T) hs)
  exact va_get hx hb hts hin hown hK hM.1 q hq hc k hk (hts _ hlink) (fun _ h => by rw [hCC] at h; exact h) (hm_fs_some hf) hdg kk
def hm_put (I : hm_I) (a k : Nat) (x : Int32) : hm_I := va_up I a (upd (I a) k x)
theorem hm_put_self (I : hm_I) (a k : Nat) (x : Int32) : hm_put I a k x a = upd (I a) k x := va_up_self _ _ _
theorem hm_put_ne (I : hm_I) (a k : Nat) (x : Int32) {b : Nat} (h : b ≠ a) : hm_put I a k x b = I b := va_up_ne _ _ h
theorem hm_put_get {I : hm_I} {a k : Nat} {x : Int32} {b j : Nat} (h : b ≠ a ∨ j ≠ k) : hm_put I a k x b j = I b j := by
  by_cases hb : b = a
  · subst hb
    rw [hm_put_self]
    have hj : j ≠ k := h.resolve_left (fun q => q rfl)
    simp [upd, hj]
  · rw [hm_put_ne I a k x hb]
theorem hm_put_at (I : hm_I) (a k : Nat) (x : Int32) : hm_put I a k x a k = x := by rw [hm_put_self]; simp [upd]
theorem mr_puti {C : String} {TT : u_T} {N ci index : Nat} (C0 : Cx p s m args c cc nL Ts own D T) (hin : ∀ w ∈ u_ws C TT N, w ∈ Ts) (ty0 : Nat → FieldType) (hty : ∀ k, k < N → parseFieldDescriptor (TT k).2.2.1 = some (ty0 k)) (hnm : ∀ a, a < N → ∀ b, b < N → a ≠ b → (TT a).2.1 ≠ (TT b).2.1) (hM : hm D T L A Sh I J H) (hS : va_S A H0 H locs) {fs : List (Option (Option Nat))} (ha : a ∈ L) (hs : Sh a = kO ci fs) (hc : vwCl[ci]? = some (C, TT, N)) (k : Nat) (hk : k < N) (hf : fs[k]? = some none) {x : Int32}
    (hlink : Cond.fieldLink own index C (TT k).2.1 (TT k).2.2.1 ∈ Ts) (hCC : (TT k).1 = C) (hfin : (TT k).2.2.2 = false) (hd : parseFieldDescriptor (TT k).2.2.1 = some .int) (hdg : decode cc pc = .ok (.putfield index, 3))
    (kk : ∀ (H1 : Heap) (locs1 : List Loc), hm D T L A Sh (hm_put I a k x) J H1 → va_S A H0 H1 locs1 → W p l e R s m args below meth c H1 locs1 cells slots Qq (F0 m (pc + 3) ls rest)) : W p l e R s m args below meth c H locs cells slots Qq (F0 m pc ls (.int x :: .ref a :: rest)) := by
  obtain ⟨⟨hx, hb, hml, hown, hts⟩, hK, hN⟩ := C0
  have e0 := hm_e_O (I := I) (J := J) (T := T) hs
  obtain ⟨q, hq⟩ := hm_place (J := J) ha e0
  have hl : k < (hm_fs fs (I a)).length := by rw [hm_fs_len]; exact (List.getElem?_eq_some_iff.mp hf).1
  refine va_put hx hb hts hin ty0 hty hnm hown hK hM.1 hM.2 hS q hq hc k hk (hts _ hlink) (fun _ h => by rw [hCC] at h; exact h) hfin hd rfl rfl hl hdg (fun H1 locs1 hP hD hS1 => kk H1 locs1 ?_ hS1)
  refine hm_write hM ha e0 hq (x := .inr (ci, (hm_fs fs (I a)).set k (.int x))) ?_ (fun b hne => ?_) hP hD
  · rw [hm_e_O (I := hm_put I a k x) hs, hm_put_self, hm_fs_upd x hf]
  · simp only [hm_e, hm_put_ne I a k x hne]
theorem mr_iald {n : Nat} (C0 : Cx p s m args c cc nL Ts own D T) (hM : hm D T L A Sh I J H) (ha : a ∈ L) (hs : Sh a = kI n) {i : Int32} (hin : vp_in i n) {v : Int32} (hv : I a i.toNatClampNeg = v) (hdg : decode cc pc = .ok (.iaload, 1))
    (kk : W p l e R s m args below meth c H locs cells slots Qq (F0 m (pc + 1) ls (.int v :: rest))) : W p l e R s m args below meth c H locs cells slots Qq (F0 m pc ls (.int i :: .ref a :: rest)) := by
  obtain ⟨⟨hx, hb, hml, hown, hts⟩, hK, hN⟩ := C0
  obtain ⟨q, hq⟩ := hm_place (J := J) ha (hm_e_I (I := I) (J := J) (T := T) hs)
  subst hv
  exact va_iald hx hb hK hM.1 q 0 hq rfl hin hdg kk
theorem mr_ialdN {n : Nat} (C0 : Cx p s m args c cc nL Ts own D T) (hM : hm D T L A Sh I J H) (ha : a ∈ L) (hs : Sh a = kI n) (hn : n < 2 ^ 31) {j : Nat} (hj : j < n) {v : Int32} (hv : I a j = v) (hdg : decode cc pc = .ok (.iaload, 1))
    (kk : W p l e R s m args below meth c H locs cells slots Qq (F0 m (pc + 1) ls (.int v :: rest))) : W p l e R s m args below meth c H locs cells slots Qq (F0 m pc ls (.int (nI j) :: .ref a :: rest)) :=
  mr_iald C0 hM ha hs (vp_in_nI hj hn) (by rw [nI_clamp (by omega)]; exact hv) hdg kk
theorem mr_zaldN {n : Nat} (C0 : Cx p s m args c cc nL Ts own D T) (hM : hm D T L A Sh I J H) (ha : a ∈ L) (hs : Sh a = kZ n) (hn : n < 2 ^ 31) {j : Nat} (hj : j < n) {v : Int32} (hv : I a j = v) (hdg : decode cc pc = .ok (.baload, 1))
    (kk : W p l e R s m args below meth c H locs cells slots Qq (F0 m (pc + 1) ls (.int v :: rest))) : W p l e R s m args below meth c H locs cells slots Qq (F0 m pc ls (.int (nI j) :: .ref a :: rest)) := by
  obtain ⟨⟨hx, hb, hml, hown, hts⟩, hK, hN⟩ := C0
  obtain ⟨q, hq⟩ := hm_place (J := J) ha (hm_e_Z (I := I) (J := J) (T := T) hs)
  subst hv
  refine va_zald hx hb hK hM.1 q 1 hq rfl (vp_in_nI hj hn) hdg ?_
  rw [nI_clamp (by omega)]
  exact kk
theorem mr_iast {n : Nat} (C0 : Cx p s m args c cc nL Ts own D T) (hM : hm D T L A Sh I J H) (hS : va_S A H0 H locs) (ha : a ∈ L) (hs : Sh a = kI n) {i : Int32} (hin : vp_in i n) {x : Int32} (hdg : decode cc pc = .ok (.iastore, 1))
    (kk : ∀ (H1 : Heap) (locs1 : List Loc), hm D T L A Sh (hm_put I a i.toNatClampNeg x) J H1 → va_S A H0 H1 locs1 → W p l e R s m args below meth c H1 locs1 cells slots Qq (F0 m (pc + 1) ls rest)) : W p l e R s m args below meth c H locs cells slots Qq (F0 m pc ls (.int x :: .int i :: .ref a :: rest)) := by
  obtain ⟨⟨hx, hb, hml, hown, hts⟩, hK, hN⟩ := C0
  have e0 := hm_e_I (I := I) (J := J) (T := T) hs
  obtain ⟨q, hq⟩ := hm_place (J := J) ha e0
  refine va_iast hx hb hK hM.1 hM.2 hS q 0 hq rfl hin hdg (fun H1 locs1 hP hD hS1 => kk H1 locs1 ?_ hS1)
  refine hm_write hM ha e0 hq (x := .inl (T 0, n, .inl (upd (I a) i.toNatClampNeg x))) ?_ (fun b hne => ?_) hP hD
  · rw [hm_e_I (I := hm_put I a i.toNatClampNeg x) hs, hm_put_self]
  · simp only [hm_e, hm_put_ne I a i.toNatClampNeg x hne]
theorem mr_iastN {n : Nat} (C0 : Cx p s m args c cc nL Ts own D T) (hM : hm D T L A Sh I J H) (hS : va_S A H0 H locs) (ha : a ∈ L) (hs : Sh a = kI n) (hn : n < 2 ^ 31) {j : Nat} (hj : j < n) {x : Int32} (hdg : decode cc pc = .ok (.iastore, 1))
    (kk : ∀ (H1 : Heap) (locs1 : List Loc), hm D T L A Sh (hm_put I a j x) J H1 → va_S A H0 H1 locs1 → W p l e R s m args below meth c H1 locs1 cells slots Qq (F0 m (pc + 1) ls rest)) : W p l e R s m args below meth c H locs cells slots Qq (F0 m pc ls (.int x :: .int (nI j) :: .ref a :: rest)) :=
  mr_iast C0 hM hS ha hs (vp_in_nI hj hn) hdg (fun H1 locs1 hM1 hS1 => kk H1 locs1 (by rw [nI_clamp (by omega)] at hM1; exact hM1) hS1)
theorem mr_zastN {n : Nat} (C0 : Cx p s m args c cc nL Ts own D T) (hM : hm D T L A Sh I J H) (hS : va_S A H0 H locs) (ha : a ∈ L) (hs : Sh a = kZ n) (hn : n < 2 ^ 31) {j : Nat} (hj : j < n) {x : Int32} (hx1 : vp_nar .boolean x = x) (hdg : decode cc pc = .ok (.bastore, 1))
    (kk : ∀ (H1 : Heap) (locs1 : List Loc), hm D T L A Sh (hm_put I a j x) J H1 → va_S A H0 H1 locs1 → W p l e R s m args below meth c H1 locs1 cells slots Qq (F0 m (pc + 1) ls rest)) : W p l e R s m args below meth c H locs cells slots Qq (F0 m pc ls (.int x :: .int (nI j) :: .ref a :: rest)) := by
  obtain ⟨⟨hx, hb, hml, hown, hts⟩, hK, hN⟩ := C0
  have e0 := hm_e_Z (I := I) (J := J) (T := T) hs
  obtain ⟨q, hq⟩ := hm_place (J := J) ha e0
  refine va_zast hx hb hK hM.1 hM.2 hS q 1 hq rfl (vp_in_nI hj hn) hdg (fun H1 locs1 hP hD hS1 => kk H1 locs1 ?_ hS1)
  rw [nI_clamp (by omega), hx1] at hP hD
  refine hm_write hM ha e0 hq (x := .inl (T 1, n, .inl (upd (I a) j x))) ?_ (fun b hne => ?_) hP hD
  · rw [hm_e_Z (I := hm_put I a j x) hs, hm_put_self]
  · simp only [hm_e, hm_put_ne I a j x hne]
theorem mr_laldN {n : Nat} (C0 : Cx p s m args c cc nL Ts own D T) (hM : hm D T L A Sh I J H) (ha : a ∈ L) (hs : Sh a = kJ n) (hn : n < 2 ^ 31) {j : Nat} (hj : j < n) {v : Int64} (hv : J a j = v) (hdg : decode cc pc = .ok (.laload, 1))
    (kk : W p l e R s m args below meth c H locs cells slots Qq (F0 m (pc + 1) ls (.long v :: rest))) : W p l e R s m args below meth c H locs cells slots Qq (F0 m pc ls (.int (nI j) :: .ref a :: rest)) := by
  obtain ⟨⟨hx, hb, hml, hown, hts⟩, hK, hN⟩ := C0
  obtain ⟨q, hq⟩ := hm_place (J := J) ha (hm_e_J (I := I) (J := J) (T := T) hs)
  subst hv
  refine va_lald hx hb hK hM.1 q 2 hq rfl (vp_in_nI hj hn) hdg ?_
  rw [nI_clamp (by omega)]
  exact kk
def hm_putJ (J : hm_J) (a k : Nat) (x : Int64) : hm_J := va_up J a (vp_updL (J a) k x)
theorem hm_putJ_self (J : hm_J) (a k : Nat) (x : Int64) : hm_putJ J a k x a = vp_updL (J a) k x := va_up_self _ _ _
theorem hm_putJ_ne (J : hm_J) (a k : Nat) (x : Int64) {b : Nat} (h : b ≠ a) : hm_putJ J a k x b = J b := va_up_ne _ _ h
theorem mr_lastN {n : Nat} (C0 : Cx p s m args c cc nL Ts own D T) (hM : hm D T L A Sh I J H) (hS : va_S A H0 H locs) (ha : a ∈ L) (hs : Sh a = kJ n) (hn : n < 2 ^ 31) {j : Nat} (hj : j < n) {x : Int64} (hdg : decode cc pc = .ok (.lastore, 1))
    (kk : ∀ (H1 : Heap) (locs1 : List Loc), hm D T L A Sh I (hm_putJ J a j x) H1 → va_S A H0 H1 locs1 → W p l e R s m args below meth c H1 locs1 cells slots Qq (F0 m (pc + 1) ls rest)) : W p l e R s m args below meth c H locs cells slots Qq (F0 m pc ls (.long x :: .int (nI j) :: .ref a :: rest)) := by
  obtain ⟨⟨hx, hb, hml, hown, hts⟩, hK, hN⟩ := C0
  have e0 := hm_e_J (I := I) (J := J) (T := T) hs
  obtain ⟨q, hq⟩ := hm_place (J := J) ha e0
  refine va_last hx hb hK hM.1 hM.2 hS q 2 hq rfl (vp_in_nI hj hn) hdg (fun H1 locs1 hP hD hS1 => kk H1 locs1 ?_ hS1)
  rw [nI_clamp (by omega)] at hP hD
  refine hm_write hM ha e0 hq (x := .inl (T 2, n, .inr (.inl (vp_updL (J a) j x)))) ?_ (fun b hne => ?_) hP hD
  · rw [hm_e_J (J := hm_putJ J a j x) hs, hm_putJ_self]
  · simp only [hm_e, hm_putJ_ne J a j x hne]
theorem mr_alen {n : Nat} (C0 : Cx p s m args c cc nL Ts own D T) (hM : hm D T L A Sh I J H) (ha : a ∈ L) (hs : Sh a = kI n) (hdg : decode cc pc = .ok (.arraylength, 1))
    (kk : W p l e R s m args below meth c H locs cells slots Qq (F0 m (pc + 1) ls (.int (nI n) :: rest))) : W p l e R s m args below meth c H locs cells slots Qq (F0 m pc ls (.ref a :: rest)) := by
  obtain ⟨⟨hx, hb, hml, hown, hts⟩, hK, hN⟩ := C0
  obtain ⟨q, hq⟩ := hm_place (J := J) ha (hm_e_I (I := I) (J := J) (T := T) hs)
  exact va_alen hx hb hK hM.1 q 0 hq (ty := .int) rfl rfl hdg kk
theorem mr_alenJ {n : Nat} (C0 : Cx p s m args c cc nL Ts own D T) (hM : hm D T L A Sh I J H) (ha : a ∈ L) (hs : Sh a = kJ n) (hdg : decode cc pc = .ok (.arraylength, 1))
    (kk : W p l e R s m args below meth c H locs cells slots Qq (F0 m (pc + 1) ls (.int (nI n) :: rest))) : W p l e R s m args below meth c H locs cells slots Qq (F0 m pc ls (.ref a :: rest)) := by
  obtain ⟨⟨hx, hb, hml, hown, hts⟩, hK, hN⟩ := C0
  obtain ⟨q, hq⟩ := hm_place (J := J) ha (hm_e_J (I := I) (J := J) (T := T) hs)
  exact va_alen hx hb hK hM.1 q 2 hq (ty := .long) rfl rfl hdg kk
theorem mr_aald {t n : Nat} {f : Nat → Option Nat} {C : String} (C0 : Cx p s m args c cc nL Ts own D T) (hM : hm D T L A Sh I J H) (ha : a ∈ L) (hs : Sh a = kR t n f) (htt : (hm_tys T)[3 + t]? = some (T (3 + t), .object C)) (hn : n < 2 ^ 31) {j : Nat} (hj : j < n) {r : Nat} (hf : f j = some r) (hdg : decode cc pc = .ok (.aaload, 1))
    (kk : W p l e R s m args below meth c H locs cells slots Qq (F0 m (pc + 1) ls (.ref r :: rest))) : W p l e R s m args below meth c H locs cells slots Qq (F0 m pc ls (.int (nI j) :: .ref a :: rest)) := by
  obtain ⟨⟨hx, hb, hml, hown, hts⟩, hK, hN⟩ := C0
  obtain ⟨q, hq⟩ := hm_place (J := J) ha (hm_e_R (I := I) (J := J) (T := T) hs)
  refine va_aldq hx hb hK hM.1 q (3 + t) hq htt (vp_in_nI hj hn) hdg ?_
  rw [nI_clamp (by omega), hf]
  exact kk
/-! branches over numbers and truth values -/
def bI (b : Bool) : Int32 := if b = true then 1 else 0
theorem bI_0 {b : Bool} (h : bI b = 0) : b = false := by cases b <;> first | rfl | exact absurd h (by decide)
theorem bI_1 {b : Bool} (h : ¬ bI b = 0) : b = true := by cases b <;> first | rfl | exact absurd rfl h
theorem bI_and (x y : Bool) : bI x &&& bI y = bI (x && y) := by cases x <;> cases y <;> decide
theorem mr_eqB {b : Bool} {off : Int} {tgt : Nat} (C0 : Cx p s m args c cc nL Ts own D T) (hdg : decode cc pc = .ok (.ifCond .eq off, 3)) (ht : (pc : Int) + off = (tgt : Int))
    (kt : b = false → W p l e R s m args below meth c H locs cells slots Qq (F0 m tgt ls rest)) (kf : b = true → W p l e R s m args below meth c H locs cells slots Qq (F0 m (pc + 3) ls rest)) : W p l e R s m args below meth c H locs cells slots Qq (F0 m pc ls (.int (bI b) :: rest)) :=
  lv_if_eq C0.1.1 C0.1.2.1 hdg ht (fun h => kt (bI_0 h)) (fun h => kf (bI_1 h))
theorem mr_neB {b : Bool} {off : Int} {tgt : Nat} (C0 : Cx p s m args c cc nL Ts own D T) (hdg : decode cc pc = .ok (.ifCond .ne off, 3)) (ht : (pc : Int) + off = (tgt : Int))
    (kt : b = true → W p l e R s m args below meth c H locs cells slots Qq (F0 m tgt ls rest)) (kf : b = false → W p l e R s m args below meth c H locs cells slots Qq (F0 m (pc + 3) ls rest)) : W p l e R s m args below meth c H locs cells slots Qq (F0 m pc ls (.int (bI b) :: rest)) :=
  lv_if_ne C0.1.1 C0.1.2.1 hdg ht (fun h => kt (bI_1 h)) (fun h => kf (bI_0 h))
theorem mr_geN {x y : Nat} {off : Int} {tgt : Nat} (C0 : Cx p s m args c cc nL Ts own D T) (hdg : decode cc pc = .ok (.if_icmp .ge off, 3)) (ht : (pc : Int) + off = (tgt : Int)) (hx : x < 2 ^ 31) (hy : y < 2 ^ 31)
    (kt : y ≤ x → W p l e R s m args below meth c H locs cells slots Qq (F0 m tgt ls rest)) (kf : x < y → W p l e R s m args below meth c H locs cells slots Qq (F0 m (pc + 3) ls rest)) : W p l e R s m args below meth c H locs cells slots Qq (F0 m pc ls (.int (nI y) :: .int (nI x) :: rest)) :=
  lv_icmp_ge C0.1.1 C0.1.2.1 hdg ht (fun h => kt ((nI_leI hy hx).mp h)) (fun h => kf (Nat.not_le.mp (fun q => h ((nI_leI hy hx).mpr q))))
theorem mr_gtN {x y : Nat} {off : Int} {tgt : Nat} (C0 : Cx p s m args c cc nL Ts own D T) (hdg : decode cc pc = .ok (.if_icmp .gt off, 3)) (ht : (pc : Int) + off = (tgt : Int)) (hx : x < 2 ^ 31) (hy : y < 2 ^ 31)
    (kt : y < x → W p l e R s m args below meth c H locs cells slots Qq (F0 m tgt ls rest)) (kf : x ≤ y → W p l e R s m args below meth c H locs cells slots Qq (F0 m (pc + 3) ls rest)) : W p l e R s m args below meth c H locs cells slots Qq (F0 m pc ls (.int (nI y) :: .int (nI x) :: rest)) :=
  lv_icmp_gt C0.1.1 C0.1.2.1 hdg ht (fun h => kt ((nI_ltI hy hx).mp h)) (fun h => kf (Nat.not_lt.mp (fun q => h ((nI_ltI hy hx).mpr q))))
theorem mr_ltN {x y : Nat} {off : Int} {tgt : Nat} (C0 : Cx p s m args c cc nL Ts own D T) (hdg : decode cc pc = .ok (.if_icmp .lt off, 3)) (ht : (pc : Int) + off = (tgt : Int)) (hx : x < 2 ^ 31) (hy : y < 2 ^ 31)
    (kt : x < y → W p l e R s m args below meth c H locs cells slots Qq (F0 m tgt ls rest)) (kf : y ≤ x → W p l e R s m args below meth c H locs cells slots Qq (F0 m (pc + 3) ls rest)) : W p l e R s m args below meth c H locs cells slots Qq (F0 m pc ls (.int (nI y) :: .int (nI x) :: rest)) :=
  lv_icmp_lt C0.1.1 C0.1.2.1 hdg ht (fun h => kt ((nI_ltI hx hy).mp h)) (fun h => kf (Nat.not_lt.mp (fun q => h ((nI_ltI hx hy).mpr q))))
theorem mr_leN {x y : Nat} {off : Int} {tgt : Nat} (C0 : Cx p s m args c cc nL Ts own D T) (hdg : decode cc pc = .ok (.if_icmp .le off, 3)) (ht : (pc : Int) + off = (tgt : Int)) (hx : x < 2 ^ 31) (hy : y < 2 ^ 31)
    (kt : x ≤ y → W p l e R s m args below meth c H locs cells slots Qq (F0 m tgt ls rest)) (kf : y < x → W p l e R s m args below meth c H locs cells slots Qq (F0 m (pc + 3) ls rest)) : W p l e R s m args below meth c H locs cells slots Qq (F0 m pc ls (.int (nI y) :: .int (nI x) :: rest)) :=
  lv_icmp_le C0.1.1 C0.1.2.1 hdg ht (fun h => kt ((nI_leI hx hy).mp h)) (fun h => kf (Nat.not_le.mp (fun q => h ((nI_leI hx hy).mpr q))))
theorem mr_eqN {x y : Nat} {off : Int} {tgt : Nat} (C0 : Cx p s m args c cc nL Ts own D T) (hdg : decode cc pc = .ok (.if_icmp .eq off, 3)) (ht : (pc : Int) + off = (tgt : Int)) (hx : x < 2 ^ 31) (hy : y < 2 ^ 31)
    (kt : x = y → W p l e R s m args below meth c H locs cells slots Qq (F0 m tgt ls rest)) (kf : x ≠ y → W p l e R s m args below meth c H locs cells slots Qq (F0 m (pc + 3) ls rest)) : W p l e R s m args below meth c H locs cells slots Qq (F0 m pc ls (.int (nI y) :: .int (nI x) :: rest)) :=
  lv_icmp_eq C0.1.1 C0.1.2.1 hdg ht (fun h => kt ((nI_eq hx hy).mp h)) (fun h => kf (fun q => h ((nI_eq hx hy).mpr q)))
theorem mr_neN {x y : Nat} {off : Int} {tgt : Nat} (C0 : Cx p s m args c cc nL Ts own D T) (hdg : decode cc pc = .ok (.if_icmp .ne off, 3)) (ht : (pc : Int) + off = (tgt : Int)) (hx : x < 2 ^ 31) (hy : y < 2 ^ 31)
    (kt : x ≠ y → W p l e R s m args below meth c H locs cells slots Qq (F0 m tgt ls rest)) (kf : x = y → W p l e R s m args below meth c H locs cells slots Qq (F0 m (pc + 3) ls rest)) : W p l e R s m args below meth c H locs cells slots Qq (F0 m pc ls (.int (nI y) :: .int (nI x) :: rest)) :=
  lv_icmp_ne C0.1.1 C0.1.2.1 hdg ht (fun h => kt (fun q => h ((nI_eq hx hy).mpr q))) (fun h => kf ((nI_eq hx hy).mp h))
theorem mr_eq0N {x : Nat} {off : Int} {tgt : Nat} (C0 : Cx p s m args c cc nL Ts own D T) (hdg : decode cc pc = .ok (.ifCond .eq off, 3)) (ht : (pc : Int) + off = (tgt : Int)) (hx : x < 2 ^ 31)
    (kt : x = 0 → W p l e R s m args below meth c H locs cells slots Qq (F0 m tgt ls rest)) (kf : 0 < x → W p l e R s m args below meth c H locs cells slots Qq (F0 m (pc + 3) ls rest)) : W p l e R s m args below meth c H locs cells slots Qq (F0 m pc ls (.int (nI x) :: rest)) :=
  lv_if_eq C0.1.1 C0.1.2.1 hdg ht (fun h => kt (Classical.byContradiction (fun q => nI_ne0 (Nat.pos_of_ne_zero q) hx h))) (fun h => kf (Nat.pos_of_ne_zero (fun q => h (by rw [q]; rfl))))
theorem mr_ne0N {x : Nat} {off : Int} {tgt : Nat} (C0 : Cx p s m args c cc nL Ts own D T) (hdg : decode cc pc = .ok (.ifCond .ne off, 3)) (ht : (pc : Int) + off = (tgt : Int)) (hx : x < 2 ^ 31)
    (kt : 0 < x → W p l e R s m args below meth c H locs cells slots Qq (F0 m tgt ls rest)) (kf : x = 0 → W p l e R s m args below meth c H locs cells slots Qq (F0 m (pc + 3) ls rest)) : W p l e R s m args below meth c H locs cells slots Qq (F0 m pc ls (.int (nI x) :: rest)) :=
  lv_if_ne C0.1.1 C0.1.2.1 hdg ht (fun h => kt (Nat.pos_of_ne_zero (fun q => h (by rw [q]; rfl)))) (fun h => kf (Classical.byContradiction (fun q => nI_ne0 (Nat.pos_of_ne_zero q) hx h)))
theorem mr_le0N {x : Nat} {off : Int} {tgt : Nat} (C0 : Cx p s m args c cc nL Ts own D T) (hdg : decode cc pc = .ok (.ifCond .le off, 3)) (ht : (pc : Int) + off = (tgt : Int)) (hx : x < 2 ^ 31)
    (kt : x = 0 → W p l e R s m args below meth c H locs cells slots Qq (F0 m tgt ls rest)) (kf : 0 < x → W p l e R s m args below meth c H locs cells slots Qq (F0 m (pc + 3) ls rest)) : W p l e R s m args below meth c H locs cells slots Qq (F0 m pc ls (.int (nI x) :: rest)) :=
  lv_if_le C0.1.1 C0.1.2.1 hdg ht (fun h => kt (Classical.byContradiction (fun q => nI_nle (Nat.pos_of_ne_zero q) hx h))) (fun h => kf (Nat.pos_of_ne_zero (fun q => h (by rw [q]; decide))))
theorem mr_gt0N {x : Nat} {off : Int} {tgt : Nat} (C0 : Cx p s m args c cc nL Ts own D T) (hdg : decode cc pc = .ok (.ifCond .gt off, 3)) (ht : (pc : Int) + off = (tgt : Int)) (hx : x < 2 ^ 31)
    (kt : 0 < x → W p l e R s m args below meth c H locs cells slots Qq (F0 m tgt ls rest)) (kf : x = 0 → W p l e R s m args below meth c H locs cells slots Qq (F0 m (pc + 3) ls rest)) : W p l e R s m args below meth c H locs cells slots Qq (F0 m pc ls (.int (nI x) :: rest)) :=
  lv_if_gt C0.1.1 C0.1.2.1 hdg ht (fun h => kt (Nat.pos_of_ne_zero (fun q => by rw [q] at h; exact absurd h (by decide)))) (fun h => kf (Classical.byContradiction (fun q => h (by have := nI_lt (Nat.pos_of_ne_zero q) hx; exact this))))
/-- the top of the stack by another name -/
theorem mr_top {x y : Int32} (h : x = y) (kk : W p l e R s m args below meth c H locs cells slots Qq (F0 m pc ls (.int y :: rest))) : W p l e R s m args below meth c H locs cells slots Qq (F0 m pc ls (.int x :: rest)) := by rw [h]; exact kk
theorem mr_topl {x y : Int64} (h : x = y) (kk : W p l e R s m args below meth c H locs cells slots Qq (F0 m pc ls (.long y :: rest))) : W p l e R s m args below meth c H locs cells slots Qq (F0 m pc ls (.long x :: rest)) := by rw [h]; exact kk
theorem mr_iaddN {x y z : Nat} (C0 : Cx p s m args c cc nL Ts own D T) (hz : x + y = z) (hdg : decode cc pc = .ok (.iadd, 1)) (kk : W p l e R s m args below meth c H locs cells slots Qq (F0 m (pc + 1) ls (.int (nI z) :: rest))) : W p l e R s m args below meth c H locs cells slots Qq (F0 m pc ls (.int (nI y) :: .int (nI x) :: rest)) :=
  lv_iadd C0.1.1 C0.1.2.1 hdg (mr_top (by rw [nI_add, hz]) kk)
theorem mr_imulN {x y z : Nat} (C0 : Cx p s m args c cc nL Ts own D T) (hz : x * y = z) (hdg : decode cc pc = .ok (.imul, 1)) (kk : W p l e R s m args below meth c H locs cells slots Qq (F0 m (pc + 1) ls (.int (nI z) :: rest))) : W p l e R s m args below meth c H locs cells slots Qq (F0 m pc ls (.int (nI y) :: .int (nI x) :: rest)) :=
  lv_imul C0.1.1 C0.1.2.1 hdg (mr_top (by rw [pk_mul, hz]) kk)
theorem mr_isubN {x y z : Nat} (C0 : Cx p s m args c cc nL Ts own D T) (hz : x = z + y) (hdg : decode cc pc = .ok (.isub, 1)) (kk : W p l e R s m args below meth c H locs cells slots Qq (F0 m (pc + 1) ls (.int (nI z) :: rest))) : W p l e R s m args below meth c H locs cells slots Qq (F0 m pc ls (.int (nI y) :: .int (nI x) :: rest)) :=
  lv_isub C0.1.1 C0.1.2.1 hdg (mr_top (by rw [pk_sub (by omega), hz, Nat.add_sub_cancel]) kk)
/-! ends -/
theorem mr_iret {v : Int32} {V : Option Value} {Q : Heap → Prop} {mc ms : Nat} (C0 : Cx p s m args c cc nL Ts own D T) (hr : meth.sig.returnType = some .int) (hlk : meth.locks = false) (hQ : Qq = MQ below (CtQ A V Q) args s mc ms A) (hS : va_S A s.heap H locs) (hv : some (.int v) = V) (hq : Q H) (hc : cells ≤ mc) (hs : slots ≤ ms) (hdg : decode cc pc = .ok (.ireturn, 1)) :
    W p l e R s m args below meth c H locs cells slots Qq (F0 m pc ls [.int v]) := by
  subst hQ
  subst hv
  refine W.widen hc hs ?_
  exact W.iret C0.1.1 C0.1.2.1 hr (fun t ht hW => ⟨rfl, by rw [ht]; exact hq, hS.F ht⟩) hS.2.2 hdg hlk
theorem mr_zret {b : Bool} {V : Option Value} {Q : Heap → Prop} {mc ms : Nat} (C0 : Cx p s m args c cc nL Ts own D T) (hr : meth.sig.returnType = some .boolean) (hlk : meth.locks = false) (hQ : Qq = MQ below (CtQ A V Q) args s mc ms A) (hS : va_S A s.heap H locs) (hv : some (.int (bI b)) = V) (hq : Q H) (hc : cells ≤ mc) (hs : slots ≤ ms) (hdg : decode cc pc = .ok (.ireturn, 1)) :
    W p l e R s m args below meth c H locs cells slots Qq (F0 m pc ls [.int (bI b)]) := by
  subst hQ
  subst hv
  refine W.widen hc hs ?_
  exact W.zret C0.1.1 C0.1.2.1 hr (by cases b <;> rfl) (fun t ht hW => ⟨rfl, by rw [ht]; exact hq, hS.F ht⟩) hS.2.2 hdg hlk
theorem mr_lret {v : Int64} {V : Option Value} {Q : Heap → Prop} {mc ms : Nat} (C0 : Cx p s m args c cc nL Ts own D T) (hr : meth.sig.returnType = some .long) (hlk : meth.locks = false) (hQ : Qq = MQ below (CtQ A V Q) args s mc ms A) (hS : va_S A s.heap H locs) (hv : some (.long v) = V) (hq : Q H) (hc : cells ≤ mc) (hs : slots ≤ ms) (hdg : decode cc pc = .ok (.lreturn, 1)) :
    W p l e R s m args below meth c H locs cells slots Qq (F0 m pc ls [.long v]) := by
  subst hQ
  subst hv
  refine W.widen hc hs ?_
  exact W.lret C0.1.1 C0.1.2.1 hr (fun t ht hW => ⟨rfl, by rw [ht]; exact hq, hS.F ht⟩) hS.2.2 hdg hlk
theorem mr_aret {v : Nat} {C : String} {V : Option Value} {Q : Heap → Prop} {mc ms : Nat} (C0 : Cx p s m args c cc nL Ts own D T) (hr : meth.sig.returnType = some (.object C)) (hlk : meth.locks = false) (hQ : Qq = MQ below (CtQ A V Q) args s mc ms A) (hS : va_S A s.heap H locs) (hv : some (.ref v) = V) (hq : Q H) (hc : cells ≤ mc) (hs : slots ≤ ms) (hdg : decode cc pc = .ok (.areturn, 1)) :
    W p l e R s m args below meth c H locs cells slots Qq (F0 m pc ls [.ref v]) := by
  subst hQ
  subst hv
  refine W.widen hc hs ?_
  exact W.aret C0.1.1 C0.1.2.1 hr (Or.inl ⟨C, rfl⟩) (Or.inr ⟨v, rfl⟩) (fun t ht hW => ⟨rfl, by rw [ht]; exact hq, hS.F ht⟩) hS.2.2 hdg hlk
theorem mr_vret {V : Option Value} {Q : Heap → Prop} {mc ms : Nat} (C0 : Cx p s m args c cc nL Ts own D T) (hr : meth.sig.returnType = none) (hlk : meth.locks = false) (hQ : Qq = MQ below (CtQ A V Q) args s mc ms A) (hS : va_S A s.heap H locs) (hv : none = V) (hq : Q H) (hc : cells ≤ mc) (hs : slots ≤ ms) (hdg : decode cc pc = .ok (.return_, 1)) :
    W p l e R s m args below meth c H locs cells slots Qq (F0 m pc ls []) := by
  subst hQ
  subst hv
  refine W.widen hc hs ?_
  exact W.vret C0.1.1 C0.1.2.1 hr (fun t ht hW => ⟨rfl, by rw [ht]; exact hq, hS.F ht⟩) hS.2.2 hdg hlk
/-! calls -/
theorem ct_blind {av : List Value} {P : Heap → Prop} : FrameBlind (va_Pc av (fun U => P U.heap ∧ Kx D T U)) := fun a U g mk q => ⟨q.1, q.2.1, Kx.same (u := U) rfl q.2.2⟩
theorem mr_back {v : Option Value} {P Q : Heap → Prop} {mc ms : Nat} {st0 st1 : List Value} {A1 : Nat → Prop} (hr : va_Run p l e R s m args below meth c H locs cells slots mc ms (F0 m pc ls st0) rest (CtQ A v Q args) A1) (hA : A1 = A) (hS : va_S A H0 H locs) (hst : v.toList ++ rest = st1)
    (kk : ∀ (H1 : Heap) (locs1 : List Loc), Q H1 → va_S A H0 H1 locs1 → W p l e R s m args below meth c H1 locs1 (cells + mc) (slots + ms) Qq (F0 m (pc + 3) ls st1)) : W p l e R s m args below meth c H locs cells slots Qq (F0 m pc ls st0) := by
  subst hA
  intro Ts0 hT X
  obtain ⟨v', st₀, t, T', L', h0, X', hL, e1, e2, ⟨hv, hq, hz, hk⟩, st⟩ := hr Ts0 hT X
  cases hv
  rw [h0] at hz hk
  obtain ⟨t2, a1, b1⟩ := kk T'.heap (locs ++ L') (by rw [e1]; exact hq)
    ⟨Nat.le_trans hS.1 (by rw [e1]; exact hz), fun q h1 h2 => by rw [e1, hk q (Nat.lt_of_lt_of_le h1 hS.1) h2]; exact hS.2.1 q h1 h2, fun q hq => by
      rcases List.mem_append.mp hq with h | h
      · exact hS.2.2 q h
      · exact hL q h⟩ T' rfl X'
  rw [← hst] at a1
  exact ⟨t2, st t2 a1, b1⟩
theorem CtQ_args {v : Option Value} {Q : Heap → Prop} {a1 : Array Value} : CtQ A v Q a1 = CtQ A v Q args := rfl
theorem mr_callV {y : MethodName} {bytes : ByteArray} {maxL n index mc ms : Nat} {ret : Option FieldType} {ws : List Cond} {rm : Room} {C : String} {b : Nat} {As : List Value} {st0 st1 : List Value} {v : Option Value} {P Q : Heap → Prop} {ci : Nat} {fs : List (Option (Option Nat))} {q : vw_C}
    (C0 : Cx p s m args c cc nL Ts own D T) (hc : Ct l y ws rm mc ms D T A (.ref b :: As) P v Q) (cw : CallW R s args own C index y bytes maxL ret ws rm mc ms n) (hM : hm D T L A Sh I J H) (hb : b ∈ L) (hs : Sh b = kO ci fs) (hq : vwCl[ci]? = some q) (hC : q.1 = C) (hP : P H) (hS : va_S A H0 H locs)
    (hst0 : st0 = As.reverse ++ .ref b :: rest) (hst : v.toList ++ rest = st1) (hn : As.length = n) (hsz : ls.size = nL) (hr : (rest.map fun v => v.category).sum ≤ 8) (hdg : decode cc pc = .ok (.invokevirtual index, 3)) (hf : cells + mc ≤ R.cells ∧ slots + ms ≤ R.slots)
    (kk : ∀ (H1 : Heap) (locs1 : List Loc), Q H1 → va_S A H0 H1 locs1 → W p l e R s m args below meth c H1 locs1 (cells + mc) (slots + ms) Qq (F0 m (pc + 3) ls st1)) : W p l e R s m args below meth c H locs cells slots Qq (F0 m pc ls st0) := by
  subst hC
  obtain ⟨k, hk⟩ := hm_place (J := J) hb (hm_e_O (I := I) (J := J) (T := T) hs)
  have hrecv := va_recv C0.2.1 hM.1 hq hk
  exact mr_back (P := P) (va_runV (As := As) (rest := rest) C0.1 hc cw ⟨ct_blind, hrecv, fun U hU hW => ⟨rfl, by rw [hU]; exact hP, Kx.warm hW C0.2⟩⟩ rfl hn hsz hst0 (lv_room hr) hdg hf) rfl hS hst kk
theorem mr_callS {y : MethodName} {bytes : ByteArray} {maxL n index mc ms : Nat} {ret : Option FieldType} {ws : List Cond} {rm : Room} {As : List Value} {st0 st1 : List Value} {v : Option Value} {P Q : Heap → Prop}
    (C0 : Cx p s m args c cc nL Ts own D T) (hc : Ct l y ws rm mc ms D T A As P v Q) (cw : CallB R s args own index y bytes maxL ret ws rm mc ms n ∧ (Cond.static y).before args s = true) (hP : P H) (hS : va_S A H0 H locs)
    (hst0 : st0 = As.reverse ++ rest) (hst : v.toList ++ rest = st1) (hn : As.length = n) (hsz : ls.size = nL) (hr : (rest.map fun v => v.category).sum ≤ 8) (hdg : decode cc pc = .ok (.invokestatic index, 3)) (hf : cells + mc ≤ R.cells ∧ slots + ms ≤ R.slots)
    (kk : ∀ (H1 : Heap) (locs1 : List Loc), Q H1 → va_S A H0 H1 locs1 → W p l e R s m args below meth c H1 locs1 (cells + mc) (slots + ms) Qq (F0 m (pc + 3) ls st1)) : W p l e R s m args below meth c H locs cells slots Qq (F0 m pc ls st0) :=
  mr_back (P := P) (va_runS (As := As) (rest := rest) C0.1 hc cw ⟨ct_blind, fun U hU hW => ⟨rfl, by rw [hU]; exact hP, Kx.warm hW C0.2⟩⟩ rfl hn hsz hst0 (lv_room hr) hdg hf) rfl hS hst kk
theorem mr_callSN {y : MethodName} {host : String} {bytes : ByteArray} {maxL n index mc ms : Nat} {ret : Option FieldType} {ws : List Cond} {rm : Room} {As : List Value} {st0 st1 : List Value} {v : Option Value} {P Q : Heap → Prop}
    (C0 : Cx p s m args c cc nL Ts own D T) (hc : Ct l y ws rm mc ms D T A As P v Q) (cw : va_CN R s args own index y host bytes maxL ret ws rm mc ms n) (hstat : (Cond.static y).before args s = true) (hP : P H) (hS : va_S A H0 H locs)
    (hst0 : st0 = As.reverse ++ rest) (hst : v.toList ++ rest = st1) (hn : As.length = n) (hsz : ls.size = nL) (hr : (rest.map fun v => v.category).sum ≤ 8) (hdg : decode cc pc = .ok (.invokestatic index, 3)) (hf : cells + mc ≤ R.cells ∧ slots + ms ≤ R.slots)
    (kk : ∀ (H1 : Heap) (locs1 : List Loc), Q H1 → va_S A H0 H1 locs1 → W p l e R s m args below meth c H1 locs1 (cells + mc) (slots + ms) Qq (F0 m (pc + 3) ls st1)) : W p l e R s m args below meth c H locs cells slots Qq (F0 m pc ls st0) :=
  mr_back (P := P) (va_runSN (As := As) (rest := rest) C0.1 hc ⟨cw, hstat, trivial⟩ ⟨ct_blind, fun U hU hW => ⟨rfl, by rw [hU]; exact hP, Kx.warm hW C0.2⟩⟩ rfl hn hsz hst0 (lv_room hr) hdg hf) rfl hS hst kk
end HR
/-! loops: n rounds of f, from the first (0) on -/
def lp {σ : Type} : Nat → (Nat → σ → σ) → σ → σ
  | 0, _, x => x
  | n + 1, f, x => f n (lp n f x)
theorem lp_0 {σ : Type} (f : Nat → σ → σ) (x : σ) : lp 0 f x = x := rfl
theorem lp_s {σ : Type} (n : Nat) (f : Nat → σ → σ) (x : σ) : lp (n + 1) f x = f n (lp n f x) := rfl
theorem lp_cong {σ : Type} {n : Nat} {f g : Nat → σ → σ} {x y : σ} (hx : x = y) (h : ∀ i z, i < n → f i z = g i z) : lp n f x = lp n g y := by
  subst hx
  induction n with
  | zero => rfl
  | succ n ih => rw [lp_s, lp_s, ih (fun i z hi => h i z (by omega)), h n _ (by omega)]
theorem lp_inv {σ : Type} {n : Nat} {f : Nat → σ → σ} {x : σ} (P : Nat → σ → Prop) (h0 : P 0 x) (hs : ∀ i z, i < n → P i z → P (i + 1) (f i z)) : P n (lp n f x) := by
  induction n with
  | zero => exact h0
  | succ n ih => exact hs n _ (by omega) (ih (fun i z hi => hs i z (by omega)))
theorem lp_loop {σ : Type} (P : Nat → σ → Prop) (n : Nat) (f : Nat → σ → σ) (x0 : σ) (Inv : Nat → σ → Prop) (h0 : Inv 0 x0) (hi : ∀ i x, i < n → Inv i x → Inv (i + 1) (f i x)) (hs : ∀ i x, i < n → Inv i x → P (i + 1) (f i x) → P i x) (hx : Inv n (lp n f x0) → P n (lp n f x0)) : P 0 x0 := by
  have key : ∀ k, k ≤ n → Inv k (lp k f x0) := by
    intro k
    induction k with
    | zero => exact fun _ => h0
    | succ k ih => exact fun hk => hi k _ hk (ih (by omega))
  have down : ∀ d, d ≤ n → P (n - d) (lp (n - d) f x0) := by
    intro d
    induction d with
    | zero => exact fun _ => hx (key n (Nat.le_refl n))
    | succ d ih =>
      intro hd
      have h1 := ih (by omega)
      have e : n - d = (n - (d + 1)) + 1 := by omega
      rw [e] at h1
      exact hs _ _ (by omega) (key _ (by omega)) h1
  have := down n (Nat.le_refl n)
  rwa [Nat.sub_self] at this
/-- rounds with an end before the time: g answers an end (inl) or goes on (inr); d behind the last round -/
def lpr {σ ρ : Type} (g : Nat → σ → ρ ⊕ σ) (d : σ → ρ) : Nat → Nat → σ → ρ
  | 0, _, x => d x
  | n + 1, i, x => match g i x with
    | .inl v => v
    | .inr y => lpr g d n (i + 1) y
theorem lpr_0 {σ ρ : Type} (g : Nat → σ → ρ ⊕ σ) (d : σ → ρ) (i : Nat) (x : σ) : lpr g d 0 i x = d x := rfl
theorem lpr_l {σ ρ : Type} {g : Nat → σ → ρ ⊕ σ} {d : σ → ρ} {n i : Nat} {x : σ} {v : ρ} (h : g i x = .inl v) : lpr g d (n + 1) i x = v := by simp [lpr, h]
theorem lpr_r {σ ρ : Type} {g : Nat → σ → ρ ⊕ σ} {d : σ → ρ} {n i : Nat} {x y : σ} (h : g i x = .inr y) : lpr g d (n + 1) i x = lpr g d n (i + 1) y := by simp [lpr, h]
theorem lpr_loop {σ ρ : Type} (P : Nat → σ → Prop) (n : Nat) (g : Nat → σ → ρ ⊕ σ) (d : σ → ρ) (x0 : σ) (Inv : Nat → σ → Prop) (h0 : Inv 0 x0) (hi : ∀ i x y, i < n → Inv i x → g i x = .inr y → Inv (i + 1) y)
    (hs : ∀ i x, i < n → Inv i x → (∀ v, g i x = .inl v → v = lpr g d n 0 x0) → (∀ y, g i x = .inr y → P (i + 1) y) → P i x) (hx : ∀ x, Inv n x → d x = lpr g d n 0 x0 → P n x) : P 0 x0 := by
  have key : ∀ r i x, i + r = n → Inv i x → lpr g d r i x = lpr g d n 0 x0 → P i x := by
    intro r
    induction r with
    | zero =>
      intro i x hir hv hf
      have : i = n := by omega
      subst this
      exact hx x hv hf
    | succ r ih =>
      intro i x hir hv hf
      refine hs i x (by omega) hv (fun v hg => ?_) (fun y hg => ?_)
      · rw [← hf, lpr_l hg]
      · exact ih (i + 1) y (by omega) (hi i x y (by omega) hv hg) (by rw [← hf, lpr_r hg])
  exact key n 0 x0 (by omega) h0 rfl
end
section
/-! what stands where: the objects of the classes, at places that follow their own -/
def IsI (L : List Nat) (Sh : hm_S) (a n : Nat) : Prop := a ∈ L ∧ Sh a = kI n
def IsF (L : List Nat) (Sh : hm_S) (a n : Nat) : Prop :=
  (a ∈ L ∧ Sh a = kO 0 [some (some (a + 1)), some (some (a + 2)), some (some (a + 3)), some (some (a + 4)), none]) ∧ (a + 1 ∈ L ∧ Sh (a + 1) = kI n) ∧ (a + 2 ∈ L ∧ Sh (a + 2) = kI n) ∧ (a + 3 ∈ L ∧ Sh (a + 3) = kI n) ∧ (a + 4 ∈ L ∧ Sh (a + 4) = kI n) ∧ n < 2 ^ 31
def IsO (L : List Nat) (Sh : hm_S) (a : Nat) : Prop :=
  (a ∈ L ∧ Sh a = kO 1 [some (some (a + 1)), some (some (a + 2))]) ∧ (a + 1 ∈ L ∧ Sh (a + 1) = kI 8) ∧ (a + 2 ∈ L ∧ Sh (a + 2) = kI 8)
def IsS (L : List Nat) (Sh : hm_S) (q : Nat) : Prop :=
  (q ∈ L ∧ Sh q = kO 2 [none, some (some (q + 1)), some (some (q + 2)), some (some (q + 3)), some (some (q + 44)), some (some (q + 47)), none, none, none, some (some (q + 78))]) ∧
  (q + 1 ∈ L ∧ Sh (q + 1) = kI 8) ∧ (q + 2 ∈ L ∧ Sh (q + 2) = kI 8) ∧ (q + 3 ∈ L ∧ Sh (q + 3) = kR 0 8 (fun s => some (q + 4 + 5 * s))) ∧
  (∀ s, s < 8 → IsF L Sh (q + 4 + 5 * s) 6) ∧ IsO L Sh (q + 44) ∧ (q + 47 ∈ L ∧ Sh (q + 47) = kR 1 10 (fun e => some (q + 48 + 3 * e))) ∧
  (∀ e, e < 10 → IsO L Sh (q + 48 + 3 * e)) ∧ IsF L Sh (q + 78) 40
def IsM (L : List Nat) (Sh : hm_S) (b : Nat) : Prop :=
  (b ∈ L ∧ Sh b = kO 4 [some (some (b + 1)), some (some (b + 2)), none, some (some (b + 3)), none, some (some (b + 4)), some (some (b + 5)), some (some (b + 6)), some (some (b + 7)), some (some (b + 8))]) ∧
  (b + 1 ∈ L ∧ Sh (b + 1) = kI 428) ∧ (b + 2 ∈ L ∧ Sh (b + 2) = kI 3424) ∧ (b + 3 ∈ L ∧ Sh (b + 3) = kI 856) ∧ (b + 4 ∈ L ∧ Sh (b + 4) = kI 8) ∧ (b + 5 ∈ L ∧ Sh (b + 5) = kI 8) ∧ (b + 6 ∈ L ∧ Sh (b + 6) = kI 428) ∧ (b + 7 ∈ L ∧ Sh (b + 7) = kI 8) ∧ (b + 8 ∈ L ∧ Sh (b + 8) = kJ 256)
end
section
theorem dX3_isWithin_0 : decode cX3_isWithin 0 = .ok (.iload_n 0, 1) := by decide +kernel
theorem dX3_isWithin_1 : decode cX3_isWithin 1 = .ok (.iload_n 1, 1) := by decide +kernel
theorem dX3_isWithin_2 : decode cX3_isWithin 2 = .ok (.if_icmp .lt 12, 3) := by decide +kernel
theorem dX3_isWithin_5 : decode cX3_isWithin 5 = .ok (.iload_n 0, 1) := by decide +kernel
theorem dX3_isWithin_6 : decode cX3_isWithin 6 = .ok (.iload_n 2, 1) := by decide +kernel
theorem dX3_isWithin_7 : decode cX3_isWithin 7 = .ok (.if_icmp .gt 7, 3) := by decide +kernel
theorem dX3_isWithin_10 : decode cX3_isWithin 10 = .ok (.iconst 1, 1) := by decide +kernel
theorem dX3_isWithin_11 : decode cX3_isWithin 11 = .ok (.goto 4, 3) := by decide +kernel
theorem dX3_isWithin_14 : decode cX3_isWithin 14 = .ok (.iconst 0, 1) := by decide +kernel
theorem dX3_isWithin_15 : decode cX3_isWithin 15 = .ok (.ireturn, 1) := by decide +kernel
theorem dX3_isStream_0 : decode cX3_isStream 0 = .ok (.iload_n 0, 1) := by decide +kernel
theorem dX3_isStream_1 : decode cX3_isStream 1 = .ok (.ifCond .lt 13, 3) := by decide +kernel
theorem dX3_isStream_4 : decode cX3_isStream 4 = .ok (.iload_n 0, 1) := by decide +kernel
theorem dX3_isStream_5 : decode cX3_isStream 5 = .ok (.bipush 8, 2) := by decide +kernel
theorem dX3_isStream_7 : decode cX3_isStream 7 = .ok (.if_icmp .ge 7, 3) := by decide +kernel
theorem dX3_isStream_10 : decode cX3_isStream 10 = .ok (.iconst 1, 1) := by decide +kernel
theorem dX3_isStream_11 : decode cX3_isStream 11 = .ok (.goto 4, 3) := by decide +kernel
theorem dX3_isStream_14 : decode cX3_isStream 14 = .ok (.iconst 0, 1) := by decide +kernel
theorem dX3_isStream_15 : decode cX3_isStream 15 = .ok (.ireturn, 1) := by decide +kernel
theorem dX3_areTwoStreams_0 : decode cX3_areTwoStreams 0 = .ok (.iload_n 0, 1) := by decide +kernel
theorem dX3_areTwoStreams_1 : decode cX3_areTwoStreams 1 = .ok (.invokestatic 38, 3) := by decide +kernel
theorem dX3_areTwoStreams_4 : decode cX3_areTwoStreams 4 = .ok (.ifCond .eq 19, 3) := by decide +kernel
theorem dX3_areTwoStreams_7 : decode cX3_areTwoStreams 7 = .ok (.iload_n 1, 1) := by decide +kernel
theorem dX3_areTwoStreams_8 : decode cX3_areTwoStreams 8 = .ok (.invokestatic 38, 3) := by decide +kernel
theorem dX3_areTwoStreams_11 : decode cX3_areTwoStreams 11 = .ok (.ifCond .eq 12, 3) := by decide +kernel
theorem dX3_areTwoStreams_14 : decode cX3_areTwoStreams 14 = .ok (.iload_n 0, 1) := by decide +kernel
theorem dX3_areTwoStreams_15 : decode cX3_areTwoStreams 15 = .ok (.iload_n 1, 1) := by decide +kernel
theorem dX3_areTwoStreams_16 : decode cX3_areTwoStreams 16 = .ok (.if_icmp .eq 7, 3) := by decide +kernel
theorem dX3_areTwoStreams_19 : decode cX3_areTwoStreams 19 = .ok (.iconst 1, 1) := by decide +kernel
theorem dX3_areTwoStreams_20 : decode cX3_areTwoStreams 20 = .ok (.goto 4, 3) := by decide +kernel
theorem dX3_areTwoStreams_23 : decode cX3_areTwoStreams 23 = .ok (.iconst 0, 1) := by decide +kernel
theorem dX3_areTwoStreams_24 : decode cX3_areTwoStreams 24 = .ok (.ireturn, 1) := by decide +kernel
theorem dX3_setOf_0 : decode cX3_setOf 0 = .ok (.iconst 1, 1) := by decide +kernel
theorem dX3_setOf_1 : decode cX3_setOf 1 = .ok (.iload_n 0, 1) := by decide +kernel
theorem dX3_setOf_2 : decode cX3_setOf 2 = .ok (.ishl, 1) := by decide +kernel
theorem dX3_setOf_3 : decode cX3_setOf 3 = .ok (.ireturn, 1) := by decide +kernel
theorem dX3_isIn_0 : decode cX3_isIn 0 = .ok (.iload_n 0, 1) := by decide +kernel
theorem dX3_isIn_1 : decode cX3_isIn 1 = .ok (.iconst 1, 1) := by decide +kernel
theorem dX3_isIn_2 : decode cX3_isIn 2 = .ok (.iload_n 1, 1) := by decide +kernel
theorem dX3_isIn_3 : decode cX3_isIn 3 = .ok (.ishl, 1) := by decide +kernel
theorem dX3_isIn_4 : decode cX3_isIn 4 = .ok (.iand, 1) := by decide +kernel
theorem dX3_isIn_5 : decode cX3_isIn 5 = .ok (.ifCond .eq 7, 3) := by decide +kernel
theorem dX3_isIn_8 : decode cX3_isIn 8 = .ok (.iconst 1, 1) := by decide +kernel
theorem dX3_isIn_9 : decode cX3_isIn 9 = .ok (.goto 4, 3) := by decide +kernel
theorem dX3_isIn_12 : decode cX3_isIn 12 = .ok (.iconst 0, 1) := by decide +kernel
theorem dX3_isIn_13 : decode cX3_isIn 13 = .ok (.ireturn, 1) := by decide +kernel
theorem dJ6_bitCount_0f7a4_0 : decode cJ6_bitCount_0f7a4 0 = .ok (.iload_n 0, 1) := by decide +kernel
theorem dJ6_bitCount_0f7a4_1 : decode cJ6_bitCount_0f7a4 1 = .ok (.iload_n 0, 1) := by decide +kernel
theorem dJ6_bitCount_0f7a4_2 : decode cJ6_bitCount_0f7a4 2 = .ok (.iconst 1, 1) := by decide +kernel
theorem dJ6_bitCount_0f7a4_3 : decode cJ6_bitCount_0f7a4 3 = .ok (.iushr, 1) := by decide +kernel
theorem dJ6_bitCount_0f7a4_4 : decode cJ6_bitCount_0f7a4 4 = .ok (.ldc_w 265, 3) := by decide +kernel
theorem dJ6_bitCount_0f7a4_7 : decode cJ6_bitCount_0f7a4 7 = .ok (.iand, 1) := by decide +kernel
theorem dJ6_bitCount_0f7a4_8 : decode cJ6_bitCount_0f7a4 8 = .ok (.isub, 1) := by decide +kernel
theorem dJ6_bitCount_0f7a4_9 : decode cJ6_bitCount_0f7a4 9 = .ok (.istore_n 0, 1) := by decide +kernel
theorem dJ6_bitCount_0f7a4_10 : decode cJ6_bitCount_0f7a4 10 = .ok (.iload_n 0, 1) := by decide +kernel
theorem dJ6_bitCount_0f7a4_11 : decode cJ6_bitCount_0f7a4 11 = .ok (.ldc_w 266, 3) := by decide +kernel
theorem dJ6_bitCount_0f7a4_14 : decode cJ6_bitCount_0f7a4 14 = .ok (.iand, 1) := by decide +kernel
theorem dJ6_bitCount_0f7a4_15 : decode cJ6_bitCount_0f7a4 15 = .ok (.iload_n 0, 1) := by decide +kernel
theorem dJ6_bitCount_0f7a4_16 : decode cJ6_bitCount_0f7a4 16 = .ok (.iconst 2, 1) := by decide +kernel
theorem dJ6_bitCount_0f7a4_17 : decode cJ6_bitCount_0f7a4 17 = .ok (.iushr, 1) := by decide +kernel
theorem dJ6_bitCount_0f7a4_18 : decode cJ6_bitCount_0f7a4 18 = .ok (.ldc_w 266, 3) := by decide +kernel
theorem dJ6_bitCount_0f7a4_21 : decode cJ6_bitCount_0f7a4 21 = .ok (.iand, 1) := by decide +kernel
theorem dJ6_bitCount_0f7a4_22 : decode cJ6_bitCount_0f7a4 22 = .ok (.iadd, 1) := by decide +kernel
theorem dJ6_bitCount_0f7a4_23 : decode cJ6_bitCount_0f7a4 23 = .ok (.istore_n 0, 1) := by decide +kernel
theorem dJ6_bitCount_0f7a4_24 : decode cJ6_bitCount_0f7a4 24 = .ok (.iload_n 0, 1) := by decide +kernel
theorem dJ6_bitCount_0f7a4_25 : decode cJ6_bitCount_0f7a4 25 = .ok (.iload_n 0, 1) := by decide +kernel
theorem dJ6_bitCount_0f7a4_26 : decode cJ6_bitCount_0f7a4 26 = .ok (.iconst 4, 1) := by decide +kernel
theorem dJ6_bitCount_0f7a4_27 : decode cJ6_bitCount_0f7a4 27 = .ok (.iushr, 1) := by decide +kernel
theorem dJ6_bitCount_0f7a4_28 : decode cJ6_bitCount_0f7a4 28 = .ok (.iadd, 1) := by decide +kernel
theorem dJ6_bitCount_0f7a4_29 : decode cJ6_bitCount_0f7a4 29 = .ok (.ldc_w 267, 3) := by decide +kernel
theorem dJ6_bitCount_0f7a4_32 : decode cJ6_bitCount_0f7a4 32 = .ok (.iand, 1) := by decide +kernel
theorem dJ6_bitCount_0f7a4_33 : decode cJ6_bitCount_0f7a4 33 = .ok (.istore_n 0, 1) := by decide +kernel
theorem dJ6_bitCount_0f7a4_34 : decode cJ6_bitCount_0f7a4 34 = .ok (.iload_n 0, 1) := by decide +kernel
theorem dJ6_bitCount_0f7a4_35 : decode cJ6_bitCount_0f7a4 35 = .ok (.iload_n 0, 1) := by decide +kernel
theorem dJ6_bitCount_0f7a4_36 : decode cJ6_bitCount_0f7a4 36 = .ok (.bipush 8, 2) := by decide +kernel
theorem dJ6_bitCount_0f7a4_38 : decode cJ6_bitCount_0f7a4 38 = .ok (.iushr, 1) := by decide +kernel
theorem dJ6_bitCount_0f7a4_39 : decode cJ6_bitCount_0f7a4 39 = .ok (.iadd, 1) := by decide +kernel
theorem dJ6_bitCount_0f7a4_40 : decode cJ6_bitCount_0f7a4 40 = .ok (.istore_n 0, 1) := by decide +kernel
theorem dJ6_bitCount_0f7a4_41 : decode cJ6_bitCount_0f7a4 41 = .ok (.iload_n 0, 1) := by decide +kernel
theorem dJ6_bitCount_0f7a4_42 : decode cJ6_bitCount_0f7a4 42 = .ok (.iload_n 0, 1) := by decide +kernel
theorem dJ6_bitCount_0f7a4_43 : decode cJ6_bitCount_0f7a4 43 = .ok (.bipush 16, 2) := by decide +kernel
theorem dJ6_bitCount_0f7a4_45 : decode cJ6_bitCount_0f7a4 45 = .ok (.iushr, 1) := by decide +kernel
theorem dJ6_bitCount_0f7a4_46 : decode cJ6_bitCount_0f7a4 46 = .ok (.iadd, 1) := by decide +kernel
theorem dJ6_bitCount_0f7a4_47 : decode cJ6_bitCount_0f7a4 47 = .ok (.istore_n 0, 1) := by decide +kernel
theorem dJ6_bitCount_0f7a4_48 : decode cJ6_bitCount_0f7a4 48 = .ok (.iload_n 0, 1) := by decide +kernel
theorem dJ6_bitCount_0f7a4_49 : decode cJ6_bitCount_0f7a4 49 = .ok (.bipush 63, 2) := by decide +kernel
theorem dJ6_bitCount_0f7a4_51 : decode cJ6_bitCount_0f7a4 51 = .ok (.iand, 1) := by decide +kernel
theorem dJ6_bitCount_0f7a4_52 : decode cJ6_bitCount_0f7a4 52 = .ok (.ireturn, 1) := by decide +kernel


set_option maxRecDepth 20000 in
theorem ggX3_areTwoStreams_X3_isStream : GoodIn wsX3_areTwoStreams wsX3_isStream := goodIn_r _ [4] (by decide +kernel) (by decide +kernel)
set_option maxRecDepth 20000 in
theorem gX3_areTwoStreams_X3_isStream : GoodIn wsX3_areTwoStreams (va_wsS RX3 38 yX3_isStream wsX3_isStream) := goodIn_app (goodIn_of _ (by decide +kernel)) ggX3_areTwoStreams_X3_isStream




def fX3_isWithin (v lo up : Int32) : Bool :=
  if v < lo then false else if up < v then false else true
set_option maxHeartbeats 4000000 in
set_option maxRecDepth 100000 in
theorem ctX3_isWithin {l : Launch} {D : va_G} {T : Nat → ClassId} {L : List Nat} {A : Nat → Prop} {Sh : hm_S} {I : hm_I} {J : hm_J} {v lo up : Int32} :
    Ct l yX3_isWithin wsX3_isWithin { frames := 0, cells := 0, slots := 0, locals := 0 } 0 0 D T A [.int v, .int lo, .int up] (hm D T L A Sh I J) (some (.int (bI (fX3_isWithin v lo up)))) (hm D T L A Sh I J) := by
  refine Ct.ofW (cc := cX3_isWithin) (maxL := 3) (ret := (some .boolean)) (by decide) rfl (Nat.le_of_ble_eq_true rfl) ?_
  intro p_ e_ s_ m_ args_ below_ meth_ c_ ls R Qq hR hQ C0 hr hlk hname hM hl
  have hx := C0.1.1
  have hb := C0.1.2.1
  have hS : va_S A s_.heap s_.heap [] := va_S.rf
  have hl : lv_has ls 3 [(0, .int v), (1, .int lo), (2, .int up)] := hl
  refine lv_iload_n hx hb dX3_isWithin_0 rfl (lv_at hl 0 rfl) ?_
  refine lv_iload_n hx hb dX3_isWithin_1 rfl (lv_at hl 1 rfl) ?_
  refine lv_icmp_lt (tgt := 14) hx hb dX3_isWithin_2 (by decide) (fun c1 => ?_) (fun c1 => ?_)
  · skip
    refine lv_iconst (v := nI 0) hx hb dX3_isWithin_14 (by decide) ?_
    refine mr_top (y := bI false) (by decide) ?_
    have eF : false = fX3_isWithin v lo up := by unfold fX3_isWithin; rw [if_pos c1]
    exact mr_zret (b := false) C0 hr hlk hQ hS (by rw [← eF]) hM (Nat.le_refl _) (Nat.le_refl _) dX3_isWithin_15
  · skip
    refine lv_iload_n hx hb dX3_isWithin_5 rfl (lv_at hl 0 rfl) ?_
    refine lv_iload_n hx hb dX3_isWithin_6 rfl (lv_at hl 2 rfl) ?_
    refine lv_icmp_gt (tgt := 14) hx hb dX3_isWithin_7 (by decide) (fun c2 => ?_) (fun c2 => ?_)
    · skip
      refine lv_iconst (v := nI 0) hx hb dX3_isWithin_14 (by decide) ?_
      refine mr_top (y := bI false) (by decide) ?_
      have eF : false = fX3_isWithin v lo up := by unfold fX3_isWithin; rw [if_neg c1, if_pos c2]
      exact mr_zret (b := false) C0 hr hlk hQ hS (by rw [← eF]) hM (Nat.le_refl _) (Nat.le_refl _) dX3_isWithin_15
    · skip
      refine lv_iconst (v := nI 1) hx hb dX3_isWithin_10 (by decide) ?_
      refine lv_goto (tgt := 15) hx hb dX3_isWithin_11 (by decide) ?_
      refine mr_top (y := bI true) (by decide) ?_
      have eF : true = fX3_isWithin v lo up := by unfold fX3_isWithin; rw [if_neg c1, if_neg c2]
      exact mr_zret (b := true) C0 hr hlk hQ hS (by rw [← eF]) hM (Nat.le_refl _) (Nat.le_refl _) dX3_isWithin_15
def fX3_isStream (s0 : Int32) : Bool :=
  if s0 < 0 then false else if nI 8 ≤ s0 then false else true
set_option maxHeartbeats 4000000 in
set_option maxRecDepth 100000 in
theorem ctX3_isStream {l : Launch} {D : va_G} {T : Nat → ClassId} {L : List Nat} {A : Nat → Prop} {Sh : hm_S} {I : hm_I} {J : hm_J} {s0 : Int32} :
    Ct l yX3_isStream wsX3_isStream { frames := 0, cells := 0, slots := 0, locals := 0 } 0 0 D T A [.int s0] (hm D T L A Sh I J) (some (.int (bI (fX3_isStream s0)))) (hm D T L A Sh I J) := by
  refine Ct.ofW (cc := cX3_isStream) (maxL := 1) (ret := (some .boolean)) (by decide) rfl (Nat.le_of_ble_eq_true rfl) ?_
  intro p_ e_ s_ m_ args_ below_ meth_ c_ ls R Qq hR hQ C0 hr hlk hname hM hl
  have hx := C0.1.1
  have hb := C0.1.2.1
  have hS : va_S A s_.heap s_.heap [] := va_S.rf
  have hl : lv_has ls 1 [(0, .int s0)] := hl
  refine lv_iload_n hx hb dX3_isStream_0 rfl (lv_at hl 0 rfl) ?_
  refine lv_if_lt (tgt := 14) hx hb dX3_isStream_1 (by decide) (fun c1 => ?_) (fun c1 => ?_)
  · skip
    refine lv_iconst (v := nI 0) hx hb dX3_isStream_14 (by decide) ?_
    refine mr_top (y := bI false) (by decide) ?_
    have eF : false = fX3_isStream s0 := by unfold fX3_isStream; rw [if_pos c1]
    exact mr_zret (b := false) C0 hr hlk hQ hS (by rw [← eF]) hM (Nat.le_refl _) (Nat.le_refl _) dX3_isStream_15
  · skip
    refine lv_iload_n hx hb dX3_isStream_4 rfl (lv_at hl 0 rfl) ?_
    refine lv_bipush (v := nI 8) hx hb dX3_isStream_5 (by decide) ?_
    refine lv_icmp_ge (tgt := 14) hx hb dX3_isStream_7 (by decide) (fun c2 => ?_) (fun c2 => ?_)
    · skip
      refine lv_iconst (v := nI 0) hx hb dX3_isStream_14 (by decide) ?_
      refine mr_top (y := bI false) (by decide) ?_
      have eF : false = fX3_isStream s0 := by unfold fX3_isStream; rw [if_neg c1, if_pos c2]
      exact mr_zret (b := false) C0 hr hlk hQ hS (by rw [← eF]) hM (Nat.le_refl _) (Nat.le_refl _) dX3_isStream_15
    · skip
      refine lv_iconst (v := nI 1) hx hb dX3_isStream_10 (by decide) ?_
      refine lv_goto (tgt := 15) hx hb dX3_isStream_11 (by decide) ?_
      refine mr_top (y := bI true) (by decide) ?_
      have eF : true = fX3_isStream s0 := by unfold fX3_isStream; rw [if_neg c1, if_neg c2]
      exact mr_zret (b := true) C0 hr hlk hQ hS (by rw [← eF]) hM (Nat.le_refl _) (Nat.le_refl _) dX3_isStream_15
set_option maxHeartbeats 4000000 in
set_option maxRecDepth 100000 in
theorem ctX3_isStream_t {l : Launch} {D : va_G} {T : Nat → ClassId} {L : List Nat} {A : Nat → Prop} {Sh : hm_S} {I : hm_I} {J : hm_J} {s0 : Nat} (hs0 : s0 < 8) :
    Ct l yX3_isStream wsX3_isStream { frames := 0, cells := 0, slots := 0, locals := 0 } 0 0 D T A [.int (nI s0)] (hm D T L A Sh I J) (some (.int (bI true))) (hm D T L A Sh I J) := by
  refine Ct.ofW (cc := cX3_isStream) (maxL := 1) (ret := (some .boolean)) (by decide) rfl (Nat.le_of_ble_eq_true rfl) ?_
  intro p_ e_ s_ m_ args_ below_ meth_ c_ ls R Qq hR hQ C0 hr hlk hname hM hl
  have hx := C0.1.1
  have hb := C0.1.2.1
  have hS : va_S A s_.heap s_.heap [] := va_S.rf
  have hl : lv_has ls 1 [(0, .int (nI s0))] := hl
  refine lv_iload_n hx hb dX3_isStream_0 rfl (lv_at hl 0 rfl) ?_
  refine lv_if_lt (tgt := 14) hx hb dX3_isStream_1 (by decide) (fun c1 => absurd c1 (nI_pos (by omega))) (fun c1 => ?_)
  refine lv_iload_n hx hb dX3_isStream_4 rfl (lv_at hl 0 rfl) ?_
  refine lv_bipush (v := nI 8) hx hb dX3_isStream_5 (by decide) ?_
  refine mr_geN (x := s0) (y := 8) (tgt := 14) C0 dX3_isStream_7 (by decide) (by omega) (by omega) (fun c2 => absurd c2 (by omega)) (fun c2 => ?_)
  refine lv_iconst (v := nI 1) hx hb dX3_isStream_10 (by decide) ?_
  refine lv_goto (tgt := 15) hx hb dX3_isStream_11 (by decide) ?_
  refine mr_top (y := bI true) (by decide) ?_
  have eF : true = true := rfl
  exact mr_zret (b := true) C0 hr hlk hQ hS (by rw [← eF]) hM (Nat.le_refl _) (Nat.le_refl _) dX3_isStream_15
def fX3_areTwoStreams (a0 b0 : Int32) : Bool :=
  if fX3_isStream a0 = true then if fX3_isStream b0 = true then if a0 = b0 then false else true else false else false
set_option maxHeartbeats 4000000 in
set_option maxRecDepth 100000 in
theorem ctX3_areTwoStreams {l : Launch} {D : va_G} {T : Nat → ClassId} {L : List Nat} {A : Nat → Prop} {Sh : hm_S} {I : hm_I} {J : hm_J} {a0 b0 : Int32} :
    Ct l yX3_areTwoStreams wsX3_areTwoStreams { frames := 1, cells := 0, slots := 0, locals := 20 } 0 0 D T A [.int a0, .int b0] (hm D T L A Sh I J) (some (.int (bI (fX3_areTwoStreams a0 b0)))) (hm D T L A Sh I J) := by
  refine Ct.ofW (cc := cX3_areTwoStreams) (maxL := 2) (ret := (some .boolean)) (by decide) rfl (Nat.le_of_ble_eq_true rfl) ?_
  intro p_ e_ s_ m_ args_ below_ meth_ c_ ls R Qq hR hQ C0 hr hlk hname hM hl
  have hx := C0.1.1
  have hb := C0.1.2.1
  have hS : va_S A s_.heap s_.heap [] := va_S.rf
  have hl : lv_has ls 2 [(0, .int a0), (1, .int b0)] := hl
  refine lv_iload_n hx hb dX3_areTwoStreams_0 rfl (lv_at hl 0 rfl) ?_
  refine mr_callS (As := [.int a0]) C0 (ctX3_isStream (I := I) (J := J) (s0 := a0) ) (va_cwS 1 C0.1.2.2.2.2 gX3_areTwoStreams_X3_isStream rfl rfl rfl (by decide +kernel) (by rw [hR]; exact ⟨Nat.le_of_ble_eq_true rfl, Nat.le_of_ble_eq_true rfl⟩)) hM hS rfl rfl rfl hl.1 (Nat.le_of_ble_eq_true rfl) dX3_areTwoStreams_1 (by rw [hR]; exact ⟨Nat.zero_le _, Nat.zero_le _⟩) (fun H locs hM hS => ?_)
  refine mr_eqB (tgt := 23) C0 dX3_areTwoStreams_4 (by decide) (fun c1 => ?_) (fun c1 => ?_)
  · skip
    refine lv_iconst (v := nI 0) hx hb dX3_areTwoStreams_23 (by decide) ?_
    refine mr_top (y := bI false) (by decide) ?_
    have eF : false = fX3_areTwoStreams a0 b0 := by unfold fX3_areTwoStreams; rw [if_neg (Bool.eq_false_iff.mp c1)]
    exact mr_zret (b := false) C0 hr hlk hQ hS (by rw [← eF]) hM (Nat.le_refl _) (Nat.le_refl _) dX3_areTwoStreams_24
  · skip
    refine lv_iload_n hx hb dX3_areTwoStreams_7 rfl (lv_at hl 1 rfl) ?_
    refine mr_callS (As := [.int b0]) C0 (ctX3_isStream (I := I) (J := J) (s0 := b0) ) (va_cwS 1 C0.1.2.2.2.2 gX3_areTwoStreams_X3_isStream rfl rfl rfl (by decide +kernel) (by rw [hR]; exact ⟨Nat.le_of_ble_eq_true rfl, Nat.le_of_ble_eq_true rfl⟩)) hM hS rfl rfl rfl hl.1 (Nat.le_of_ble_eq_true rfl) dX3_areTwoStreams_8 (by rw [hR]; exact ⟨Nat.zero_le _, Nat.zero_le _⟩) (fun H locs hM hS => ?_)
    refine mr_eqB (tgt := 23) C0 dX3_areTwoStreams_11 (by decide) (fun c2 => ?_) (fun c2 => ?_)
    · skip
      refine lv_iconst (v := nI 0) hx hb dX3_areTwoStreams_23 (by decide) ?_
      refine mr_top (y := bI false) (by decide) ?_
      have eF : false = fX3_areTwoStreams a0 b0 := by unfold fX3_areTwoStreams; rw [if_pos c1, if_neg (Bool.eq_false_iff.mp c2)]
      exact mr_zret (b := false) C0 hr hlk hQ hS (by rw [← eF]) hM (Nat.le_refl _) (Nat.le_refl _) dX3_areTwoStreams_24
    · skip
      refine lv_iload_n hx hb dX3_areTwoStreams_14 rfl (lv_at hl 0 rfl) ?_
      refine lv_iload_n hx hb dX3_areTwoStreams_15 rfl (lv_at hl 1 rfl) ?_
      refine lv_icmp_eq (tgt := 23) hx hb dX3_areTwoStreams_16 (by decide) (fun c3 => ?_) (fun c3 => ?_)
      · skip
        refine lv_iconst (v := nI 0) hx hb dX3_areTwoStreams_23 (by decide) ?_
        refine mr_top (y := bI false) (by decide) ?_
        have eF : false = fX3_areTwoStreams a0 b0 := by unfold fX3_areTwoStreams; rw [if_pos c1, if_pos c2, if_pos c3]
        exact mr_zret (b := false) C0 hr hlk hQ hS (by rw [← eF]) hM (Nat.le_refl _) (Nat.le_refl _) dX3_areTwoStreams_24
      · skip
        refine lv_iconst (v := nI 1) hx hb dX3_areTwoStreams_19 (by decide) ?_
        refine lv_goto (tgt := 24) hx hb dX3_areTwoStreams_20 (by decide) ?_
        refine mr_top (y := bI true) (by decide) ?_
        have eF : true = fX3_areTwoStreams a0 b0 := by unfold fX3_areTwoStreams; rw [if_pos c1, if_pos c2, if_neg c3]
        exact mr_zret (b := true) C0 hr hlk hQ hS (by rw [← eF]) hM (Nat.le_refl _) (Nat.le_refl _) dX3_areTwoStreams_24
set_option maxHeartbeats 4000000 in
set_option maxRecDepth 100000 in
theorem ctX3_areTwoStreams_t {l : Launch} {D : va_G} {T : Nat → ClassId} {L : List Nat} {A : Nat → Prop} {Sh : hm_S} {I : hm_I} {J : hm_J} {a0 b0 : Nat} (ha0 : a0 < 8) (hb0 : b0 < 8) (hab : a0 ≠ b0) :
    Ct l yX3_areTwoStreams wsX3_areTwoStreams { frames := 1, cells := 0, slots := 0, locals := 20 } 0 0 D T A [.int (nI a0), .int (nI b0)] (hm D T L A Sh I J) (some (.int (bI true))) (hm D T L A Sh I J) := by
  refine Ct.ofW (cc := cX3_areTwoStreams) (maxL := 2) (ret := (some .boolean)) (by decide) rfl (Nat.le_of_ble_eq_true rfl) ?_
  intro p_ e_ s_ m_ args_ below_ meth_ c_ ls R Qq hR hQ C0 hr hlk hname hM hl
  have hx := C0.1.1
  have hb := C0.1.2.1
  have hS : va_S A s_.heap s_.heap [] := va_S.rf
  have hl : lv_has ls 2 [(0, .int (nI a0)), (1, .int (nI b0))] := hl
  refine lv_iload_n hx hb dX3_areTwoStreams_0 rfl (lv_at hl 0 rfl) ?_
  refine mr_callS (As := [.int (nI a0)]) C0 (ctX3_isStream_t (I := I) (J := J) (s0 := a0) (by omega)) (va_cwS 1 C0.1.2.2.2.2 gX3_areTwoStreams_X3_isStream rfl rfl rfl (by decide +kernel) (by rw [hR]; exact ⟨Nat.le_of_ble_eq_true rfl, Nat.le_of_ble_eq_true rfl⟩)) hM hS rfl rfl rfl hl.1 (Nat.le_of_ble_eq_true rfl) dX3_areTwoStreams_1 (by rw [hR]; exact ⟨Nat.zero_le _, Nat.zero_le _⟩) (fun H locs hM hS => ?_)
  refine mr_eqB (tgt := 23) C0 dX3_areTwoStreams_4 (by decide) (fun c1 => absurd c1 (by decide)) (fun _ => ?_)
  refine lv_iload_n hx hb dX3_areTwoStreams_7 rfl (lv_at hl 1 rfl) ?_
  refine mr_callS (As := [.int (nI b0)]) C0 (ctX3_isStream_t (I := I) (J := J) (s0 := b0) (by omega)) (va_cwS 1 C0.1.2.2.2.2 gX3_areTwoStreams_X3_isStream rfl rfl rfl (by decide +kernel) (by rw [hR]; exact ⟨Nat.le_of_ble_eq_true rfl, Nat.le_of_ble_eq_true rfl⟩)) hM hS rfl rfl rfl hl.1 (Nat.le_of_ble_eq_true rfl) dX3_areTwoStreams_8 (by rw [hR]; exact ⟨Nat.zero_le _, Nat.zero_le _⟩) (fun H locs hM hS => ?_)
  refine mr_eqB (tgt := 23) C0 dX3_areTwoStreams_11 (by decide) (fun c2 => absurd c2 (by decide)) (fun _ => ?_)
  refine lv_iload_n hx hb dX3_areTwoStreams_14 rfl (lv_at hl 0 rfl) ?_
  refine lv_iload_n hx hb dX3_areTwoStreams_15 rfl (lv_at hl 1 rfl) ?_
  refine mr_eqN (x := a0) (y := b0) (tgt := 23) C0 dX3_areTwoStreams_16 (by decide) (by omega) (by omega) (fun c3 => absurd c3 hab) (fun c3 => ?_)
  refine lv_iconst (v := nI 1) hx hb dX3_areTwoStreams_19 (by decide) ?_
  refine lv_goto (tgt := 24) hx hb dX3_areTwoStreams_20 (by decide) ?_
  refine mr_top (y := bI true) (by decide) ?_
  have eF : true = true := rfl
  exact mr_zret (b := true) C0 hr hlk hQ hS (by rw [← eF]) hM (Nat.le_refl _) (Nat.le_refl _) dX3_areTwoStreams_24
def fX3_setOf (s0 : Int32) : Int32 :=
  (nI 1) <<< (s0 &&& 31)
set_option maxHeartbeats 4000000 in
set_option maxRecDepth 100000 in
theorem ctX3_setOf {l : Launch} {D : va_G} {T : Nat → ClassId} {L : List Nat} {A : Nat → Prop} {Sh : hm_S} {I : hm_I} {J : hm_J} {s0 : Int32} :
    Ct l yX3_setOf wsX3_setOf { frames := 0, cells := 0, slots := 0, locals := 0 } 0 0 D T A [.int s0] (hm D T L A Sh I J) (some (.int (fX3_setOf s0))) (hm D T L A Sh I J) := by
  refine Ct.ofW (cc := cX3_setOf) (maxL := 1) (ret := (some .int)) (by decide) rfl (Nat.le_of_ble_eq_true rfl) ?_
  intro p_ e_ s_ m_ args_ below_ meth_ c_ ls R Qq hR hQ C0 hr hlk hname hM hl
  have hx := C0.1.1
  have hb := C0.1.2.1
  have hS : va_S A s_.heap s_.heap [] := va_S.rf
  have hl : lv_has ls 1 [(0, .int s0)] := hl
  refine lv_iconst (v := nI 1) hx hb dX3_setOf_0 (by decide) ?_
  refine lv_iload_n hx hb dX3_setOf_1 rfl (lv_at hl 0 rfl) ?_
  refine lv_ishl hx hb dX3_setOf_2 ?_
  have eF : (nI 1) <<< (s0 &&& 31) = fX3_setOf s0 := rfl
  exact mr_iret (v := (nI 1) <<< (s0 &&& 31)) C0 hr hlk hQ hS (by rw [← eF]) hM (Nat.le_refl _) (Nat.le_refl _) dX3_setOf_3
def fX3_isIn (u0 s0 : Int32) : Bool :=
  if u0 &&& ((nI 1) <<< (s0 &&& 31)) = 0 then false else true
set_option maxHeartbeats 4000000 in
set_option maxRecDepth 100000 in
theorem ctX3_isIn {l : Launch} {D : va_G} {T : Nat → ClassId} {L : List Nat} {A : Nat → Prop} {Sh : hm_S} {I : hm_I} {J : hm_J} {u0 s0 : Int32} :
    Ct l yX3_isIn wsX3_isIn { frames := 0, cells := 0, slots := 0, locals := 0 } 0 0 D T A [.int u0, .int s0] (hm D T L A Sh I J) (some (.int (bI (fX3_isIn u0 s0)))) (hm D T L A Sh I J) := by
  refine Ct.ofW (cc := cX3_isIn) (maxL := 2) (ret := (some .boolean)) (by decide) rfl (Nat.le_of_ble_eq_true rfl) ?_
  intro p_ e_ s_ m_ args_ below_ meth_ c_ ls R Qq hR hQ C0 hr hlk hname hM hl
  have hx := C0.1.1
  have hb := C0.1.2.1
  have hS : va_S A s_.heap s_.heap [] := va_S.rf
  have hl : lv_has ls 2 [(0, .int u0), (1, .int s0)] := hl
  refine lv_iload_n hx hb dX3_isIn_0 rfl (lv_at hl 0 rfl) ?_
  refine lv_iconst (v := nI 1) hx hb dX3_isIn_1 (by decide) ?_
  refine lv_iload_n hx hb dX3_isIn_2 rfl (lv_at hl 1 rfl) ?_
  refine lv_ishl hx hb dX3_isIn_3 ?_
  refine lv_iand hx hb dX3_isIn_4 ?_
  refine lv_if_eq (tgt := 12) hx hb dX3_isIn_5 (by decide) (fun c1 => ?_) (fun c1 => ?_)
  · skip
    refine lv_iconst (v := nI 0) hx hb dX3_isIn_12 (by decide) ?_
    refine mr_top (y := bI false) (by decide) ?_
    have eF : false = fX3_isIn u0 s0 := by unfold fX3_isIn; rw [if_pos c1]
    exact mr_zret (b := false) C0 hr hlk hQ hS (by rw [← eF]) hM (Nat.le_refl _) (Nat.le_refl _) dX3_isIn_13
  · skip
    refine lv_iconst (v := nI 1) hx hb dX3_isIn_8 (by decide) ?_
    refine lv_goto (tgt := 13) hx hb dX3_isIn_9 (by decide) ?_
    refine mr_top (y := bI true) (by decide) ?_
    have eF : true = fX3_isIn u0 s0 := by unfold fX3_isIn; rw [if_neg c1]
    exact mr_zret (b := true) C0 hr hlk hQ hS (by rw [← eF]) hM (Nat.le_refl _) (Nat.le_refl _) dX3_isIn_13
def fJ6_bitCount_0f7a4 (u0 : Int32) : Int32 :=
  (((((((u0 - ((((u0).toUInt32 >>> (((nI 1)).toUInt32 &&& Int32.toUInt32 31)).toInt32) &&& (1431655765))) &&& (858993459)) + (((((u0 - ((((u0).toUInt32 >>> (((nI 1)).toUInt32 &&& Int32.toUInt32 31)).toInt32) &&& (1431655765)))).toUInt32 >>> (((nI 2)).toUInt32 &&& Int32.toUInt32 31)).toInt32) &&& (858993459))) + ((((((u0 - ((((u0).toUInt32 >>> (((nI 1)).toUInt32 &&& Int32.toUInt32 31)).toInt32) &&& (1431655765))) &&& (858993459)) + (((((u0 - ((((u0).toUInt32 >>> (((nI 1)).toUInt32 &&& Int32.toUInt32 31)).toInt32) &&& (1431655765)))).toUInt32 >>> (((nI 2)).toUInt32 &&& Int32.toUInt32 31)).toInt32) &&& (858993459)))).toUInt32 >>> (((nI 4)).toUInt32 &&& Int32.toUInt32 31)).toInt32)) &&& (252645135)) + ((((((((u0 - ((((u0).toUInt32 >>> (((nI 1)).toUInt32 &&& Int32.toUInt32 31)).toInt32) &&& (1431655765))) &&& (858993459)) + (((((u0 - ((((u0).toUInt32 >>> (((nI 1)).toUInt32 &&& Int32.toUInt32 31)).toInt32) &&& (1431655765)))).toUInt32 >>> (((nI 2)).toUInt32 &&& Int32.toUInt32 31)).toInt32) &&& (858993459))) + ((((((u0 - ((((u0).toUInt32 >>> (((nI 1)).toUInt32 &&& Int32.toUInt32 31)).toInt32) &&& (1431655765))) &&& (858993459)) + (((((u0 - ((((u0).toUInt32 >>> (((nI 1)).toUInt32 &&& Int32.toUInt32 31)).toInt32) &&& (1431655765)))).toUInt32 >>> (((nI 2)).toUInt32 &&& Int32.toUInt32 31)).toInt32) &&& (858993459)))).toUInt32 >>> (((nI 4)).toUInt32 &&& Int32.toUInt32 31)).toInt32)) &&& (252645135))).toUInt32 >>> (((nI 8)).toUInt32 &&& Int32.toUInt32 31)).toInt32)) + (((((((((u0 - ((((u0).toUInt32 >>> (((nI 1)).toUInt32 &&& Int32.toUInt32 31)).toInt32) &&& (1431655765))) &&& (858993459)) + (((((u0 - ((((u0).toUInt32 >>> (((nI 1)).toUInt32 &&& Int32.toUInt32 31)).toInt32) &&& (1431655765)))).toUInt32 >>> (((nI 2)).toUInt32 &&& Int32.toUInt32 31)).toInt32) &&& (858993459))) + ((((((u0 - ((((u0).toUInt32 >>> (((nI 1)).toUInt32 &&& Int32.toUInt32 31)).toInt32) &&& (1431655765))) &&& (858993459)) + (((((u0 - ((((u0).toUInt32 >>> (((nI 1)).toUInt32 &&& Int32.toUInt32 31)).toInt32) &&& (1431655765)))).toUInt32 >>> (((nI 2)).toUInt32 &&& Int32.toUInt32 31)).toInt32) &&& (858993459)))).toUInt32 >>> (((nI 4)).toUInt32 &&& Int32.toUInt32 31)).toInt32)) &&& (252645135)) + ((((((((u0 - ((((u0).toUInt32 >>> (((nI 1)).toUInt32 &&& Int32.toUInt32 31)).toInt32) &&& (1431655765))) &&& (858993459)) + (((((u0 - ((((u0).toUInt32 >>> (((nI 1)).toUInt32 &&& Int32.toUInt32 31)).toInt32) &&& (1431655765)))).toUInt32 >>> (((nI 2)).toUInt32 &&& Int32.toUInt32 31)).toInt32) &&& (858993459))) + ((((((u0 - ((((u0).toUInt32 >>> (((nI 1)).toUInt32 &&& Int32.toUInt32 31)).toInt32) &&& (1431655765))) &&& (858993459)) + (((((u0 - ((((u0).toUInt32 >>> (((nI 1)).toUInt32 &&& Int32.toUInt32 31)).toInt32) &&& (1431655765)))).toUInt32 >>> (((nI 2)).toUInt32 &&& Int32.toUInt32 31)).toInt32) &&& (858993459)))).toUInt32 >>> (((nI 4)).toUInt32 &&& Int32.toUInt32 31)).toInt32)) &&& (252645135))).toUInt32 >>> (((nI 8)).toUInt32 &&& Int32.toUInt32 31)).toInt32))).toUInt32 >>> (((nI 16)).toUInt32 &&& Int32.toUInt32 31)).toInt32)) &&& (nI 63)
set_option maxHeartbeats 4000000 in
set_option maxRecDepth 100000 in
theorem ctJ6_bitCount_0f7a4 {l : Launch} {D : va_G} {T : Nat → ClassId} {L : List Nat} {A : Nat → Prop} {Sh : hm_S} {I : hm_I} {J : hm_J} {u0 : Int32} :
    Ct l yJ6_bitCount_0f7a4 wsJ6_bitCount_0f7a4 { frames := 0, cells := 0, slots := 0, locals := 0 } 0 0 D T A [.int u0] (hm D T L A Sh I J) (some (.int (fJ6_bitCount_0f7a4 u0))) (hm D T L A Sh I J) := by
  refine Ct.ofW (cc := cJ6_bitCount_0f7a4) (maxL := 1) (ret := (some .int)) (by decide) rfl (Nat.le_of_ble_eq_true rfl) ?_
  intro p_ e_ s_ m_ args_ below_ meth_ c_ ls R Qq hR hQ C0 hr hlk hname hM hl
  have hx := C0.1.1
  have hb := C0.1.2.1
  have hS : va_S A s_.heap s_.heap [] := va_S.rf
  have hl : lv_has ls 1 [(0, .int u0)] := hl
  refine lv_iload_n hx hb dJ6_bitCount_0f7a4_0 rfl (lv_at hl 0 rfl) ?_
  refine lv_iload_n hx hb dJ6_bitCount_0f7a4_1 rfl (lv_at hl 0 rfl) ?_
  refine lv_iconst (v := nI 1) hx hb dJ6_bitCount_0f7a4_2 (by decide) ?_
  refine lv_iushr hx hb dJ6_bitCount_0f7a4_3 rfl ?_
  refine lv_ldcw (v := (1431655765)) hx hb C0.1.2.2.2.1 (C0.1.2.2.2.2 _ (List.mem_of_getElem? (i := 1) rfl)) dJ6_bitCount_0f7a4_4 ?_
  refine lv_iand hx hb dJ6_bitCount_0f7a4_7 ?_
  refine lv_isub hx hb dJ6_bitCount_0f7a4_8 ?_
  refine lv_istore_n (lv' := [(0, .int (u0 - ((((u0).toUInt32 >>> (((nI 1)).toUInt32 &&& Int32.toUInt32 31)).toInt32) &&& (1431655765))))]) hx hb dJ6_bitCount_0f7a4_9 rfl hl (by decide) rfl (fun ls hl => ?_)
  refine lv_iload_n hx hb dJ6_bitCount_0f7a4_10 rfl (lv_at hl 0 rfl) ?_
  refine lv_ldcw (v := (858993459)) hx hb C0.1.2.2.2.1 (C0.1.2.2.2.2 _ (List.mem_of_getElem? (i := 2) rfl)) dJ6_bitCount_0f7a4_11 ?_
  refine lv_iand hx hb dJ6_bitCount_0f7a4_14 ?_
  refine lv_iload_n hx hb dJ6_bitCount_0f7a4_15 rfl (lv_at hl 0 rfl) ?_
  refine lv_iconst (v := nI 2) hx hb dJ6_bitCount_0f7a4_16 (by decide) ?_
  refine lv_iushr hx hb dJ6_bitCount_0f7a4_17 rfl ?_
  refine lv_ldcw (v := (858993459)) hx hb C0.1.2.2.2.1 (C0.1.2.2.2.2 _ (List.mem_of_getElem? (i := 2) rfl)) dJ6_bitCount_0f7a4_18 ?_
  refine lv_iand hx hb dJ6_bitCount_0f7a4_21 ?_
  refine lv_iadd hx hb dJ6_bitCount_0f7a4_22 ?_
  refine lv_istore_n (lv' := [(0, .int (((u0 - ((((u0).toUInt32 >>> (((nI 1)).toUInt32 &&& Int32.toUInt32 31)).toInt32) &&& (1431655765))) &&& (858993459)) + (((((u0 - ((((u0).toUInt32 >>> (((nI 1)).toUInt32 &&& Int32.toUInt32 31)).toInt32) &&& (1431655765)))).toUInt32 >>> (((nI 2)).toUInt32 &&& Int32.toUInt32 31)).toInt32) &&& (858993459))))]) hx hb dJ6_bitCount_0f7a4_23 rfl hl (by decide) rfl (fun ls hl => ?_)
  refine lv_iload_n hx hb dJ6_bitCount_0f7a4_24 rfl (lv_at hl 0 rfl) ?_
  refine lv_iload_n hx hb dJ6_bitCount_0f7a4_25 rfl (lv_at hl 0 rfl) ?_
  refine lv_iconst (v := nI 4) hx hb dJ6_bitCount_0f7a4_26 (by decide) ?_
  refine lv_iushr hx hb dJ6_bitCount_0f7a4_27 rfl ?_
  refine lv_iadd hx hb dJ6_bitCount_0f7a4_28 ?_
  refine lv_ldcw (v := (252645135)) hx hb C0.1.2.2.2.1 (C0.1.2.2.2.2 _ (List.mem_of_getElem? (i := 3) rfl)) dJ6_bitCount_0f7a4_29 ?_
  refine lv_iand hx hb dJ6_bitCount_0f7a4_32 ?_
  refine lv_istore_n (lv' := [(0, .int (((((u0 - ((((u0).toUInt32 >>> (((nI 1)).toUInt32 &&& Int32.toUInt32 31)).toInt32) &&& (1431655765))) &&& (858993459)) + (((((u0 - ((((u0).toUInt32 >>> (((nI 1)).toUInt32 &&& Int32.toUInt32 31)).toInt32) &&& (1431655765)))).toUInt32 >>> (((nI 2)).toUInt32 &&& Int32.toUInt32 31)).toInt32) &&& (858993459))) + ((((((u0 - ((((u0).toUInt32 >>> (((nI 1)).toUInt32 &&& Int32.toUInt32 31)).toInt32) &&& (1431655765))) &&& (858993459)) + (((((u0 - ((((u0).toUInt32 >>> (((nI 1)).toUInt32 &&& Int32.toUInt32 31)).toInt32) &&& (1431655765)))).toUInt32 >>> (((nI 2)).toUInt32 &&& Int32.toUInt32 31)).toInt32) &&& (858993459)))).toUInt32 >>> (((nI 4)).toUInt32 &&& Int32.toUInt32 31)).toInt32)) &&& (252645135)))]) hx hb dJ6_bitCount_0f7a4_33 rfl hl (by decide) rfl (fun ls hl => ?_)
  refine lv_iload_n hx hb dJ6_bitCount_0f7a4_34 rfl (lv_at hl 0 rfl) ?_
  refine lv_iload_n hx hb dJ6_bitCount_0f7a4_35 rfl (lv_at hl 0 rfl) ?_
  refine lv_bipush (v := nI 8) hx hb dJ6_bitCount_0f7a4_36 (by decide) ?_
  refine lv_iushr hx hb dJ6_bitCount_0f7a4_38 rfl ?_
  refine lv_iadd hx hb dJ6_bitCount_0f7a4_39 ?_
  refine lv_istore_n (lv' := [(0, .int ((((((u0 - ((((u0).toUInt32 >>> (((nI 1)).toUInt32 &&& Int32.toUInt32 31)).toInt32) &&& (1431655765))) &&& (858993459)) + (((((u0 - ((((u0).toUInt32 >>> (((nI 1)).toUInt32 &&& Int32.toUInt32 31)).toInt32) &&& (1431655765)))).toUInt32 >>> (((nI 2)).toUInt32 &&& Int32.toUInt32 31)).toInt32) &&& (858993459))) + ((((((u0 - ((((u0).toUInt32 >>> (((nI 1)).toUInt32 &&& Int32.toUInt32 31)).toInt32) &&& (1431655765))) &&& (858993459)) + (((((u0 - ((((u0).toUInt32 >>> (((nI 1)).toUInt32 &&& Int32.toUInt32 31)).toInt32) &&& (1431655765)))).toUInt32 >>> (((nI 2)).toUInt32 &&& Int32.toUInt32 31)).toInt32) &&& (858993459)))).toUInt32 >>> (((nI 4)).toUInt32 &&& Int32.toUInt32 31)).toInt32)) &&& (252645135)) + ((((((((u0 - ((((u0).toUInt32 >>> (((nI 1)).toUInt32 &&& Int32.toUInt32 31)).toInt32) &&& (1431655765))) &&& (858993459)) + (((((u0 - ((((u0).toUInt32 >>> (((nI 1)).toUInt32 &&& Int32.toUInt32 31)).toInt32) &&& (1431655765)))).toUInt32 >>> (((nI 2)).toUInt32 &&& Int32.toUInt32 31)).toInt32) &&& (858993459))) + ((((((u0 - ((((u0).toUInt32 >>> (((nI 1)).toUInt32 &&& Int32.toUInt32 31)).toInt32) &&& (1431655765))) &&& (858993459)) + (((((u0 - ((((u0).toUInt32 >>> (((nI 1)).toUInt32 &&& Int32.toUInt32 31)).toInt32) &&& (1431655765)))).toUInt32 >>> (((nI 2)).toUInt32 &&& Int32.toUInt32 31)).toInt32) &&& (858993459)))).toUInt32 >>> (((nI 4)).toUInt32 &&& Int32.toUInt32 31)).toInt32)) &&& (252645135))).toUInt32 >>> (((nI 8)).toUInt32 &&& Int32.toUInt32 31)).toInt32)))]) hx hb dJ6_bitCount_0f7a4_40 rfl hl (by decide) rfl (fun ls hl => ?_)
  refine lv_iload_n hx hb dJ6_bitCount_0f7a4_41 rfl (lv_at hl 0 rfl) ?_
  refine lv_iload_n hx hb dJ6_bitCount_0f7a4_42 rfl (lv_at hl 0 rfl) ?_
  refine lv_bipush (v := nI 16) hx hb dJ6_bitCount_0f7a4_43 (by decide) ?_
  refine lv_iushr hx hb dJ6_bitCount_0f7a4_45 rfl ?_
  refine lv_iadd hx hb dJ6_bitCount_0f7a4_46 ?_
  refine lv_istore_n (lv' := [(0, .int (((((((u0 - ((((u0).toUInt32 >>> (((nI 1)).toUInt32 &&& Int32.toUInt32 31)).toInt32) &&& (1431655765))) &&& (858993459)) + (((((u0 - ((((u0).toUInt32 >>> (((nI 1)).toUInt32 &&& Int32.toUInt32 31)).toInt32) &&& (1431655765)))).toUInt32 >>> (((nI 2)).toUInt32 &&& Int32.toUInt32 31)).toInt32) &&& (858993459))) + ((((((u0 - ((((u0).toUInt32 >>> (((nI 1)).toUInt32 &&& Int32.toUInt32 31)).toInt32) &&& (1431655765))) &&& (858993459)) + (((((u0 - ((((u0).toUInt32 >>> (((nI 1)).toUInt32 &&& Int32.toUInt32 31)).toInt32) &&& (1431655765)))).toUInt32 >>> (((nI 2)).toUInt32 &&& Int32.toUInt32 31)).toInt32) &&& (858993459)))).toUInt32 >>> (((nI 4)).toUInt32 &&& Int32.toUInt32 31)).toInt32)) &&& (252645135)) + ((((((((u0 - ((((u0).toUInt32 >>> (((nI 1)).toUInt32 &&& Int32.toUInt32 31)).toInt32) &&& (1431655765))) &&& (858993459)) + (((((u0 - ((((u0).toUInt32 >>> (((nI 1)).toUInt32 &&& Int32.toUInt32 31)).toInt32) &&& (1431655765)))).toUInt32 >>> (((nI 2)).toUInt32 &&& Int32.toUInt32 31)).toInt32) &&& (858993459))) + ((((((u0 - ((((u0).toUInt32 >>> (((nI 1)).toUInt32 &&& Int32.toUInt32 31)).toInt32) &&& (1431655765))) &&& (858993459)) + (((((u0 - ((((u0).toUInt32 >>> (((nI 1)).toUInt32 &&& Int32.toUInt32 31)).toInt32) &&& (1431655765)))).toUInt32 >>> (((nI 2)).toUInt32 &&& Int32.toUInt32 31)).toInt32) &&& (858993459)))).toUInt32 >>> (((nI 4)).toUInt32 &&& Int32.toUInt32 31)).toInt32)) &&& (252645135))).toUInt32 >>> (((nI 8)).toUInt32 &&& Int32.toUInt32 31)).toInt32)) + (((((((((u0 - ((((u0).toUInt32 >>> (((nI 1)).toUInt32 &&& Int32.toUInt32 31)).toInt32) &&& (1431655765))) &&& (858993459)) + (((((u0 - ((((u0).toUInt32 >>> (((nI 1)).toUInt32 &&& Int32.toUInt32 31)).toInt32) &&& (1431655765)))).toUInt32 >>> (((nI 2)).toUInt32 &&& Int32.toUInt32 31)).toInt32) &&& (858993459))) + ((((((u0 - ((((u0).toUInt32 >>> (((nI 1)).toUInt32 &&& Int32.toUInt32 31)).toInt32) &&& (1431655765))) &&& (858993459)) + (((((u0 - ((((u0).toUInt32 >>> (((nI 1)).toUInt32 &&& Int32.toUInt32 31)).toInt32) &&& (1431655765)))).toUInt32 >>> (((nI 2)).toUInt32 &&& Int32.toUInt32 31)).toInt32) &&& (858993459)))).toUInt32 >>> (((nI 4)).toUInt32 &&& Int32.toUInt32 31)).toInt32)) &&& (252645135)) + ((((((((u0 - ((((u0).toUInt32 >>> (((nI 1)).toUInt32 &&& Int32.toUInt32 31)).toInt32) &&& (1431655765))) &&& (858993459)) + (((((u0 - ((((u0).toUInt32 >>> (((nI 1)).toUInt32 &&& Int32.toUInt32 31)).toInt32) &&& (1431655765)))).toUInt32 >>> (((nI 2)).toUInt32 &&& Int32.toUInt32 31)).toInt32) &&& (858993459))) + ((((((u0 - ((((u0).toUInt32 >>> (((nI 1)).toUInt32 &&& Int32.toUInt32 31)).toInt32) &&& (1431655765))) &&& (858993459)) + (((((u0 - ((((u0).toUInt32 >>> (((nI 1)).toUInt32 &&& Int32.toUInt32 31)).toInt32) &&& (1431655765)))).toUInt32 >>> (((nI 2)).toUInt32 &&& Int32.toUInt32 31)).toInt32) &&& (858993459)))).toUInt32 >>> (((nI 4)).toUInt32 &&& Int32.toUInt32 31)).toInt32)) &&& (252645135))).toUInt32 >>> (((nI 8)).toUInt32 &&& Int32.toUInt32 31)).toInt32))).toUInt32 >>> (((nI 16)).toUInt32 &&& Int32.toUInt32 31)).toInt32)))]) hx hb dJ6_bitCount_0f7a4_47 rfl hl (by decide) rfl (fun ls hl => ?_)
  refine lv_iload_n hx hb dJ6_bitCount_0f7a4_48 rfl (lv_at hl 0 rfl) ?_
  refine lv_bipush (v := nI 63) hx hb dJ6_bitCount_0f7a4_49 (by decide) ?_
  refine lv_iand hx hb dJ6_bitCount_0f7a4_51 ?_
  have eF : (((((((u0 - ((((u0).toUInt32 >>> (((nI 1)).toUInt32 &&& Int32.toUInt32 31)).toInt32) &&& (1431655765))) &&& (858993459)) + (((((u0 - ((((u0).toUInt32 >>> (((nI 1)).toUInt32 &&& Int32.toUInt32 31)).toInt32) &&& (1431655765)))).toUInt32 >>> (((nI 2)).toUInt32 &&& Int32.toUInt32 31)).toInt32) &&& (858993459))) + ((((((u0 - ((((u0).toUInt32 >>> (((nI 1)).toUInt32 &&& Int32.toUInt32 31)).toInt32) &&& (1431655765))) &&& (858993459)) + (((((u0 - ((((u0).toUInt32 >>> (((nI 1)).toUInt32 &&& Int32.toUInt32 31)).toInt32) &&& (1431655765)))).toUInt32 >>> (((nI 2)).toUInt32 &&& Int32.toUInt32 31)).toInt32) &&& (858993459)))).toUInt32 >>> (((nI 4)).toUInt32 &&& Int32.toUInt32 31)).toInt32)) &&& (252645135)) + ((((((((u0 - ((((u0).toUInt32 >>> (((nI 1)).toUInt32 &&& Int32.toUInt32 31)).toInt32) &&& (1431655765))) &&& (858993459)) + (((((u0 - ((((u0).toUInt32 >>> (((nI 1)).toUInt32 &&& Int32.toUInt32 31)).toInt32) &&& (1431655765)))).toUInt32 >>> (((nI 2)).toUInt32 &&& Int32.toUInt32 31)).toInt32) &&& (858993459))) + ((((((u0 - ((((u0).toUInt32 >>> (((nI 1)).toUInt32 &&& Int32.toUInt32 31)).toInt32) &&& (1431655765))) &&& (858993459)) + (((((u0 - ((((u0).toUInt32 >>> (((nI 1)).toUInt32 &&& Int32.toUInt32 31)).toInt32) &&& (1431655765)))).toUInt32 >>> (((nI 2)).toUInt32 &&& Int32.toUInt32 31)).toInt32) &&& (858993459)))).toUInt32 >>> (((nI 4)).toUInt32 &&& Int32.toUInt32 31)).toInt32)) &&& (252645135))).toUInt32 >>> (((nI 8)).toUInt32 &&& Int32.toUInt32 31)).toInt32)) + (((((((((u0 - ((((u0).toUInt32 >>> (((nI 1)).toUInt32 &&& Int32.toUInt32 31)).toInt32) &&& (1431655765))) &&& (858993459)) + (((((u0 - ((((u0).toUInt32 >>> (((nI 1)).toUInt32 &&& Int32.toUInt32 31)).toInt32) &&& (1431655765)))).toUInt32 >>> (((nI 2)).toUInt32 &&& Int32.toUInt32 31)).toInt32) &&& (858993459))) + ((((((u0 - ((((u0).toUInt32 >>> (((nI 1)).toUInt32 &&& Int32.toUInt32 31)).toInt32) &&& (1431655765))) &&& (858993459)) + (((((u0 - ((((u0).toUInt32 >>> (((nI 1)).toUInt32 &&& Int32.toUInt32 31)).toInt32) &&& (1431655765)))).toUInt32 >>> (((nI 2)).toUInt32 &&& Int32.toUInt32 31)).toInt32) &&& (858993459)))).toUInt32 >>> (((nI 4)).toUInt32 &&& Int32.toUInt32 31)).toInt32)) &&& (252645135)) + ((((((((u0 - ((((u0).toUInt32 >>> (((nI 1)).toUInt32 &&& Int32.toUInt32 31)).toInt32) &&& (1431655765))) &&& (858993459)) + (((((u0 - ((((u0).toUInt32 >>> (((nI 1)).toUInt32 &&& Int32.toUInt32 31)).toInt32) &&& (1431655765)))).toUInt32 >>> (((nI 2)).toUInt32 &&& Int32.toUInt32 31)).toInt32) &&& (858993459))) + ((((((u0 - ((((u0).toUInt32 >>> (((nI 1)).toUInt32 &&& Int32.toUInt32 31)).toInt32) &&& (1431655765))) &&& (858993459)) + (((((u0 - ((((u0).toUInt32 >>> (((nI 1)).toUInt32 &&& Int32.toUInt32 31)).toInt32) &&& (1431655765)))).toUInt32 >>> (((nI 2)).toUInt32 &&& Int32.toUInt32 31)).toInt32) &&& (858993459)))).toUInt32 >>> (((nI 4)).toUInt32 &&& Int32.toUInt32 31)).toInt32)) &&& (252645135))).toUInt32 >>> (((nI 8)).toUInt32 &&& Int32.toUInt32 31)).toInt32))).toUInt32 >>> (((nI 16)).toUInt32 &&& Int32.toUInt32 31)).toInt32)) &&& (nI 63) = fJ6_bitCount_0f7a4 u0 := rfl
  exact mr_iret (v := (((((((u0 - ((((u0).toUInt32 >>> (((nI 1)).toUInt32 &&& Int32.toUInt32 31)).toInt32) &&& (1431655765))) &&& (858993459)) + (((((u0 - ((((u0).toUInt32 >>> (((nI 1)).toUInt32 &&& Int32.toUInt32 31)).toInt32) &&& (1431655765)))).toUInt32 >>> (((nI 2)).toUInt32 &&& Int32.toUInt32 31)).toInt32) &&& (858993459))) + ((((((u0 - ((((u0).toUInt32 >>> (((nI 1)).toUInt32 &&& Int32.toUInt32 31)).toInt32) &&& (1431655765))) &&& (858993459)) + (((((u0 - ((((u0).toUInt32 >>> (((nI 1)).toUInt32 &&& Int32.toUInt32 31)).toInt32) &&& (1431655765)))).toUInt32 >>> (((nI 2)).toUInt32 &&& Int32.toUInt32 31)).toInt32) &&& (858993459)))).toUInt32 >>> (((nI 4)).toUInt32 &&& Int32.toUInt32 31)).toInt32)) &&& (252645135)) + ((((((((u0 - ((((u0).toUInt32 >>> (((nI 1)).toUInt32 &&& Int32.toUInt32 31)).toInt32) &&& (1431655765))) &&& (858993459)) + (((((u0 - ((((u0).toUInt32 >>> (((nI 1)).toUInt32 &&& Int32.toUInt32 31)).toInt32) &&& (1431655765)))).toUInt32 >>> (((nI 2)).toUInt32 &&& Int32.toUInt32 31)).toInt32) &&& (858993459))) + ((((((u0 - ((((u0).toUInt32 >>> (((nI 1)).toUInt32 &&& Int32.toUInt32 31)).toInt32) &&& (1431655765))) &&& (858993459)) + (((((u0 - ((((u0).toUInt32 >>> (((nI 1)).toUInt32 &&& Int32.toUInt32 31)).toInt32) &&& (1431655765)))).toUInt32 >>> (((nI 2)).toUInt32 &&& Int32.toUInt32 31)).toInt32) &&& (858993459)))).toUInt32 >>> (((nI 4)).toUInt32 &&& Int32.toUInt32 31)).toInt32)) &&& (252645135))).toUInt32 >>> (((nI 8)).toUInt32 &&& Int32.toUInt32 31)).toInt32)) + (((((((((u0 - ((((u0).toUInt32 >>> (((nI 1)).toUInt32 &&& Int32.toUInt32 31)).toInt32) &&& (1431655765))) &&& (858993459)) + (((((u0 - ((((u0).toUInt32 >>> (((nI 1)).toUInt32 &&& Int32.toUInt32 31)).toInt32) &&& (1431655765)))).toUInt32 >>> (((nI 2)).toUInt32 &&& Int32.toUInt32 31)).toInt32) &&& (858993459))) + ((((((u0 - ((((u0).toUInt32 >>> (((nI 1)).toUInt32 &&& Int32.toUInt32 31)).toInt32) &&& (1431655765))) &&& (858993459)) + (((((u0 - ((((u0).toUInt32 >>> (((nI 1)).toUInt32 &&& Int32.toUInt32 31)).toInt32) &&& (1431655765)))).toUInt32 >>> (((nI 2)).toUInt32 &&& Int32.toUInt32 31)).toInt32) &&& (858993459)))).toUInt32 >>> (((nI 4)).toUInt32 &&& Int32.toUInt32 31)).toInt32)) &&& (252645135)) + ((((((((u0 - ((((u0).toUInt32 >>> (((nI 1)).toUInt32 &&& Int32.toUInt32 31)).toInt32) &&& (1431655765))) &&& (858993459)) + (((((u0 - ((((u0).toUInt32 >>> (((nI 1)).toUInt32 &&& Int32.toUInt32 31)).toInt32) &&& (1431655765)))).toUInt32 >>> (((nI 2)).toUInt32 &&& Int32.toUInt32 31)).toInt32) &&& (858993459))) + ((((((u0 - ((((u0).toUInt32 >>> (((nI 1)).toUInt32 &&& Int32.toUInt32 31)).toInt32) &&& (1431655765))) &&& (858993459)) + (((((u0 - ((((u0).toUInt32 >>> (((nI 1)).toUInt32 &&& Int32.toUInt32 31)).toInt32) &&& (1431655765)))).toUInt32 >>> (((nI 2)).toUInt32 &&& Int32.toUInt32 31)).toInt32) &&& (858993459)))).toUInt32 >>> (((nI 4)).toUInt32 &&& Int32.toUInt32 31)).toInt32)) &&& (252645135))).toUInt32 >>> (((nI 8)).toUInt32 &&& Int32.toUInt32 31)).toInt32))).toUInt32 >>> (((nI 16)).toUInt32 &&& Int32.toUInt32 31)).toInt32)) &&& (nI 63)) C0 hr hlk hQ hS (by rw [← eF]) hM (Nat.le_refl _) (Nat.le_refl _) dJ6_bitCount_0f7a4_52
theorem isStream_nat {x : Int32} (h : fX3_isStream x = true) : ∃ k : Nat, k < 8 ∧ x = nI k := by
  unfold fX3_isStream at h
  by_cases h1 : x < 0
  · rw [if_pos h1] at h; cases h
  · rw [if_neg h1] at h
    obtain ⟨j, hj, rfl⟩ := nI_of h1
    by_cases h2 : nI 8 ≤ nI j
    · rw [if_pos h2] at h; cases h
    · exact ⟨j, Nat.not_le.mp (fun q => h2 ((nI_leI (by decide) hj).mpr q)), rfl⟩
theorem isStream_of {k : Nat} (h : k < 8) : fX3_isStream (nI k) = true := by
  unfold fX3_isStream
  rw [if_neg (nI_pos (by omega)), if_neg (fun q => absurd ((nI_leI (by decide) (by omega)).mp q) (by omega))]
end
section
theorem dX0_copyFrom_0 : decode cX0_copyFrom 0 = .ok (.aload_n 0, 1) := by decide +kernel
theorem dX0_copyFrom_1 : decode cX0_copyFrom 1 = .ok (.aload_n 1, 1) := by decide +kernel
theorem dX0_copyFrom_2 : decode cX0_copyFrom 2 = .ok (.getfield 30, 3) := by decide +kernel
theorem dX0_copyFrom_5 : decode cX0_copyFrom 5 = .ok (.aload_n 0, 1) := by decide +kernel
theorem dX0_copyFrom_6 : decode cX0_copyFrom 6 = .ok (.getfield 15, 3) := by decide +kernel
theorem dX0_copyFrom_9 : decode cX0_copyFrom 9 = .ok (.arraylength, 1) := by decide +kernel
theorem dX0_copyFrom_10 : decode cX0_copyFrom 10 = .ok (.invokestatic 34, 3) := by decide +kernel
theorem dX0_copyFrom_13 : decode cX0_copyFrom 13 = .ok (.putfield 30, 3) := by decide +kernel
theorem dX0_copyFrom_16 : decode cX0_copyFrom 16 = .ok (.iconst 0, 1) := by decide +kernel
theorem dX0_copyFrom_17 : decode cX0_copyFrom 17 = .ok (.istore_n 2, 1) := by decide +kernel
theorem dX0_copyFrom_18 : decode cX0_copyFrom 18 = .ok (.iload_n 2, 1) := by decide +kernel
theorem dX0_copyFrom_19 : decode cX0_copyFrom 19 = .ok (.aload_n 0, 1) := by decide +kernel
theorem dX0_copyFrom_20 : decode cX0_copyFrom 20 = .ok (.getfield 30, 3) := by decide +kernel
theorem dX0_copyFrom_23 : decode cX0_copyFrom 23 = .ok (.if_icmp .ge 57, 3) := by decide +kernel
theorem dX0_copyFrom_26 : decode cX0_copyFrom 26 = .ok (.aload_n 0, 1) := by decide +kernel
theorem dX0_copyFrom_27 : decode cX0_copyFrom 27 = .ok (.getfield 15, 3) := by decide +kernel
theorem dX0_copyFrom_30 : decode cX0_copyFrom 30 = .ok (.iload_n 2, 1) := by decide +kernel
theorem dX0_copyFrom_31 : decode cX0_copyFrom 31 = .ok (.aload_n 1, 1) := by decide +kernel
theorem dX0_copyFrom_32 : decode cX0_copyFrom 32 = .ok (.getfield 15, 3) := by decide +kernel
theorem dX0_copyFrom_35 : decode cX0_copyFrom 35 = .ok (.iload_n 2, 1) := by decide +kernel
theorem dX0_copyFrom_36 : decode cX0_copyFrom 36 = .ok (.iaload, 1) := by decide +kernel
theorem dX0_copyFrom_37 : decode cX0_copyFrom 37 = .ok (.iastore, 1) := by decide +kernel
theorem dX0_copyFrom_38 : decode cX0_copyFrom 38 = .ok (.aload_n 0, 1) := by decide +kernel
theorem dX0_copyFrom_39 : decode cX0_copyFrom 39 = .ok (.getfield 21, 3) := by decide +kernel
theorem dX0_copyFrom_42 : decode cX0_copyFrom 42 = .ok (.iload_n 2, 1) := by decide +kernel
theorem dX0_copyFrom_43 : decode cX0_copyFrom 43 = .ok (.aload_n 1, 1) := by decide +kernel
theorem dX0_copyFrom_44 : decode cX0_copyFrom 44 = .ok (.getfield 21, 3) := by decide +kernel
theorem dX0_copyFrom_47 : decode cX0_copyFrom 47 = .ok (.iload_n 2, 1) := by decide +kernel
theorem dX0_copyFrom_48 : decode cX0_copyFrom 48 = .ok (.iaload, 1) := by decide +kernel
theorem dX0_copyFrom_49 : decode cX0_copyFrom 49 = .ok (.iastore, 1) := by decide +kernel
theorem dX0_copyFrom_50 : decode cX0_copyFrom 50 = .ok (.aload_n 0, 1) := by decide +kernel
theorem dX0_copyFrom_51 : decode cX0_copyFrom 51 = .ok (.getfield 24, 3) := by decide +kernel
theorem dX0_copyFrom_54 : decode cX0_copyFrom 54 = .ok (.iload_n 2, 1) := by decide +kernel
theorem dX0_copyFrom_55 : decode cX0_copyFrom 55 = .ok (.aload_n 1, 1) := by decide +kernel
theorem dX0_copyFrom_56 : decode cX0_copyFrom 56 = .ok (.getfield 24, 3) := by decide +kernel
theorem dX0_copyFrom_59 : decode cX0_copyFrom 59 = .ok (.iload_n 2, 1) := by decide +kernel
theorem dX0_copyFrom_60 : decode cX0_copyFrom 60 = .ok (.iaload, 1) := by decide +kernel
theorem dX0_copyFrom_61 : decode cX0_copyFrom 61 = .ok (.iastore, 1) := by decide +kernel
theorem dX0_copyFrom_62 : decode cX0_copyFrom 62 = .ok (.aload_n 0, 1) := by decide +kernel
theorem dX0_copyFrom_63 : decode cX0_copyFrom 63 = .ok (.getfield 27, 3) := by decide +kernel
theorem dX0_copyFrom_66 : decode cX0_copyFrom 66 = .ok (.iload_n 2, 1) := by decide +kernel
theorem dX0_copyFrom_67 : decode cX0_copyFrom 67 = .ok (.aload_n 1, 1) := by decide +kernel
theorem dX0_copyFrom_68 : decode cX0_copyFrom 68 = .ok (.getfield 27, 3) := by decide +kernel
theorem dX0_copyFrom_71 : decode cX0_copyFrom 71 = .ok (.iload_n 2, 1) := by decide +kernel
theorem dX0_copyFrom_72 : decode cX0_copyFrom 72 = .ok (.iaload, 1) := by decide +kernel
theorem dX0_copyFrom_73 : decode cX0_copyFrom 73 = .ok (.iastore, 1) := by decide +kernel
theorem dX0_copyFrom_74 : decode cX0_copyFrom 74 = .ok (.iinc 2 1, 3) := by decide +kernel
theorem dX0_copyFrom_77 : decode cX0_copyFrom 77 = .ok (.goto (-59), 3) := by decide +kernel
theorem dX0_copyFrom_80 : decode cX0_copyFrom 80 = .ok (.return_, 1) := by decide +kernel
theorem dX0_isFull_0 : decode cX0_isFull 0 = .ok (.aload_n 0, 1) := by decide +kernel
theorem dX0_isFull_1 : decode cX0_isFull 1 = .ok (.getfield 30, 3) := by decide +kernel
theorem dX0_isFull_4 : decode cX0_isFull 4 = .ok (.aload_n 0, 1) := by decide +kernel
theorem dX0_isFull_5 : decode cX0_isFull 5 = .ok (.getfield 15, 3) := by decide +kernel
theorem dX0_isFull_8 : decode cX0_isFull 8 = .ok (.arraylength, 1) := by decide +kernel
theorem dX0_isFull_9 : decode cX0_isFull 9 = .ok (.if_icmp .lt 7, 3) := by decide +kernel
theorem dX0_isFull_12 : decode cX0_isFull 12 = .ok (.iconst 1, 1) := by decide +kernel
theorem dX0_isFull_13 : decode cX0_isFull 13 = .ok (.goto 4, 3) := by decide +kernel
theorem dX0_isFull_16 : decode cX0_isFull 16 = .ok (.iconst 0, 1) := by decide +kernel
theorem dX0_isFull_17 : decode cX0_isFull 17 = .ok (.ireturn, 1) := by decide +kernel
theorem dX0_hasFrame_0 : decode cX0_hasFrame 0 = .ok (.iload_n 1, 1) := by decide +kernel
theorem dX0_hasFrame_1 : decode cX0_hasFrame 1 = .ok (.ifCond .lt 15, 3) := by decide +kernel
theorem dX0_hasFrame_4 : decode cX0_hasFrame 4 = .ok (.iload_n 1, 1) := by decide +kernel
theorem dX0_hasFrame_5 : decode cX0_hasFrame 5 = .ok (.aload_n 0, 1) := by decide +kernel
theorem dX0_hasFrame_6 : decode cX0_hasFrame 6 = .ok (.getfield 30, 3) := by decide +kernel
theorem dX0_hasFrame_9 : decode cX0_hasFrame 9 = .ok (.if_icmp .ge 7, 3) := by decide +kernel
theorem dX0_hasFrame_12 : decode cX0_hasFrame 12 = .ok (.iconst 1, 1) := by decide +kernel
theorem dX0_hasFrame_13 : decode cX0_hasFrame 13 = .ok (.goto 4, 3) := by decide +kernel
theorem dX0_hasFrame_16 : decode cX0_hasFrame 16 = .ok (.iconst 0, 1) := by decide +kernel
theorem dX0_hasFrame_17 : decode cX0_hasFrame 17 = .ok (.ireturn, 1) := by decide +kernel
theorem dX0_numberAt_0 : decode cX0_numberAt 0 = .ok (.aload_n 0, 1) := by decide +kernel
theorem dX0_numberAt_1 : decode cX0_numberAt 1 = .ok (.iload_n 1, 1) := by decide +kernel
theorem dX0_numberAt_2 : decode cX0_numberAt 2 = .ok (.invokevirtual 37, 3) := by decide +kernel
theorem dX0_numberAt_5 : decode cX0_numberAt 5 = .ok (.ifCond .eq 12, 3) := by decide +kernel
theorem dX0_numberAt_8 : decode cX0_numberAt 8 = .ok (.aload_n 0, 1) := by decide +kernel
theorem dX0_numberAt_9 : decode cX0_numberAt 9 = .ok (.getfield 15, 3) := by decide +kernel
theorem dX0_numberAt_12 : decode cX0_numberAt 12 = .ok (.iload_n 1, 1) := by decide +kernel
theorem dX0_numberAt_13 : decode cX0_numberAt 13 = .ok (.iaload, 1) := by decide +kernel
theorem dX0_numberAt_14 : decode cX0_numberAt 14 = .ok (.goto 5, 3) := by decide +kernel
theorem dX0_numberAt_17 : decode cX0_numberAt 17 = .ok (.bipush (-9), 2) := by decide +kernel
theorem dX0_numberAt_19 : decode cX0_numberAt 19 = .ok (.ireturn, 1) := by decide +kernel
theorem dX0_streamAt_0 : decode cX0_streamAt 0 = .ok (.aload_n 0, 1) := by decide +kernel
theorem dX0_streamAt_1 : decode cX0_streamAt 1 = .ok (.iload_n 1, 1) := by decide +kernel
theorem dX0_streamAt_2 : decode cX0_streamAt 2 = .ok (.invokevirtual 37, 3) := by decide +kernel
theorem dX0_streamAt_5 : decode cX0_streamAt 5 = .ok (.ifCond .eq 12, 3) := by decide +kernel
theorem dX0_streamAt_8 : decode cX0_streamAt 8 = .ok (.aload_n 0, 1) := by decide +kernel
theorem dX0_streamAt_9 : decode cX0_streamAt 9 = .ok (.getfield 21, 3) := by decide +kernel
theorem dX0_streamAt_12 : decode cX0_streamAt 12 = .ok (.iload_n 1, 1) := by decide +kernel
theorem dX0_streamAt_13 : decode cX0_streamAt 13 = .ok (.iaload, 1) := by decide +kernel
theorem dX0_streamAt_14 : decode cX0_streamAt 14 = .ok (.goto 5, 3) := by decide +kernel
theorem dX0_streamAt_17 : decode cX0_streamAt 17 = .ok (.bipush (-9), 2) := by decide +kernel
theorem dX0_streamAt_19 : decode cX0_streamAt 19 = .ok (.ireturn, 1) := by decide +kernel
theorem dX0_sizeAt_0 : decode cX0_sizeAt 0 = .ok (.aload_n 0, 1) := by decide +kernel
theorem dX0_sizeAt_1 : decode cX0_sizeAt 1 = .ok (.iload_n 1, 1) := by decide +kernel
theorem dX0_sizeAt_2 : decode cX0_sizeAt 2 = .ok (.invokevirtual 37, 3) := by decide +kernel
theorem dX0_sizeAt_5 : decode cX0_sizeAt 5 = .ok (.ifCond .eq 12, 3) := by decide +kernel
theorem dX0_sizeAt_8 : decode cX0_sizeAt 8 = .ok (.aload_n 0, 1) := by decide +kernel
theorem dX0_sizeAt_9 : decode cX0_sizeAt 9 = .ok (.getfield 24, 3) := by decide +kernel
theorem dX0_sizeAt_12 : decode cX0_sizeAt 12 = .ok (.iload_n 1, 1) := by decide +kernel
theorem dX0_sizeAt_13 : decode cX0_sizeAt 13 = .ok (.iaload, 1) := by decide +kernel
theorem dX0_sizeAt_14 : decode cX0_sizeAt 14 = .ok (.goto 5, 3) := by decide +kernel
theorem dX0_sizeAt_17 : decode cX0_sizeAt 17 = .ok (.bipush (-9), 2) := by decide +kernel
theorem dX0_sizeAt_19 : decode cX0_sizeAt 19 = .ok (.ireturn, 1) := by decide +kernel
theorem dX0_epochAt_0 : decode cX0_epochAt 0 = .ok (.aload_n 0, 1) := by decide +kernel
theorem dX0_epochAt_1 : decode cX0_epochAt 1 = .ok (.iload_n 1, 1) := by decide +kernel
theorem dX0_epochAt_2 : decode cX0_epochAt 2 = .ok (.invokevirtual 37, 3) := by decide +kernel
theorem dX0_epochAt_5 : decode cX0_epochAt 5 = .ok (.ifCond .eq 12, 3) := by decide +kernel
theorem dX0_epochAt_8 : decode cX0_epochAt 8 = .ok (.aload_n 0, 1) := by decide +kernel
theorem dX0_epochAt_9 : decode cX0_epochAt 9 = .ok (.getfield 27, 3) := by decide +kernel
theorem dX0_epochAt_12 : decode cX0_epochAt 12 = .ok (.iload_n 1, 1) := by decide +kernel
theorem dX0_epochAt_13 : decode cX0_epochAt 13 = .ok (.iaload, 1) := by decide +kernel
theorem dX0_epochAt_14 : decode cX0_epochAt 14 = .ok (.goto 5, 3) := by decide +kernel
theorem dX0_epochAt_17 : decode cX0_epochAt 17 = .ok (.bipush (-9), 2) := by decide +kernel
theorem dX0_epochAt_19 : decode cX0_epochAt 19 = .ok (.ireturn, 1) := by decide +kernel
theorem dX0_add_0 : decode cX0_add 0 = .ok (.aload_n 0, 1) := by decide +kernel
theorem dX0_add_1 : decode cX0_add 1 = .ok (.invokevirtual 41, 3) := by decide +kernel
theorem dX0_add_4 : decode cX0_add 4 = .ok (.ifCond .eq 4, 3) := by decide +kernel
theorem dX0_add_7 : decode cX0_add 7 = .ok (.return_, 1) := by decide +kernel
theorem dX0_add_8 : decode cX0_add 8 = .ok (.aload_n 0, 1) := by decide +kernel
theorem dX0_add_9 : decode cX0_add 9 = .ok (.getfield 15, 3) := by decide +kernel
theorem dX0_add_12 : decode cX0_add 12 = .ok (.aload_n 0, 1) := by decide +kernel
theorem dX0_add_13 : decode cX0_add 13 = .ok (.getfield 30, 3) := by decide +kernel
theorem dX0_add_16 : decode cX0_add 16 = .ok (.iload_n 1, 1) := by decide +kernel
theorem dX0_add_17 : decode cX0_add 17 = .ok (.iastore, 1) := by decide +kernel
theorem dX0_add_18 : decode cX0_add 18 = .ok (.aload_n 0, 1) := by decide +kernel
theorem dX0_add_19 : decode cX0_add 19 = .ok (.getfield 21, 3) := by decide +kernel
theorem dX0_add_22 : decode cX0_add 22 = .ok (.aload_n 0, 1) := by decide +kernel
theorem dX0_add_23 : decode cX0_add 23 = .ok (.getfield 30, 3) := by decide +kernel
theorem dX0_add_26 : decode cX0_add 26 = .ok (.iload_n 2, 1) := by decide +kernel
theorem dX0_add_27 : decode cX0_add 27 = .ok (.iastore, 1) := by decide +kernel
theorem dX0_add_28 : decode cX0_add 28 = .ok (.aload_n 0, 1) := by decide +kernel
theorem dX0_add_29 : decode cX0_add 29 = .ok (.getfield 24, 3) := by decide +kernel
theorem dX0_add_32 : decode cX0_add 32 = .ok (.aload_n 0, 1) := by decide +kernel
theorem dX0_add_33 : decode cX0_add 33 = .ok (.getfield 30, 3) := by decide +kernel
theorem dX0_add_36 : decode cX0_add 36 = .ok (.iload_n 3, 1) := by decide +kernel
theorem dX0_add_37 : decode cX0_add 37 = .ok (.iastore, 1) := by decide +kernel
theorem dX0_add_38 : decode cX0_add 38 = .ok (.aload_n 0, 1) := by decide +kernel
theorem dX0_add_39 : decode cX0_add 39 = .ok (.getfield 27, 3) := by decide +kernel
theorem dX0_add_42 : decode cX0_add 42 = .ok (.aload_n 0, 1) := by decide +kernel
theorem dX0_add_43 : decode cX0_add 43 = .ok (.getfield 30, 3) := by decide +kernel
theorem dX0_add_46 : decode cX0_add 46 = .ok (.iload 4, 2) := by decide +kernel
theorem dX0_add_48 : decode cX0_add 48 = .ok (.iastore, 1) := by decide +kernel
theorem dX0_add_49 : decode cX0_add 49 = .ok (.aload_n 0, 1) := by decide +kernel
theorem dX0_add_50 : decode cX0_add 50 = .ok (.dup, 1) := by decide +kernel
theorem dX0_add_51 : decode cX0_add 51 = .ok (.getfield 30, 3) := by decide +kernel
theorem dX0_add_54 : decode cX0_add 54 = .ok (.iconst 1, 1) := by decide +kernel
theorem dX0_add_55 : decode cX0_add 55 = .ok (.iadd, 1) := by decide +kernel
theorem dX0_add_56 : decode cX0_add 56 = .ok (.putfield 30, 3) := by decide +kernel
theorem dX0_add_59 : decode cX0_add 59 = .ok (.return_, 1) := by decide +kernel
theorem dX0_removeFirst_0 : decode cX0_removeFirst 0 = .ok (.aload_n 0, 1) := by decide +kernel
theorem dX0_removeFirst_1 : decode cX0_removeFirst 1 = .ok (.getfield 30, 3) := by decide +kernel
theorem dX0_removeFirst_4 : decode cX0_removeFirst 4 = .ok (.ifCond .ne 4, 3) := by decide +kernel
theorem dX0_removeFirst_7 : decode cX0_removeFirst 7 = .ok (.return_, 1) := by decide +kernel
theorem dX0_removeFirst_8 : decode cX0_removeFirst 8 = .ok (.iconst 1, 1) := by decide +kernel
theorem dX0_removeFirst_9 : decode cX0_removeFirst 9 = .ok (.istore_n 1, 1) := by decide +kernel
theorem dX0_removeFirst_10 : decode cX0_removeFirst 10 = .ok (.iload_n 1, 1) := by decide +kernel
theorem dX0_removeFirst_11 : decode cX0_removeFirst 11 = .ok (.aload_n 0, 1) := by decide +kernel
theorem dX0_removeFirst_12 : decode cX0_removeFirst 12 = .ok (.getfield 30, 3) := by decide +kernel
theorem dX0_removeFirst_15 : decode cX0_removeFirst 15 = .ok (.if_icmp .ge 65, 3) := by decide +kernel
theorem dX0_removeFirst_18 : decode cX0_removeFirst 18 = .ok (.aload_n 0, 1) := by decide +kernel
theorem dX0_removeFirst_19 : decode cX0_removeFirst 19 = .ok (.getfield 15, 3) := by decide +kernel
theorem dX0_removeFirst_22 : decode cX0_removeFirst 22 = .ok (.iload_n 1, 1) := by decide +kernel
theorem dX0_removeFirst_23 : decode cX0_removeFirst 23 = .ok (.iconst 1, 1) := by decide +kernel
theorem dX0_removeFirst_24 : decode cX0_removeFirst 24 = .ok (.isub, 1) := by decide +kernel
theorem dX0_removeFirst_25 : decode cX0_removeFirst 25 = .ok (.aload_n 0, 1) := by decide +kernel
theorem dX0_removeFirst_26 : decode cX0_removeFirst 26 = .ok (.getfield 15, 3) := by decide +kernel
theorem dX0_removeFirst_29 : decode cX0_removeFirst 29 = .ok (.iload_n 1, 1) := by decide +kernel
theorem dX0_removeFirst_30 : decode cX0_removeFirst 30 = .ok (.iaload, 1) := by decide +kernel
theorem dX0_removeFirst_31 : decode cX0_removeFirst 31 = .ok (.iastore, 1) := by decide +kernel
theorem dX0_removeFirst_32 : decode cX0_removeFirst 32 = .ok (.aload_n 0, 1) := by decide +kernel
theorem dX0_removeFirst_33 : decode cX0_removeFirst 33 = .ok (.getfield 21, 3) := by decide +kernel
theorem dX0_removeFirst_36 : decode cX0_removeFirst 36 = .ok (.iload_n 1, 1) := by decide +kernel
theorem dX0_removeFirst_37 : decode cX0_removeFirst 37 = .ok (.iconst 1, 1) := by decide +kernel
theorem dX0_removeFirst_38 : decode cX0_removeFirst 38 = .ok (.isub, 1) := by decide +kernel
theorem dX0_removeFirst_39 : decode cX0_removeFirst 39 = .ok (.aload_n 0, 1) := by decide +kernel
theorem dX0_removeFirst_40 : decode cX0_removeFirst 40 = .ok (.getfield 21, 3) := by decide +kernel
theorem dX0_removeFirst_43 : decode cX0_removeFirst 43 = .ok (.iload_n 1, 1) := by decide +kernel
theorem dX0_removeFirst_44 : decode cX0_removeFirst 44 = .ok (.iaload, 1) := by decide +kernel
theorem dX0_removeFirst_45 : decode cX0_removeFirst 45 = .ok (.iastore, 1) := by decide +kernel
theorem dX0_removeFirst_46 : decode cX0_removeFirst 46 = .ok (.aload_n 0, 1) := by decide +kernel
theorem dX0_removeFirst_47 : decode cX0_removeFirst 47 = .ok (.getfield 24, 3) := by decide +kernel
theorem dX0_removeFirst_50 : decode cX0_removeFirst 50 = .ok (.iload_n 1, 1) := by decide +kernel
theorem dX0_removeFirst_51 : decode cX0_removeFirst 51 = .ok (.iconst 1, 1) := by decide +kernel
theorem dX0_removeFirst_52 : decode cX0_removeFirst 52 = .ok (.isub, 1) := by decide +kernel
theorem dX0_removeFirst_53 : decode cX0_removeFirst 53 = .ok (.aload_n 0, 1) := by decide +kernel
theorem dX0_removeFirst_54 : decode cX0_removeFirst 54 = .ok (.getfield 24, 3) := by decide +kernel
theorem dX0_removeFirst_57 : decode cX0_removeFirst 57 = .ok (.iload_n 1, 1) := by decide +kernel
theorem dX0_removeFirst_58 : decode cX0_removeFirst 58 = .ok (.iaload, 1) := by decide +kernel
theorem dX0_removeFirst_59 : decode cX0_removeFirst 59 = .ok (.iastore, 1) := by decide +kernel
theorem dX0_removeFirst_60 : decode cX0_removeFirst 60 = .ok (.aload_n 0, 1) := by decide +kernel
theorem dX0_removeFirst_61 : decode cX0_removeFirst 61 = .ok (.getfield 27, 3) := by decide +kernel
theorem dX0_removeFirst_64 : decode cX0_removeFirst 64 = .ok (.iload_n 1, 1) := by decide +kernel
theorem dX0_removeFirst_65 : decode cX0_removeFirst 65 = .ok (.iconst 1, 1) := by decide +kernel
theorem dX0_removeFirst_66 : decode cX0_removeFirst 66 = .ok (.isub, 1) := by decide +kernel
theorem dX0_removeFirst_67 : decode cX0_removeFirst 67 = .ok (.aload_n 0, 1) := by decide +kernel
theorem dX0_removeFirst_68 : decode cX0_removeFirst 68 = .ok (.getfield 27, 3) := by decide +kernel
theorem dX0_removeFirst_71 : decode cX0_removeFirst 71 = .ok (.iload_n 1, 1) := by decide +kernel
theorem dX0_removeFirst_72 : decode cX0_removeFirst 72 = .ok (.iaload, 1) := by decide +kernel
theorem dX0_removeFirst_73 : decode cX0_removeFirst 73 = .ok (.iastore, 1) := by decide +kernel
theorem dX0_removeFirst_74 : decode cX0_removeFirst 74 = .ok (.iinc 1 1, 3) := by decide +kernel
theorem dX0_removeFirst_77 : decode cX0_removeFirst 77 = .ok (.goto (-67), 3) := by decide +kernel
theorem dX0_removeFirst_80 : decode cX0_removeFirst 80 = .ok (.aload_n 0, 1) := by decide +kernel
theorem dX0_removeFirst_81 : decode cX0_removeFirst 81 = .ok (.dup, 1) := by decide +kernel
theorem dX0_removeFirst_82 : decode cX0_removeFirst 82 = .ok (.getfield 30, 3) := by decide +kernel
theorem dX0_removeFirst_85 : decode cX0_removeFirst 85 = .ok (.iconst 1, 1) := by decide +kernel
theorem dX0_removeFirst_86 : decode cX0_removeFirst 86 = .ok (.isub, 1) := by decide +kernel
theorem dX0_removeFirst_87 : decode cX0_removeFirst 87 = .ok (.putfield 30, 3) := by decide +kernel
theorem dX0_removeFirst_90 : decode cX0_removeFirst 90 = .ok (.return_, 1) := by decide +kernel
theorem dX0_sizeOfAll_0 : decode cX0_sizeOfAll 0 = .ok (.iconst 0, 1) := by decide +kernel
theorem dX0_sizeOfAll_1 : decode cX0_sizeOfAll 1 = .ok (.istore_n 1, 1) := by decide +kernel
theorem dX0_sizeOfAll_2 : decode cX0_sizeOfAll 2 = .ok (.iconst 0, 1) := by decide +kernel
theorem dX0_sizeOfAll_3 : decode cX0_sizeOfAll 3 = .ok (.istore_n 2, 1) := by decide +kernel
theorem dX0_sizeOfAll_4 : decode cX0_sizeOfAll 4 = .ok (.iload_n 2, 1) := by decide +kernel
theorem dX0_sizeOfAll_5 : decode cX0_sizeOfAll 5 = .ok (.aload_n 0, 1) := by decide +kernel
theorem dX0_sizeOfAll_6 : decode cX0_sizeOfAll 6 = .ok (.getfield 30, 3) := by decide +kernel
theorem dX0_sizeOfAll_9 : decode cX0_sizeOfAll 9 = .ok (.if_icmp .ge 18, 3) := by decide +kernel
theorem dX0_sizeOfAll_12 : decode cX0_sizeOfAll 12 = .ok (.iload_n 1, 1) := by decide +kernel
theorem dX0_sizeOfAll_13 : decode cX0_sizeOfAll 13 = .ok (.aload_n 0, 1) := by decide +kernel
theorem dX0_sizeOfAll_14 : decode cX0_sizeOfAll 14 = .ok (.getfield 24, 3) := by decide +kernel
theorem dX0_sizeOfAll_17 : decode cX0_sizeOfAll 17 = .ok (.iload_n 2, 1) := by decide +kernel
theorem dX0_sizeOfAll_18 : decode cX0_sizeOfAll 18 = .ok (.iaload, 1) := by decide +kernel
theorem dX0_sizeOfAll_19 : decode cX0_sizeOfAll 19 = .ok (.iadd, 1) := by decide +kernel
theorem dX0_sizeOfAll_20 : decode cX0_sizeOfAll 20 = .ok (.istore_n 1, 1) := by decide +kernel
theorem dX0_sizeOfAll_21 : decode cX0_sizeOfAll 21 = .ok (.iinc 2 1, 3) := by decide +kernel
theorem dX0_sizeOfAll_24 : decode cX0_sizeOfAll 24 = .ok (.goto (-20), 3) := by decide +kernel
theorem dX0_sizeOfAll_27 : decode cX0_sizeOfAll 27 = .ok (.iload_n 1, 1) := by decide +kernel
theorem dX0_sizeOfAll_28 : decode cX0_sizeOfAll 28 = .ok (.ireturn, 1) := by decide +kernel
theorem dX0_countOfEpochUpTo_0 : decode cX0_countOfEpochUpTo 0 = .ok (.iconst 0, 1) := by decide +kernel
theorem dX0_countOfEpochUpTo_1 : decode cX0_countOfEpochUpTo 1 = .ok (.istore_n 2, 1) := by decide +kernel
theorem dX0_countOfEpochUpTo_2 : decode cX0_countOfEpochUpTo 2 = .ok (.iconst 0, 1) := by decide +kernel
theorem dX0_countOfEpochUpTo_3 : decode cX0_countOfEpochUpTo 3 = .ok (.istore_n 3, 1) := by decide +kernel
theorem dX0_countOfEpochUpTo_4 : decode cX0_countOfEpochUpTo 4 = .ok (.iload_n 3, 1) := by decide +kernel
theorem dX0_countOfEpochUpTo_5 : decode cX0_countOfEpochUpTo 5 = .ok (.aload_n 0, 1) := by decide +kernel
theorem dX0_countOfEpochUpTo_6 : decode cX0_countOfEpochUpTo 6 = .ok (.getfield 30, 3) := by decide +kernel
theorem dX0_countOfEpochUpTo_9 : decode cX0_countOfEpochUpTo 9 = .ok (.if_icmp .ge 22, 3) := by decide +kernel
theorem dX0_countOfEpochUpTo_12 : decode cX0_countOfEpochUpTo 12 = .ok (.aload_n 0, 1) := by decide +kernel
theorem dX0_countOfEpochUpTo_13 : decode cX0_countOfEpochUpTo 13 = .ok (.getfield 27, 3) := by decide +kernel
theorem dX0_countOfEpochUpTo_16 : decode cX0_countOfEpochUpTo 16 = .ok (.iload_n 3, 1) := by decide +kernel
theorem dX0_countOfEpochUpTo_17 : decode cX0_countOfEpochUpTo 17 = .ok (.iaload, 1) := by decide +kernel
theorem dX0_countOfEpochUpTo_18 : decode cX0_countOfEpochUpTo 18 = .ok (.iload_n 1, 1) := by decide +kernel
theorem dX0_countOfEpochUpTo_19 : decode cX0_countOfEpochUpTo 19 = .ok (.if_icmp .gt 6, 3) := by decide +kernel
theorem dX0_countOfEpochUpTo_22 : decode cX0_countOfEpochUpTo 22 = .ok (.iinc 2 1, 3) := by decide +kernel
theorem dX0_countOfEpochUpTo_25 : decode cX0_countOfEpochUpTo 25 = .ok (.iinc 3 1, 3) := by decide +kernel
theorem dX0_countOfEpochUpTo_28 : decode cX0_countOfEpochUpTo 28 = .ok (.goto (-24), 3) := by decide +kernel
theorem dX0_countOfEpochUpTo_31 : decode cX0_countOfEpochUpTo 31 = .ok (.iload_n 2, 1) := by decide +kernel
theorem dX0_countOfEpochUpTo_32 : decode cX0_countOfEpochUpTo 32 = .ok (.ireturn, 1) := by decide +kernel



set_option maxRecDepth 20000 in
theorem ggX0_numberAt_X0_hasFrame : GoodIn wsX0_numberAt wsX0_hasFrame := goodIn_r _ [6, 7, 8, 9, 10, 11, 12] (by decide +kernel) (by decide +kernel)
set_option maxRecDepth 20000 in
theorem gX0_numberAt_X0_hasFrame : GoodIn wsX0_numberAt (wsV RX0 37 RX0 yX0_hasFrame wsX0_hasFrame) := goodIn_app (goodIn_of _ (by decide +kernel)) ggX0_numberAt_X0_hasFrame
set_option maxRecDepth 20000 in
theorem ggX0_streamAt_X0_hasFrame : GoodIn wsX0_streamAt wsX0_hasFrame := goodIn_r _ [6, 7, 8, 9, 10, 11, 12] (by decide +kernel) (by decide +kernel)
set_option maxRecDepth 20000 in
theorem gX0_streamAt_X0_hasFrame : GoodIn wsX0_streamAt (wsV RX0 37 RX0 yX0_hasFrame wsX0_hasFrame) := goodIn_app (goodIn_of _ (by decide +kernel)) ggX0_streamAt_X0_hasFrame
set_option maxRecDepth 20000 in
theorem ggX0_sizeAt_X0_hasFrame : GoodIn wsX0_sizeAt wsX0_hasFrame := goodIn_r _ [6, 7, 8, 9, 10, 11, 12] (by decide +kernel) (by decide +kernel)
set_option maxRecDepth 20000 in
theorem gX0_sizeAt_X0_hasFrame : GoodIn wsX0_sizeAt (wsV RX0 37 RX0 yX0_hasFrame wsX0_hasFrame) := goodIn_app (goodIn_of _ (by decide +kernel)) ggX0_sizeAt_X0_hasFrame
set_option maxRecDepth 20000 in
theorem ggX0_epochAt_X0_hasFrame : GoodIn wsX0_epochAt wsX0_hasFrame := goodIn_r _ [6, 7, 8, 9, 10, 11, 12] (by decide +kernel) (by decide +kernel)
set_option maxRecDepth 20000 in
theorem gX0_epochAt_X0_hasFrame : GoodIn wsX0_epochAt (wsV RX0 37 RX0 yX0_hasFrame wsX0_hasFrame) := goodIn_app (goodIn_of _ (by decide +kernel)) ggX0_epochAt_X0_hasFrame
set_option maxRecDepth 20000 in
theorem ggX0_add_X0_isFull : GoodIn wsX0_add wsX0_isFull := goodIn_r _ [10, 2, 1, 11, 12, 13, 14, 15] (by decide +kernel) (by decide +kernel)
set_option maxRecDepth 20000 in
theorem gX0_add_X0_isFull : GoodIn wsX0_add (wsV RX0 41 RX0 yX0_isFull wsX0_isFull) := goodIn_app (goodIn_of _ (by decide +kernel)) ggX0_add_X0_isFull



theorem kX0_isFull_f30 : Cond.fieldLink RX0 30 "StreamMultiplexer$Frames" "count" "I" ∈ wsX0_isFull := List.mem_of_getElem? (i := 1) rfl
theorem uX0_isFull_X0 : ∀ w ∈ wsX00, w ∈ wsX0_isFull := fun w h => List.mem_cons_of_mem _ (List.mem_append_right _ h)
theorem kX0_isFull_f15 : Cond.fieldLink RX0 15 "StreamMultiplexer$Frames" "numbers" "[I" ∈ wsX0_isFull := List.mem_of_getElem? (i := 2) rfl
theorem kX0_hasFrame_f30 : Cond.fieldLink RX0 30 "StreamMultiplexer$Frames" "count" "I" ∈ wsX0_hasFrame := List.mem_of_getElem? (i := 1) rfl
theorem uX0_hasFrame_X0 : ∀ w ∈ wsX00, w ∈ wsX0_hasFrame := fun w h => List.mem_cons_of_mem _ (List.mem_append_right _ h)
theorem kX0_numberAt_f15 : Cond.fieldLink RX0 15 "StreamMultiplexer$Frames" "numbers" "[I" ∈ wsX0_numberAt := List.mem_of_getElem? (i := 1) rfl
theorem uX0_numberAt_X0 : ∀ w ∈ wsX00, w ∈ wsX0_numberAt := fun w h => List.mem_cons_of_mem _ (List.mem_append_right _ h)
theorem kX0_streamAt_f21 : Cond.fieldLink RX0 21 "StreamMultiplexer$Frames" "streams" "[I" ∈ wsX0_streamAt := List.mem_of_getElem? (i := 1) rfl
theorem uX0_streamAt_X0 : ∀ w ∈ wsX00, w ∈ wsX0_streamAt := fun w h => List.mem_cons_of_mem _ (List.mem_append_right _ h)
theorem kX0_sizeAt_f24 : Cond.fieldLink RX0 24 "StreamMultiplexer$Frames" "sizes" "[I" ∈ wsX0_sizeAt := List.mem_of_getElem? (i := 1) rfl
theorem uX0_sizeAt_X0 : ∀ w ∈ wsX00, w ∈ wsX0_sizeAt := fun w h => List.mem_cons_of_mem _ (List.mem_append_right _ h)
theorem kX0_epochAt_f27 : Cond.fieldLink RX0 27 "StreamMultiplexer$Frames" "epochs" "[I" ∈ wsX0_epochAt := List.mem_of_getElem? (i := 1) rfl
theorem uX0_epochAt_X0 : ∀ w ∈ wsX00, w ∈ wsX0_epochAt := fun w h => List.mem_cons_of_mem _ (List.mem_append_right _ h)
theorem kX0_add_f15 : Cond.fieldLink RX0 15 "StreamMultiplexer$Frames" "numbers" "[I" ∈ wsX0_add := List.mem_of_getElem? (i := 1) rfl
theorem uX0_add_X0 : ∀ w ∈ wsX00, w ∈ wsX0_add := fun w h => List.mem_cons_of_mem _ (List.mem_append_right _ h)
theorem kX0_add_f30 : Cond.fieldLink RX0 30 "StreamMultiplexer$Frames" "count" "I" ∈ wsX0_add := List.mem_of_getElem? (i := 2) rfl
theorem kX0_add_f21 : Cond.fieldLink RX0 21 "StreamMultiplexer$Frames" "streams" "[I" ∈ wsX0_add := List.mem_of_getElem? (i := 3) rfl
theorem kX0_add_f24 : Cond.fieldLink RX0 24 "StreamMultiplexer$Frames" "sizes" "[I" ∈ wsX0_add := List.mem_of_getElem? (i := 4) rfl
theorem kX0_add_f27 : Cond.fieldLink RX0 27 "StreamMultiplexer$Frames" "epochs" "[I" ∈ wsX0_add := List.mem_of_getElem? (i := 5) rfl
theorem kX0_removeFirst_f30 : Cond.fieldLink RX0 30 "StreamMultiplexer$Frames" "count" "I" ∈ wsX0_removeFirst := List.mem_of_getElem? (i := 1) rfl
theorem uX0_removeFirst_X0 : ∀ w ∈ wsX00, w ∈ wsX0_removeFirst := fun w h => List.mem_cons_of_mem _ (List.mem_append_right _ h)
theorem kX0_removeFirst_f15 : Cond.fieldLink RX0 15 "StreamMultiplexer$Frames" "numbers" "[I" ∈ wsX0_removeFirst := List.mem_of_getElem? (i := 2) rfl
theorem kX0_removeFirst_f21 : Cond.fieldLink RX0 21 "StreamMultiplexer$Frames" "streams" "[I" ∈ wsX0_removeFirst := List.mem_of_getElem? (i := 3) rfl
theorem kX0_removeFirst_f24 : Cond.fieldLink RX0 24 "StreamMultiplexer$Frames" "sizes" "[I" ∈ wsX0_removeFirst := List.mem_of_getElem? (i := 4) rfl
theorem kX0_removeFirst_f27 : Cond.fieldLink RX0 27 "StreamMultiplexer$Frames" "epochs" "[I" ∈ wsX0_removeFirst := List.mem_of_getElem? (i := 5) rfl
theorem kX0_sizeOfAll_f30 : Cond.fieldLink RX0 30 "StreamMultiplexer$Frames" "count" "I" ∈ wsX0_sizeOfAll := List.mem_of_getElem? (i := 1) rfl
theorem uX0_sizeOfAll_X0 : ∀ w ∈ wsX00, w ∈ wsX0_sizeOfAll := fun w h => List.mem_cons_of_mem _ (List.mem_append_right _ h)
theorem kX0_sizeOfAll_f24 : Cond.fieldLink RX0 24 "StreamMultiplexer$Frames" "sizes" "[I" ∈ wsX0_sizeOfAll := List.mem_of_getElem? (i := 2) rfl
theorem kX0_countOfEpochUpTo_f30 : Cond.fieldLink RX0 30 "StreamMultiplexer$Frames" "count" "I" ∈ wsX0_countOfEpochUpTo := List.mem_of_getElem? (i := 1) rfl
theorem uX0_countOfEpochUpTo_X0 : ∀ w ∈ wsX00, w ∈ wsX0_countOfEpochUpTo := fun w h => List.mem_cons_of_mem _ (List.mem_append_right _ h)
theorem kX0_countOfEpochUpTo_f27 : Cond.fieldLink RX0 27 "StreamMultiplexer$Frames" "epochs" "[I" ∈ wsX0_countOfEpochUpTo := List.mem_of_getElem? (i := 2) rfl
theorem kX0_copyFrom_f30 : Cond.fieldLink RX0 30 "StreamMultiplexer$Frames" "count" "I" ∈ wsX0_copyFrom := List.mem_of_getElem? (i := 1) rfl
theorem uX0_copyFrom_X0 : ∀ w ∈ wsX00, w ∈ wsX0_copyFrom := fun w h => List.mem_cons_of_mem _ (List.mem_append_right _ h)
theorem kX0_copyFrom_f15 : Cond.fieldLink RX0 15 "StreamMultiplexer$Frames" "numbers" "[I" ∈ wsX0_copyFrom := List.mem_of_getElem? (i := 2) rfl
theorem kX0_copyFrom_f21 : Cond.fieldLink RX0 21 "StreamMultiplexer$Frames" "streams" "[I" ∈ wsX0_copyFrom := List.mem_of_getElem? (i := 7) rfl
theorem kX0_copyFrom_f24 : Cond.fieldLink RX0 24 "StreamMultiplexer$Frames" "sizes" "[I" ∈ wsX0_copyFrom := List.mem_of_getElem? (i := 8) rfl
theorem kX0_copyFrom_f27 : Cond.fieldLink RX0 27 "StreamMultiplexer$Frames" "epochs" "[I" ∈ wsX0_copyFrom := List.mem_of_getElem? (i := 9) rfl
theorem min_nI {c n : Nat} (h : c ≤ n) (hn : n < 2 ^ 31) : (if nI n < nI c then nI n else nI c) = nI c := if_neg (nI_nlt h hn)
def fX0_isFull (n c : Nat) : Bool :=
  if c < n then false else true
set_option maxHeartbeats 4000000 in
set_option maxRecDepth 100000 in
theorem ctX0_isFull {l : Launch} {D : va_G} {T : Nat → ClassId} {L : List Nat} {A : Nat → Prop} {Sh : hm_S} {I : hm_I} {J : hm_J} {a n c : Nat} (hF : IsF L Sh a n) (hc : I a 4 = nI c) (hn : n < 1000) (hcn : c ≤ n) :
    Ct l yX0_isFull wsX0_isFull { frames := 0, cells := 0, slots := 0, locals := 0 } 0 0 D T A [.ref a] (hm D T L A Sh I J) (some (.int (bI (fX0_isFull n c)))) (hm D T L A Sh I J) := by
  refine Ct.ofW (cc := cX0_isFull) (maxL := 1) (ret := (some .boolean)) (by decide) rfl (Nat.le_of_ble_eq_true rfl) ?_
  intro p_ e_ s_ m_ args_ below_ meth_ c_ ls R Qq hR hQ C0 hr hlk hname hM hl
  have hx := C0.1.1
  have hb := C0.1.2.1
  have hS : va_S A s_.heap s_.heap [] := va_S.rf
  have hl : lv_has ls 1 [(0, .ref a)] := hl
  refine lv_aload_n hx hb dX0_isFull_0 rfl (lv_at hl 0 rfl) ?_
  refine mr_geti (v := nI c) (TT := TX0) (N := 5) C0 uX0_isFull_X0 hM hF.1.1 hF.1.2 rfl 4 (by decide) rfl hc kX0_isFull_f30 rfl dX0_isFull_1 ?_
  refine lv_aload_n hx hb dX0_isFull_4 rfl (lv_at hl 0 rfl) ?_
  refine mr_getr (r := a + 1) (TT := TX0) (N := 5) C0 uX0_isFull_X0 hM hF.1.1 hF.1.2 rfl 0 (by decide) rfl kX0_isFull_f15 rfl dX0_isFull_5 ?_
  refine mr_alen C0 hM hF.2.1.1 hF.2.1.2 dX0_isFull_8 ?_
  refine mr_ltN (x := c) (y := n) (tgt := 16) C0 dX0_isFull_9 (by decide) (by omega) (by omega) (fun c1 => ?_) (fun c1 => ?_)
  · skip
    refine lv_iconst (v := nI 0) hx hb dX0_isFull_16 (by decide) ?_
    refine mr_top (y := bI false) (by decide) ?_
    have eF : false = fX0_isFull n c := by unfold fX0_isFull; rw [if_pos c1]
    exact mr_zret (b := false) C0 hr hlk hQ hS (by rw [← eF]) hM (Nat.le_refl _) (Nat.le_refl _) dX0_isFull_17
  · skip
    refine lv_iconst (v := nI 1) hx hb dX0_isFull_12 (by decide) ?_
    refine lv_goto (tgt := 17) hx hb dX0_isFull_13 (by decide) ?_
    refine mr_top (y := bI true) (by decide) ?_
    have eF : true = fX0_isFull n c := by unfold fX0_isFull; rw [if_neg (Nat.not_lt.mpr c1)]
    exact mr_zret (b := true) C0 hr hlk hQ hS (by rw [← eF]) hM (Nat.le_refl _) (Nat.le_refl _) dX0_isFull_17
theorem isFull_t {n c : Nat} (h : fX0_isFull n c = true) : n ≤ c := by
  unfold fX0_isFull at h
  by_cases h1 : c < n
  · rw [if_pos h1] at h; cases h
  · omega
theorem isFull_f {n c : Nat} (h : fX0_isFull n c = false) : c < n := by
  unfold fX0_isFull at h
  by_cases h1 : c < n
  · exact h1
  · rw [if_neg h1] at h; cases h
set_option maxHeartbeats 4000000 in
set_option maxRecDepth 100000 in
theorem ctX0_hasFrame_t {l : Launch} {D : va_G} {T : Nat → ClassId} {L : List Nat} {A : Nat → Prop} {Sh : hm_S} {I : hm_I} {J : hm_J} {a n c : Nat} (hF : IsF L Sh a n) (hc : I a 4 = nI c) (hn : n < 1000) (hcn : c ≤ n) {k : Nat} (hk : k < c) :
    Ct l yX0_hasFrame wsX0_hasFrame { frames := 0, cells := 0, slots := 0, locals := 0 } 0 0 D T A [.ref a, .int (nI k)] (hm D T L A Sh I J) (some (.int (bI true))) (hm D T L A Sh I J) := by
  refine Ct.ofW (cc := cX0_hasFrame) (maxL := 2) (ret := (some .boolean)) (by decide) rfl (Nat.le_of_ble_eq_true rfl) ?_
  intro p_ e_ s_ m_ args_ below_ meth_ c_ ls R Qq hR hQ C0 hr hlk hname hM hl
  have hx := C0.1.1
  have hb := C0.1.2.1
  have hS : va_S A s_.heap s_.heap [] := va_S.rf
  have hl : lv_has ls 2 [(0, .ref a), (1, .int (nI k))] := hl
  refine lv_iload_n hx hb dX0_hasFrame_0 rfl (lv_at hl 1 rfl) ?_
  refine lv_if_lt (tgt := 16) hx hb dX0_hasFrame_1 (by decide) (fun c1 => absurd c1 (nI_pos (by omega))) (fun c1 => ?_)
  refine lv_iload_n hx hb dX0_hasFrame_4 rfl (lv_at hl 1 rfl) ?_
  refine lv_aload_n hx hb dX0_hasFrame_5 rfl (lv_at hl 0 rfl) ?_
  refine mr_geti (v := nI c) (TT := TX0) (N := 5) C0 uX0_hasFrame_X0 hM hF.1.1 hF.1.2 rfl 4 (by decide) rfl hc kX0_hasFrame_f30 rfl dX0_hasFrame_6 ?_
  refine mr_geN (x := k) (y := c) (tgt := 16) C0 dX0_hasFrame_9 (by decide) (by omega) (by omega) (fun c2 => absurd c2 (by omega)) (fun c2 => ?_)
  refine lv_iconst (v := nI 1) hx hb dX0_hasFrame_12 (by decide) ?_
  refine lv_goto (tgt := 17) hx hb dX0_hasFrame_13 (by decide) ?_
  refine mr_top (y := bI true) (by decide) ?_
  have eF : true = true := rfl
  exact mr_zret (b := true) C0 hr hlk hQ hS (by rw [← eF]) hM (Nat.le_refl _) (Nat.le_refl _) dX0_hasFrame_17
set_option maxHeartbeats 4000000 in
set_option maxRecDepth 100000 in
theorem ctX0_numberAt_t {l : Launch} {D : va_G} {T : Nat → ClassId} {L : List Nat} {A : Nat → Prop} {Sh : hm_S} {I : hm_I} {J : hm_J} {a n c : Nat} (hF : IsF L Sh a n) (hc : I a 4 = nI c) (hn : n < 1000) (hcn : c ≤ n) {k : Nat} (hk : k < c) :
    Ct l yX0_numberAt wsX0_numberAt { frames := 1, cells := 0, slots := 0, locals := 21 } 0 0 D T A [.ref a, .int (nI k)] (hm D T L A Sh I J) (some (.int (I (a + 1) k))) (hm D T L A Sh I J) := by
  refine Ct.ofW (cc := cX0_numberAt) (maxL := 2) (ret := (some .int)) (by decide) rfl (Nat.le_of_ble_eq_true rfl) ?_
  intro p_ e_ s_ m_ args_ below_ meth_ c_ ls R Qq hR hQ C0 hr hlk hname hM hl
  have hx := C0.1.1
  have hb := C0.1.2.1
  have hS : va_S A s_.heap s_.heap [] := va_S.rf
  have hl : lv_has ls 2 [(0, .ref a), (1, .int (nI k))] := hl
  refine lv_aload_n hx hb dX0_numberAt_0 rfl (lv_at hl 0 rfl) ?_
  refine lv_iload_n hx hb dX0_numberAt_1 rfl (lv_at hl 1 rfl) ?_
  refine mr_callV (As := [.int (nI k)]) C0 (ctX0_hasFrame_t (I := I) (J := J) (a := a) (k := k) hF hc (by omega) (by omega) (by omega)) (cwV 1 C0.1.2.2.2.2 gX0_numberAt_X0_hasFrame rfl rfl rfl (by decide +kernel) (by rw [hR]; exact ⟨Nat.le_of_ble_eq_true rfl, Nat.le_of_ble_eq_true rfl⟩)) hM hF.1.1 hF.1.2 rfl rfl hM hS rfl rfl rfl hl.1 (Nat.le_of_ble_eq_true rfl) dX0_numberAt_2 (by rw [hR]; exact ⟨Nat.zero_le _, Nat.zero_le _⟩) (fun H locs hM hS => ?_)
  refine mr_eqB (tgt := 17) C0 dX0_numberAt_5 (by decide) (fun c1 => absurd c1 (by decide)) (fun _ => ?_)
  refine lv_aload_n hx hb dX0_numberAt_8 rfl (lv_at hl 0 rfl) ?_
  refine mr_getr (r := a + 1) (TT := TX0) (N := 5) C0 uX0_numberAt_X0 hM hF.1.1 hF.1.2 rfl 0 (by decide) rfl kX0_numberAt_f15 rfl dX0_numberAt_9 ?_
  refine lv_iload_n hx hb dX0_numberAt_12 rfl (lv_at hl 1 rfl) ?_
  refine mr_ialdN (v := I (a + 1) k) C0 hM hF.2.1.1 hF.2.1.2 hF.2.2.2.2.2 (by omega) rfl dX0_numberAt_13 ?_
  refine lv_goto (tgt := 19) hx hb dX0_numberAt_14 (by decide) ?_
  have eF : I (a + 1) k = I (a + 1) k := rfl
  exact mr_iret (v := I (a + 1) k) C0 hr hlk hQ hS (by rw [← eF]) hM (Nat.le_refl _) (Nat.le_refl _) dX0_numberAt_19
set_option maxHeartbeats 4000000 in
set_option maxRecDepth 100000 in
theorem ctX0_streamAt_t {l : Launch} {D : va_G} {T : Nat → ClassId} {L : List Nat} {A : Nat → Prop} {Sh : hm_S} {I : hm_I} {J : hm_J} {a n c : Nat} (hF : IsF L Sh a n) (hc : I a 4 = nI c) (hn : n < 1000) (hcn : c ≤ n) {k : Nat} (hk : k < c) :
    Ct l yX0_streamAt wsX0_streamAt { frames := 1, cells := 0, slots := 0, locals := 21 } 0 0 D T A [.ref a, .int (nI k)] (hm D T L A Sh I J) (some (.int (I (a + 2) k))) (hm D T L A Sh I J) := by
  refine Ct.ofW (cc := cX0_streamAt) (maxL := 2) (ret := (some .int)) (by decide) rfl (Nat.le_of_ble_eq_true rfl) ?_
  intro p_ e_ s_ m_ args_ below_ meth_ c_ ls R Qq hR hQ C0 hr hlk hname hM hl
  have hx := C0.1.1
  have hb := C0.1.2.1
  have hS : va_S A s_.heap s_.heap [] := va_S.rf
  have hl : lv_has ls 2 [(0, .ref a), (1, .int (nI k))] := hl
  refine lv_aload_n hx hb dX0_streamAt_0 rfl (lv_at hl 0 rfl) ?_
  refine lv_iload_n hx hb dX0_streamAt_1 rfl (lv_at hl 1 rfl) ?_
  refine mr_callV (As := [.int (nI k)]) C0 (ctX0_hasFrame_t (I := I) (J := J) (a := a) (k := k) hF hc (by omega) (by omega) (by omega)) (cwV 1 C0.1.2.2.2.2 gX0_streamAt_X0_hasFrame rfl rfl rfl (by decide +kernel) (by rw [hR]; exact ⟨Nat.le_of_ble_eq_true rfl, Nat.le_of_ble_eq_true rfl⟩)) hM hF.1.1 hF.1.2 rfl rfl hM hS rfl rfl rfl hl.1 (Nat.le_of_ble_eq_true rfl) dX0_streamAt_2 (by rw [hR]; exact ⟨Nat.zero_le _, Nat.zero_le _⟩) (fun H locs hM hS => ?_)
  refine mr_eqB (tgt := 17) C0 dX0_streamAt_5 (by decide) (fun c1 => absurd c1 (by decide)) (fun _ => ?_)
  refine lv_aload_n hx hb dX0_streamAt_8 rfl (lv_at hl 0 rfl) ?_
  refine mr_getr (r := a + 2) (TT := TX0) (N := 5) C0 uX0_streamAt_X0 hM hF.1.1 hF.1.2 rfl 1 (by decide) rfl kX0_streamAt_f21 rfl dX0_streamAt_9 ?_
  refine lv_iload_n hx hb dX0_streamAt_12 rfl (lv_at hl 1 rfl) ?_
  refine mr_ialdN (v := I (a + 2) k) C0 hM hF.2.2.1.1 hF.2.2.1.2 hF.2.2.2.2.2 (by omega) rfl dX0_streamAt_13 ?_
  refine lv_goto (tgt := 19) hx hb dX0_streamAt_14 (by decide) ?_
  have eF : I (a + 2) k = I (a + 2) k := rfl
  exact mr_iret (v := I (a + 2) k) C0 hr hlk hQ hS (by rw [← eF]) hM (Nat.le_refl _) (Nat.le_refl _) dX0_streamAt_19
set_option maxHeartbeats 4000000 in
set_option maxRecDepth 100000 in
theorem ctX0_sizeAt_t {l : Launch} {D : va_G} {T : Nat → ClassId} {L : List Nat} {A : Nat → Prop} {Sh : hm_S} {I : hm_I} {J : hm_J} {a n c : Nat} (hF : IsF L Sh a n) (hc : I a 4 = nI c) (hn : n < 1000) (hcn : c ≤ n) {k : Nat} (hk : k < c) :
    Ct l yX0_sizeAt wsX0_sizeAt { frames := 1, cells := 0, slots := 0, locals := 21 } 0 0 D T A [.ref a, .int (nI k)] (hm D T L A Sh I J) (some (.int (I (a + 3) k))) (hm D T L A Sh I J) := by
  refine Ct.ofW (cc := cX0_sizeAt) (maxL := 2) (ret := (some .int)) (by decide) rfl (Nat.le_of_ble_eq_true rfl) ?_
  intro p_ e_ s_ m_ args_ below_ meth_ c_ ls R Qq hR hQ C0 hr hlk hname hM hl
  have hx := C0.1.1
  have hb := C0.1.2.1
  have hS : va_S A s_.heap s_.heap [] := va_S.rf
  have hl : lv_has ls 2 [(0, .ref a), (1, .int (nI k))] := hl
  refine lv_aload_n hx hb dX0_sizeAt_0 rfl (lv_at hl 0 rfl) ?_
  refine lv_iload_n hx hb dX0_sizeAt_1 rfl (lv_at hl 1 rfl) ?_
  refine mr_callV (As := [.int (nI k)]) C0 (ctX0_hasFrame_t (I := I) (J := J) (a := a) (k := k) hF hc (by omega) (by omega) (by omega)) (cwV 1 C0.1.2.2.2.2 gX0_sizeAt_X0_hasFrame rfl rfl rfl (by decide +kernel) (by rw [hR]; exact ⟨Nat.le_of_ble_eq_true rfl, Nat.le_of_ble_eq_true rfl⟩)) hM hF.1.1 hF.1.2 rfl rfl hM hS rfl rfl rfl hl.1 (Nat.le_of_ble_eq_true rfl) dX0_sizeAt_2 (by rw [hR]; exact ⟨Nat.zero_le _, Nat.zero_le _⟩) (fun H locs hM hS => ?_)
  refine mr_eqB (tgt := 17) C0 dX0_sizeAt_5 (by decide) (fun c1 => absurd c1 (by decide)) (fun _ => ?_)
  refine lv_aload_n hx hb dX0_sizeAt_8 rfl (lv_at hl 0 rfl) ?_
  refine mr_getr (r := a + 3) (TT := TX0) (N := 5) C0 uX0_sizeAt_X0 hM hF.1.1 hF.1.2 rfl 2 (by decide) rfl kX0_sizeAt_f24 rfl dX0_sizeAt_9 ?_
  refine lv_iload_n hx hb dX0_sizeAt_12 rfl (lv_at hl 1 rfl) ?_
  refine mr_ialdN (v := I (a + 3) k) C0 hM hF.2.2.2.1.1 hF.2.2.2.1.2 hF.2.2.2.2.2 (by omega) rfl dX0_sizeAt_13 ?_
  refine lv_goto (tgt := 19) hx hb dX0_sizeAt_14 (by decide) ?_
  have eF : I (a + 3) k = I (a + 3) k := rfl
  exact mr_iret (v := I (a + 3) k) C0 hr hlk hQ hS (by rw [← eF]) hM (Nat.le_refl _) (Nat.le_refl _) dX0_sizeAt_19
set_option maxHeartbeats 4000000 in
set_option maxRecDepth 100000 in
theorem ctX0_epochAt_t {l : Launch} {D : va_G} {T : Nat → ClassId} {L : List Nat} {A : Nat → Prop} {Sh : hm_S} {I : hm_I} {J : hm_J} {a n c : Nat} (hF : IsF L Sh a n) (hc : I a 4 = nI c) (hn : n < 1000) (hcn : c ≤ n) {k : Nat} (hk : k < c) :
    Ct l yX0_epochAt wsX0_epochAt { frames := 1, cells := 0, slots := 0, locals := 21 } 0 0 D T A [.ref a, .int (nI k)] (hm D T L A Sh I J) (some (.int (I (a + 4) k))) (hm D T L A Sh I J) := by
  refine Ct.ofW (cc := cX0_epochAt) (maxL := 2) (ret := (some .int)) (by decide) rfl (Nat.le_of_ble_eq_true rfl) ?_
  intro p_ e_ s_ m_ args_ below_ meth_ c_ ls R Qq hR hQ C0 hr hlk hname hM hl
  have hx := C0.1.1
  have hb := C0.1.2.1
  have hS : va_S A s_.heap s_.heap [] := va_S.rf
  have hl : lv_has ls 2 [(0, .ref a), (1, .int (nI k))] := hl
  refine lv_aload_n hx hb dX0_epochAt_0 rfl (lv_at hl 0 rfl) ?_
  refine lv_iload_n hx hb dX0_epochAt_1 rfl (lv_at hl 1 rfl) ?_
  refine mr_callV (As := [.int (nI k)]) C0 (ctX0_hasFrame_t (I := I) (J := J) (a := a) (k := k) hF hc (by omega) (by omega) (by omega)) (cwV 1 C0.1.2.2.2.2 gX0_epochAt_X0_hasFrame rfl rfl rfl (by decide +kernel) (by rw [hR]; exact ⟨Nat.le_of_ble_eq_true rfl, Nat.le_of_ble_eq_true rfl⟩)) hM hF.1.1 hF.1.2 rfl rfl hM hS rfl rfl rfl hl.1 (Nat.le_of_ble_eq_true rfl) dX0_epochAt_2 (by rw [hR]; exact ⟨Nat.zero_le _, Nat.zero_le _⟩) (fun H locs hM hS => ?_)
  refine mr_eqB (tgt := 17) C0 dX0_epochAt_5 (by decide) (fun c1 => absurd c1 (by decide)) (fun _ => ?_)
  refine lv_aload_n hx hb dX0_epochAt_8 rfl (lv_at hl 0 rfl) ?_
  refine mr_getr (r := a + 4) (TT := TX0) (N := 5) C0 uX0_epochAt_X0 hM hF.1.1 hF.1.2 rfl 3 (by decide) rfl kX0_epochAt_f27 rfl dX0_epochAt_9 ?_
  refine lv_iload_n hx hb dX0_epochAt_12 rfl (lv_at hl 1 rfl) ?_
  refine mr_ialdN (v := I (a + 4) k) C0 hM hF.2.2.2.2.1.1 hF.2.2.2.2.1.2 hF.2.2.2.2.2 (by omega) rfl dX0_epochAt_13 ?_
  refine lv_goto (tgt := 19) hx hb dX0_epochAt_14 (by decide) ?_
  have eF : I (a + 4) k = I (a + 4) k := rfl
  exact mr_iret (v := I (a + 4) k) C0 hr hlk hQ hS (by rw [← eF]) hM (Nat.le_refl _) (Nat.le_refl _) dX0_epochAt_19
def fX0_add_t (I : hm_I) (a c : Nat) (v s0 z e0 : Int32) : hm_I :=
  hm_put (hm_put (hm_put (hm_put (hm_put I (a + 1) c v) (a + 2) c s0) (a + 3) c z) (a + 4) c e0) a 4 (nI (c + 1))
set_option maxHeartbeats 4000000 in
set_option maxRecDepth 100000 in
theorem ctX0_add_t {l : Launch} {D : va_G} {T : Nat → ClassId} {L : List Nat} {A : Nat → Prop} {Sh : hm_S} {I : hm_I} {J : hm_J} {a n c : Nat} (hF : IsF L Sh a n) (hc : I a 4 = nI c) (hn : n < 1000) (hcn : c ≤ n) (hcl : c < n) {v s0 z e0 : Int32} :
    Ct l yX0_add wsX0_add { frames := 1, cells := 0, slots := 0, locals := 20 } 0 0 D T A [.ref a, .int v, .int s0, .int z, .int e0] (hm D T L A Sh I J) none (hm D T L A Sh (fX0_add_t I a c v s0 z e0) J) := by
  refine Ct.ofW (cc := cX0_add) (maxL := 5) (ret := none) (by decide) rfl (Nat.le_of_ble_eq_true rfl) ?_
  intro p_ e_ s_ m_ args_ below_ meth_ c_ ls R Qq hR hQ C0 hr hlk hname hM hl
  have hx := C0.1.1
  have hb := C0.1.2.1
  have hS : va_S A s_.heap s_.heap [] := va_S.rf
  have hl : lv_has ls 5 [(0, .ref a), (1, .int v), (2, .int s0), (3, .int z), (4, .int e0)] := hl
  refine lv_aload_n hx hb dX0_add_0 rfl (lv_at hl 0 rfl) ?_
  refine mr_callV (As := []) C0 (ctX0_isFull (I := I) (J := J) (a := a) hF hc (by omega) (by omega)) (cwV 0 C0.1.2.2.2.2 gX0_add_X0_isFull rfl rfl rfl (by decide +kernel) (by rw [hR]; exact ⟨Nat.le_of_ble_eq_true rfl, Nat.le_of_ble_eq_true rfl⟩)) hM hF.1.1 hF.1.2 rfl rfl hM hS rfl rfl rfl hl.1 (Nat.le_of_ble_eq_true rfl) dX0_add_1 (by rw [hR]; exact ⟨Nat.zero_le _, Nat.zero_le _⟩) (fun H locs hM hS => ?_)
  refine mr_eqB (tgt := 8) C0 dX0_add_4 (by decide) (fun c1 => ?_) (fun c1 => absurd c1 (by unfold fX0_isFull; rw [if_pos (by omega)]; decide))
  refine lv_aload_n hx hb dX0_add_8 rfl (lv_at hl 0 rfl) ?_
  refine mr_getr (r := a + 1) (TT := TX0) (N := 5) C0 uX0_add_X0 hM hF.1.1 hF.1.2 rfl 0 (by decide) rfl kX0_add_f15 rfl dX0_add_9 ?_
  refine lv_aload_n hx hb dX0_add_12 rfl (lv_at hl 0 rfl) ?_
  refine mr_geti (v := nI c) (TT := TX0) (N := 5) C0 uX0_add_X0 hM hF.1.1 hF.1.2 rfl 4 (by decide) rfl hc kX0_add_f30 rfl dX0_add_13 ?_
  refine lv_iload_n hx hb dX0_add_16 rfl (lv_at hl 1 rfl) ?_
  refine mr_iastN C0 hM hS hF.2.1.1 hF.2.1.2 hF.2.2.2.2.2 (by omega) dX0_add_17 (fun H locs hM hS => ?_)
  refine lv_aload_n hx hb dX0_add_18 rfl (lv_at hl 0 rfl) ?_
  refine mr_getr (r := a + 2) (TT := TX0) (N := 5) C0 uX0_add_X0 hM hF.1.1 hF.1.2 rfl 1 (by decide) rfl kX0_add_f21 rfl dX0_add_19 ?_
  refine lv_aload_n hx hb dX0_add_22 rfl (lv_at hl 0 rfl) ?_
  refine mr_geti (v := nI c) (TT := TX0) (N := 5) C0 uX0_add_X0 hM hF.1.1 hF.1.2 rfl 4 (by decide) rfl ((hm_put_get (by omega)).trans hc) kX0_add_f30 rfl dX0_add_23 ?_
  refine lv_iload_n hx hb dX0_add_26 rfl (lv_at hl 2 rfl) ?_
  refine mr_iastN C0 hM hS hF.2.2.1.1 hF.2.2.1.2 hF.2.2.2.2.2 (by omega) dX0_add_27 (fun H locs hM hS => ?_)
  refine lv_aload_n hx hb dX0_add_28 rfl (lv_at hl 0 rfl) ?_
  refine mr_getr (r := a + 3) (TT := TX0) (N := 5) C0 uX0_add_X0 hM hF.1.1 hF.1.2 rfl 2 (by decide) rfl kX0_add_f24 rfl dX0_add_29 ?_
  refine lv_aload_n hx hb dX0_add_32 rfl (lv_at hl 0 rfl) ?_
  refine mr_geti (v := nI c) (TT := TX0) (N := 5) C0 uX0_add_X0 hM hF.1.1 hF.1.2 rfl 4 (by decide) rfl ((hm_put_get (by omega)).trans ((hm_put_get (by omega)).trans hc)) kX0_add_f30 rfl dX0_add_33 ?_
  refine lv_iload_n hx hb dX0_add_36 rfl (lv_at hl 3 rfl) ?_
  refine mr_iastN C0 hM hS hF.2.2.2.1.1 hF.2.2.2.1.2 hF.2.2.2.2.2 (by omega) dX0_add_37 (fun H locs hM hS => ?_)
  refine lv_aload_n hx hb dX0_add_38 rfl (lv_at hl 0 rfl) ?_
  refine mr_getr (r := a + 4) (TT := TX0) (N := 5) C0 uX0_add_X0 hM hF.1.1 hF.1.2 rfl 3 (by decide) rfl kX0_add_f27 rfl dX0_add_39 ?_
  refine lv_aload_n hx hb dX0_add_42 rfl (lv_at hl 0 rfl) ?_
  refine mr_geti (v := nI c) (TT := TX0) (N := 5) C0 uX0_add_X0 hM hF.1.1 hF.1.2 rfl 4 (by decide) rfl ((hm_put_get (by omega)).trans ((hm_put_get (by omega)).trans ((hm_put_get (by omega)).trans hc))) kX0_add_f30 rfl dX0_add_43 ?_
  refine lv_iload hx hb dX0_add_46 (lv_at hl 4 rfl) ?_
  refine mr_iastN C0 hM hS hF.2.2.2.2.1.1 hF.2.2.2.2.1.2 hF.2.2.2.2.2 (by omega) dX0_add_48 (fun H locs hM hS => ?_)
  refine lv_aload_n hx hb dX0_add_49 rfl (lv_at hl 0 rfl) ?_
  refine lv_dup hx hb dX0_add_50 rfl ?_
  refine mr_geti (v := nI c) (TT := TX0) (N := 5) C0 uX0_add_X0 hM hF.1.1 hF.1.2 rfl 4 (by decide) rfl ((hm_put_get (by omega)).trans ((hm_put_get (by omega)).trans ((hm_put_get (by omega)).trans ((hm_put_get (by omega)).trans hc)))) kX0_add_f30 rfl dX0_add_51 ?_
  refine lv_iconst (v := nI 1) hx hb dX0_add_54 (by decide) ?_
  refine mr_iaddN (z := c + 1) C0 rfl dX0_add_55 ?_
  refine mr_puti (TT := TX0) (N := 5) C0 uX0_add_X0 tyX0 tyX0_ok nmX0 hM hS hF.1.1 hF.1.2 rfl 4 (by decide) rfl kX0_add_f30 rfl rfl (by decide +kernel) dX0_add_56 (fun H locs hM hS => ?_)
  have eF : hm_put (hm_put (hm_put (hm_put (hm_put I (a + 1) c v) (a + 2) c s0) (a + 3) c z) (a + 4) c e0) a 4 (nI (c + 1)) = fX0_add_t I a c v s0 z e0 := rfl
  exact mr_vret C0 hr hlk hQ hS rfl (by rw [← eF]; exact hM) (Nat.le_refl _) (Nat.le_refl _) dX0_add_59
theorem fX0_add_ne {I : hm_I} {a c : Nat} {v s0 z e0 : Int32} {b : Nat} (h : b < a ∨ a + 5 ≤ b) : fX0_add_t I a c v s0 z e0 b = I b := by
  unfold fX0_add_t
  rw [hm_put_ne _ _ _ _ (by omega), hm_put_ne _ _ _ _ (by omega), hm_put_ne _ _ _ _ (by omega), hm_put_ne _ _ _ _ (by omega), hm_put_ne _ _ _ _ (by omega)]
def fX0_removeFirst_t (I : hm_I) (a c : Nat) : hm_I :=
  hm_put (lp (c - 1) (fun i2 x3 => hm_put (hm_put (hm_put (hm_put x3 (a + 1) i2 (x3 (a + 1) (i2 + 1))) (a + 2) i2 (x3 (a + 2) (i2 + 1))) (a + 3) i2 (x3 (a + 3) (i2 + 1))) (a + 4) i2 (x3 (a + 4) (i2 + 1))) I) a 4 (nI (c - 1))
set_option maxHeartbeats 4000000 in
set_option maxRecDepth 100000 in
theorem ctX0_removeFirst_t {l : Launch} {D : va_G} {T : Nat → ClassId} {L : List Nat} {A : Nat → Prop} {Sh : hm_S} {I : hm_I} {J : hm_J} {a n c : Nat} (hF : IsF L Sh a n) (hc : I a 4 = nI c) (hn : n < 1000) (hcn : c ≤ n) (hc0 : 0 < c) :
    Ct l yX0_removeFirst wsX0_removeFirst { frames := 0, cells := 0, slots := 0, locals := 0 } 0 0 D T A [.ref a] (hm D T L A Sh I J) none (hm D T L A Sh (fX0_removeFirst_t I a c) J) := by
  refine Ct.ofW (cc := cX0_removeFirst) (maxL := 2) (ret := none) (by decide) rfl (Nat.le_of_ble_eq_true rfl) ?_
  intro p_ e_ s_ m_ args_ below_ meth_ c_ ls R Qq hR hQ C0 hr hlk hname hM hl
  have hx := C0.1.1
  have hb := C0.1.2.1
  have hS : va_S A s_.heap s_.heap [] := va_S.rf
  have hl : lv_has ls 2 [(0, .ref a)] := hl
  refine lv_aload_n hx hb dX0_removeFirst_0 rfl (lv_at hl 0 rfl) ?_
  refine mr_geti (v := nI c) (TT := TX0) (N := 5) C0 uX0_removeFirst_X0 hM hF.1.1 hF.1.2 rfl 4 (by decide) rfl hc kX0_removeFirst_f30 rfl dX0_removeFirst_1 ?_
  refine mr_ne0N (x := c) (tgt := 8) C0 dX0_removeFirst_4 (by decide) (by omega) (fun c1 => ?_) (fun c1 => absurd c1 (by omega))
  refine lv_iconst (v := nI 1) hx hb dX0_removeFirst_8 (by decide) ?_
  refine lv_istore_n (lv' := [(1, .int (nI 1)), (0, .ref a)]) hx hb dX0_removeFirst_9 rfl hl (by decide) rfl (fun ls hl => ?_)
  refine lp_loop (σ := hm_I) (fun i2 x3 => ∀ (H : Heap) (locs : List Loc) (ls : Array Slot), hm D T L A Sh x3 J H → va_S A s_.heap H locs → lv_has ls 2 [(0, .ref a), (1, .int (nI (i2 + 1)))] → W p_ l e_ R s_ m_ args_ below_ meth_ c_ H locs 0 0 Qq (F0 m_ 10 ls [])) (c - 1) (fun i2 x3 => hm_put (hm_put (hm_put (hm_put x3 (a + 1) i2 (x3 (a + 1) (i2 + 1))) (a + 2) i2 (x3 (a + 2) (i2 + 1))) (a + 3) i2 (x3 (a + 3) (i2 + 1))) (a + 4) i2 (x3 (a + 4) (i2 + 1))) I (fun (i2 : Nat) (x3 : hm_I) => x3 a 4 = nI c) hc (fun i x _ hv => (hm_put_get (by omega)).trans ((hm_put_get (by omega)).trans ((hm_put_get (by omega)).trans ((hm_put_get (by omega)).trans hv)))) (fun i2 x3 hi4 hv5 k6 H locs ls hM hS hl => ?_) (fun hv5 H locs ls hM hS hl => ?_) _ _ _ hM hS (lv_sub hl [1, 0] rfl)
  · have stp7 : ∀ yy_ : hm_I, yy_ = (hm_put (hm_put (hm_put (hm_put x3 (a + 1) i2 (x3 (a + 1) (i2 + 1))) (a + 2) i2 (x3 (a + 2) (i2 + 1))) (a + 3) i2 (x3 (a + 3) (i2 + 1))) (a + 4) i2 (x3 (a + 4) (i2 + 1))) → ∀ (H : Heap) (locs : List Loc) (ls : Array Slot), hm D T L A Sh yy_ J H → va_S A s_.heap H locs → lv_has ls 2 [(0, .ref a), (1, .int (nI ((i2 + 1) + 1)))] → W p_ l e_ R s_ m_ args_ below_ meth_ c_ H locs 0 0 Qq (F0 m_ 10 ls []) := fun yy_ ey => by subst ey; exact k6
    refine lv_iload_n hx hb dX0_removeFirst_10 rfl (lv_at hl 1 rfl) ?_
    refine lv_aload_n hx hb dX0_removeFirst_11 rfl (lv_at hl 0 rfl) ?_
    refine mr_geti (v := nI c) (TT := TX0) (N := 5) C0 uX0_removeFirst_X0 hM hF.1.1 hF.1.2 rfl 4 (by decide) rfl hv5 kX0_removeFirst_f30 rfl dX0_removeFirst_12 ?_
    refine mr_geN (x := i2 + 1) (y := c) (tgt := 80) C0 dX0_removeFirst_15 (by decide) (by omega) (by omega) (fun c8 => absurd c8 (by omega)) (fun c8 => ?_)
    refine lv_aload_n hx hb dX0_removeFirst_18 rfl (lv_at hl 0 rfl) ?_
    refine mr_getr (r := a + 1) (TT := TX0) (N := 5) C0 uX0_removeFirst_X0 hM hF.1.1 hF.1.2 rfl 0 (by decide) rfl kX0_removeFirst_f15 rfl dX0_removeFirst_19 ?_
    refine lv_iload_n hx hb dX0_removeFirst_22 rfl (lv_at hl 1 rfl) ?_
    refine lv_iconst (v := nI 1) hx hb dX0_removeFirst_23 (by decide) ?_
    refine mr_isubN (z := i2) C0 (by omega) dX0_removeFirst_24 ?_
    refine lv_aload_n hx hb dX0_removeFirst_25 rfl (lv_at hl 0 rfl) ?_
    refine mr_getr (r := a + 1) (TT := TX0) (N := 5) C0 uX0_removeFirst_X0 hM hF.1.1 hF.1.2 rfl 0 (by decide) rfl kX0_removeFirst_f15 rfl dX0_removeFirst_26 ?_
    refine lv_iload_n hx hb dX0_removeFirst_29 rfl (lv_at hl 1 rfl) ?_
    refine mr_ialdN (v := x3 (a + 1) (i2 + 1)) C0 hM hF.2.1.1 hF.2.1.2 hF.2.2.2.2.2 (by omega) rfl dX0_removeFirst_30 ?_
    refine mr_iastN C0 hM hS hF.2.1.1 hF.2.1.2 hF.2.2.2.2.2 (by omega) dX0_removeFirst_31 (fun H locs hM hS => ?_)
    refine lv_aload_n hx hb dX0_removeFirst_32 rfl (lv_at hl 0 rfl) ?_
    refine mr_getr (r := a + 2) (TT := TX0) (N := 5) C0 uX0_removeFirst_X0 hM hF.1.1 hF.1.2 rfl 1 (by decide) rfl kX0_removeFirst_f21 rfl dX0_removeFirst_33 ?_
    refine lv_iload_n hx hb dX0_removeFirst_36 rfl (lv_at hl 1 rfl) ?_
    refine lv_iconst (v := nI 1) hx hb dX0_removeFirst_37 (by decide) ?_
    refine mr_isubN (z := i2) C0 (by omega) dX0_removeFirst_38 ?_
    refine lv_aload_n hx hb dX0_removeFirst_39 rfl (lv_at hl 0 rfl) ?_
    refine mr_getr (r := a + 2) (TT := TX0) (N := 5) C0 uX0_removeFirst_X0 hM hF.1.1 hF.1.2 rfl 1 (by decide) rfl kX0_removeFirst_f21 rfl dX0_removeFirst_40 ?_
    refine lv_iload_n hx hb dX0_removeFirst_43 rfl (lv_at hl 1 rfl) ?_
    refine mr_ialdN (v := x3 (a + 2) (i2 + 1)) C0 hM hF.2.2.1.1 hF.2.2.1.2 hF.2.2.2.2.2 (by omega) (hm_put_get (by omega)) dX0_removeFirst_44 ?_
    refine mr_iastN C0 hM hS hF.2.2.1.1 hF.2.2.1.2 hF.2.2.2.2.2 (by omega) dX0_removeFirst_45 (fun H locs hM hS => ?_)
    refine lv_aload_n hx hb dX0_removeFirst_46 rfl (lv_at hl 0 rfl) ?_
    refine mr_getr (r := a + 3) (TT := TX0) (N := 5) C0 uX0_removeFirst_X0 hM hF.1.1 hF.1.2 rfl 2 (by decide) rfl kX0_removeFirst_f24 rfl dX0_removeFirst_47 ?_
    refine lv_iload_n hx hb dX0_removeFirst_50 rfl (lv_at hl 1 rfl) ?_
    refine lv_iconst (v := nI 1) hx hb dX0_removeFirst_51 (by decide) ?_
    refine mr_isubN (z := i2) C0 (by omega) dX0_removeFirst_52 ?_
    refine lv_aload_n hx hb dX0_removeFirst_53 rfl (lv_at hl 0 rfl) ?_
    refine mr_getr (r := a + 3) (TT := TX0) (N := 5) C0 uX0_removeFirst_X0 hM hF.1.1 hF.1.2 rfl 2 (by decide) rfl kX0_removeFirst_f24 rfl dX0_removeFirst_54 ?_
    refine lv_iload_n hx hb dX0_removeFirst_57 rfl (lv_at hl 1 rfl) ?_
    refine mr_ialdN (v := x3 (a + 3) (i2 + 1)) C0 hM hF.2.2.2.1.1 hF.2.2.2.1.2 hF.2.2.2.2.2 (by omega) ((hm_put_get (by omega)).trans (hm_put_get (by omega))) dX0_removeFirst_58 ?_
    refine mr_iastN C0 hM hS hF.2.2.2.1.1 hF.2.2.2.1.2 hF.2.2.2.2.2 (by omega) dX0_removeFirst_59 (fun H locs hM hS => ?_)
    refine lv_aload_n hx hb dX0_removeFirst_60 rfl (lv_at hl 0 rfl) ?_
    refine mr_getr (r := a + 4) (TT := TX0) (N := 5) C0 uX0_removeFirst_X0 hM hF.1.1 hF.1.2 rfl 3 (by decide) rfl kX0_removeFirst_f27 rfl dX0_removeFirst_61 ?_
    refine lv_iload_n hx hb dX0_removeFirst_64 rfl (lv_at hl 1 rfl) ?_
    refine lv_iconst (v := nI 1) hx hb dX0_removeFirst_65 (by decide) ?_
    refine mr_isubN (z := i2) C0 (by omega) dX0_removeFirst_66 ?_
    refine lv_aload_n hx hb dX0_removeFirst_67 rfl (lv_at hl 0 rfl) ?_
    refine mr_getr (r := a + 4) (TT := TX0) (N := 5) C0 uX0_removeFirst_X0 hM hF.1.1 hF.1.2 rfl 3 (by decide) rfl kX0_removeFirst_f27 rfl dX0_removeFirst_68 ?_
    refine lv_iload_n hx hb dX0_removeFirst_71 rfl (lv_at hl 1 rfl) ?_
    refine mr_ialdN (v := x3 (a + 4) (i2 + 1)) C0 hM hF.2.2.2.2.1.1 hF.2.2.2.2.1.2 hF.2.2.2.2.2 (by omega) ((hm_put_get (by omega)).trans ((hm_put_get (by omega)).trans (hm_put_get (by omega)))) dX0_removeFirst_72 ?_
    refine mr_iastN C0 hM hS hF.2.2.2.2.1.1 hF.2.2.2.2.1.2 hF.2.2.2.2.2 (by omega) dX0_removeFirst_73 (fun H locs hM hS => ?_)
    refine lv_iinc (v := nI (i2 + 1 + 1)) (lv' := [(1, .int (nI (i2 + 1 + 1))), (0, .ref a)]) hx hb dX0_removeFirst_74 hl (k := 1) rfl (nI_1 _) (by decide) rfl (fun ls hl => ?_)
    refine lv_goto (tgt := 10) hx hb dX0_removeFirst_77 (by decide) ?_
    exact stp7 (hm_put (hm_put (hm_put (hm_put x3 (a + 1) i2 (x3 (a + 1) (i2 + 1))) (a + 2) i2 (x3 (a + 2) (i2 + 1))) (a + 3) i2 (x3 (a + 3) (i2 + 1))) (a + 4) i2 (x3 (a + 4) (i2 + 1))) rfl H locs ls hM hS (lv_sub hl [1, 0] rfl)
  · skip
    refine lv_iload_n hx hb dX0_removeFirst_10 rfl (lv_at hl 1 rfl) ?_
    refine lv_aload_n hx hb dX0_removeFirst_11 rfl (lv_at hl 0 rfl) ?_
    refine mr_geti (v := nI c) (TT := TX0) (N := 5) C0 uX0_removeFirst_X0 hM hF.1.1 hF.1.2 rfl 4 (by decide) rfl hv5 kX0_removeFirst_f30 rfl dX0_removeFirst_12 ?_
    refine mr_geN (x := (c - 1) + 1) (y := c) (tgt := 80) C0 dX0_removeFirst_15 (by decide) (by omega) (by omega) (fun c9 => ?_) (fun c9 => absurd c9 (by omega))
    refine lv_aload_n hx hb dX0_removeFirst_80 rfl (lv_at hl 0 rfl) ?_
    refine lv_dup hx hb dX0_removeFirst_81 rfl ?_
    refine mr_geti (v := nI c) (TT := TX0) (N := 5) C0 uX0_removeFirst_X0 hM hF.1.1 hF.1.2 rfl 4 (by decide) rfl hv5 kX0_removeFirst_f30 rfl dX0_removeFirst_82 ?_
    refine lv_iconst (v := nI 1) hx hb dX0_removeFirst_85 (by decide) ?_
    refine mr_isubN (z := (c - 1)) C0 (by omega) dX0_removeFirst_86 ?_
    refine mr_puti (TT := TX0) (N := 5) C0 uX0_removeFirst_X0 tyX0 tyX0_ok nmX0 hM hS hF.1.1 hF.1.2 rfl 4 (by decide) rfl kX0_removeFirst_f30 rfl rfl (by decide +kernel) dX0_removeFirst_87 (fun H locs hM hS => ?_)
    have eF : hm_put (lp (c - 1) (fun i2 x3 => hm_put (hm_put (hm_put (hm_put x3 (a + 1) i2 (x3 (a + 1) (i2 + 1))) (a + 2) i2 (x3 (a + 2) (i2 + 1))) (a + 3) i2 (x3 (a + 3) (i2 + 1))) (a + 4) i2 (x3 (a + 4) (i2 + 1))) I) a 4 (nI (c - 1)) = fX0_removeFirst_t I a c := rfl
    exact mr_vret C0 hr hlk hQ hS rfl (by rw [← eF]; exact hM) (Nat.le_refl _) (Nat.le_refl _) dX0_removeFirst_90
theorem fX0_removeFirst_ne {I : hm_I} {a c b : Nat} (h : b < a ∨ a + 5 ≤ b) : fX0_removeFirst_t I a c b = I b := by
  unfold fX0_removeFirst_t
  rw [hm_put_ne _ _ _ _ (by omega)]
  exact lp_inv (fun _ (x : hm_I) => x b = I b) rfl (fun i x _ hx => by rw [hm_put_ne _ _ _ _ (by omega), hm_put_ne _ _ _ _ (by omega), hm_put_ne _ _ _ _ (by omega), hm_put_ne _ _ _ _ (by omega)]; exact hx)
theorem fX0_removeFirst_cnt {I : hm_I} {a c : Nat} : fX0_removeFirst_t I a c a 4 = nI (c - 1) := by
  unfold fX0_removeFirst_t
  exact hm_put_at _ _ _ _
def fX0_sizeOfAll (I : hm_I) (a c : Nat) : Int32 :=
  (lp c (fun i1 x2 => x2 + (I (a + 3) i1)) (nI 0))
set_option maxHeartbeats 4000000 in
set_option maxRecDepth 100000 in
theorem ctX0_sizeOfAll {l : Launch} {D : va_G} {T : Nat → ClassId} {L : List Nat} {A : Nat → Prop} {Sh : hm_S} {I : hm_I} {J : hm_J} {a n c : Nat} (hF : IsF L Sh a n) (hc : I a 4 = nI c) (hn : n < 1000) (hcn : c ≤ n) :
    Ct l yX0_sizeOfAll wsX0_sizeOfAll { frames := 0, cells := 0, slots := 0, locals := 0 } 0 0 D T A [.ref a] (hm D T L A Sh I J) (some (.int (fX0_sizeOfAll I a c))) (hm D T L A Sh I J) := by
  refine Ct.ofW (cc := cX0_sizeOfAll) (maxL := 3) (ret := (some .int)) (by decide) rfl (Nat.le_of_ble_eq_true rfl) ?_
  intro p_ e_ s_ m_ args_ below_ meth_ c_ ls R Qq hR hQ C0 hr hlk hname hM hl
  have hx := C0.1.1
  have hb := C0.1.2.1
  have hS : va_S A s_.heap s_.heap [] := va_S.rf
  have hl : lv_has ls 3 [(0, .ref a)] := hl
  refine lv_iconst (v := nI 0) hx hb dX0_sizeOfAll_0 (by decide) ?_
  refine lv_istore_n (lv' := [(1, .int (nI 0)), (0, .ref a)]) hx hb dX0_sizeOfAll_1 rfl hl (by decide) rfl (fun ls hl => ?_)
  refine lv_iconst (v := nI 0) hx hb dX0_sizeOfAll_2 (by decide) ?_
  refine lv_istore_n (lv' := [(2, .int (nI 0)), (1, .int (nI 0)), (0, .ref a)]) hx hb dX0_sizeOfAll_3 rfl hl (by decide) rfl (fun ls hl => ?_)
  refine lp_loop (σ := Int32) (fun i1 x2 => ∀ (H : Heap) (locs : List Loc) (ls : Array Slot), hm D T L A Sh I J H → va_S A s_.heap H locs → lv_has ls 3 [(0, .ref a), (1, .int x2), (2, .int (nI i1))] → W p_ l e_ R s_ m_ args_ below_ meth_ c_ H locs 0 0 Qq (F0 m_ 4 ls [])) c (fun i1 x2 => x2 + (I (a + 3) i1)) (nI 0) (fun _ _ => True) trivial (fun _ _ _ _ => trivial) (fun i1 x2 hi3 hv4 k5 H locs ls hM hS hl => ?_) (fun hv4 H locs ls hM hS hl => ?_) _ _ _ hM hS (lv_sub hl [2, 1, 0] rfl)
  · have stp6 : ∀ yy_ : Int32, yy_ = (x2 + (I (a + 3) i1)) → ∀ (H : Heap) (locs : List Loc) (ls : Array Slot), hm D T L A Sh I J H → va_S A s_.heap H locs → lv_has ls 3 [(0, .ref a), (1, .int yy_), (2, .int (nI (i1 + 1)))] → W p_ l e_ R s_ m_ args_ below_ meth_ c_ H locs 0 0 Qq (F0 m_ 4 ls []) := fun yy_ ey => by subst ey; exact k5
    refine lv_iload_n hx hb dX0_sizeOfAll_4 rfl (lv_at hl 2 rfl) ?_
    refine lv_aload_n hx hb dX0_sizeOfAll_5 rfl (lv_at hl 0 rfl) ?_
    refine mr_geti (v := nI c) (TT := TX0) (N := 5) C0 uX0_sizeOfAll_X0 hM hF.1.1 hF.1.2 rfl 4 (by decide) rfl hc kX0_sizeOfAll_f30 rfl dX0_sizeOfAll_6 ?_
    refine mr_geN (x := i1) (y := c) (tgt := 27) C0 dX0_sizeOfAll_9 (by decide) (by omega) (by omega) (fun c7 => absurd c7 (by omega)) (fun c7 => ?_)
    refine lv_iload_n hx hb dX0_sizeOfAll_12 rfl (lv_at hl 1 rfl) ?_
    refine lv_aload_n hx hb dX0_sizeOfAll_13 rfl (lv_at hl 0 rfl) ?_
    refine mr_getr (r := a + 3) (TT := TX0) (N := 5) C0 uX0_sizeOfAll_X0 hM hF.1.1 hF.1.2 rfl 2 (by decide) rfl kX0_sizeOfAll_f24 rfl dX0_sizeOfAll_14 ?_
    refine lv_iload_n hx hb dX0_sizeOfAll_17 rfl (lv_at hl 2 rfl) ?_
    refine mr_ialdN (v := I (a + 3) i1) C0 hM hF.2.2.2.1.1 hF.2.2.2.1.2 hF.2.2.2.2.2 (by omega) rfl dX0_sizeOfAll_18 ?_
    refine lv_iadd hx hb dX0_sizeOfAll_19 ?_
    refine lv_istore_n (lv' := [(1, .int (x2 + (I (a + 3) i1))), (0, .ref a), (2, .int (nI i1))]) hx hb dX0_sizeOfAll_20 rfl hl (by decide) rfl (fun ls hl => ?_)
    refine lv_iinc (v := nI (i1 + 1)) (lv' := [(2, .int (nI (i1 + 1))), (1, .int (x2 + (I (a + 3) i1))), (0, .ref a)]) hx hb dX0_sizeOfAll_21 hl (k := 2) rfl (nI_1 _) (by decide) rfl (fun ls hl => ?_)
    refine lv_goto (tgt := 4) hx hb dX0_sizeOfAll_24 (by decide) ?_
    exact stp6 (x2 + (I (a + 3) i1)) rfl H locs ls hM hS (lv_sub hl [2, 1, 0] rfl)
  · skip
    refine lv_iload_n hx hb dX0_sizeOfAll_4 rfl (lv_at hl 2 rfl) ?_
    refine lv_aload_n hx hb dX0_sizeOfAll_5 rfl (lv_at hl 0 rfl) ?_
    refine mr_geti (v := nI c) (TT := TX0) (N := 5) C0 uX0_sizeOfAll_X0 hM hF.1.1 hF.1.2 rfl 4 (by decide) rfl hc kX0_sizeOfAll_f30 rfl dX0_sizeOfAll_6 ?_
    refine mr_geN (x := c) (y := c) (tgt := 27) C0 dX0_sizeOfAll_9 (by decide) (by omega) (by omega) (fun c8 => ?_) (fun c8 => absurd c8 (by omega))
    refine lv_iload_n hx hb dX0_sizeOfAll_27 rfl (lv_at hl 1 rfl) ?_
    have eF : (lp c (fun i1 x2 => x2 + (I (a + 3) i1)) (nI 0)) = fX0_sizeOfAll I a c := rfl
    exact mr_iret (v := (lp c (fun i1 x2 => x2 + (I (a + 3) i1)) (nI 0))) C0 hr hlk hQ hS (by rw [← eF]) hM (Nat.le_refl _) (Nat.le_refl _) dX0_sizeOfAll_28
def fX0_countOfEpochUpTo (I : hm_I) (a c : Nat) (e0 : Int32) : Int32 :=
  (lp c (fun i1 x2 => if e0 < I (a + 4) i1 then x2 else x2 + 1) (nI 0))
set_option maxHeartbeats 4000000 in
set_option maxRecDepth 100000 in
theorem ctX0_countOfEpochUpTo {l : Launch} {D : va_G} {T : Nat → ClassId} {L : List Nat} {A : Nat → Prop} {Sh : hm_S} {I : hm_I} {J : hm_J} {a n c : Nat} (hF : IsF L Sh a n) (hc : I a 4 = nI c) (hn : n < 1000) (hcn : c ≤ n) {e0 : Int32} :
    Ct l yX0_countOfEpochUpTo wsX0_countOfEpochUpTo { frames := 0, cells := 0, slots := 0, locals := 0 } 0 0 D T A [.ref a, .int e0] (hm D T L A Sh I J) (some (.int (fX0_countOfEpochUpTo I a c e0))) (hm D T L A Sh I J) := by
  refine Ct.ofW (cc := cX0_countOfEpochUpTo) (maxL := 4) (ret := (some .int)) (by decide) rfl (Nat.le_of_ble_eq_true rfl) ?_
  intro p_ e_ s_ m_ args_ below_ meth_ c_ ls R Qq hR hQ C0 hr hlk hname hM hl
  have hx := C0.1.1
  have hb := C0.1.2.1
  have hS : va_S A s_.heap s_.heap [] := va_S.rf
  have hl : lv_has ls 4 [(0, .ref a), (1, .int e0)] := hl
  refine lv_iconst (v := nI 0) hx hb dX0_countOfEpochUpTo_0 (by decide) ?_
  refine lv_istore_n (lv' := [(2, .int (nI 0)), (0, .ref a), (1, .int e0)]) hx hb dX0_countOfEpochUpTo_1 rfl hl (by decide) rfl (fun ls hl => ?_)
  refine lv_iconst (v := nI 0) hx hb dX0_countOfEpochUpTo_2 (by decide) ?_
  refine lv_istore_n (lv' := [(3, .int (nI 0)), (2, .int (nI 0)), (0, .ref a), (1, .int e0)]) hx hb dX0_countOfEpochUpTo_3 rfl hl (by decide) rfl (fun ls hl => ?_)
  refine lp_loop (σ := Int32) (fun i1 x2 => ∀ (H : Heap) (locs : List Loc) (ls : Array Slot), hm D T L A Sh I J H → va_S A s_.heap H locs → lv_has ls 4 [(0, .ref a), (1, .int e0), (2, .int x2), (3, .int (nI i1))] → W p_ l e_ R s_ m_ args_ below_ meth_ c_ H locs 0 0 Qq (F0 m_ 4 ls [])) c (fun i1 x2 => if e0 < I (a + 4) i1 then x2 else x2 + 1) (nI 0) (fun _ _ => True) trivial (fun _ _ _ _ => trivial) (fun i1 x2 hi3 hv4 k5 H locs ls hM hS hl => ?_) (fun hv4 H locs ls hM hS hl => ?_) _ _ _ hM hS (lv_sub hl [2, 3, 1, 0] rfl)
  · have stp6 : ∀ yy_ : Int32, yy_ = (if e0 < I (a + 4) i1 then x2 else x2 + 1) → ∀ (H : Heap) (locs : List Loc) (ls : Array Slot), hm D T L A Sh I J H → va_S A s_.heap H locs → lv_has ls 4 [(0, .ref a), (1, .int e0), (2, .int yy_), (3, .int (nI (i1 + 1)))] → W p_ l e_ R s_ m_ args_ below_ meth_ c_ H locs 0 0 Qq (F0 m_ 4 ls []) := fun yy_ ey => by subst ey; exact k5
    refine lv_iload_n hx hb dX0_countOfEpochUpTo_4 rfl (lv_at hl 3 rfl) ?_
    refine lv_aload_n hx hb dX0_countOfEpochUpTo_5 rfl (lv_at hl 0 rfl) ?_
    refine mr_geti (v := nI c) (TT := TX0) (N := 5) C0 uX0_countOfEpochUpTo_X0 hM hF.1.1 hF.1.2 rfl 4 (by decide) rfl hc kX0_countOfEpochUpTo_f30 rfl dX0_countOfEpochUpTo_6 ?_
    refine mr_geN (x := i1) (y := c) (tgt := 31) C0 dX0_countOfEpochUpTo_9 (by decide) (by omega) (by omega) (fun c7 => absurd c7 (by omega)) (fun c7 => ?_)
    refine lv_aload_n hx hb dX0_countOfEpochUpTo_12 rfl (lv_at hl 0 rfl) ?_
    refine mr_getr (r := a + 4) (TT := TX0) (N := 5) C0 uX0_countOfEpochUpTo_X0 hM hF.1.1 hF.1.2 rfl 3 (by decide) rfl kX0_countOfEpochUpTo_f27 rfl dX0_countOfEpochUpTo_13 ?_
    refine lv_iload_n hx hb dX0_countOfEpochUpTo_16 rfl (lv_at hl 3 rfl) ?_
    refine mr_ialdN (v := I (a + 4) i1) C0 hM hF.2.2.2.2.1.1 hF.2.2.2.2.1.2 hF.2.2.2.2.2 (by omega) rfl dX0_countOfEpochUpTo_17 ?_
    refine lv_iload_n hx hb dX0_countOfEpochUpTo_18 rfl (lv_at hl 1 rfl) ?_
    refine lv_icmp_gt (tgt := 25) hx hb dX0_countOfEpochUpTo_19 (by decide) (fun c8 => ?_) (fun c8 => ?_)
    · skip
      refine lv_iinc (v := nI (i1 + 1)) (lv' := [(3, .int (nI (i1 + 1))), (0, .ref a), (1, .int e0), (2, .int x2)]) hx hb dX0_countOfEpochUpTo_25 hl (k := 3) rfl (nI_1 _) (by decide) rfl (fun ls hl => ?_)
      refine lv_goto (tgt := 4) hx hb dX0_countOfEpochUpTo_28 (by decide) ?_
      exact stp6 x2 (by rw [if_pos c8]) H locs ls hM hS (lv_sub hl [1, 2, 3, 0] rfl)
    · skip
      refine lv_iinc (v := x2 + 1) (lv' := [(2, .int (x2 + 1)), (0, .ref a), (1, .int e0), (3, .int (nI i1))]) hx hb dX0_countOfEpochUpTo_22 hl (k := 2) rfl rfl (by decide) rfl (fun ls hl => ?_)
      refine lv_iinc (v := nI (i1 + 1)) (lv' := [(3, .int (nI (i1 + 1))), (2, .int (x2 + 1)), (0, .ref a), (1, .int e0)]) hx hb dX0_countOfEpochUpTo_25 hl (k := 3) rfl (nI_1 _) (by decide) rfl (fun ls hl => ?_)
      refine lv_goto (tgt := 4) hx hb dX0_countOfEpochUpTo_28 (by decide) ?_
      exact stp6 (x2 + 1) (by rw [if_neg c8]) H locs ls hM hS (lv_sub hl [2, 3, 1, 0] rfl)
  · skip
    refine lv_iload_n hx hb dX0_countOfEpochUpTo_4 rfl (lv_at hl 3 rfl) ?_
    refine lv_aload_n hx hb dX0_countOfEpochUpTo_5 rfl (lv_at hl 0 rfl) ?_
    refine mr_geti (v := nI c) (TT := TX0) (N := 5) C0 uX0_countOfEpochUpTo_X0 hM hF.1.1 hF.1.2 rfl 4 (by decide) rfl hc kX0_countOfEpochUpTo_f30 rfl dX0_countOfEpochUpTo_6 ?_
    refine mr_geN (x := c) (y := c) (tgt := 31) C0 dX0_countOfEpochUpTo_9 (by decide) (by omega) (by omega) (fun c9 => ?_) (fun c9 => absurd c9 (by omega))
    refine lv_iload_n hx hb dX0_countOfEpochUpTo_31 rfl (lv_at hl 2 rfl) ?_
    have eF : (lp c (fun i1 x2 => if e0 < I (a + 4) i1 then x2 else x2 + 1) (nI 0)) = fX0_countOfEpochUpTo I a c e0 := rfl
    exact mr_iret (v := (lp c (fun i1 x2 => if e0 < I (a + 4) i1 then x2 else x2 + 1) (nI 0))) C0 hr hlk hQ hS (by rw [← eF]) hM (Nat.le_refl _) (Nat.le_refl _) dX0_countOfEpochUpTo_32
def fX0_copyFrom (I : hm_I) (a b c : Nat) : hm_I :=
  (lp c (fun i1 x2 => hm_put (hm_put (hm_put (hm_put x2 (a + 1) i1 (x2 (b + 1) i1)) (a + 2) i1 (x2 (b + 2) i1)) (a + 3) i1 (x2 (b + 3) i1)) (a + 4) i1 (x2 (b + 4) i1)) (hm_put I a 4 (nI c)))
set_option maxHeartbeats 4000000 in
set_option maxRecDepth 100000 in
theorem ctX0_copyFrom {l : Launch} {D : va_G} {T : Nat → ClassId} {L : List Nat} {A : Nat → Prop} {Sh : hm_S} {I : hm_I} {J : hm_J} {a b n m c : Nat} (hF : IsF L Sh a n) (hG : IsF L Sh b m) (hc : I b 4 = nI c) (hn : n < 1000) (hcn : c ≤ n) (hcm : c ≤ m) (hm0 : m < 1000) (hab : a + 5 ≤ b ∨ b + 5 ≤ a) :
    Ct l yX0_copyFrom wsX0_copyFrom { frames := 1, cells := 0, slots := 0, locals := 21 } 0 0 D T A [.ref a, .ref b] (hm D T L A Sh I J) none (hm D T L A Sh (fX0_copyFrom I a b c) J) := by
  refine Ct.ofW (cc := cX0_copyFrom) (maxL := 3) (ret := none) (by decide) rfl (Nat.le_of_ble_eq_true rfl) ?_
  intro p_ e_ s_ m_ args_ below_ meth_ c_ ls R Qq hR hQ C0 hr hlk hname hM hl
  have hx := C0.1.1
  have hb := C0.1.2.1
  have hS : va_S A s_.heap s_.heap [] := va_S.rf
  have hl : lv_has ls 3 [(0, .ref a), (1, .ref b)] := hl
  refine lv_aload_n hx hb dX0_copyFrom_0 rfl (lv_at hl 0 rfl) ?_
  refine lv_aload_n hx hb dX0_copyFrom_1 rfl (lv_at hl 1 rfl) ?_
  refine mr_geti (v := nI c) (TT := TX0) (N := 5) C0 uX0_copyFrom_X0 hM hG.1.1 hG.1.2 rfl 4 (by decide) rfl hc kX0_copyFrom_f30 rfl dX0_copyFrom_2 ?_
  refine lv_aload_n hx hb dX0_copyFrom_5 rfl (lv_at hl 0 rfl) ?_
  refine mr_getr (r := a + 1) (TT := TX0) (N := 5) C0 uX0_copyFrom_X0 hM hF.1.1 hF.1.2 rfl 0 (by decide) rfl kX0_copyFrom_f15 rfl dX0_copyFrom_6 ?_
  refine mr_alen C0 hM hF.2.1.1 hF.2.1.2 dX0_copyFrom_9 ?_
  refine va_mmin hx hb (C0.1.2.2.1.trans hl.1.symm) C0.1.2.2.2.1 (C0.1.2.2.2.2 _ (List.mem_of_getElem? (i := 3) rfl)) (C0.1.2.2.2.2 _ (List.mem_of_getElem? (i := 4) rfl)) (C0.1.2.2.2.2 _ (List.mem_of_getElem? (i := 5) rfl)) (C0.1.2.2.2.2 _ (List.mem_of_getElem? (i := 6) rfl)) (by rw [hR]; exact Nat.le_of_ble_eq_true rfl) (by rw [hR]; exact Nat.le_of_ble_eq_true rfl) (Nat.zero_le _) (Nat.zero_le _) dX0_copyFrom_10 ?_
  refine mr_top (y := nI c) (min_nI (by omega) (by omega)) ?_
  refine mr_puti (TT := TX0) (N := 5) C0 uX0_copyFrom_X0 tyX0 tyX0_ok nmX0 hM hS hF.1.1 hF.1.2 rfl 4 (by decide) rfl kX0_copyFrom_f30 rfl rfl (by decide +kernel) dX0_copyFrom_13 (fun H locs hM hS => ?_)
  refine lv_iconst (v := nI 0) hx hb dX0_copyFrom_16 (by decide) ?_
  refine lv_istore_n (lv' := [(2, .int (nI 0)), (0, .ref a), (1, .ref b)]) hx hb dX0_copyFrom_17 rfl hl (by decide) rfl (fun ls hl => ?_)
  refine lp_loop (σ := hm_I) (fun i1 x2 => ∀ (H : Heap) (locs : List Loc) (ls : Array Slot), hm D T L A Sh x2 J H → va_S A s_.heap H locs → lv_has ls 3 [(0, .ref a), (1, .ref b), (2, .int (nI i1))] → W p_ l e_ R s_ m_ args_ below_ meth_ c_ H locs 0 0 Qq (F0 m_ 18 ls [])) c (fun i1 x2 => hm_put (hm_put (hm_put (hm_put x2 (a + 1) i1 (x2 (b + 1) i1)) (a + 2) i1 (x2 (b + 2) i1)) (a + 3) i1 (x2 (b + 3) i1)) (a + 4) i1 (x2 (b + 4) i1)) (hm_put I a 4 (nI c)) (fun (i1 : Nat) (x2 : hm_I) => x2 a 4 = nI c) (hm_put_at _ _ _ _) (fun i x _ hv => (hm_put_get (by omega)).trans ((hm_put_get (by omega)).trans ((hm_put_get (by omega)).trans ((hm_put_get (by omega)).trans hv)))) (fun i1 x2 hi3 hv4 k5 H locs ls hM hS hl => ?_) (fun hv4 H locs ls hM hS hl => ?_) _ _ _ hM hS (lv_sub hl [1, 2, 0] rfl)
  · have stp6 : ∀ yy_ : hm_I, yy_ = (hm_put (hm_put (hm_put (hm_put x2 (a + 1) i1 (x2 (b + 1) i1)) (a + 2) i1 (x2 (b + 2) i1)) (a + 3) i1 (x2 (b + 3) i1)) (a + 4) i1 (x2 (b + 4) i1)) → ∀ (H : Heap) (locs : List Loc) (ls : Array Slot), hm D T L A Sh yy_ J H → va_S A s_.heap H locs → lv_has ls 3 [(0, .ref a), (1, .ref b), (2, .int (nI (i1 + 1)))] → W p_ l e_ R s_ m_ args_ below_ meth_ c_ H locs 0 0 Qq (F0 m_ 18 ls []) := fun yy_ ey => by subst ey; exact k5
    refine lv_iload_n hx hb dX0_copyFrom_18 rfl (lv_at hl 2 rfl) ?_
    refine lv_aload_n hx hb dX0_copyFrom_19 rfl (lv_at hl 0 rfl) ?_
    refine mr_geti (v := nI c) (TT := TX0) (N := 5) C0 uX0_copyFrom_X0 hM hF.1.1 hF.1.2 rfl 4 (by decide) rfl hv4 kX0_copyFrom_f30 rfl dX0_copyFrom_20 ?_
    refine mr_geN (x := i1) (y := c) (tgt := 80) C0 dX0_copyFrom_23 (by decide) (by omega) (by omega) (fun c7 => absurd c7 (by omega)) (fun c7 => ?_)
    refine lv_aload_n hx hb dX0_copyFrom_26 rfl (lv_at hl 0 rfl) ?_
    refine mr_getr (r := a + 1) (TT := TX0) (N := 5) C0 uX0_copyFrom_X0 hM hF.1.1 hF.1.2 rfl 0 (by decide) rfl kX0_copyFrom_f15 rfl dX0_copyFrom_27 ?_
    refine lv_iload_n hx hb dX0_copyFrom_30 rfl (lv_at hl 2 rfl) ?_
    refine lv_aload_n hx hb dX0_copyFrom_31 rfl (lv_at hl 1 rfl) ?_
    refine mr_getr (r := b + 1) (TT := TX0) (N := 5) C0 uX0_copyFrom_X0 hM hG.1.1 hG.1.2 rfl 0 (by decide) rfl kX0_copyFrom_f15 rfl dX0_copyFrom_32 ?_
    refine lv_iload_n hx hb dX0_copyFrom_35 rfl (lv_at hl 2 rfl) ?_
    refine mr_ialdN (v := x2 (b + 1) i1) C0 hM hG.2.1.1 hG.2.1.2 hG.2.2.2.2.2 (by omega) rfl dX0_copyFrom_36 ?_
    refine mr_iastN C0 hM hS hF.2.1.1 hF.2.1.2 hF.2.2.2.2.2 (by omega) dX0_copyFrom_37 (fun H locs hM hS => ?_)
    refine lv_aload_n hx hb dX0_copyFrom_38 rfl (lv_at hl 0 rfl) ?_
    refine mr_getr (r := a + 2) (TT := TX0) (N := 5) C0 uX0_copyFrom_X0 hM hF.1.1 hF.1.2 rfl 1 (by decide) rfl kX0_copyFrom_f21 rfl dX0_copyFrom_39 ?_
    refine lv_iload_n hx hb dX0_copyFrom_42 rfl (lv_at hl 2 rfl) ?_
    refine lv_aload_n hx hb dX0_copyFrom_43 rfl (lv_at hl 1 rfl) ?_
    refine mr_getr (r := b + 2) (TT := TX0) (N := 5) C0 uX0_copyFrom_X0 hM hG.1.1 hG.1.2 rfl 1 (by decide) rfl kX0_copyFrom_f21 rfl dX0_copyFrom_44 ?_
    refine lv_iload_n hx hb dX0_copyFrom_47 rfl (lv_at hl 2 rfl) ?_
    refine mr_ialdN (v := x2 (b + 2) i1) C0 hM hG.2.2.1.1 hG.2.2.1.2 hG.2.2.2.2.2 (by omega) (hm_put_get (by omega)) dX0_copyFrom_48 ?_
    refine mr_iastN C0 hM hS hF.2.2.1.1 hF.2.2.1.2 hF.2.2.2.2.2 (by omega) dX0_copyFrom_49 (fun H locs hM hS => ?_)
    refine lv_aload_n hx hb dX0_copyFrom_50 rfl (lv_at hl 0 rfl) ?_
    refine mr_getr (r := a + 3) (TT := TX0) (N := 5) C0 uX0_copyFrom_X0 hM hF.1.1 hF.1.2 rfl 2 (by decide) rfl kX0_copyFrom_f24 rfl dX0_copyFrom_51 ?_
    refine lv_iload_n hx hb dX0_copyFrom_54 rfl (lv_at hl 2 rfl) ?_
    refine lv_aload_n hx hb dX0_copyFrom_55 rfl (lv_at hl 1 rfl) ?_
    refine mr_getr (r := b + 3) (TT := TX0) (N := 5) C0 uX0_copyFrom_X0 hM hG.1.1 hG.1.2 rfl 2 (by decide) rfl kX0_copyFrom_f24 rfl dX0_copyFrom_56 ?_
    refine lv_iload_n hx hb dX0_copyFrom_59 rfl (lv_at hl 2 rfl) ?_
    refine mr_ialdN (v := x2 (b + 3) i1) C0 hM hG.2.2.2.1.1 hG.2.2.2.1.2 hG.2.2.2.2.2 (by omega) ((hm_put_get (by omega)).trans (hm_put_get (by omega))) dX0_copyFrom_60 ?_
    refine mr_iastN C0 hM hS hF.2.2.2.1.1 hF.2.2.2.1.2 hF.2.2.2.2.2 (by omega) dX0_copyFrom_61 (fun H locs hM hS => ?_)
    refine lv_aload_n hx hb dX0_copyFrom_62 rfl (lv_at hl 0 rfl) ?_
    refine mr_getr (r := a + 4) (TT := TX0) (N := 5) C0 uX0_copyFrom_X0 hM hF.1.1 hF.1.2 rfl 3 (by decide) rfl kX0_copyFrom_f27 rfl dX0_copyFrom_63 ?_
    refine lv_iload_n hx hb dX0_copyFrom_66 rfl (lv_at hl 2 rfl) ?_
    refine lv_aload_n hx hb dX0_copyFrom_67 rfl (lv_at hl 1 rfl) ?_
    refine mr_getr (r := b + 4) (TT := TX0) (N := 5) C0 uX0_copyFrom_X0 hM hG.1.1 hG.1.2 rfl 3 (by decide) rfl kX0_copyFrom_f27 rfl dX0_copyFrom_68 ?_
    refine lv_iload_n hx hb dX0_copyFrom_71 rfl (lv_at hl 2 rfl) ?_
    refine mr_ialdN (v := x2 (b + 4) i1) C0 hM hG.2.2.2.2.1.1 hG.2.2.2.2.1.2 hG.2.2.2.2.2 (by omega) ((hm_put_get (by omega)).trans ((hm_put_get (by omega)).trans (hm_put_get (by omega)))) dX0_copyFrom_72 ?_
    refine mr_iastN C0 hM hS hF.2.2.2.2.1.1 hF.2.2.2.2.1.2 hF.2.2.2.2.2 (by omega) dX0_copyFrom_73 (fun H locs hM hS => ?_)
    refine lv_iinc (v := nI (i1 + 1)) (lv' := [(2, .int (nI (i1 + 1))), (0, .ref a), (1, .ref b)]) hx hb dX0_copyFrom_74 hl (k := 2) rfl (nI_1 _) (by decide) rfl (fun ls hl => ?_)
    refine lv_goto (tgt := 18) hx hb dX0_copyFrom_77 (by decide) ?_
    exact stp6 (hm_put (hm_put (hm_put (hm_put x2 (a + 1) i1 (x2 (b + 1) i1)) (a + 2) i1 (x2 (b + 2) i1)) (a + 3) i1 (x2 (b + 3) i1)) (a + 4) i1 (x2 (b + 4) i1)) rfl H locs ls hM hS (lv_sub hl [1, 2, 0] rfl)
  · skip
    refine lv_iload_n hx hb dX0_copyFrom_18 rfl (lv_at hl 2 rfl) ?_
    refine lv_aload_n hx hb dX0_copyFrom_19 rfl (lv_at hl 0 rfl) ?_
    refine mr_geti (v := nI c) (TT := TX0) (N := 5) C0 uX0_copyFrom_X0 hM hF.1.1 hF.1.2 rfl 4 (by decide) rfl hv4 kX0_copyFrom_f30 rfl dX0_copyFrom_20 ?_
    refine mr_geN (x := c) (y := c) (tgt := 80) C0 dX0_copyFrom_23 (by decide) (by omega) (by omega) (fun c8 => ?_) (fun c8 => absurd c8 (by omega))
    have eF : (lp c (fun i1 x2 => hm_put (hm_put (hm_put (hm_put x2 (a + 1) i1 (x2 (b + 1) i1)) (a + 2) i1 (x2 (b + 2) i1)) (a + 3) i1 (x2 (b + 3) i1)) (a + 4) i1 (x2 (b + 4) i1)) (hm_put I a 4 (nI c))) = fX0_copyFrom I a b c := rfl
    exact mr_vret C0 hr hlk hQ hS rfl (by rw [← eF]; exact hM) (Nat.le_refl _) (Nat.le_refl _) dX0_copyFrom_80
theorem fX0_copyFrom_ne {I : hm_I} {a b c x0 : Nat} (h : x0 < a ∨ a + 5 ≤ x0) : fX0_copyFrom I a b c x0 = I x0 := by
  unfold fX0_copyFrom
  exact lp_inv (fun _ (x : hm_I) => x x0 = I x0) (hm_put_ne _ _ _ _ (by omega)) (fun i x _ hx => by rw [hm_put_ne _ _ _ _ (by omega), hm_put_ne _ _ _ _ (by omega), hm_put_ne _ _ _ _ (by omega), hm_put_ne _ _ _ _ (by omega)]; exact hx)
end
section
theorem dX1_copyFrom_0 : decode cX1_copyFrom 0 = .ok (.iconst 0, 1) := by decide +kernel
theorem dX1_copyFrom_1 : decode cX1_copyFrom 1 = .ok (.istore_n 2, 1) := by decide +kernel
theorem dX1_copyFrom_2 : decode cX1_copyFrom 2 = .ok (.iload_n 2, 1) := by decide +kernel
theorem dX1_copyFrom_3 : decode cX1_copyFrom 3 = .ok (.bipush 8, 2) := by decide +kernel
theorem dX1_copyFrom_5 : decode cX1_copyFrom 5 = .ok (.if_icmp .ge 33, 3) := by decide +kernel
theorem dX1_copyFrom_8 : decode cX1_copyFrom 8 = .ok (.aload_n 0, 1) := by decide +kernel
theorem dX1_copyFrom_9 : decode cX1_copyFrom 9 = .ok (.getfield 9, 3) := by decide +kernel
theorem dX1_copyFrom_12 : decode cX1_copyFrom 12 = .ok (.iload_n 2, 1) := by decide +kernel
theorem dX1_copyFrom_13 : decode cX1_copyFrom 13 = .ok (.aload_n 1, 1) := by decide +kernel
theorem dX1_copyFrom_14 : decode cX1_copyFrom 14 = .ok (.getfield 9, 3) := by decide +kernel
theorem dX1_copyFrom_17 : decode cX1_copyFrom 17 = .ok (.iload_n 2, 1) := by decide +kernel
theorem dX1_copyFrom_18 : decode cX1_copyFrom 18 = .ok (.iaload, 1) := by decide +kernel
theorem dX1_copyFrom_19 : decode cX1_copyFrom 19 = .ok (.iastore, 1) := by decide +kernel
theorem dX1_copyFrom_20 : decode cX1_copyFrom 20 = .ok (.aload_n 0, 1) := by decide +kernel
theorem dX1_copyFrom_21 : decode cX1_copyFrom 21 = .ok (.getfield 15, 3) := by decide +kernel
theorem dX1_copyFrom_24 : decode cX1_copyFrom 24 = .ok (.iload_n 2, 1) := by decide +kernel
theorem dX1_copyFrom_25 : decode cX1_copyFrom 25 = .ok (.aload_n 1, 1) := by decide +kernel
theorem dX1_copyFrom_26 : decode cX1_copyFrom 26 = .ok (.getfield 15, 3) := by decide +kernel
theorem dX1_copyFrom_29 : decode cX1_copyFrom 29 = .ok (.iload_n 2, 1) := by decide +kernel
theorem dX1_copyFrom_30 : decode cX1_copyFrom 30 = .ok (.iaload, 1) := by decide +kernel
theorem dX1_copyFrom_31 : decode cX1_copyFrom 31 = .ok (.iastore, 1) := by decide +kernel
theorem dX1_copyFrom_32 : decode cX1_copyFrom 32 = .ok (.iinc 2 1, 3) := by decide +kernel
theorem dX1_copyFrom_35 : decode cX1_copyFrom 35 = .ok (.goto (-33), 3) := by decide +kernel
theorem dX1_copyFrom_38 : decode cX1_copyFrom 38 = .ok (.return_, 1) := by decide +kernel
theorem dX1_hasEdge_0 : decode cX1_hasEdge 0 = .ok (.iload_n 1, 1) := by decide +kernel
theorem dX1_hasEdge_1 : decode cX1_hasEdge 1 = .ok (.invokestatic 18, 3) := by decide +kernel
theorem dX1_hasEdge_4 : decode cX1_hasEdge 4 = .ok (.ifCond .eq 20, 3) := by decide +kernel
theorem dX1_hasEdge_7 : decode cX1_hasEdge 7 = .ok (.aload_n 0, 1) := by decide +kernel
theorem dX1_hasEdge_8 : decode cX1_hasEdge 8 = .ok (.getfield 9, 3) := by decide +kernel
theorem dX1_hasEdge_11 : decode cX1_hasEdge 11 = .ok (.iload_n 1, 1) := by decide +kernel
theorem dX1_hasEdge_12 : decode cX1_hasEdge 12 = .ok (.iaload, 1) := by decide +kernel
theorem dX1_hasEdge_13 : decode cX1_hasEdge 13 = .ok (.iload_n 2, 1) := by decide +kernel
theorem dX1_hasEdge_14 : decode cX1_hasEdge 14 = .ok (.invokestatic 22, 3) := by decide +kernel
theorem dX1_hasEdge_17 : decode cX1_hasEdge 17 = .ok (.ifCond .eq 7, 3) := by decide +kernel
theorem dX1_hasEdge_20 : decode cX1_hasEdge 20 = .ok (.iconst 1, 1) := by decide +kernel
theorem dX1_hasEdge_21 : decode cX1_hasEdge 21 = .ok (.goto 4, 3) := by decide +kernel
theorem dX1_hasEdge_24 : decode cX1_hasEdge 24 = .ok (.iconst 0, 1) := by decide +kernel
theorem dX1_hasEdge_25 : decode cX1_hasEdge 25 = .ok (.ireturn, 1) := by decide +kernel
theorem dX1_precedes_0 : decode cX1_precedes 0 = .ok (.iload_n 1, 1) := by decide +kernel
theorem dX1_precedes_1 : decode cX1_precedes 1 = .ok (.invokestatic 18, 3) := by decide +kernel
theorem dX1_precedes_4 : decode cX1_precedes 4 = .ok (.ifCond .eq 20, 3) := by decide +kernel
theorem dX1_precedes_7 : decode cX1_precedes 7 = .ok (.aload_n 0, 1) := by decide +kernel
theorem dX1_precedes_8 : decode cX1_precedes 8 = .ok (.getfield 15, 3) := by decide +kernel
theorem dX1_precedes_11 : decode cX1_precedes 11 = .ok (.iload_n 1, 1) := by decide +kernel
theorem dX1_precedes_12 : decode cX1_precedes 12 = .ok (.iaload, 1) := by decide +kernel
theorem dX1_precedes_13 : decode cX1_precedes 13 = .ok (.iload_n 2, 1) := by decide +kernel
theorem dX1_precedes_14 : decode cX1_precedes 14 = .ok (.invokestatic 22, 3) := by decide +kernel
theorem dX1_precedes_17 : decode cX1_precedes 17 = .ok (.ifCond .eq 7, 3) := by decide +kernel
theorem dX1_precedes_20 : decode cX1_precedes 20 = .ok (.iconst 1, 1) := by decide +kernel
theorem dX1_precedes_21 : decode cX1_precedes 21 = .ok (.goto 4, 3) := by decide +kernel
theorem dX1_precedes_24 : decode cX1_precedes 24 = .ok (.iconst 0, 1) := by decide +kernel
theorem dX1_precedes_25 : decode cX1_precedes 25 = .ok (.ireturn, 1) := by decide +kernel
theorem dX1_putEdge_0 : decode cX1_putEdge 0 = .ok (.iload_n 1, 1) := by decide +kernel
theorem dX1_putEdge_1 : decode cX1_putEdge 1 = .ok (.iload_n 2, 1) := by decide +kernel
theorem dX1_putEdge_2 : decode cX1_putEdge 2 = .ok (.invokestatic 26, 3) := by decide +kernel
theorem dX1_putEdge_5 : decode cX1_putEdge 5 = .ok (.ifCond .ne 4, 3) := by decide +kernel
theorem dX1_putEdge_8 : decode cX1_putEdge 8 = .ok (.return_, 1) := by decide +kernel
theorem dX1_putEdge_9 : decode cX1_putEdge 9 = .ok (.aload_n 0, 1) := by decide +kernel
theorem dX1_putEdge_10 : decode cX1_putEdge 10 = .ok (.getfield 9, 3) := by decide +kernel
theorem dX1_putEdge_13 : decode cX1_putEdge 13 = .ok (.iload_n 1, 1) := by decide +kernel
theorem dX1_putEdge_14 : decode cX1_putEdge 14 = .ok (.iload_n 3, 1) := by decide +kernel
theorem dX1_putEdge_15 : decode cX1_putEdge 15 = .ok (.ifCond .eq 17, 3) := by decide +kernel
theorem dX1_putEdge_18 : decode cX1_putEdge 18 = .ok (.aload_n 0, 1) := by decide +kernel
theorem dX1_putEdge_19 : decode cX1_putEdge 19 = .ok (.getfield 9, 3) := by decide +kernel
theorem dX1_putEdge_22 : decode cX1_putEdge 22 = .ok (.iload_n 1, 1) := by decide +kernel
theorem dX1_putEdge_23 : decode cX1_putEdge 23 = .ok (.iaload, 1) := by decide +kernel
theorem dX1_putEdge_24 : decode cX1_putEdge 24 = .ok (.iload_n 2, 1) := by decide +kernel
theorem dX1_putEdge_25 : decode cX1_putEdge 25 = .ok (.invokestatic 29, 3) := by decide +kernel
theorem dX1_putEdge_28 : decode cX1_putEdge 28 = .ok (.ior, 1) := by decide +kernel
theorem dX1_putEdge_29 : decode cX1_putEdge 29 = .ok (.goto 16, 3) := by decide +kernel
theorem dX1_putEdge_32 : decode cX1_putEdge 32 = .ok (.aload_n 0, 1) := by decide +kernel
theorem dX1_putEdge_33 : decode cX1_putEdge 33 = .ok (.getfield 9, 3) := by decide +kernel
theorem dX1_putEdge_36 : decode cX1_putEdge 36 = .ok (.iload_n 1, 1) := by decide +kernel
theorem dX1_putEdge_37 : decode cX1_putEdge 37 = .ok (.iaload, 1) := by decide +kernel
theorem dX1_putEdge_38 : decode cX1_putEdge 38 = .ok (.iload_n 2, 1) := by decide +kernel
theorem dX1_putEdge_39 : decode cX1_putEdge 39 = .ok (.invokestatic 29, 3) := by decide +kernel
theorem dX1_putEdge_42 : decode cX1_putEdge 42 = .ok (.iconst (-1), 1) := by decide +kernel
theorem dX1_putEdge_43 : decode cX1_putEdge 43 = .ok (.ixor, 1) := by decide +kernel
theorem dX1_putEdge_44 : decode cX1_putEdge 44 = .ok (.iand, 1) := by decide +kernel
theorem dX1_putEdge_45 : decode cX1_putEdge 45 = .ok (.iastore, 1) := by decide +kernel
theorem dX1_putEdge_46 : decode cX1_putEdge 46 = .ok (.aload_n 0, 1) := by decide +kernel
theorem dX1_putEdge_47 : decode cX1_putEdge 47 = .ok (.invokevirtual 33, 3) := by decide +kernel
theorem dX1_putEdge_50 : decode cX1_putEdge 50 = .ok (.return_, 1) := by decide +kernel
theorem dX1_findPreceded_0 : decode cX1_findPreceded 0 = .ok (.iconst 0, 1) := by decide +kernel
theorem dX1_findPreceded_1 : decode cX1_findPreceded 1 = .ok (.istore_n 1, 1) := by decide +kernel
theorem dX1_findPreceded_2 : decode cX1_findPreceded 2 = .ok (.iload_n 1, 1) := by decide +kernel
theorem dX1_findPreceded_3 : decode cX1_findPreceded 3 = .ok (.bipush 8, 2) := by decide +kernel
theorem dX1_findPreceded_5 : decode cX1_findPreceded 5 = .ok (.if_icmp .ge 21, 3) := by decide +kernel
theorem dX1_findPreceded_8 : decode cX1_findPreceded 8 = .ok (.aload_n 0, 1) := by decide +kernel
theorem dX1_findPreceded_9 : decode cX1_findPreceded 9 = .ok (.getfield 15, 3) := by decide +kernel
theorem dX1_findPreceded_12 : decode cX1_findPreceded 12 = .ok (.iload_n 1, 1) := by decide +kernel
theorem dX1_findPreceded_13 : decode cX1_findPreceded 13 = .ok (.aload_n 0, 1) := by decide +kernel
theorem dX1_findPreceded_14 : decode cX1_findPreceded 14 = .ok (.getfield 9, 3) := by decide +kernel
theorem dX1_findPreceded_17 : decode cX1_findPreceded 17 = .ok (.iload_n 1, 1) := by decide +kernel
theorem dX1_findPreceded_18 : decode cX1_findPreceded 18 = .ok (.iaload, 1) := by decide +kernel
theorem dX1_findPreceded_19 : decode cX1_findPreceded 19 = .ok (.iastore, 1) := by decide +kernel
theorem dX1_findPreceded_20 : decode cX1_findPreceded 20 = .ok (.iinc 1 1, 3) := by decide +kernel
theorem dX1_findPreceded_23 : decode cX1_findPreceded 23 = .ok (.goto (-21), 3) := by decide +kernel
theorem dX1_findPreceded_26 : decode cX1_findPreceded 26 = .ok (.iconst 0, 1) := by decide +kernel
theorem dX1_findPreceded_27 : decode cX1_findPreceded 27 = .ok (.istore_n 1, 1) := by decide +kernel
theorem dX1_findPreceded_28 : decode cX1_findPreceded 28 = .ok (.iload_n 1, 1) := by decide +kernel
theorem dX1_findPreceded_29 : decode cX1_findPreceded 29 = .ok (.bipush 8, 2) := by decide +kernel
theorem dX1_findPreceded_31 : decode cX1_findPreceded 31 = .ok (.if_icmp .ge 51, 3) := by decide +kernel
theorem dX1_findPreceded_34 : decode cX1_findPreceded 34 = .ok (.iconst 0, 1) := by decide +kernel
theorem dX1_findPreceded_35 : decode cX1_findPreceded 35 = .ok (.istore_n 2, 1) := by decide +kernel
theorem dX1_findPreceded_36 : decode cX1_findPreceded 36 = .ok (.iload_n 2, 1) := by decide +kernel
theorem dX1_findPreceded_37 : decode cX1_findPreceded 37 = .ok (.bipush 8, 2) := by decide +kernel
theorem dX1_findPreceded_39 : decode cX1_findPreceded 39 = .ok (.if_icmp .ge 37, 3) := by decide +kernel
theorem dX1_findPreceded_42 : decode cX1_findPreceded 42 = .ok (.aload_n 0, 1) := by decide +kernel
theorem dX1_findPreceded_43 : decode cX1_findPreceded 43 = .ok (.getfield 15, 3) := by decide +kernel
theorem dX1_findPreceded_46 : decode cX1_findPreceded 46 = .ok (.iload_n 2, 1) := by decide +kernel
theorem dX1_findPreceded_47 : decode cX1_findPreceded 47 = .ok (.iaload, 1) := by decide +kernel
theorem dX1_findPreceded_48 : decode cX1_findPreceded 48 = .ok (.iload_n 1, 1) := by decide +kernel
theorem dX1_findPreceded_49 : decode cX1_findPreceded 49 = .ok (.invokestatic 22, 3) := by decide +kernel
theorem dX1_findPreceded_52 : decode cX1_findPreceded 52 = .ok (.ifCond .eq 18, 3) := by decide +kernel
theorem dX1_findPreceded_55 : decode cX1_findPreceded 55 = .ok (.aload_n 0, 1) := by decide +kernel
theorem dX1_findPreceded_56 : decode cX1_findPreceded 56 = .ok (.getfield 15, 3) := by decide +kernel
theorem dX1_findPreceded_59 : decode cX1_findPreceded 59 = .ok (.iload_n 2, 1) := by decide +kernel
theorem dX1_findPreceded_60 : decode cX1_findPreceded 60 = .ok (.dup2, 1) := by decide +kernel
theorem dX1_findPreceded_61 : decode cX1_findPreceded 61 = .ok (.iaload, 1) := by decide +kernel
theorem dX1_findPreceded_62 : decode cX1_findPreceded 62 = .ok (.aload_n 0, 1) := by decide +kernel
theorem dX1_findPreceded_63 : decode cX1_findPreceded 63 = .ok (.getfield 15, 3) := by decide +kernel
theorem dX1_findPreceded_66 : decode cX1_findPreceded 66 = .ok (.iload_n 1, 1) := by decide +kernel
theorem dX1_findPreceded_67 : decode cX1_findPreceded 67 = .ok (.iaload, 1) := by decide +kernel
theorem dX1_findPreceded_68 : decode cX1_findPreceded 68 = .ok (.ior, 1) := by decide +kernel
theorem dX1_findPreceded_69 : decode cX1_findPreceded 69 = .ok (.iastore, 1) := by decide +kernel
theorem dX1_findPreceded_70 : decode cX1_findPreceded 70 = .ok (.iinc 2 1, 3) := by decide +kernel
theorem dX1_findPreceded_73 : decode cX1_findPreceded 73 = .ok (.goto (-37), 3) := by decide +kernel
theorem dX1_findPreceded_76 : decode cX1_findPreceded 76 = .ok (.iinc 1 1, 3) := by decide +kernel
theorem dX1_findPreceded_79 : decode cX1_findPreceded 79 = .ok (.goto (-51), 3) := by decide +kernel
theorem dX1_findPreceded_82 : decode cX1_findPreceded 82 = .ok (.return_, 1) := by decide +kernel
theorem dX1_edgeCount_0 : decode cX1_edgeCount 0 = .ok (.iconst 0, 1) := by decide +kernel
theorem dX1_edgeCount_1 : decode cX1_edgeCount 1 = .ok (.istore_n 1, 1) := by decide +kernel
theorem dX1_edgeCount_2 : decode cX1_edgeCount 2 = .ok (.iconst 0, 1) := by decide +kernel
theorem dX1_edgeCount_3 : decode cX1_edgeCount 3 = .ok (.istore_n 2, 1) := by decide +kernel
theorem dX1_edgeCount_4 : decode cX1_edgeCount 4 = .ok (.iload_n 2, 1) := by decide +kernel
theorem dX1_edgeCount_5 : decode cX1_edgeCount 5 = .ok (.bipush 8, 2) := by decide +kernel
theorem dX1_edgeCount_7 : decode cX1_edgeCount 7 = .ok (.if_icmp .ge 21, 3) := by decide +kernel
theorem dX1_edgeCount_10 : decode cX1_edgeCount 10 = .ok (.iload_n 1, 1) := by decide +kernel
theorem dX1_edgeCount_11 : decode cX1_edgeCount 11 = .ok (.aload_n 0, 1) := by decide +kernel
theorem dX1_edgeCount_12 : decode cX1_edgeCount 12 = .ok (.getfield 9, 3) := by decide +kernel
theorem dX1_edgeCount_15 : decode cX1_edgeCount 15 = .ok (.iload_n 2, 1) := by decide +kernel
theorem dX1_edgeCount_16 : decode cX1_edgeCount 16 = .ok (.iaload, 1) := by decide +kernel
theorem dX1_edgeCount_17 : decode cX1_edgeCount 17 = .ok (.invokestatic 36, 3) := by decide +kernel
theorem dX1_edgeCount_20 : decode cX1_edgeCount 20 = .ok (.iadd, 1) := by decide +kernel
theorem dX1_edgeCount_21 : decode cX1_edgeCount 21 = .ok (.istore_n 1, 1) := by decide +kernel
theorem dX1_edgeCount_22 : decode cX1_edgeCount 22 = .ok (.iinc 2 1, 3) := by decide +kernel
theorem dX1_edgeCount_25 : decode cX1_edgeCount 25 = .ok (.goto (-21), 3) := by decide +kernel
theorem dX1_edgeCount_28 : decode cX1_edgeCount 28 = .ok (.iload_n 1, 1) := by decide +kernel
theorem dX1_edgeCount_29 : decode cX1_edgeCount 29 = .ok (.ireturn, 1) := by decide +kernel
theorem dX1_hasSameEdges_0 : decode cX1_hasSameEdges 0 = .ok (.iconst 0, 1) := by decide +kernel
theorem dX1_hasSameEdges_1 : decode cX1_hasSameEdges 1 = .ok (.istore_n 2, 1) := by decide +kernel
theorem dX1_hasSameEdges_2 : decode cX1_hasSameEdges 2 = .ok (.iload_n 2, 1) := by decide +kernel
theorem dX1_hasSameEdges_3 : decode cX1_hasSameEdges 3 = .ok (.bipush 8, 2) := by decide +kernel
theorem dX1_hasSameEdges_5 : decode cX1_hasSameEdges 5 = .ok (.if_icmp .ge 26, 3) := by decide +kernel
theorem dX1_hasSameEdges_8 : decode cX1_hasSameEdges 8 = .ok (.aload_n 0, 1) := by decide +kernel
theorem dX1_hasSameEdges_9 : decode cX1_hasSameEdges 9 = .ok (.getfield 9, 3) := by decide +kernel
theorem dX1_hasSameEdges_12 : decode cX1_hasSameEdges 12 = .ok (.iload_n 2, 1) := by decide +kernel
theorem dX1_hasSameEdges_13 : decode cX1_hasSameEdges 13 = .ok (.iaload, 1) := by decide +kernel
theorem dX1_hasSameEdges_14 : decode cX1_hasSameEdges 14 = .ok (.aload_n 1, 1) := by decide +kernel
theorem dX1_hasSameEdges_15 : decode cX1_hasSameEdges 15 = .ok (.getfield 9, 3) := by decide +kernel
theorem dX1_hasSameEdges_18 : decode cX1_hasSameEdges 18 = .ok (.iload_n 2, 1) := by decide +kernel
theorem dX1_hasSameEdges_19 : decode cX1_hasSameEdges 19 = .ok (.iaload, 1) := by decide +kernel
theorem dX1_hasSameEdges_20 : decode cX1_hasSameEdges 20 = .ok (.if_icmp .eq 5, 3) := by decide +kernel
theorem dX1_hasSameEdges_23 : decode cX1_hasSameEdges 23 = .ok (.iconst 0, 1) := by decide +kernel
theorem dX1_hasSameEdges_24 : decode cX1_hasSameEdges 24 = .ok (.ireturn, 1) := by decide +kernel
theorem dX1_hasSameEdges_25 : decode cX1_hasSameEdges 25 = .ok (.iinc 2 1, 3) := by decide +kernel
theorem dX1_hasSameEdges_28 : decode cX1_hasSameEdges 28 = .ok (.goto (-26), 3) := by decide +kernel
theorem dX1_hasSameEdges_31 : decode cX1_hasSameEdges 31 = .ok (.iconst 1, 1) := by decide +kernel
theorem dX1_hasSameEdges_32 : decode cX1_hasSameEdges 32 = .ok (.ireturn, 1) := by decide +kernel
theorem dX1_distance_0 : decode cX1_distance 0 = .ok (.iload_n 1, 1) := by decide +kernel
theorem dX1_distance_1 : decode cX1_distance 1 = .ok (.invokestatic 29, 3) := by decide +kernel
theorem dX1_distance_4 : decode cX1_distance 4 = .ok (.istore_n 3, 1) := by decide +kernel
theorem dX1_distance_5 : decode cX1_distance 5 = .ok (.iconst 0, 1) := by decide +kernel
theorem dX1_distance_6 : decode cX1_distance 6 = .ok (.istore 4, 2) := by decide +kernel
theorem dX1_distance_8 : decode cX1_distance 8 = .ok (.iload 4, 2) := by decide +kernel
theorem dX1_distance_10 : decode cX1_distance 10 = .ok (.bipush 8, 2) := by decide +kernel
theorem dX1_distance_12 : decode cX1_distance 12 = .ok (.if_icmp .ge 28, 3) := by decide +kernel
theorem dX1_distance_15 : decode cX1_distance 15 = .ok (.iload_n 3, 1) := by decide +kernel
theorem dX1_distance_16 : decode cX1_distance 16 = .ok (.iload_n 2, 1) := by decide +kernel
theorem dX1_distance_17 : decode cX1_distance 17 = .ok (.invokestatic 22, 3) := by decide +kernel
theorem dX1_distance_20 : decode cX1_distance 20 = .ok (.ifCond .eq 6, 3) := by decide +kernel
theorem dX1_distance_23 : decode cX1_distance 23 = .ok (.iload 4, 2) := by decide +kernel
theorem dX1_distance_25 : decode cX1_distance 25 = .ok (.ireturn, 1) := by decide +kernel
theorem dX1_distance_26 : decode cX1_distance 26 = .ok (.iload_n 3, 1) := by decide +kernel
theorem dX1_distance_27 : decode cX1_distance 27 = .ok (.aload_n 0, 1) := by decide +kernel
theorem dX1_distance_28 : decode cX1_distance 28 = .ok (.iload_n 3, 1) := by decide +kernel
theorem dX1_distance_29 : decode cX1_distance 29 = .ok (.invokevirtual 41, 3) := by decide +kernel
theorem dX1_distance_32 : decode cX1_distance 32 = .ok (.ior, 1) := by decide +kernel
theorem dX1_distance_33 : decode cX1_distance 33 = .ok (.istore_n 3, 1) := by decide +kernel
theorem dX1_distance_34 : decode cX1_distance 34 = .ok (.iinc 4 1, 3) := by decide +kernel
theorem dX1_distance_37 : decode cX1_distance 37 = .ok (.goto (-29), 3) := by decide +kernel
theorem dX1_distance_40 : decode cX1_distance 40 = .ok (.bipush (-9), 2) := by decide +kernel
theorem dX1_distance_42 : decode cX1_distance 42 = .ok (.ireturn, 1) := by decide +kernel
theorem dX1_nextOfAll_0 : decode cX1_nextOfAll 0 = .ok (.iconst 0, 1) := by decide +kernel
theorem dX1_nextOfAll_1 : decode cX1_nextOfAll 1 = .ok (.istore_n 2, 1) := by decide +kernel
theorem dX1_nextOfAll_2 : decode cX1_nextOfAll 2 = .ok (.iconst 0, 1) := by decide +kernel
theorem dX1_nextOfAll_3 : decode cX1_nextOfAll 3 = .ok (.istore_n 3, 1) := by decide +kernel
theorem dX1_nextOfAll_4 : decode cX1_nextOfAll 4 = .ok (.iload_n 3, 1) := by decide +kernel
theorem dX1_nextOfAll_5 : decode cX1_nextOfAll 5 = .ok (.bipush 8, 2) := by decide +kernel
theorem dX1_nextOfAll_7 : decode cX1_nextOfAll 7 = .ok (.if_icmp .ge 26, 3) := by decide +kernel
theorem dX1_nextOfAll_10 : decode cX1_nextOfAll 10 = .ok (.iload_n 1, 1) := by decide +kernel
theorem dX1_nextOfAll_11 : decode cX1_nextOfAll 11 = .ok (.iload_n 3, 1) := by decide +kernel
theorem dX1_nextOfAll_12 : decode cX1_nextOfAll 12 = .ok (.invokestatic 22, 3) := by decide +kernel
theorem dX1_nextOfAll_15 : decode cX1_nextOfAll 15 = .ok (.ifCond .eq 12, 3) := by decide +kernel
theorem dX1_nextOfAll_18 : decode cX1_nextOfAll 18 = .ok (.iload_n 2, 1) := by decide +kernel
theorem dX1_nextOfAll_19 : decode cX1_nextOfAll 19 = .ok (.aload_n 0, 1) := by decide +kernel
theorem dX1_nextOfAll_20 : decode cX1_nextOfAll 20 = .ok (.getfield 9, 3) := by decide +kernel
theorem dX1_nextOfAll_23 : decode cX1_nextOfAll 23 = .ok (.iload_n 3, 1) := by decide +kernel
theorem dX1_nextOfAll_24 : decode cX1_nextOfAll 24 = .ok (.iaload, 1) := by decide +kernel
theorem dX1_nextOfAll_25 : decode cX1_nextOfAll 25 = .ok (.ior, 1) := by decide +kernel
theorem dX1_nextOfAll_26 : decode cX1_nextOfAll 26 = .ok (.istore_n 2, 1) := by decide +kernel
theorem dX1_nextOfAll_27 : decode cX1_nextOfAll 27 = .ok (.iinc 3 1, 3) := by decide +kernel
theorem dX1_nextOfAll_30 : decode cX1_nextOfAll 30 = .ok (.goto (-26), 3) := by decide +kernel
theorem dX1_nextOfAll_33 : decode cX1_nextOfAll 33 = .ok (.iload_n 2, 1) := by decide +kernel
theorem dX1_nextOfAll_34 : decode cX1_nextOfAll 34 = .ok (.ireturn, 1) := by decide +kernel
theorem dX1_streamOfWalk_0 : decode cX1_streamOfWalk 0 = .ok (.iload_n 1, 1) := by decide +kernel
theorem dX1_streamOfWalk_1 : decode cX1_streamOfWalk 1 = .ok (.istore 4, 2) := by decide +kernel
theorem dX1_streamOfWalk_3 : decode cX1_streamOfWalk 3 = .ok (.aload_n 0, 1) := by decide +kernel
theorem dX1_streamOfWalk_4 : decode cX1_streamOfWalk 4 = .ok (.iload_n 1, 1) := by decide +kernel
theorem dX1_streamOfWalk_5 : decode cX1_streamOfWalk 5 = .ok (.iload_n 2, 1) := by decide +kernel
theorem dX1_streamOfWalk_6 : decode cX1_streamOfWalk 6 = .ok (.invokevirtual 44, 3) := by decide +kernel
theorem dX1_streamOfWalk_9 : decode cX1_streamOfWalk 9 = .ok (.istore 5, 2) := by decide +kernel
theorem dX1_streamOfWalk_11 : decode cX1_streamOfWalk 11 = .ok (.iconst 0, 1) := by decide +kernel
theorem dX1_streamOfWalk_12 : decode cX1_streamOfWalk 12 = .ok (.istore 6, 2) := by decide +kernel
theorem dX1_streamOfWalk_14 : decode cX1_streamOfWalk 14 = .ok (.iload 6, 2) := by decide +kernel
theorem dX1_streamOfWalk_16 : decode cX1_streamOfWalk 16 = .ok (.iload_n 3, 1) := by decide +kernel
theorem dX1_streamOfWalk_17 : decode cX1_streamOfWalk 17 = .ok (.if_icmp .ge 30, 3) := by decide +kernel
theorem dX1_streamOfWalk_20 : decode cX1_streamOfWalk 20 = .ok (.iload 6, 2) := by decide +kernel
theorem dX1_streamOfWalk_22 : decode cX1_streamOfWalk 22 = .ok (.bipush 8, 2) := by decide +kernel
theorem dX1_streamOfWalk_24 : decode cX1_streamOfWalk 24 = .ok (.if_icmp .ge 23, 3) := by decide +kernel
theorem dX1_streamOfWalk_27 : decode cX1_streamOfWalk 27 = .ok (.iinc 5 (-1), 3) := by decide +kernel
theorem dX1_streamOfWalk_30 : decode cX1_streamOfWalk 30 = .ok (.aload_n 0, 1) := by decide +kernel
theorem dX1_streamOfWalk_31 : decode cX1_streamOfWalk 31 = .ok (.iload 4, 2) := by decide +kernel
theorem dX1_streamOfWalk_33 : decode cX1_streamOfWalk 33 = .ok (.iload_n 2, 1) := by decide +kernel
theorem dX1_streamOfWalk_34 : decode cX1_streamOfWalk 34 = .ok (.iload 5, 2) := by decide +kernel
theorem dX1_streamOfWalk_36 : decode cX1_streamOfWalk 36 = .ok (.invokevirtual 48, 3) := by decide +kernel
theorem dX1_streamOfWalk_39 : decode cX1_streamOfWalk 39 = .ok (.istore 4, 2) := by decide +kernel
theorem dX1_streamOfWalk_41 : decode cX1_streamOfWalk 41 = .ok (.iinc 6 1, 3) := by decide +kernel
theorem dX1_streamOfWalk_44 : decode cX1_streamOfWalk 44 = .ok (.goto (-30), 3) := by decide +kernel
theorem dX1_streamOfWalk_47 : decode cX1_streamOfWalk 47 = .ok (.iload 4, 2) := by decide +kernel
theorem dX1_streamOfWalk_49 : decode cX1_streamOfWalk 49 = .ok (.ireturn, 1) := by decide +kernel
theorem dX1_lowestNextAt_0 : decode cX1_lowestNextAt 0 = .ok (.iconst 0, 1) := by decide +kernel
theorem dX1_lowestNextAt_1 : decode cX1_lowestNextAt 1 = .ok (.istore 4, 2) := by decide +kernel
theorem dX1_lowestNextAt_3 : decode cX1_lowestNextAt 3 = .ok (.iload 4, 2) := by decide +kernel
theorem dX1_lowestNextAt_5 : decode cX1_lowestNextAt 5 = .ok (.bipush 8, 2) := by decide +kernel
theorem dX1_lowestNextAt_7 : decode cX1_lowestNextAt 7 = .ok (.if_icmp .ge 33, 3) := by decide +kernel
theorem dX1_lowestNextAt_10 : decode cX1_lowestNextAt 10 = .ok (.aload_n 0, 1) := by decide +kernel
theorem dX1_lowestNextAt_11 : decode cX1_lowestNextAt 11 = .ok (.iload_n 1, 1) := by decide +kernel
theorem dX1_lowestNextAt_12 : decode cX1_lowestNextAt 12 = .ok (.iload 4, 2) := by decide +kernel
theorem dX1_lowestNextAt_14 : decode cX1_lowestNextAt 14 = .ok (.invokevirtual 52, 3) := by decide +kernel
theorem dX1_lowestNextAt_17 : decode cX1_lowestNextAt 17 = .ok (.ifCond .eq 17, 3) := by decide +kernel
theorem dX1_lowestNextAt_20 : decode cX1_lowestNextAt 20 = .ok (.aload_n 0, 1) := by decide +kernel
theorem dX1_lowestNextAt_21 : decode cX1_lowestNextAt 21 = .ok (.iload 4, 2) := by decide +kernel
theorem dX1_lowestNextAt_23 : decode cX1_lowestNextAt 23 = .ok (.iload_n 2, 1) := by decide +kernel
theorem dX1_lowestNextAt_24 : decode cX1_lowestNextAt 24 = .ok (.invokevirtual 44, 3) := by decide +kernel
theorem dX1_lowestNextAt_27 : decode cX1_lowestNextAt 27 = .ok (.iload_n 3, 1) := by decide +kernel
theorem dX1_lowestNextAt_28 : decode cX1_lowestNextAt 28 = .ok (.if_icmp .ne 6, 3) := by decide +kernel
theorem dX1_lowestNextAt_31 : decode cX1_lowestNextAt 31 = .ok (.iload 4, 2) := by decide +kernel
theorem dX1_lowestNextAt_33 : decode cX1_lowestNextAt 33 = .ok (.ireturn, 1) := by decide +kernel
theorem dX1_lowestNextAt_34 : decode cX1_lowestNextAt 34 = .ok (.iinc 4 1, 3) := by decide +kernel
theorem dX1_lowestNextAt_37 : decode cX1_lowestNextAt 37 = .ok (.goto (-34), 3) := by decide +kernel
theorem dX1_lowestNextAt_40 : decode cX1_lowestNextAt 40 = .ok (.bipush (-9), 2) := by decide +kernel
theorem dX1_lowestNextAt_42 : decode cX1_lowestNextAt 42 = .ok (.ireturn, 1) := by decide +kernel
theorem dX1_pairsAmong_0 : decode cX1_pairsAmong 0 = .ok (.iconst 0, 1) := by decide +kernel
theorem dX1_pairsAmong_1 : decode cX1_pairsAmong 1 = .ok (.istore_n 2, 1) := by decide +kernel
theorem dX1_pairsAmong_2 : decode cX1_pairsAmong 2 = .ok (.iconst 0, 1) := by decide +kernel
theorem dX1_pairsAmong_3 : decode cX1_pairsAmong 3 = .ok (.istore_n 3, 1) := by decide +kernel
theorem dX1_pairsAmong_4 : decode cX1_pairsAmong 4 = .ok (.iload_n 3, 1) := by decide +kernel
theorem dX1_pairsAmong_5 : decode cX1_pairsAmong 5 = .ok (.bipush 8, 2) := by decide +kernel
theorem dX1_pairsAmong_7 : decode cX1_pairsAmong 7 = .ok (.if_icmp .ge 31, 3) := by decide +kernel
theorem dX1_pairsAmong_10 : decode cX1_pairsAmong 10 = .ok (.iload_n 1, 1) := by decide +kernel
theorem dX1_pairsAmong_11 : decode cX1_pairsAmong 11 = .ok (.iload_n 3, 1) := by decide +kernel
theorem dX1_pairsAmong_12 : decode cX1_pairsAmong 12 = .ok (.invokestatic 22, 3) := by decide +kernel
theorem dX1_pairsAmong_15 : decode cX1_pairsAmong 15 = .ok (.ifCond .eq 17, 3) := by decide +kernel
theorem dX1_pairsAmong_18 : decode cX1_pairsAmong 18 = .ok (.iload_n 2, 1) := by decide +kernel
theorem dX1_pairsAmong_19 : decode cX1_pairsAmong 19 = .ok (.aload_n 0, 1) := by decide +kernel
theorem dX1_pairsAmong_20 : decode cX1_pairsAmong 20 = .ok (.getfield 15, 3) := by decide +kernel
theorem dX1_pairsAmong_23 : decode cX1_pairsAmong 23 = .ok (.iload_n 3, 1) := by decide +kernel
theorem dX1_pairsAmong_24 : decode cX1_pairsAmong 24 = .ok (.iaload, 1) := by decide +kernel
theorem dX1_pairsAmong_25 : decode cX1_pairsAmong 25 = .ok (.iload_n 1, 1) := by decide +kernel
theorem dX1_pairsAmong_26 : decode cX1_pairsAmong 26 = .ok (.iand, 1) := by decide +kernel
theorem dX1_pairsAmong_27 : decode cX1_pairsAmong 27 = .ok (.invokestatic 36, 3) := by decide +kernel
theorem dX1_pairsAmong_30 : decode cX1_pairsAmong 30 = .ok (.iadd, 1) := by decide +kernel
theorem dX1_pairsAmong_31 : decode cX1_pairsAmong 31 = .ok (.istore_n 2, 1) := by decide +kernel
theorem dX1_pairsAmong_32 : decode cX1_pairsAmong 32 = .ok (.iinc 3 1, 3) := by decide +kernel
theorem dX1_pairsAmong_35 : decode cX1_pairsAmong 35 = .ok (.goto (-31), 3) := by decide +kernel
theorem dX1_pairsAmong_38 : decode cX1_pairsAmong 38 = .ok (.iload_n 2, 1) := by decide +kernel
theorem dX1_pairsAmong_39 : decode cX1_pairsAmong 39 = .ok (.ireturn, 1) := by decide +kernel
theorem dX1_firstOf_0 : decode cX1_firstOf 0 = .ok (.iload_n 1, 1) := by decide +kernel
theorem dX1_firstOf_1 : decode cX1_firstOf 1 = .ok (.istore_n 2, 1) := by decide +kernel
theorem dX1_firstOf_2 : decode cX1_firstOf 2 = .ok (.iconst 0, 1) := by decide +kernel
theorem dX1_firstOf_3 : decode cX1_firstOf 3 = .ok (.istore_n 3, 1) := by decide +kernel
theorem dX1_firstOf_4 : decode cX1_firstOf 4 = .ok (.iload_n 3, 1) := by decide +kernel
theorem dX1_firstOf_5 : decode cX1_firstOf 5 = .ok (.bipush 8, 2) := by decide +kernel
theorem dX1_firstOf_7 : decode cX1_firstOf 7 = .ok (.if_icmp .ge 28, 3) := by decide +kernel
theorem dX1_firstOf_10 : decode cX1_firstOf 10 = .ok (.iload_n 1, 1) := by decide +kernel
theorem dX1_firstOf_11 : decode cX1_firstOf 11 = .ok (.iload_n 3, 1) := by decide +kernel
theorem dX1_firstOf_12 : decode cX1_firstOf 12 = .ok (.invokestatic 22, 3) := by decide +kernel
theorem dX1_firstOf_15 : decode cX1_firstOf 15 = .ok (.ifCond .eq 14, 3) := by decide +kernel
theorem dX1_firstOf_18 : decode cX1_firstOf 18 = .ok (.iload_n 2, 1) := by decide +kernel
theorem dX1_firstOf_19 : decode cX1_firstOf 19 = .ok (.aload_n 0, 1) := by decide +kernel
theorem dX1_firstOf_20 : decode cX1_firstOf 20 = .ok (.getfield 15, 3) := by decide +kernel
theorem dX1_firstOf_23 : decode cX1_firstOf 23 = .ok (.iload_n 3, 1) := by decide +kernel
theorem dX1_firstOf_24 : decode cX1_firstOf 24 = .ok (.iaload, 1) := by decide +kernel
theorem dX1_firstOf_25 : decode cX1_firstOf 25 = .ok (.iconst (-1), 1) := by decide +kernel
theorem dX1_firstOf_26 : decode cX1_firstOf 26 = .ok (.ixor, 1) := by decide +kernel
theorem dX1_firstOf_27 : decode cX1_firstOf 27 = .ok (.iand, 1) := by decide +kernel
theorem dX1_firstOf_28 : decode cX1_firstOf 28 = .ok (.istore_n 2, 1) := by decide +kernel
theorem dX1_firstOf_29 : decode cX1_firstOf 29 = .ok (.iinc 3 1, 3) := by decide +kernel
theorem dX1_firstOf_32 : decode cX1_firstOf 32 = .ok (.goto (-28), 3) := by decide +kernel
theorem dX1_firstOf_35 : decode cX1_firstOf 35 = .ok (.iload_n 2, 1) := by decide +kernel
theorem dX1_firstOf_36 : decode cX1_firstOf 36 = .ok (.ireturn, 1) := by decide +kernel
theorem dX1_longestChainAmong_0 : decode cX1_longestChainAmong 0 = .ok (.iload_n 1, 1) := by decide +kernel
theorem dX1_longestChainAmong_1 : decode cX1_longestChainAmong 1 = .ok (.istore_n 2, 1) := by decide +kernel
theorem dX1_longestChainAmong_2 : decode cX1_longestChainAmong 2 = .ok (.iconst 0, 1) := by decide +kernel
theorem dX1_longestChainAmong_3 : decode cX1_longestChainAmong 3 = .ok (.istore_n 3, 1) := by decide +kernel
theorem dX1_longestChainAmong_4 : decode cX1_longestChainAmong 4 = .ok (.iload_n 2, 1) := by decide +kernel
theorem dX1_longestChainAmong_5 : decode cX1_longestChainAmong 5 = .ok (.ifCond .eq 25, 3) := by decide +kernel
theorem dX1_longestChainAmong_8 : decode cX1_longestChainAmong 8 = .ok (.iload_n 3, 1) := by decide +kernel
theorem dX1_longestChainAmong_9 : decode cX1_longestChainAmong 9 = .ok (.bipush 8, 2) := by decide +kernel
theorem dX1_longestChainAmong_11 : decode cX1_longestChainAmong 11 = .ok (.if_icmp .ge 19, 3) := by decide +kernel
theorem dX1_longestChainAmong_14 : decode cX1_longestChainAmong 14 = .ok (.iload_n 2, 1) := by decide +kernel
theorem dX1_longestChainAmong_15 : decode cX1_longestChainAmong 15 = .ok (.aload_n 0, 1) := by decide +kernel
theorem dX1_longestChainAmong_16 : decode cX1_longestChainAmong 16 = .ok (.iload_n 2, 1) := by decide +kernel
theorem dX1_longestChainAmong_17 : decode cX1_longestChainAmong 17 = .ok (.invokevirtual 55, 3) := by decide +kernel
theorem dX1_longestChainAmong_20 : decode cX1_longestChainAmong 20 = .ok (.iconst (-1), 1) := by decide +kernel
theorem dX1_longestChainAmong_21 : decode cX1_longestChainAmong 21 = .ok (.ixor, 1) := by decide +kernel
theorem dX1_longestChainAmong_22 : decode cX1_longestChainAmong 22 = .ok (.iand, 1) := by decide +kernel
theorem dX1_longestChainAmong_23 : decode cX1_longestChainAmong 23 = .ok (.istore_n 2, 1) := by decide +kernel
theorem dX1_longestChainAmong_24 : decode cX1_longestChainAmong 24 = .ok (.iinc 3 1, 3) := by decide +kernel
theorem dX1_longestChainAmong_27 : decode cX1_longestChainAmong 27 = .ok (.goto (-23), 3) := by decide +kernel
theorem dX1_longestChainAmong_30 : decode cX1_longestChainAmong 30 = .ok (.iload_n 3, 1) := by decide +kernel
theorem dX1_longestChainAmong_31 : decode cX1_longestChainAmong 31 = .ok (.ireturn, 1) := by decide +kernel
theorem dX1_widestChoiceAmong_0 : decode cX1_widestChoiceAmong 0 = .ok (.iconst 0, 1) := by decide +kernel
theorem dX1_widestChoiceAmong_1 : decode cX1_widestChoiceAmong 1 = .ok (.istore_n 2, 1) := by decide +kernel
theorem dX1_widestChoiceAmong_2 : decode cX1_widestChoiceAmong 2 = .ok (.iconst 0, 1) := by decide +kernel
theorem dX1_widestChoiceAmong_3 : decode cX1_widestChoiceAmong 3 = .ok (.istore_n 3, 1) := by decide +kernel
theorem dX1_widestChoiceAmong_4 : decode cX1_widestChoiceAmong 4 = .ok (.iload_n 3, 1) := by decide +kernel
theorem dX1_widestChoiceAmong_5 : decode cX1_widestChoiceAmong 5 = .ok (.sipush 256, 3) := by decide +kernel
theorem dX1_widestChoiceAmong_8 : decode cX1_widestChoiceAmong 8 = .ok (.if_icmp .ge 41, 3) := by decide +kernel
theorem dX1_widestChoiceAmong_11 : decode cX1_widestChoiceAmong 11 = .ok (.iload_n 3, 1) := by decide +kernel
theorem dX1_widestChoiceAmong_12 : decode cX1_widestChoiceAmong 12 = .ok (.invokestatic 36, 3) := by decide +kernel
theorem dX1_widestChoiceAmong_15 : decode cX1_widestChoiceAmong 15 = .ok (.istore 4, 2) := by decide +kernel
theorem dX1_widestChoiceAmong_17 : decode cX1_widestChoiceAmong 17 = .ok (.iload_n 3, 1) := by decide +kernel
theorem dX1_widestChoiceAmong_18 : decode cX1_widestChoiceAmong 18 = .ok (.iload_n 1, 1) := by decide +kernel
theorem dX1_widestChoiceAmong_19 : decode cX1_widestChoiceAmong 19 = .ok (.iconst (-1), 1) := by decide +kernel
theorem dX1_widestChoiceAmong_20 : decode cX1_widestChoiceAmong 20 = .ok (.ixor, 1) := by decide +kernel
theorem dX1_widestChoiceAmong_21 : decode cX1_widestChoiceAmong 21 = .ok (.iand, 1) := by decide +kernel
theorem dX1_widestChoiceAmong_22 : decode cX1_widestChoiceAmong 22 = .ok (.ifCond .ne 21, 3) := by decide +kernel
theorem dX1_widestChoiceAmong_25 : decode cX1_widestChoiceAmong 25 = .ok (.iload 4, 2) := by decide +kernel
theorem dX1_widestChoiceAmong_27 : decode cX1_widestChoiceAmong 27 = .ok (.iload_n 2, 1) := by decide +kernel
theorem dX1_widestChoiceAmong_28 : decode cX1_widestChoiceAmong 28 = .ok (.if_icmp .le 15, 3) := by decide +kernel
theorem dX1_widestChoiceAmong_31 : decode cX1_widestChoiceAmong 31 = .ok (.aload_n 0, 1) := by decide +kernel
theorem dX1_widestChoiceAmong_32 : decode cX1_widestChoiceAmong 32 = .ok (.iload_n 3, 1) := by decide +kernel
theorem dX1_widestChoiceAmong_33 : decode cX1_widestChoiceAmong 33 = .ok (.invokevirtual 55, 3) := by decide +kernel
theorem dX1_widestChoiceAmong_36 : decode cX1_widestChoiceAmong 36 = .ok (.iload_n 3, 1) := by decide +kernel
theorem dX1_widestChoiceAmong_37 : decode cX1_widestChoiceAmong 37 = .ok (.if_icmp .ne 6, 3) := by decide +kernel
theorem dX1_widestChoiceAmong_40 : decode cX1_widestChoiceAmong 40 = .ok (.iload 4, 2) := by decide +kernel
theorem dX1_widestChoiceAmong_42 : decode cX1_widestChoiceAmong 42 = .ok (.istore_n 2, 1) := by decide +kernel
theorem dX1_widestChoiceAmong_43 : decode cX1_widestChoiceAmong 43 = .ok (.iinc 3 1, 3) := by decide +kernel
theorem dX1_widestChoiceAmong_46 : decode cX1_widestChoiceAmong 46 = .ok (.goto (-42), 3) := by decide +kernel
theorem dX1_widestChoiceAmong_49 : decode cX1_widestChoiceAmong 49 = .ok (.iload_n 2, 1) := by decide +kernel
theorem dX1_widestChoiceAmong_50 : decode cX1_widestChoiceAmong 50 = .ok (.ireturn, 1) := by decide +kernel
theorem dX1_needlessEdges_0 : decode cX1_needlessEdges 0 = .ok (.iconst 0, 1) := by decide +kernel
theorem dX1_needlessEdges_1 : decode cX1_needlessEdges 1 = .ok (.istore_n 1, 1) := by decide +kernel
theorem dX1_needlessEdges_2 : decode cX1_needlessEdges 2 = .ok (.iconst 0, 1) := by decide +kernel
theorem dX1_needlessEdges_3 : decode cX1_needlessEdges 3 = .ok (.istore_n 2, 1) := by decide +kernel
theorem dX1_needlessEdges_4 : decode cX1_needlessEdges 4 = .ok (.iload_n 2, 1) := by decide +kernel
theorem dX1_needlessEdges_5 : decode cX1_needlessEdges 5 = .ok (.bipush 8, 2) := by decide +kernel
theorem dX1_needlessEdges_7 : decode cX1_needlessEdges 7 = .ok (.if_icmp .ge 44, 3) := by decide +kernel
theorem dX1_needlessEdges_10 : decode cX1_needlessEdges 10 = .ok (.iconst 0, 1) := by decide +kernel
theorem dX1_needlessEdges_11 : decode cX1_needlessEdges 11 = .ok (.istore_n 3, 1) := by decide +kernel
theorem dX1_needlessEdges_12 : decode cX1_needlessEdges 12 = .ok (.iload_n 3, 1) := by decide +kernel
theorem dX1_needlessEdges_13 : decode cX1_needlessEdges 13 = .ok (.bipush 8, 2) := by decide +kernel
theorem dX1_needlessEdges_15 : decode cX1_needlessEdges 15 = .ok (.if_icmp .ge 30, 3) := by decide +kernel
theorem dX1_needlessEdges_18 : decode cX1_needlessEdges 18 = .ok (.aload_n 0, 1) := by decide +kernel
theorem dX1_needlessEdges_19 : decode cX1_needlessEdges 19 = .ok (.iload_n 2, 1) := by decide +kernel
theorem dX1_needlessEdges_20 : decode cX1_needlessEdges 20 = .ok (.iload_n 3, 1) := by decide +kernel
theorem dX1_needlessEdges_21 : decode cX1_needlessEdges 21 = .ok (.invokevirtual 52, 3) := by decide +kernel
theorem dX1_needlessEdges_24 : decode cX1_needlessEdges 24 = .ok (.ifCond .eq 15, 3) := by decide +kernel
theorem dX1_needlessEdges_27 : decode cX1_needlessEdges 27 = .ok (.aload_n 0, 1) := by decide +kernel
theorem dX1_needlessEdges_28 : decode cX1_needlessEdges 28 = .ok (.iload_n 2, 1) := by decide +kernel
theorem dX1_needlessEdges_29 : decode cX1_needlessEdges 29 = .ok (.iload_n 3, 1) := by decide +kernel
theorem dX1_needlessEdges_30 : decode cX1_needlessEdges 30 = .ok (.invokevirtual 58, 3) := by decide +kernel
theorem dX1_needlessEdges_33 : decode cX1_needlessEdges 33 = .ok (.ifCond .eq 6, 3) := by decide +kernel
theorem dX1_needlessEdges_36 : decode cX1_needlessEdges 36 = .ok (.iinc 1 1, 3) := by decide +kernel
theorem dX1_needlessEdges_39 : decode cX1_needlessEdges 39 = .ok (.iinc 3 1, 3) := by decide +kernel
theorem dX1_needlessEdges_42 : decode cX1_needlessEdges 42 = .ok (.goto (-30), 3) := by decide +kernel
theorem dX1_needlessEdges_45 : decode cX1_needlessEdges 45 = .ok (.iinc 2 1, 3) := by decide +kernel
theorem dX1_needlessEdges_48 : decode cX1_needlessEdges 48 = .ok (.goto (-44), 3) := by decide +kernel
theorem dX1_needlessEdges_51 : decode cX1_needlessEdges 51 = .ok (.iload_n 1, 1) := by decide +kernel
theorem dX1_needlessEdges_52 : decode cX1_needlessEdges 52 = .ok (.ireturn, 1) := by decide +kernel
theorem dX1_isPrecededByNextOf_0 : decode cX1_isPrecededByNextOf 0 = .ok (.iconst 0, 1) := by decide +kernel
theorem dX1_isPrecededByNextOf_1 : decode cX1_isPrecededByNextOf 1 = .ok (.istore_n 3, 1) := by decide +kernel
theorem dX1_isPrecededByNextOf_2 : decode cX1_isPrecededByNextOf 2 = .ok (.iload_n 3, 1) := by decide +kernel
theorem dX1_isPrecededByNextOf_3 : decode cX1_isPrecededByNextOf 3 = .ok (.bipush 8, 2) := by decide +kernel
theorem dX1_isPrecededByNextOf_5 : decode cX1_isPrecededByNextOf 5 = .ok (.if_icmp .ge 29, 3) := by decide +kernel
theorem dX1_isPrecededByNextOf_8 : decode cX1_isPrecededByNextOf 8 = .ok (.aload_n 0, 1) := by decide +kernel
theorem dX1_isPrecededByNextOf_9 : decode cX1_isPrecededByNextOf 9 = .ok (.iload_n 1, 1) := by decide +kernel
theorem dX1_isPrecededByNextOf_10 : decode cX1_isPrecededByNextOf 10 = .ok (.iload_n 3, 1) := by decide +kernel
theorem dX1_isPrecededByNextOf_11 : decode cX1_isPrecededByNextOf 11 = .ok (.invokevirtual 52, 3) := by decide +kernel
theorem dX1_isPrecededByNextOf_14 : decode cX1_isPrecededByNextOf 14 = .ok (.ifCond .eq 14, 3) := by decide +kernel
theorem dX1_isPrecededByNextOf_17 : decode cX1_isPrecededByNextOf 17 = .ok (.aload_n 0, 1) := by decide +kernel
theorem dX1_isPrecededByNextOf_18 : decode cX1_isPrecededByNextOf 18 = .ok (.iload_n 3, 1) := by decide +kernel
theorem dX1_isPrecededByNextOf_19 : decode cX1_isPrecededByNextOf 19 = .ok (.iload_n 2, 1) := by decide +kernel
theorem dX1_isPrecededByNextOf_20 : decode cX1_isPrecededByNextOf 20 = .ok (.invokevirtual 61, 3) := by decide +kernel
theorem dX1_isPrecededByNextOf_23 : decode cX1_isPrecededByNextOf 23 = .ok (.ifCond .eq 5, 3) := by decide +kernel
theorem dX1_isPrecededByNextOf_26 : decode cX1_isPrecededByNextOf 26 = .ok (.iconst 1, 1) := by decide +kernel
theorem dX1_isPrecededByNextOf_27 : decode cX1_isPrecededByNextOf 27 = .ok (.ireturn, 1) := by decide +kernel
theorem dX1_isPrecededByNextOf_28 : decode cX1_isPrecededByNextOf 28 = .ok (.iinc 3 1, 3) := by decide +kernel
theorem dX1_isPrecededByNextOf_31 : decode cX1_isPrecededByNextOf 31 = .ok (.goto (-29), 3) := by decide +kernel
theorem dX1_isPrecededByNextOf_34 : decode cX1_isPrecededByNextOf 34 = .ok (.iconst 0, 1) := by decide +kernel
theorem dX1_isPrecededByNextOf_35 : decode cX1_isPrecededByNextOf 35 = .ok (.ireturn, 1) := by decide +kernel
theorem dX1_countLists_0 : decode cX1_countLists 0 = .ok (.iload_n 1, 1) := by decide +kernel
theorem dX1_countLists_1 : decode cX1_countLists 1 = .ok (.ifCond .lt 9, 3) := by decide +kernel
theorem dX1_countLists_4 : decode cX1_countLists 4 = .ok (.iload_n 1, 1) := by decide +kernel
theorem dX1_countLists_5 : decode cX1_countLists 5 = .ok (.aload_n 2, 1) := by decide +kernel
theorem dX1_countLists_6 : decode cX1_countLists 6 = .ok (.arraylength, 1) := by decide +kernel
theorem dX1_countLists_7 : decode cX1_countLists 7 = .ok (.if_icmp .lt 5, 3) := by decide +kernel
theorem dX1_countLists_10 : decode cX1_countLists 10 = .ok (.lconst 0, 1) := by decide +kernel
theorem dX1_countLists_11 : decode cX1_countLists 11 = .ok (.lreturn, 1) := by decide +kernel
theorem dX1_countLists_12 : decode cX1_countLists 12 = .ok (.aload_n 2, 1) := by decide +kernel
theorem dX1_countLists_13 : decode cX1_countLists 13 = .ok (.iconst 0, 1) := by decide +kernel
theorem dX1_countLists_14 : decode cX1_countLists 14 = .ok (.lconst 1, 1) := by decide +kernel
theorem dX1_countLists_15 : decode cX1_countLists 15 = .ok (.lastore, 1) := by decide +kernel
theorem dX1_countLists_16 : decode cX1_countLists 16 = .ok (.iconst 1, 1) := by decide +kernel
theorem dX1_countLists_17 : decode cX1_countLists 17 = .ok (.istore_n 3, 1) := by decide +kernel
theorem dX1_countLists_18 : decode cX1_countLists 18 = .ok (.iload_n 3, 1) := by decide +kernel
theorem dX1_countLists_19 : decode cX1_countLists 19 = .ok (.iload_n 1, 1) := by decide +kernel
theorem dX1_countLists_20 : decode cX1_countLists 20 = .ok (.if_icmp .gt 30, 3) := by decide +kernel
theorem dX1_countLists_23 : decode cX1_countLists 23 = .ok (.aload_n 2, 1) := by decide +kernel
theorem dX1_countLists_24 : decode cX1_countLists 24 = .ok (.iload_n 3, 1) := by decide +kernel
theorem dX1_countLists_25 : decode cX1_countLists 25 = .ok (.iload_n 3, 1) := by decide +kernel
theorem dX1_countLists_26 : decode cX1_countLists 26 = .ok (.iload_n 1, 1) := by decide +kernel
theorem dX1_countLists_27 : decode cX1_countLists 27 = .ok (.iconst (-1), 1) := by decide +kernel
theorem dX1_countLists_28 : decode cX1_countLists 28 = .ok (.ixor, 1) := by decide +kernel
theorem dX1_countLists_29 : decode cX1_countLists 29 = .ok (.iand, 1) := by decide +kernel
theorem dX1_countLists_30 : decode cX1_countLists 30 = .ok (.ifCond .ne 12, 3) := by decide +kernel
theorem dX1_countLists_33 : decode cX1_countLists 33 = .ok (.aload_n 0, 1) := by decide +kernel
theorem dX1_countLists_34 : decode cX1_countLists 34 = .ok (.iload_n 3, 1) := by decide +kernel
theorem dX1_countLists_35 : decode cX1_countLists 35 = .ok (.aload_n 2, 1) := by decide +kernel
theorem dX1_countLists_36 : decode cX1_countLists 36 = .ok (.invokevirtual 64, 3) := by decide +kernel
theorem dX1_countLists_39 : decode cX1_countLists 39 = .ok (.goto 4, 3) := by decide +kernel
theorem dX1_countLists_42 : decode cX1_countLists 42 = .ok (.lconst 0, 1) := by decide +kernel
theorem dX1_countLists_43 : decode cX1_countLists 43 = .ok (.lastore, 1) := by decide +kernel
theorem dX1_countLists_44 : decode cX1_countLists 44 = .ok (.iinc 3 1, 3) := by decide +kernel
theorem dX1_countLists_47 : decode cX1_countLists 47 = .ok (.goto (-29), 3) := by decide +kernel
theorem dX1_countLists_50 : decode cX1_countLists 50 = .ok (.aload_n 2, 1) := by decide +kernel
theorem dX1_countLists_51 : decode cX1_countLists 51 = .ok (.iload_n 1, 1) := by decide +kernel
theorem dX1_countLists_52 : decode cX1_countLists 52 = .ok (.laload, 1) := by decide +kernel
theorem dX1_countLists_53 : decode cX1_countLists 53 = .ok (.lreturn, 1) := by decide +kernel
theorem dX1_listsByLast_0 : decode cX1_listsByLast 0 = .ok (.lconst 0, 1) := by decide +kernel
theorem dX1_listsByLast_1 : decode cX1_listsByLast 1 = .ok (.lstore_n 3, 1) := by decide +kernel
theorem dX1_listsByLast_2 : decode cX1_listsByLast 2 = .ok (.iconst 0, 1) := by decide +kernel
theorem dX1_listsByLast_3 : decode cX1_listsByLast 3 = .ok (.istore 5, 2) := by decide +kernel
theorem dX1_listsByLast_5 : decode cX1_listsByLast 5 = .ok (.iload 5, 2) := by decide +kernel
theorem dX1_listsByLast_7 : decode cX1_listsByLast 7 = .ok (.bipush 8, 2) := by decide +kernel
theorem dX1_listsByLast_9 : decode cX1_listsByLast 9 = .ok (.if_icmp .ge 44, 3) := by decide +kernel
theorem dX1_listsByLast_12 : decode cX1_listsByLast 12 = .ok (.iload_n 1, 1) := by decide +kernel
theorem dX1_listsByLast_13 : decode cX1_listsByLast 13 = .ok (.iload 5, 2) := by decide +kernel
theorem dX1_listsByLast_15 : decode cX1_listsByLast 15 = .ok (.invokestatic 22, 3) := by decide +kernel
theorem dX1_listsByLast_18 : decode cX1_listsByLast 18 = .ok (.ifCond .eq 29, 3) := by decide +kernel
theorem dX1_listsByLast_21 : decode cX1_listsByLast 21 = .ok (.aload_n 0, 1) := by decide +kernel
theorem dX1_listsByLast_22 : decode cX1_listsByLast 22 = .ok (.getfield 15, 3) := by decide +kernel
theorem dX1_listsByLast_25 : decode cX1_listsByLast 25 = .ok (.iload 5, 2) := by decide +kernel
theorem dX1_listsByLast_27 : decode cX1_listsByLast 27 = .ok (.iaload, 1) := by decide +kernel
theorem dX1_listsByLast_28 : decode cX1_listsByLast 28 = .ok (.iload_n 1, 1) := by decide +kernel
theorem dX1_listsByLast_29 : decode cX1_listsByLast 29 = .ok (.iand, 1) := by decide +kernel
theorem dX1_listsByLast_30 : decode cX1_listsByLast 30 = .ok (.ifCond .ne 17, 3) := by decide +kernel
theorem dX1_listsByLast_33 : decode cX1_listsByLast 33 = .ok (.lload_n 3, 1) := by decide +kernel
theorem dX1_listsByLast_34 : decode cX1_listsByLast 34 = .ok (.aload_n 2, 1) := by decide +kernel
theorem dX1_listsByLast_35 : decode cX1_listsByLast 35 = .ok (.iload_n 1, 1) := by decide +kernel
theorem dX1_listsByLast_36 : decode cX1_listsByLast 36 = .ok (.iload 5, 2) := by decide +kernel
theorem dX1_listsByLast_38 : decode cX1_listsByLast 38 = .ok (.invokestatic 29, 3) := by decide +kernel
theorem dX1_listsByLast_41 : decode cX1_listsByLast 41 = .ok (.iconst (-1), 1) := by decide +kernel
theorem dX1_listsByLast_42 : decode cX1_listsByLast 42 = .ok (.ixor, 1) := by decide +kernel
theorem dX1_listsByLast_43 : decode cX1_listsByLast 43 = .ok (.iand, 1) := by decide +kernel
theorem dX1_listsByLast_44 : decode cX1_listsByLast 44 = .ok (.laload, 1) := by decide +kernel
theorem dX1_listsByLast_45 : decode cX1_listsByLast 45 = .ok (.ladd, 1) := by decide +kernel
theorem dX1_listsByLast_46 : decode cX1_listsByLast 46 = .ok (.lstore_n 3, 1) := by decide +kernel
theorem dX1_listsByLast_47 : decode cX1_listsByLast 47 = .ok (.iinc 5 1, 3) := by decide +kernel
theorem dX1_listsByLast_50 : decode cX1_listsByLast 50 = .ok (.goto (-45), 3) := by decide +kernel
theorem dX1_listsByLast_53 : decode cX1_listsByLast 53 = .ok (.lload_n 3, 1) := by decide +kernel
theorem dX1_listsByLast_54 : decode cX1_listsByLast 54 = .ok (.lreturn, 1) := by decide +kernel

set_option maxRecDepth 20000 in
theorem ggX1_hasEdge_X3_isStream : GoodIn wsX1_hasEdge wsX3_isStream := goodIn_r _ [4] (by decide +kernel) (by decide +kernel)
set_option maxRecDepth 20000 in
theorem gX1_hasEdge_X3_isStream_n18 : GoodIn wsX1_hasEdge (wsX3_isStream) := ggX1_hasEdge_X3_isStream
set_option maxRecDepth 20000 in
theorem ggX1_hasEdge_X3_isIn : GoodIn wsX1_hasEdge wsX3_isIn := goodIn_r _ [6] (by decide +kernel) (by decide +kernel)
set_option maxRecDepth 20000 in
theorem gX1_hasEdge_X3_isIn_n22 : GoodIn wsX1_hasEdge (wsX3_isIn) := ggX1_hasEdge_X3_isIn
set_option maxRecDepth 20000 in
theorem ggX1_precedes_X3_isStream : GoodIn wsX1_precedes wsX3_isStream := goodIn_r _ [4] (by decide +kernel) (by decide +kernel)
set_option maxRecDepth 20000 in
theorem gX1_precedes_X3_isStream_n18 : GoodIn wsX1_precedes (wsX3_isStream) := ggX1_precedes_X3_isStream
set_option maxRecDepth 20000 in
theorem ggX1_precedes_X3_isIn : GoodIn wsX1_precedes wsX3_isIn := goodIn_r _ [6] (by decide +kernel) (by decide +kernel)
set_option maxRecDepth 20000 in
theorem gX1_precedes_X3_isIn_n22 : GoodIn wsX1_precedes (wsX3_isIn) := ggX1_precedes_X3_isIn
set_option maxRecDepth 20000 in
theorem ggX1_putEdge_X3_areTwoStreams : GoodIn wsX1_putEdge wsX3_areTwoStreams := goodIn_r _ [4, 5, 6, 3, 7] (by decide +kernel) (by decide +kernel)
set_option maxRecDepth 20000 in
theorem gX1_putEdge_X3_areTwoStreams_n26 : GoodIn wsX1_putEdge (wsX3_areTwoStreams) := ggX1_putEdge_X3_areTwoStreams
set_option maxRecDepth 20000 in
theorem ggX1_putEdge_X3_setOf : GoodIn wsX1_putEdge wsX3_setOf := goodIn_r _ [9] (by decide +kernel) (by decide +kernel)
set_option maxRecDepth 20000 in
theorem gX1_putEdge_X3_setOf_n29 : GoodIn wsX1_putEdge (wsX3_setOf) := ggX1_putEdge_X3_setOf
set_option maxRecDepth 20000 in
theorem ggX1_putEdge_X1_findPreceded : GoodIn wsX1_putEdge wsX1_findPreceded := goodIn_r _ [14, 15, 1, 16, 3, 17, 18, 19] (by decide +kernel) (by decide +kernel)
set_option maxRecDepth 20000 in
theorem gX1_putEdge_X1_findPreceded : GoodIn wsX1_putEdge (wsV RX1 33 RX1 yX1_findPreceded wsX1_findPreceded) := goodIn_app (goodIn_of _ (by decide +kernel)) ggX1_putEdge_X1_findPreceded
set_option maxRecDepth 20000 in
theorem ggX1_findPreceded_X3_isIn : GoodIn wsX1_findPreceded wsX3_isIn := goodIn_r _ [5] (by decide +kernel) (by decide +kernel)
set_option maxRecDepth 20000 in
theorem gX1_findPreceded_X3_isIn_n22 : GoodIn wsX1_findPreceded (wsX3_isIn) := ggX1_findPreceded_X3_isIn
set_option maxRecDepth 20000 in
theorem ggX1_edgeCount_J6_bitCount_0f7a4 : GoodIn wsX1_edgeCount wsJ6_bitCount_0f7a4 := goodIn_r _ [5, 6, 7, 8] (by decide +kernel) (by decide +kernel)
set_option maxRecDepth 20000 in
theorem gX1_edgeCount_J6_bitCount_0f7a4 : GoodIn wsX1_edgeCount (va_wsS RX1 36 yJ6_bitCount_0f7a4 wsJ6_bitCount_0f7a4) := goodIn_app (goodIn_of _ (by decide +kernel)) ggX1_edgeCount_J6_bitCount_0f7a4

set_option maxRecDepth 20000 in
theorem ggX1_distance_X3_setOf : GoodIn wsX1_distance wsX3_setOf := goodIn_r _ [3] (by decide +kernel) (by decide +kernel)
set_option maxRecDepth 20000 in
theorem gX1_distance_X3_setOf_n29 : GoodIn wsX1_distance (wsX3_setOf) := ggX1_distance_X3_setOf
set_option maxRecDepth 20000 in
theorem ggX1_distance_X3_isIn : GoodIn wsX1_distance wsX3_isIn := goodIn_r _ [5] (by decide +kernel) (by decide +kernel)
set_option maxRecDepth 20000 in
theorem gX1_distance_X3_isIn_n22 : GoodIn wsX1_distance (wsX3_isIn) := ggX1_distance_X3_isIn
set_option maxRecDepth 20000 in
theorem ggX1_distance_X1_nextOfAll : GoodIn wsX1_distance wsX1_nextOfAll := goodIn_r _ [10, 11, 4, 2, 5, 12, 13] (by decide +kernel) (by decide +kernel)
set_option maxRecDepth 20000 in
theorem gX1_distance_X1_nextOfAll : GoodIn wsX1_distance (wsV RX1 41 RX1 yX1_nextOfAll wsX1_nextOfAll) := goodIn_app (goodIn_of _ (by decide +kernel)) ggX1_distance_X1_nextOfAll
set_option maxRecDepth 20000 in
theorem ggX1_nextOfAll_X3_isIn : GoodIn wsX1_nextOfAll wsX3_isIn := goodIn_r _ [4] (by decide +kernel) (by decide +kernel)
set_option maxRecDepth 20000 in
theorem gX1_nextOfAll_X3_isIn_n22 : GoodIn wsX1_nextOfAll (wsX3_isIn) := ggX1_nextOfAll_X3_isIn
set_option maxRecDepth 20000 in
theorem ggX1_streamOfWalk_X1_distance : GoodIn wsX1_streamOfWalk wsX1_distance := goodIn_r _ [5, 6, 7, 8, 9, 10, 11, 12, 13, 4, 14, 15, 26, 27] (by decide +kernel) (by decide +kernel)
set_option maxRecDepth 20000 in
theorem gX1_streamOfWalk_X1_distance : GoodIn wsX1_streamOfWalk (wsV RX1 44 RX1 yX1_distance wsX1_distance) := goodIn_app (goodIn_of _ (by decide +kernel)) ggX1_streamOfWalk_X1_distance
set_option maxRecDepth 20000 in
theorem ggX1_streamOfWalk_X1_lowestNextAt : GoodIn wsX1_streamOfWalk wsX1_lowestNextAt := goodIn_r _ [19, 20, 21, 22, 4, 23, 15, 24, 7, 25, 9, 10, 1, 2, 3, 5, 6, 8, 11, 12, 13, 14, 26, 27] (by decide +kernel) (by decide +kernel)
set_option maxRecDepth 20000 in
theorem gX1_streamOfWalk_X1_lowestNextAt : GoodIn wsX1_streamOfWalk (wsV RX1 48 RX1 yX1_lowestNextAt wsX1_lowestNextAt) := goodIn_app (goodIn_of _ (by decide +kernel)) ggX1_streamOfWalk_X1_lowestNextAt
set_option maxRecDepth 20000 in
theorem ggX1_lowestNextAt_X1_hasEdge : GoodIn wsX1_lowestNextAt wsX1_hasEdge := goodIn_r _ [5, 6, 7, 8, 9, 10, 11, 22, 23] (by decide +kernel) (by decide +kernel)
set_option maxRecDepth 20000 in
theorem gX1_lowestNextAt_X1_hasEdge : GoodIn wsX1_lowestNextAt (wsV RX1 52 RX1 yX1_hasEdge wsX1_hasEdge) := goodIn_app (goodIn_of _ (by decide +kernel)) ggX1_lowestNextAt_X1_hasEdge
set_option maxRecDepth 20000 in
theorem ggX1_lowestNextAt_X1_distance : GoodIn wsX1_lowestNextAt wsX1_distance := goodIn_r _ [15, 16, 8, 17, 10, 11, 18, 19, 20, 4, 21, 6, 22, 23] (by decide +kernel) (by decide +kernel)
set_option maxRecDepth 20000 in
theorem gX1_lowestNextAt_X1_distance : GoodIn wsX1_lowestNextAt (wsV RX1 44 RX1 yX1_distance wsX1_distance) := goodIn_app (goodIn_of _ (by decide +kernel)) ggX1_lowestNextAt_X1_distance
set_option maxRecDepth 20000 in
theorem ggX1_pairsAmong_X3_isIn : GoodIn wsX1_pairsAmong wsX3_isIn := goodIn_r _ [4] (by decide +kernel) (by decide +kernel)
set_option maxRecDepth 20000 in
theorem gX1_pairsAmong_X3_isIn_n22 : GoodIn wsX1_pairsAmong (wsX3_isIn) := ggX1_pairsAmong_X3_isIn
set_option maxRecDepth 20000 in
theorem ggX1_pairsAmong_J6_bitCount_0f7a4 : GoodIn wsX1_pairsAmong wsJ6_bitCount_0f7a4 := goodIn_r _ [8, 9, 10, 11] (by decide +kernel) (by decide +kernel)
set_option maxRecDepth 20000 in
theorem gX1_pairsAmong_J6_bitCount_0f7a4 : GoodIn wsX1_pairsAmong (va_wsS RX1 36 yJ6_bitCount_0f7a4 wsJ6_bitCount_0f7a4) := goodIn_app (goodIn_of _ (by decide +kernel)) ggX1_pairsAmong_J6_bitCount_0f7a4
set_option maxRecDepth 20000 in
theorem ggX1_firstOf_X3_isIn : GoodIn wsX1_firstOf wsX3_isIn := goodIn_r _ [4] (by decide +kernel) (by decide +kernel)
set_option maxRecDepth 20000 in
theorem gX1_firstOf_X3_isIn_n22 : GoodIn wsX1_firstOf (wsX3_isIn) := ggX1_firstOf_X3_isIn
set_option maxRecDepth 20000 in
theorem ggX1_longestChainAmong_X1_firstOf : GoodIn wsX1_longestChainAmong wsX1_firstOf := goodIn_r _ [5, 6, 7, 8, 9, 10, 11] (by decide +kernel) (by decide +kernel)
set_option maxRecDepth 20000 in
theorem gX1_longestChainAmong_X1_firstOf : GoodIn wsX1_longestChainAmong (wsV RX1 55 RX1 yX1_firstOf wsX1_firstOf) := goodIn_app (goodIn_of _ (by decide +kernel)) ggX1_longestChainAmong_X1_firstOf
set_option maxRecDepth 20000 in
theorem ggX1_widestChoiceAmong_J6_bitCount_0f7a4 : GoodIn wsX1_widestChoiceAmong wsJ6_bitCount_0f7a4 := goodIn_r _ [4, 5, 6, 7] (by decide +kernel) (by decide +kernel)
set_option maxRecDepth 20000 in
theorem gX1_widestChoiceAmong_J6_bitCount_0f7a4 : GoodIn wsX1_widestChoiceAmong (va_wsS RX1 36 yJ6_bitCount_0f7a4 wsJ6_bitCount_0f7a4) := goodIn_app (goodIn_of _ (by decide +kernel)) ggX1_widestChoiceAmong_J6_bitCount_0f7a4
set_option maxRecDepth 20000 in
theorem ggX1_widestChoiceAmong_X1_firstOf : GoodIn wsX1_widestChoiceAmong wsX1_firstOf := goodIn_r _ [12, 13, 14, 15, 16, 17, 18] (by decide +kernel) (by decide +kernel)
set_option maxRecDepth 20000 in
theorem gX1_widestChoiceAmong_X1_firstOf : GoodIn wsX1_widestChoiceAmong (wsV RX1 55 RX1 yX1_firstOf wsX1_firstOf) := goodIn_app (goodIn_of _ (by decide +kernel)) ggX1_widestChoiceAmong_X1_firstOf
set_option maxRecDepth 20000 in
theorem ggX1_needlessEdges_X1_hasEdge : GoodIn wsX1_needlessEdges wsX1_hasEdge := goodIn_r _ [5, 6, 7, 8, 9, 10, 11, 21, 22] (by decide +kernel) (by decide +kernel)
set_option maxRecDepth 20000 in
theorem gX1_needlessEdges_X1_hasEdge : GoodIn wsX1_needlessEdges (wsV RX1 52 RX1 yX1_hasEdge wsX1_hasEdge) := goodIn_app (goodIn_of _ (by decide +kernel)) ggX1_needlessEdges_X1_hasEdge
set_option maxRecDepth 20000 in
theorem ggX1_needlessEdges_X1_isPrecededByNextOf : GoodIn wsX1_needlessEdges wsX1_isPrecededByNextOf := goodIn_r _ [15, 1, 2, 3, 4, 5, 6, 7, 8, 9, 10, 11, 16, 17, 18, 19, 20, 21, 22] (by decide +kernel) (by decide +kernel)
set_option maxRecDepth 20000 in
theorem gX1_needlessEdges_X1_isPrecededByNextOf : GoodIn wsX1_needlessEdges (wsV RX1 58 RX1 yX1_isPrecededByNextOf wsX1_isPrecededByNextOf) := goodIn_app (goodIn_of _ (by decide +kernel)) ggX1_needlessEdges_X1_isPrecededByNextOf
set_option maxRecDepth 20000 in
theorem ggX1_isPrecededByNextOf_X1_hasEdge : GoodIn wsX1_isPrecededByNextOf wsX1_hasEdge := goodIn_r _ [5, 6, 7, 8, 9, 10, 11, 17, 18] (by decide +kernel) (by decide +kernel)
set_option maxRecDepth 20000 in
theorem gX1_isPrecededByNextOf_X1_hasEdge : GoodIn wsX1_isPrecededByNextOf (wsV RX1 52 RX1 yX1_hasEdge wsX1_hasEdge) := goodIn_app (goodIn_of _ (by decide +kernel)) ggX1_isPrecededByNextOf_X1_hasEdge
set_option maxRecDepth 20000 in
theorem ggX1_isPrecededByNextOf_X1_precedes : GoodIn wsX1_isPrecededByNextOf wsX1_precedes := goodIn_r _ [15, 16, 7, 8, 9, 10, 11, 17, 18] (by decide +kernel) (by decide +kernel)
set_option maxRecDepth 20000 in
theorem gX1_isPrecededByNextOf_X1_precedes : GoodIn wsX1_isPrecededByNextOf (wsV RX1 61 RX1 yX1_precedes wsX1_precedes) := goodIn_app (goodIn_of _ (by decide +kernel)) ggX1_isPrecededByNextOf_X1_precedes
set_option maxRecDepth 20000 in
theorem ggX1_countLists_X1_listsByLast : GoodIn wsX1_countLists wsX1_listsByLast := goodIn_r _ [5, 6, 7, 8, 9, 10, 11, 12, 13] (by decide +kernel) (by decide +kernel)
set_option maxRecDepth 20000 in
theorem gX1_countLists_X1_listsByLast : GoodIn wsX1_countLists (wsV RX1 64 RX1 yX1_listsByLast wsX1_listsByLast) := goodIn_app (goodIn_of _ (by decide +kernel)) ggX1_countLists_X1_listsByLast
set_option maxRecDepth 20000 in
theorem ggX1_listsByLast_X3_isIn : GoodIn wsX1_listsByLast wsX3_isIn := goodIn_r _ [4] (by decide +kernel) (by decide +kernel)
set_option maxRecDepth 20000 in
theorem gX1_listsByLast_X3_isIn_n22 : GoodIn wsX1_listsByLast (wsX3_isIn) := ggX1_listsByLast_X3_isIn
set_option maxRecDepth 20000 in
theorem ggX1_listsByLast_X3_setOf : GoodIn wsX1_listsByLast wsX3_setOf := goodIn_r _ [6] (by decide +kernel) (by decide +kernel)
set_option maxRecDepth 20000 in
theorem gX1_listsByLast_X3_setOf_n29 : GoodIn wsX1_listsByLast (wsX3_setOf) := ggX1_listsByLast_X3_setOf
theorem kX1_copyFrom_f9 : Cond.fieldLink RX1 9 "StreamMultiplexer$Order" "next" "[I" ∈ wsX1_copyFrom := List.mem_of_getElem? (i := 1) rfl
theorem uX1_copyFrom_X1 : ∀ w ∈ wsX10, w ∈ wsX1_copyFrom := fun w h => List.mem_cons_of_mem _ (List.mem_append_right _ h)
theorem kX1_copyFrom_f15 : Cond.fieldLink RX1 15 "StreamMultiplexer$Order" "preceded" "[I" ∈ wsX1_copyFrom := List.mem_of_getElem? (i := 2) rfl
theorem kX1_hasEdge_f9 : Cond.fieldLink RX1 9 "StreamMultiplexer$Order" "next" "[I" ∈ wsX1_hasEdge := List.mem_of_getElem? (i := 1) rfl
theorem uX1_hasEdge_X1 : ∀ w ∈ wsX10, w ∈ wsX1_hasEdge := fun w h => List.mem_cons_of_mem _ (List.mem_append_right _ h)
theorem kX1_precedes_f15 : Cond.fieldLink RX1 15 "StreamMultiplexer$Order" "preceded" "[I" ∈ wsX1_precedes := List.mem_of_getElem? (i := 1) rfl
theorem uX1_precedes_X1 : ∀ w ∈ wsX10, w ∈ wsX1_precedes := fun w h => List.mem_cons_of_mem _ (List.mem_append_right _ h)
theorem kX1_findPreceded_f15 : Cond.fieldLink RX1 15 "StreamMultiplexer$Order" "preceded" "[I" ∈ wsX1_findPreceded := List.mem_of_getElem? (i := 1) rfl
theorem uX1_findPreceded_X1 : ∀ w ∈ wsX10, w ∈ wsX1_findPreceded := fun w h => List.mem_cons_of_mem _ (List.mem_append_right _ h)
theorem kX1_findPreceded_f9 : Cond.fieldLink RX1 9 "StreamMultiplexer$Order" "next" "[I" ∈ wsX1_findPreceded := List.mem_of_getElem? (i := 2) rfl
theorem kX1_putEdge_f9 : Cond.fieldLink RX1 9 "StreamMultiplexer$Order" "next" "[I" ∈ wsX1_putEdge := List.mem_of_getElem? (i := 1) rfl
theorem uX1_putEdge_X1 : ∀ w ∈ wsX10, w ∈ wsX1_putEdge := fun w h => List.mem_cons_of_mem _ (List.mem_append_right _ h)
theorem kX1_edgeCount_f9 : Cond.fieldLink RX1 9 "StreamMultiplexer$Order" "next" "[I" ∈ wsX1_edgeCount := List.mem_of_getElem? (i := 1) rfl
theorem uX1_edgeCount_X1 : ∀ w ∈ wsX10, w ∈ wsX1_edgeCount := fun w h => List.mem_cons_of_mem _ (List.mem_append_right _ h)
theorem kX1_hasSameEdges_f9 : Cond.fieldLink RX1 9 "StreamMultiplexer$Order" "next" "[I" ∈ wsX1_hasSameEdges := List.mem_of_getElem? (i := 1) rfl
theorem uX1_hasSameEdges_X1 : ∀ w ∈ wsX10, w ∈ wsX1_hasSameEdges := fun w h => List.mem_cons_of_mem _ (List.mem_append_right _ h)
theorem kX1_nextOfAll_f9 : Cond.fieldLink RX1 9 "StreamMultiplexer$Order" "next" "[I" ∈ wsX1_nextOfAll := List.mem_of_getElem? (i := 1) rfl
theorem uX1_nextOfAll_X1 : ∀ w ∈ wsX10, w ∈ wsX1_nextOfAll := fun w h => List.mem_cons_of_mem _ (List.mem_append_right _ h)
theorem kX1_pairsAmong_f15 : Cond.fieldLink RX1 15 "StreamMultiplexer$Order" "preceded" "[I" ∈ wsX1_pairsAmong := List.mem_of_getElem? (i := 1) rfl
theorem uX1_pairsAmong_X1 : ∀ w ∈ wsX10, w ∈ wsX1_pairsAmong := fun w h => List.mem_cons_of_mem _ (List.mem_append_right _ h)
theorem kX1_firstOf_f15 : Cond.fieldLink RX1 15 "StreamMultiplexer$Order" "preceded" "[I" ∈ wsX1_firstOf := List.mem_of_getElem? (i := 1) rfl
theorem uX1_firstOf_X1 : ∀ w ∈ wsX10, w ∈ wsX1_firstOf := fun w h => List.mem_cons_of_mem _ (List.mem_append_right _ h)
theorem kX1_listsByLast_f15 : Cond.fieldLink RX1 15 "StreamMultiplexer$Order" "preceded" "[I" ∈ wsX1_listsByLast := List.mem_of_getElem? (i := 1) rfl
theorem uX1_listsByLast_X1 : ∀ w ∈ wsX10, w ∈ wsX1_listsByLast := fun w h => List.mem_cons_of_mem _ (List.mem_append_right _ h)
def fX1_copyFrom (I : hm_I) (a b : Nat) : hm_I :=
  (lp 8 (fun i1 x2 => hm_put (hm_put x2 (a + 1) i1 (x2 (b + 1) i1)) (a + 2) i1 (x2 (b + 2) i1)) I)
set_option maxHeartbeats 4000000 in
set_option maxRecDepth 100000 in
theorem ctX1_copyFrom {l : Launch} {D : va_G} {T : Nat → ClassId} {L : List Nat} {A : Nat → Prop} {Sh : hm_S} {I : hm_I} {J : hm_J} {a b : Nat} (hO : IsO L Sh a) (hG : IsO L Sh b) (hab : a + 3 ≤ b ∨ b + 3 ≤ a) :
    Ct l yX1_copyFrom wsX1_copyFrom { frames := 0, cells := 0, slots := 0, locals := 0 } 0 0 D T A [.ref a, .ref b] (hm D T L A Sh I J) none (hm D T L A Sh (fX1_copyFrom I a b) J) := by
  refine Ct.ofW (cc := cX1_copyFrom) (maxL := 3) (ret := none) (by decide) rfl (Nat.le_of_ble_eq_true rfl) ?_
  intro p_ e_ s_ m_ args_ below_ meth_ c_ ls R Qq hR hQ C0 hr hlk hname hM hl
  have hx := C0.1.1
  have hb := C0.1.2.1
  have hS : va_S A s_.heap s_.heap [] := va_S.rf
  have hl : lv_has ls 3 [(0, .ref a), (1, .ref b)] := hl
  refine lv_iconst (v := nI 0) hx hb dX1_copyFrom_0 (by decide) ?_
  refine lv_istore_n (lv' := [(2, .int (nI 0)), (0, .ref a), (1, .ref b)]) hx hb dX1_copyFrom_1 rfl hl (by decide) rfl (fun ls hl => ?_)
  refine lp_loop (σ := hm_I) (fun i1 x2 => ∀ (H : Heap) (locs : List Loc) (ls : Array Slot), hm D T L A Sh x2 J H → va_S A s_.heap H locs → lv_has ls 3 [(0, .ref a), (1, .ref b), (2, .int (nI i1))] → W p_ l e_ R s_ m_ args_ below_ meth_ c_ H locs 0 0 Qq (F0 m_ 2 ls [])) 8 (fun i1 x2 => hm_put (hm_put x2 (a + 1) i1 (x2 (b + 1) i1)) (a + 2) i1 (x2 (b + 2) i1)) I (fun _ _ => True) trivial (fun _ _ _ _ => trivial) (fun i1 x2 hi3 hv4 k5 H locs ls hM hS hl => ?_) (fun hv4 H locs ls hM hS hl => ?_) _ _ _ hM hS (lv_sub hl [1, 2, 0] rfl)
  · have stp6 : ∀ yy_ : hm_I, yy_ = (hm_put (hm_put x2 (a + 1) i1 (x2 (b + 1) i1)) (a + 2) i1 (x2 (b + 2) i1)) → ∀ (H : Heap) (locs : List Loc) (ls : Array Slot), hm D T L A Sh yy_ J H → va_S A s_.heap H locs → lv_has ls 3 [(0, .ref a), (1, .ref b), (2, .int (nI (i1 + 1)))] → W p_ l e_ R s_ m_ args_ below_ meth_ c_ H locs 0 0 Qq (F0 m_ 2 ls []) := fun yy_ ey => by subst ey; exact k5
    refine lv_iload_n hx hb dX1_copyFrom_2 rfl (lv_at hl 2 rfl) ?_
    refine lv_bipush (v := nI 8) hx hb dX1_copyFrom_3 (by decide) ?_
    refine mr_geN (x := i1) (y := 8) (tgt := 38) C0 dX1_copyFrom_5 (by decide) (by omega) (by omega) (fun c7 => absurd c7 (by omega)) (fun c7 => ?_)
    refine lv_aload_n hx hb dX1_copyFrom_8 rfl (lv_at hl 0 rfl) ?_
    refine mr_getr (r := a + 1) (TT := TX1) (N := 2) C0 uX1_copyFrom_X1 hM hO.1.1 hO.1.2 rfl 0 (by decide) rfl kX1_copyFrom_f9 rfl dX1_copyFrom_9 ?_
    refine lv_iload_n hx hb dX1_copyFrom_12 rfl (lv_at hl 2 rfl) ?_
    refine lv_aload_n hx hb dX1_copyFrom_13 rfl (lv_at hl 1 rfl) ?_
    refine mr_getr (r := b + 1) (TT := TX1) (N := 2) C0 uX1_copyFrom_X1 hM hG.1.1 hG.1.2 rfl 0 (by decide) rfl kX1_copyFrom_f9 rfl dX1_copyFrom_14 ?_
    refine lv_iload_n hx hb dX1_copyFrom_17 rfl (lv_at hl 2 rfl) ?_
    refine mr_ialdN (v := x2 (b + 1) i1) C0 hM hG.2.1.1 hG.2.1.2 (by decide) (by omega) rfl dX1_copyFrom_18 ?_
    refine mr_iastN C0 hM hS hO.2.1.1 hO.2.1.2 (by decide) (by omega) dX1_copyFrom_19 (fun H locs hM hS => ?_)
    refine lv_aload_n hx hb dX1_copyFrom_20 rfl (lv_at hl 0 rfl) ?_
    refine mr_getr (r := a + 2) (TT := TX1) (N := 2) C0 uX1_copyFrom_X1 hM hO.1.1 hO.1.2 rfl 1 (by decide) rfl kX1_copyFrom_f15 rfl dX1_copyFrom_21 ?_
    refine lv_iload_n hx hb dX1_copyFrom_24 rfl (lv_at hl 2 rfl) ?_
    refine lv_aload_n hx hb dX1_copyFrom_25 rfl (lv_at hl 1 rfl) ?_
    refine mr_getr (r := b + 2) (TT := TX1) (N := 2) C0 uX1_copyFrom_X1 hM hG.1.1 hG.1.2 rfl 1 (by decide) rfl kX1_copyFrom_f15 rfl dX1_copyFrom_26 ?_
    refine lv_iload_n hx hb dX1_copyFrom_29 rfl (lv_at hl 2 rfl) ?_
    refine mr_ialdN (v := x2 (b + 2) i1) C0 hM hG.2.2.1 hG.2.2.2 (by decide) (by omega) (hm_put_get (by omega)) dX1_copyFrom_30 ?_
    refine mr_iastN C0 hM hS hO.2.2.1 hO.2.2.2 (by decide) (by omega) dX1_copyFrom_31 (fun H locs hM hS => ?_)
    refine lv_iinc (v := nI (i1 + 1)) (lv' := [(2, .int (nI (i1 + 1))), (0, .ref a), (1, .ref b)]) hx hb dX1_copyFrom_32 hl (k := 2) rfl (nI_1 _) (by decide) rfl (fun ls hl => ?_)
    refine lv_goto (tgt := 2) hx hb dX1_copyFrom_35 (by decide) ?_
    exact stp6 (hm_put (hm_put x2 (a + 1) i1 (x2 (b + 1) i1)) (a + 2) i1 (x2 (b + 2) i1)) rfl H locs ls hM hS (lv_sub hl [1, 2, 0] rfl)
  · skip
    refine lv_iload_n hx hb dX1_copyFrom_2 rfl (lv_at hl 2 rfl) ?_
    refine lv_bipush (v := nI 8) hx hb dX1_copyFrom_3 (by decide) ?_
    refine mr_geN (x := 8) (y := 8) (tgt := 38) C0 dX1_copyFrom_5 (by decide) (by decide) (by decide) (fun _ => ?_) (fun c8 => absurd c8 (by decide))
    have eF : (lp 8 (fun i1 x2 => hm_put (hm_put x2 (a + 1) i1 (x2 (b + 1) i1)) (a + 2) i1 (x2 (b + 2) i1)) I) = fX1_copyFrom I a b := rfl
    exact mr_vret C0 hr hlk hQ hS rfl (by rw [← eF]; exact hM) (Nat.le_refl _) (Nat.le_refl _) dX1_copyFrom_38
theorem fX1_copyFrom_ne {I : hm_I} {a b x0 : Nat} (h : x0 < a ∨ a + 3 ≤ x0) : fX1_copyFrom I a b x0 = I x0 := by
  unfold fX1_copyFrom
  exact lp_inv (fun _ (x : hm_I) => x x0 = I x0) rfl (fun i x _ hx => by rw [hm_put_ne _ _ _ _ (by omega), hm_put_ne _ _ _ _ (by omega)]; exact hx)
def fX1_hasEdge_t (I : hm_I) (a x y : Nat) : Bool :=
  if fX3_isIn (I (a + 1) x) (nI y) = true then true else false
set_option maxHeartbeats 4000000 in
set_option maxRecDepth 100000 in
theorem ctX1_hasEdge_t {l : Launch} {D : va_G} {T : Nat → ClassId} {L : List Nat} {A : Nat → Prop} {Sh : hm_S} {I : hm_I} {J : hm_J} {a : Nat} (hO : IsO L Sh a) {x y : Nat} (hx0 : x < 8) :
    Ct l yX1_hasEdge wsX1_hasEdge { frames := 1, cells := 0, slots := 0, locals := 21 } 0 0 D T A [.ref a, .int (nI x), .int (nI y)] (hm D T L A Sh I J) (some (.int (bI (fX1_hasEdge_t I a x y)))) (hm D T L A Sh I J) := by
  refine Ct.ofW (cc := cX1_hasEdge) (maxL := 3) (ret := (some .boolean)) (by decide) rfl (Nat.le_of_ble_eq_true rfl) ?_
  intro p_ e_ s_ m_ args_ below_ meth_ c_ ls R Qq hR hQ C0 hr hlk hname hM hl
  have hx := C0.1.1
  have hb := C0.1.2.1
  have hS : va_S A s_.heap s_.heap [] := va_S.rf
  have hl : lv_has ls 3 [(0, .ref a), (1, .int (nI x)), (2, .int (nI y))] := hl
  refine lv_iload_n hx hb dX1_hasEdge_0 rfl (lv_at hl 1 rfl) ?_
  refine mr_callSN (As := [.int (nI x)]) C0 (ctX3_isStream_t (I := I) (J := J) (s0 := x) (by omega)) (va_cnB (own := RX1) (index := 18) 1 C0.1.2.2.2.2 ggX1_hasEdge_X3_isStream rfl rfl rfl C0.2.2.1 (C0.1.2.2.2.2 _ (List.mem_of_getElem? (i := 3) rfl)) (by decide +kernel) (by rw [hR]; exact ⟨Nat.le_of_ble_eq_true rfl, Nat.le_of_ble_eq_true rfl⟩)) (C0.1.2.2.2.2 _ (List.mem_of_getElem? (i := 2) rfl)) hM hS rfl rfl rfl hl.1 (Nat.le_of_ble_eq_true rfl) dX1_hasEdge_1 (by rw [hR]; exact ⟨Nat.zero_le _, Nat.zero_le _⟩) (fun H locs hM hS => ?_)
  refine mr_eqB (tgt := 24) C0 dX1_hasEdge_4 (by decide) (fun c1 => absurd c1 (by decide)) (fun _ => ?_)
  refine lv_aload_n hx hb dX1_hasEdge_7 rfl (lv_at hl 0 rfl) ?_
  refine mr_getr (r := a + 1) (TT := TX1) (N := 2) C0 uX1_hasEdge_X1 hM hO.1.1 hO.1.2 rfl 0 (by decide) rfl kX1_hasEdge_f9 rfl dX1_hasEdge_8 ?_
  refine lv_iload_n hx hb dX1_hasEdge_11 rfl (lv_at hl 1 rfl) ?_
  refine mr_ialdN (v := I (a + 1) x) C0 hM hO.2.1.1 hO.2.1.2 (by decide) (by omega) rfl dX1_hasEdge_12 ?_
  refine lv_iload_n hx hb dX1_hasEdge_13 rfl (lv_at hl 2 rfl) ?_
  refine mr_callSN (As := [.int (I (a + 1) x), .int (nI y)]) C0 (ctX3_isIn (I := I) (J := J) (u0 := (I (a + 1) x)) (s0 := (nI y)) ) (va_cnB (own := RX1) (index := 22) 2 C0.1.2.2.2.2 ggX1_hasEdge_X3_isIn rfl rfl rfl C0.2.2.2.1 (C0.1.2.2.2.2 _ (List.mem_of_getElem? (i := 3) rfl)) (by decide +kernel) (by rw [hR]; exact ⟨Nat.le_of_ble_eq_true rfl, Nat.le_of_ble_eq_true rfl⟩)) (C0.1.2.2.2.2 _ (List.mem_of_getElem? (i := 5) rfl)) hM hS rfl rfl rfl hl.1 (Nat.le_of_ble_eq_true rfl) dX1_hasEdge_14 (by rw [hR]; exact ⟨Nat.zero_le _, Nat.zero_le _⟩) (fun H locs hM hS => ?_)
  refine mr_eqB (tgt := 24) C0 dX1_hasEdge_17 (by decide) (fun c2 => ?_) (fun c2 => ?_)
  · skip
    refine lv_iconst (v := nI 0) hx hb dX1_hasEdge_24 (by decide) ?_
    refine mr_top (y := bI false) (by decide) ?_
    have eF : false = fX1_hasEdge_t I a x y := by unfold fX1_hasEdge_t; rw [if_neg (Bool.eq_false_iff.mp c2)]
    exact mr_zret (b := false) C0 hr hlk hQ hS (by rw [← eF]) hM (Nat.le_refl _) (Nat.le_refl _) dX1_hasEdge_25
  · skip
    refine lv_iconst (v := nI 1) hx hb dX1_hasEdge_20 (by decide) ?_
    refine lv_goto (tgt := 25) hx hb dX1_hasEdge_21 (by decide) ?_
    refine mr_top (y := bI true) (by decide) ?_
    have eF : true = fX1_hasEdge_t I a x y := by unfold fX1_hasEdge_t; rw [if_pos c2]
    exact mr_zret (b := true) C0 hr hlk hQ hS (by rw [← eF]) hM (Nat.le_refl _) (Nat.le_refl _) dX1_hasEdge_25
def fX1_precedes_t (I : hm_I) (a x y : Nat) : Bool :=
  if fX3_isIn (I (a + 2) x) (nI y) = true then true else false
set_option maxHeartbeats 4000000 in
set_option maxRecDepth 100000 in
theorem ctX1_precedes_t {l : Launch} {D : va_G} {T : Nat → ClassId} {L : List Nat} {A : Nat → Prop} {Sh : hm_S} {I : hm_I} {J : hm_J} {a : Nat} (hO : IsO L Sh a) {x y : Nat} (hx0 : x < 8) :
    Ct l yX1_precedes wsX1_precedes { frames := 1, cells := 0, slots := 0, locals := 21 } 0 0 D T A [.ref a, .int (nI x), .int (nI y)] (hm D T L A Sh I J) (some (.int (bI (fX1_precedes_t I a x y)))) (hm D T L A Sh I J) := by
  refine Ct.ofW (cc := cX1_precedes) (maxL := 3) (ret := (some .boolean)) (by decide) rfl (Nat.le_of_ble_eq_true rfl) ?_
  intro p_ e_ s_ m_ args_ below_ meth_ c_ ls R Qq hR hQ C0 hr hlk hname hM hl
  have hx := C0.1.1
  have hb := C0.1.2.1
  have hS : va_S A s_.heap s_.heap [] := va_S.rf
  have hl : lv_has ls 3 [(0, .ref a), (1, .int (nI x)), (2, .int (nI y))] := hl
  refine lv_iload_n hx hb dX1_precedes_0 rfl (lv_at hl 1 rfl) ?_
  refine mr_callSN (As := [.int (nI x)]) C0 (ctX3_isStream_t (I := I) (J := J) (s0 := x) (by omega)) (va_cnB (own := RX1) (index := 18) 1 C0.1.2.2.2.2 ggX1_precedes_X3_isStream rfl rfl rfl C0.2.2.1 (C0.1.2.2.2.2 _ (List.mem_of_getElem? (i := 3) rfl)) (by decide +kernel) (by rw [hR]; exact ⟨Nat.le_of_ble_eq_true rfl, Nat.le_of_ble_eq_true rfl⟩)) (C0.1.2.2.2.2 _ (List.mem_of_getElem? (i := 2) rfl)) hM hS rfl rfl rfl hl.1 (Nat.le_of_ble_eq_true rfl) dX1_precedes_1 (by rw [hR]; exact ⟨Nat.zero_le _, Nat.zero_le _⟩) (fun H locs hM hS => ?_)
  refine mr_eqB (tgt := 24) C0 dX1_precedes_4 (by decide) (fun c1 => absurd c1 (by decide)) (fun _ => ?_)
  refine lv_aload_n hx hb dX1_precedes_7 rfl (lv_at hl 0 rfl) ?_
  refine mr_getr (r := a + 2) (TT := TX1) (N := 2) C0 uX1_precedes_X1 hM hO.1.1 hO.1.2 rfl 1 (by decide) rfl kX1_precedes_f15 rfl dX1_precedes_8 ?_
  refine lv_iload_n hx hb dX1_precedes_11 rfl (lv_at hl 1 rfl) ?_
  refine mr_ialdN (v := I (a + 2) x) C0 hM hO.2.2.1 hO.2.2.2 (by decide) (by omega) rfl dX1_precedes_12 ?_
  refine lv_iload_n hx hb dX1_precedes_13 rfl (lv_at hl 2 rfl) ?_
  refine mr_callSN (As := [.int (I (a + 2) x), .int (nI y)]) C0 (ctX3_isIn (I := I) (J := J) (u0 := (I (a + 2) x)) (s0 := (nI y)) ) (va_cnB (own := RX1) (index := 22) 2 C0.1.2.2.2.2 ggX1_precedes_X3_isIn rfl rfl rfl C0.2.2.2.1 (C0.1.2.2.2.2 _ (List.mem_of_getElem? (i := 3) rfl)) (by decide +kernel) (by rw [hR]; exact ⟨Nat.le_of_ble_eq_true rfl, Nat.le_of_ble_eq_true rfl⟩)) (C0.1.2.2.2.2 _ (List.mem_of_getElem? (i := 5) rfl)) hM hS rfl rfl rfl hl.1 (Nat.le_of_ble_eq_true rfl) dX1_precedes_14 (by rw [hR]; exact ⟨Nat.zero_le _, Nat.zero_le _⟩) (fun H locs hM hS => ?_)
  refine mr_eqB (tgt := 24) C0 dX1_precedes_17 (by decide) (fun c2 => ?_) (fun c2 => ?_)
  · skip
    refine lv_iconst (v := nI 0) hx hb dX1_precedes_24 (by decide) ?_
    refine mr_top (y := bI false) (by decide) ?_
    have eF : false = fX1_precedes_t I a x y := by unfold fX1_precedes_t; rw [if_neg (Bool.eq_false_iff.mp c2)]
    exact mr_zret (b := false) C0 hr hlk hQ hS (by rw [← eF]) hM (Nat.le_refl _) (Nat.le_refl _) dX1_precedes_25
  · skip
    refine lv_iconst (v := nI 1) hx hb dX1_precedes_20 (by decide) ?_
    refine lv_goto (tgt := 25) hx hb dX1_precedes_21 (by decide) ?_
    refine mr_top (y := bI true) (by decide) ?_
    have eF : true = fX1_precedes_t I a x y := by unfold fX1_precedes_t; rw [if_pos c2]
    exact mr_zret (b := true) C0 hr hlk hQ hS (by rw [← eF]) hM (Nat.le_refl _) (Nat.le_refl _) dX1_precedes_25
set_option maxHeartbeats 4000000 in
set_option maxRecDepth 100000 in
theorem ctX1_hasEdge_f {l : Launch} {D : va_G} {T : Nat → ClassId} {L : List Nat} {A : Nat → Prop} {Sh : hm_S} {I : hm_I} {J : hm_J} {a : Nat} (hO : IsO L Sh a) {x : Int32} {y : Nat} (hx0 : fX3_isStream x = false) :
    Ct l yX1_hasEdge wsX1_hasEdge { frames := 1, cells := 0, slots := 0, locals := 21 } 0 0 D T A [.ref a, .int x, .int (nI y)] (hm D T L A Sh I J) (some (.int (bI false))) (hm D T L A Sh I J) := by
  refine Ct.ofW (cc := cX1_hasEdge) (maxL := 3) (ret := (some .boolean)) (by decide) rfl (Nat.le_of_ble_eq_true rfl) ?_
  intro p_ e_ s_ m_ args_ below_ meth_ c_ ls R Qq hR hQ C0 hr hlk hname hM hl
  have hx := C0.1.1
  have hb := C0.1.2.1
  have hS : va_S A s_.heap s_.heap [] := va_S.rf
  have hl : lv_has ls 3 [(0, .ref a), (1, .int x), (2, .int (nI y))] := hl
  refine lv_iload_n hx hb dX1_hasEdge_0 rfl (lv_at hl 1 rfl) ?_
  refine mr_callSN (As := [.int x]) C0 (ctX3_isStream (I := I) (J := J) (s0 := x) ) (va_cnB (own := RX1) (index := 18) 1 C0.1.2.2.2.2 ggX1_hasEdge_X3_isStream rfl rfl rfl C0.2.2.1 (C0.1.2.2.2.2 _ (List.mem_of_getElem? (i := 3) rfl)) (by decide +kernel) (by rw [hR]; exact ⟨Nat.le_of_ble_eq_true rfl, Nat.le_of_ble_eq_true rfl⟩)) (C0.1.2.2.2.2 _ (List.mem_of_getElem? (i := 2) rfl)) hM hS rfl rfl rfl hl.1 (Nat.le_of_ble_eq_true rfl) dX1_hasEdge_1 (by rw [hR]; exact ⟨Nat.zero_le _, Nat.zero_le _⟩) (fun H locs hM hS => ?_)
  refine mr_eqB (tgt := 24) C0 dX1_hasEdge_4 (by decide) (fun c1 => ?_) (fun c1 => absurd c1 (by rw [hx0]; decide))
  refine lv_iconst (v := nI 0) hx hb dX1_hasEdge_24 (by decide) ?_
  refine mr_top (y := bI false) (by decide) ?_
  have eF : false = false := rfl
  exact mr_zret (b := false) C0 hr hlk hQ hS (by rw [← eF]) hM (Nat.le_refl _) (Nat.le_refl _) dX1_hasEdge_25
def fX1_hasEdge_z (I : hm_I) (a : Nat) (x : Int32) (y : Nat) : Bool := if fX3_isStream x = true then fX1_hasEdge_t I a x.toNatClampNeg y else false
theorem ctX1_hasEdge_z {l : Launch} {D : va_G} {T : Nat → ClassId} {L : List Nat} {A : Nat → Prop} {Sh : hm_S} {I : hm_I} {J : hm_J} {a : Nat} (hO : IsO L Sh a) {x : Int32} {y : Nat} :
    Ct l yX1_hasEdge wsX1_hasEdge { frames := 1, cells := 0, slots := 0, locals := 21 } 0 0 D T A [.ref a, .int x, .int (nI y)] (hm D T L A Sh I J) (some (.int (bI (fX1_hasEdge_z I a x y)))) (hm D T L A Sh I J) := by
  by_cases h : fX3_isStream x = true
  · obtain ⟨k, hk, rfl⟩ := isStream_nat h
    unfold fX1_hasEdge_z
    rw [if_pos h, nI_clamp (by omega)]
    exact ctX1_hasEdge_t hO hk
  · unfold fX1_hasEdge_z
    rw [if_neg h]
    exact ctX1_hasEdge_f hO (Bool.eq_false_iff.mpr h)
def fX1_findPreceded (I : hm_I) (a : Nat) : hm_I :=
  (lp 8 (fun i9 x10 => (lp 8 (fun i16 x17 => if fX3_isIn (x17 (a + 2) i16) (nI i9) = true then hm_put x17 (a + 2) i16 ((x17 (a + 2) i16) ||| (x17 (a + 2) i9)) else x17) x10)) (lp 8 (fun i1 x2 => hm_put x2 (a + 2) i1 (x2 (a + 1) i1)) I))
set_option maxHeartbeats 4000000 in
set_option maxRecDepth 100000 in
theorem ctX1_findPreceded {l : Launch} {D : va_G} {T : Nat → ClassId} {L : List Nat} {A : Nat → Prop} {Sh : hm_S} {I : hm_I} {J : hm_J} {a : Nat} (hO : IsO L Sh a) :
    Ct l yX1_findPreceded wsX1_findPreceded { frames := 1, cells := 0, slots := 0, locals := 21 } 0 0 D T A [.ref a] (hm D T L A Sh I J) none (hm D T L A Sh (fX1_findPreceded I a) J) := by
  refine Ct.ofW (cc := cX1_findPreceded) (maxL := 3) (ret := none) (by decide) rfl (Nat.le_of_ble_eq_true rfl) ?_
  intro p_ e_ s_ m_ args_ below_ meth_ c_ ls R Qq hR hQ C0 hr hlk hname hM hl
  have hx := C0.1.1
  have hb := C0.1.2.1
  have hS : va_S A s_.heap s_.heap [] := va_S.rf
  have hl : lv_has ls 3 [(0, .ref a)] := hl
  refine lv_iconst (v := nI 0) hx hb dX1_findPreceded_0 (by decide) ?_
  refine lv_istore_n (lv' := [(1, .int (nI 0)), (0, .ref a)]) hx hb dX1_findPreceded_1 rfl hl (by decide) rfl (fun ls hl => ?_)
  refine lp_loop (σ := hm_I) (fun i1 x2 => ∀ (H : Heap) (locs : List Loc) (ls : Array Slot), hm D T L A Sh x2 J H → va_S A s_.heap H locs → lv_has ls 3 [(0, .ref a), (1, .int (nI i1))] → W p_ l e_ R s_ m_ args_ below_ meth_ c_ H locs 0 0 Qq (F0 m_ 2 ls [])) 8 (fun i1 x2 => hm_put x2 (a + 2) i1 (x2 (a + 1) i1)) I (fun _ _ => True) trivial (fun _ _ _ _ => trivial) (fun i1 x2 hi3 hv4 k5 H locs ls hM hS hl => ?_) (fun hv4 H locs ls hM hS hl => ?_) _ _ _ hM hS (lv_sub hl [1, 0] rfl)
  · have stp6 : ∀ yy_ : hm_I, yy_ = (hm_put x2 (a + 2) i1 (x2 (a + 1) i1)) → ∀ (H : Heap) (locs : List Loc) (ls : Array Slot), hm D T L A Sh yy_ J H → va_S A s_.heap H locs → lv_has ls 3 [(0, .ref a), (1, .int (nI (i1 + 1)))] → W p_ l e_ R s_ m_ args_ below_ meth_ c_ H locs 0 0 Qq (F0 m_ 2 ls []) := fun yy_ ey => by subst ey; exact k5
    refine lv_iload_n hx hb dX1_findPreceded_2 rfl (lv_at hl 1 rfl) ?_
    refine lv_bipush (v := nI 8) hx hb dX1_findPreceded_3 (by decide) ?_
    refine mr_geN (x := i1) (y := 8) (tgt := 26) C0 dX1_findPreceded_5 (by decide) (by omega) (by omega) (fun c7 => absurd c7 (by omega)) (fun c7 => ?_)
    refine lv_aload_n hx hb dX1_findPreceded_8 rfl (lv_at hl 0 rfl) ?_
    refine mr_getr (r := a + 2) (TT := TX1) (N := 2) C0 uX1_findPreceded_X1 hM hO.1.1 hO.1.2 rfl 1 (by decide) rfl kX1_findPreceded_f15 rfl dX1_findPreceded_9 ?_
    refine lv_iload_n hx hb dX1_findPreceded_12 rfl (lv_at hl 1 rfl) ?_
    refine lv_aload_n hx hb dX1_findPreceded_13 rfl (lv_at hl 0 rfl) ?_
    refine mr_getr (r := a + 1) (TT := TX1) (N := 2) C0 uX1_findPreceded_X1 hM hO.1.1 hO.1.2 rfl 0 (by decide) rfl kX1_findPreceded_f9 rfl dX1_findPreceded_14 ?_
    refine lv_iload_n hx hb dX1_findPreceded_17 rfl (lv_at hl 1 rfl) ?_
    refine mr_ialdN (v := x2 (a + 1) i1) C0 hM hO.2.1.1 hO.2.1.2 (by decide) (by omega) rfl dX1_findPreceded_18 ?_
    refine mr_iastN C0 hM hS hO.2.2.1 hO.2.2.2 (by decide) (by omega) dX1_findPreceded_19 (fun H locs hM hS => ?_)
    refine lv_iinc (v := nI (i1 + 1)) (lv' := [(1, .int (nI (i1 + 1))), (0, .ref a)]) hx hb dX1_findPreceded_20 hl (k := 1) rfl (nI_1 _) (by decide) rfl (fun ls hl => ?_)
    refine lv_goto (tgt := 2) hx hb dX1_findPreceded_23 (by decide) ?_
    exact stp6 (hm_put x2 (a + 2) i1 (x2 (a + 1) i1)) rfl H locs ls hM hS (lv_sub hl [1, 0] rfl)
  · skip
    refine lv_iload_n hx hb dX1_findPreceded_2 rfl (lv_at hl 1 rfl) ?_
    refine lv_bipush (v := nI 8) hx hb dX1_findPreceded_3 (by decide) ?_
    refine mr_geN (x := 8) (y := 8) (tgt := 26) C0 dX1_findPreceded_5 (by decide) (by decide) (by decide) (fun _ => ?_) (fun c8 => absurd c8 (by decide))
    refine lv_iconst (v := nI 0) hx hb dX1_findPreceded_26 (by decide) ?_
    refine lv_istore_n (lv' := [(1, .int (nI 0)), (0, .ref a)]) hx hb dX1_findPreceded_27 rfl hl (by decide) rfl (fun ls hl => ?_)
    refine lp_loop (σ := hm_I) (fun i9 x10 => ∀ (H : Heap) (locs : List Loc) (ls : Array Slot), hm D T L A Sh x10 J H → va_S A s_.heap H locs → lv_has ls 3 [(0, .ref a), (1, .int (nI i9))] → W p_ l e_ R s_ m_ args_ below_ meth_ c_ H locs 0 0 Qq (F0 m_ 28 ls [])) 8 (fun i9 x10 => (lp 8 (fun i16 x17 => if fX3_isIn (x17 (a + 2) i16) (nI i9) = true then hm_put x17 (a + 2) i16 ((x17 (a + 2) i16) ||| (x17 (a + 2) i9)) else x17) x10)) (lp 8 (fun i1 x2 => hm_put x2 (a + 2) i1 (x2 (a + 1) i1)) I) (fun _ _ => True) trivial (fun _ _ _ _ => trivial) (fun i9 x10 hi11 hv12 k13 H locs ls hM hS hl => ?_) (fun hv12 H locs ls hM hS hl => ?_) _ _ _ hM hS (lv_sub hl [1, 0] rfl)
    · have stp14 : ∀ yy_ : hm_I, yy_ = ((lp 8 (fun i16 x17 => if fX3_isIn (x17 (a + 2) i16) (nI i9) = true then hm_put x17 (a + 2) i16 ((x17 (a + 2) i16) ||| (x17 (a + 2) i9)) else x17) x10)) → ∀ (H : Heap) (locs : List Loc) (ls : Array Slot), hm D T L A Sh yy_ J H → va_S A s_.heap H locs → lv_has ls 3 [(0, .ref a), (1, .int (nI (i9 + 1)))] → W p_ l e_ R s_ m_ args_ below_ meth_ c_ H locs 0 0 Qq (F0 m_ 28 ls []) := fun yy_ ey => by subst ey; exact k13
      refine lv_iload_n hx hb dX1_findPreceded_28 rfl (lv_at hl 1 rfl) ?_
      refine lv_bipush (v := nI 8) hx hb dX1_findPreceded_29 (by decide) ?_
      refine mr_geN (x := i9) (y := 8) (tgt := 82) C0 dX1_findPreceded_31 (by decide) (by omega) (by omega) (fun c15 => absurd c15 (by omega)) (fun c15 => ?_)
      refine lv_iconst (v := nI 0) hx hb dX1_findPreceded_34 (by decide) ?_
      refine lv_istore_n (lv' := [(2, .int (nI 0)), (0, .ref a), (1, .int (nI i9))]) hx hb dX1_findPreceded_35 rfl hl (by decide) rfl (fun ls hl => ?_)
      refine lp_loop (σ := hm_I) (fun i16 x17 => ∀ (H : Heap) (locs : List Loc) (ls : Array Slot), hm D T L A Sh x17 J H → va_S A s_.heap H locs → lv_has ls 3 [(0, .ref a), (1, .int (nI i9)), (2, .int (nI i16))] → W p_ l e_ R s_ m_ args_ below_ meth_ c_ H locs 0 0 Qq (F0 m_ 36 ls [])) 8 (fun i16 x17 => if fX3_isIn (x17 (a + 2) i16) (nI i9) = true then hm_put x17 (a + 2) i16 ((x17 (a + 2) i16) ||| (x17 (a + 2) i9)) else x17) x10 (fun _ _ => True) trivial (fun _ _ _ _ => trivial) (fun i16 x17 hi18 hv19 k20 H locs ls hM hS hl => ?_) (fun hv19 H locs ls hM hS hl => ?_) _ _ _ hM hS (lv_sub hl [1, 2, 0] rfl)
      · have stp21 : ∀ yy_ : hm_I, yy_ = (if fX3_isIn (x17 (a + 2) i16) (nI i9) = true then hm_put x17 (a + 2) i16 ((x17 (a + 2) i16) ||| (x17 (a + 2) i9)) else x17) → ∀ (H : Heap) (locs : List Loc) (ls : Array Slot), hm D T L A Sh yy_ J H → va_S A s_.heap H locs → lv_has ls 3 [(0, .ref a), (1, .int (nI i9)), (2, .int (nI (i16 + 1)))] → W p_ l e_ R s_ m_ args_ below_ meth_ c_ H locs 0 0 Qq (F0 m_ 36 ls []) := fun yy_ ey => by subst ey; exact k20
        refine lv_iload_n hx hb dX1_findPreceded_36 rfl (lv_at hl 2 rfl) ?_
        refine lv_bipush (v := nI 8) hx hb dX1_findPreceded_37 (by decide) ?_
        refine mr_geN (x := i16) (y := 8) (tgt := 76) C0 dX1_findPreceded_39 (by decide) (by omega) (by omega) (fun c22 => absurd c22 (by omega)) (fun c22 => ?_)
        refine lv_aload_n hx hb dX1_findPreceded_42 rfl (lv_at hl 0 rfl) ?_
        refine mr_getr (r := a + 2) (TT := TX1) (N := 2) C0 uX1_findPreceded_X1 hM hO.1.1 hO.1.2 rfl 1 (by decide) rfl kX1_findPreceded_f15 rfl dX1_findPreceded_43 ?_
        refine lv_iload_n hx hb dX1_findPreceded_46 rfl (lv_at hl 2 rfl) ?_
        refine mr_ialdN (v := x17 (a + 2) i16) C0 hM hO.2.2.1 hO.2.2.2 (by decide) (by omega) rfl dX1_findPreceded_47 ?_
        refine lv_iload_n hx hb dX1_findPreceded_48 rfl (lv_at hl 1 rfl) ?_
        refine mr_callSN (As := [.int (x17 (a + 2) i16), .int (nI i9)]) C0 (ctX3_isIn (I := x17) (J := J) (u0 := (x17 (a + 2) i16)) (s0 := (nI i9)) ) (va_cnB (own := RX1) (index := 22) 2 C0.1.2.2.2.2 ggX1_findPreceded_X3_isIn rfl rfl rfl C0.2.2.2.1 (C0.1.2.2.2.2 _ (List.mem_of_getElem? (i := 4) rfl)) (by decide +kernel) (by rw [hR]; exact ⟨Nat.le_of_ble_eq_true rfl, Nat.le_of_ble_eq_true rfl⟩)) (C0.1.2.2.2.2 _ (List.mem_of_getElem? (i := 3) rfl)) hM hS rfl rfl rfl hl.1 (Nat.le_of_ble_eq_true rfl) dX1_findPreceded_49 (by rw [hR]; exact ⟨Nat.zero_le _, Nat.zero_le _⟩) (fun H locs hM hS => ?_)
        refine mr_eqB (tgt := 70) C0 dX1_findPreceded_52 (by decide) (fun c23 => ?_) (fun c23 => ?_)
        · skip
          refine lv_iinc (v := nI (i16 + 1)) (lv' := [(2, .int (nI (i16 + 1))), (0, .ref a), (1, .int (nI i9))]) hx hb dX1_findPreceded_70 hl (k := 2) rfl (nI_1 _) (by decide) rfl (fun ls hl => ?_)
          refine lv_goto (tgt := 36) hx hb dX1_findPreceded_73 (by decide) ?_
          exact stp21 x17 (by rw [if_neg (Bool.eq_false_iff.mp c23)]) H locs ls hM hS (lv_sub hl [1, 2, 0] rfl)
        · skip
          refine lv_aload_n hx hb dX1_findPreceded_55 rfl (lv_at hl 0 rfl) ?_
          refine mr_getr (r := a + 2) (TT := TX1) (N := 2) C0 uX1_findPreceded_X1 hM hO.1.1 hO.1.2 rfl 1 (by decide) rfl kX1_findPreceded_f15 rfl dX1_findPreceded_56 ?_
          refine lv_iload_n hx hb dX1_findPreceded_59 rfl (lv_at hl 2 rfl) ?_
          refine lv_dup2_11 hx hb dX1_findPreceded_60 rfl rfl ?_
          refine mr_ialdN (v := x17 (a + 2) i16) C0 hM hO.2.2.1 hO.2.2.2 (by decide) (by omega) rfl dX1_findPreceded_61 ?_
          refine lv_aload_n hx hb dX1_findPreceded_62 rfl (lv_at hl 0 rfl) ?_
          refine mr_getr (r := a + 2) (TT := TX1) (N := 2) C0 uX1_findPreceded_X1 hM hO.1.1 hO.1.2 rfl 1 (by decide) rfl kX1_findPreceded_f15 rfl dX1_findPreceded_63 ?_
          refine lv_iload_n hx hb dX1_findPreceded_66 rfl (lv_at hl 1 rfl) ?_
          refine mr_ialdN (v := x17 (a + 2) i9) C0 hM hO.2.2.1 hO.2.2.2 (by decide) (by omega) rfl dX1_findPreceded_67 ?_
          refine lv_ior hx hb dX1_findPreceded_68 ?_
          refine mr_iastN C0 hM hS hO.2.2.1 hO.2.2.2 (by decide) (by omega) dX1_findPreceded_69 (fun H locs hM hS => ?_)
          refine lv_iinc (v := nI (i16 + 1)) (lv' := [(2, .int (nI (i16 + 1))), (0, .ref a), (1, .int (nI i9))]) hx hb dX1_findPreceded_70 hl (k := 2) rfl (nI_1 _) (by decide) rfl (fun ls hl => ?_)
          refine lv_goto (tgt := 36) hx hb dX1_findPreceded_73 (by decide) ?_
          exact stp21 (hm_put x17 (a + 2) i16 ((x17 (a + 2) i16) ||| (x17 (a + 2) i9))) (by rw [if_pos c23]) H locs ls hM hS (lv_sub hl [1, 2, 0] rfl)
      · skip
        refine lv_iload_n hx hb dX1_findPreceded_36 rfl (lv_at hl 2 rfl) ?_
        refine lv_bipush (v := nI 8) hx hb dX1_findPreceded_37 (by decide) ?_
        refine mr_geN (x := 8) (y := 8) (tgt := 76) C0 dX1_findPreceded_39 (by decide) (by decide) (by decide) (fun _ => ?_) (fun c24 => absurd c24 (by decide))
        refine lv_iinc (v := nI (i9 + 1)) (lv' := [(1, .int (nI (i9 + 1))), (0, .ref a), (2, .int (nI 8))]) hx hb dX1_findPreceded_76 hl (k := 1) rfl (nI_1 _) (by decide) rfl (fun ls hl => ?_)
        refine lv_goto (tgt := 28) hx hb dX1_findPreceded_79 (by decide) ?_
        exact stp14 (lp 8 (fun i16 x17 => if fX3_isIn (x17 (a + 2) i16) (nI i9) = true then hm_put x17 (a + 2) i16 ((x17 (a + 2) i16) ||| (x17 (a + 2) i9)) else x17) x10) rfl H locs ls hM hS (lv_sub hl [1, 0] rfl)
    · skip
      refine lv_iload_n hx hb dX1_findPreceded_28 rfl (lv_at hl 1 rfl) ?_
      refine lv_bipush (v := nI 8) hx hb dX1_findPreceded_29 (by decide) ?_
      refine mr_geN (x := 8) (y := 8) (tgt := 82) C0 dX1_findPreceded_31 (by decide) (by decide) (by decide) (fun _ => ?_) (fun c25 => absurd c25 (by decide))
      have eF : (lp 8 (fun i9 x10 => (lp 8 (fun i16 x17 => if fX3_isIn (x17 (a + 2) i16) (nI i9) = true then hm_put x17 (a + 2) i16 ((x17 (a + 2) i16) ||| (x17 (a + 2) i9)) else x17) x10)) (lp 8 (fun i1 x2 => hm_put x2 (a + 2) i1 (x2 (a + 1) i1)) I)) = fX1_findPreceded I a := rfl
      exact mr_vret C0 hr hlk hQ hS rfl (by rw [← eF]; exact hM) (Nat.le_refl _) (Nat.le_refl _) dX1_findPreceded_82
def fX1_putEdge_t (I : hm_I) (a x y : Nat) (on : Bool) : hm_I :=
  if on = true then fX1_findPreceded (hm_put I (a + 1) x ((I (a + 1) x) ||| (fX3_setOf (nI y)))) a else fX1_findPreceded (hm_put I (a + 1) x ((I (a + 1) x) &&& ((fX3_setOf (nI y)) ^^^ (-1)))) a
set_option maxHeartbeats 4000000 in
set_option maxRecDepth 100000 in
theorem ctX1_putEdge_t {l : Launch} {D : va_G} {T : Nat → ClassId} {L : List Nat} {A : Nat → Prop} {Sh : hm_S} {I : hm_I} {J : hm_J} {a : Nat} (hO : IsO L Sh a) {x y : Nat} {on : Bool} (hx0 : x < 8) (hy0 : y < 8) (hxy : x ≠ y) :
    Ct l yX1_putEdge wsX1_putEdge { frames := 2, cells := 0, slots := 0, locals := 43 } 0 0 D T A [.ref a, .int (nI x), .int (nI y), .int (bI on)] (hm D T L A Sh I J) none (hm D T L A Sh (fX1_putEdge_t I a x y on) J) := by
  refine Ct.ofW (cc := cX1_putEdge) (maxL := 4) (ret := none) (by decide) rfl (Nat.le_of_ble_eq_true rfl) ?_
  intro p_ e_ s_ m_ args_ below_ meth_ c_ ls R Qq hR hQ C0 hr hlk hname hM hl
  have hx := C0.1.1
  have hb := C0.1.2.1
  have hS : va_S A s_.heap s_.heap [] := va_S.rf
  have hl : lv_has ls 4 [(0, .ref a), (1, .int (nI x)), (2, .int (nI y)), (3, .int (bI on))] := hl
  refine lv_iload_n hx hb dX1_putEdge_0 rfl (lv_at hl 1 rfl) ?_
  refine lv_iload_n hx hb dX1_putEdge_1 rfl (lv_at hl 2 rfl) ?_
  refine mr_callSN (As := [.int (nI x), .int (nI y)]) C0 (ctX3_areTwoStreams_t (I := I) (J := J) (a0 := x) (b0 := y) (by omega) (by omega) (by omega)) (va_cnB (own := RX1) (index := 26) 2 C0.1.2.2.2.2 ggX1_putEdge_X3_areTwoStreams rfl rfl rfl C0.2.2.2.2.1 (C0.1.2.2.2.2 _ (List.mem_of_getElem? (i := 3) rfl)) (by decide +kernel) (by rw [hR]; exact ⟨Nat.le_of_ble_eq_true rfl, Nat.le_of_ble_eq_true rfl⟩)) (C0.1.2.2.2.2 _ (List.mem_of_getElem? (i := 2) rfl)) hM hS rfl rfl rfl hl.1 (Nat.le_of_ble_eq_true rfl) dX1_putEdge_2 (by rw [hR]; exact ⟨Nat.zero_le _, Nat.zero_le _⟩) (fun H locs hM hS => ?_)
  refine mr_neB (tgt := 9) C0 dX1_putEdge_5 (by decide) (fun _ => ?_) (fun c1 => absurd c1 (by decide))
  refine lv_aload_n hx hb dX1_putEdge_9 rfl (lv_at hl 0 rfl) ?_
  refine mr_getr (r := a + 1) (TT := TX1) (N := 2) C0 uX1_putEdge_X1 hM hO.1.1 hO.1.2 rfl 0 (by decide) rfl kX1_putEdge_f9 rfl dX1_putEdge_10 ?_
  refine lv_iload_n hx hb dX1_putEdge_13 rfl (lv_at hl 1 rfl) ?_
  refine lv_iload_n hx hb dX1_putEdge_14 rfl (lv_at hl 3 rfl) ?_
  refine mr_eqB (tgt := 32) C0 dX1_putEdge_15 (by decide) (fun c2 => ?_) (fun c2 => ?_)
  · skip
    refine lv_aload_n hx hb dX1_putEdge_32 rfl (lv_at hl 0 rfl) ?_
    refine mr_getr (r := a + 1) (TT := TX1) (N := 2) C0 uX1_putEdge_X1 hM hO.1.1 hO.1.2 rfl 0 (by decide) rfl kX1_putEdge_f9 rfl dX1_putEdge_33 ?_
    refine lv_iload_n hx hb dX1_putEdge_36 rfl (lv_at hl 1 rfl) ?_
    refine mr_ialdN (v := I (a + 1) x) C0 hM hO.2.1.1 hO.2.1.2 (by decide) (by omega) rfl dX1_putEdge_37 ?_
    refine lv_iload_n hx hb dX1_putEdge_38 rfl (lv_at hl 2 rfl) ?_
    refine mr_callSN (As := [.int (nI y)]) C0 (ctX3_setOf (I := I) (J := J) (s0 := (nI y)) ) (va_cnB (own := RX1) (index := 29) 1 C0.1.2.2.2.2 ggX1_putEdge_X3_setOf rfl rfl rfl C0.2.2.2.2.2.1 (C0.1.2.2.2.2 _ (List.mem_of_getElem? (i := 3) rfl)) (by decide +kernel) (by rw [hR]; exact ⟨Nat.le_of_ble_eq_true rfl, Nat.le_of_ble_eq_true rfl⟩)) (C0.1.2.2.2.2 _ (List.mem_of_getElem? (i := 8) rfl)) hM hS rfl rfl rfl hl.1 (Nat.le_of_ble_eq_true rfl) dX1_putEdge_39 (by rw [hR]; exact ⟨Nat.zero_le _, Nat.zero_le _⟩) (fun H locs hM hS => ?_)
    refine lv_iconst (v := (-1)) hx hb dX1_putEdge_42 (by decide) ?_
    refine lv_ixor hx hb dX1_putEdge_43 ?_
    refine lv_iand hx hb dX1_putEdge_44 ?_
    refine mr_iastN C0 hM hS hO.2.1.1 hO.2.1.2 (by decide) (by omega) dX1_putEdge_45 (fun H locs hM hS => ?_)
    refine lv_aload_n hx hb dX1_putEdge_46 rfl (lv_at hl 0 rfl) ?_
    refine mr_callV (As := []) C0 (ctX1_findPreceded (I := (hm_put I (a + 1) x ((I (a + 1) x) &&& ((fX3_setOf (nI y)) ^^^ (-1))))) (J := J) (a := a) hO) (cwV 0 C0.1.2.2.2.2 gX1_putEdge_X1_findPreceded rfl rfl rfl (by decide +kernel) (by rw [hR]; exact ⟨Nat.le_of_ble_eq_true rfl, Nat.le_of_ble_eq_true rfl⟩)) hM hO.1.1 hO.1.2 rfl rfl hM hS rfl rfl rfl hl.1 (Nat.le_of_ble_eq_true rfl) dX1_putEdge_47 (by rw [hR]; exact ⟨Nat.zero_le _, Nat.zero_le _⟩) (fun H locs hM hS => ?_)
    have eF : fX1_findPreceded (hm_put I (a + 1) x ((I (a + 1) x) &&& ((fX3_setOf (nI y)) ^^^ (-1)))) a = fX1_putEdge_t I a x y on := by unfold fX1_putEdge_t; rw [if_neg (Bool.eq_false_iff.mp c2)]
    exact mr_vret C0 hr hlk hQ hS rfl (by rw [← eF]; exact hM) (Nat.le_refl _) (Nat.le_refl _) dX1_putEdge_50
  · skip
    refine lv_aload_n hx hb dX1_putEdge_18 rfl (lv_at hl 0 rfl) ?_
    refine mr_getr (r := a + 1) (TT := TX1) (N := 2) C0 uX1_putEdge_X1 hM hO.1.1 hO.1.2 rfl 0 (by decide) rfl kX1_putEdge_f9 rfl dX1_putEdge_19 ?_
    refine lv_iload_n hx hb dX1_putEdge_22 rfl (lv_at hl 1 rfl) ?_
    refine mr_ialdN (v := I (a + 1) x) C0 hM hO.2.1.1 hO.2.1.2 (by decide) (by omega) rfl dX1_putEdge_23 ?_
    refine lv_iload_n hx hb dX1_putEdge_24 rfl (lv_at hl 2 rfl) ?_
    refine mr_callSN (As := [.int (nI y)]) C0 (ctX3_setOf (I := I) (J := J) (s0 := (nI y)) ) (va_cnB (own := RX1) (index := 29) 1 C0.1.2.2.2.2 ggX1_putEdge_X3_setOf rfl rfl rfl C0.2.2.2.2.2.1 (C0.1.2.2.2.2 _ (List.mem_of_getElem? (i := 3) rfl)) (by decide +kernel) (by rw [hR]; exact ⟨Nat.le_of_ble_eq_true rfl, Nat.le_of_ble_eq_true rfl⟩)) (C0.1.2.2.2.2 _ (List.mem_of_getElem? (i := 8) rfl)) hM hS rfl rfl rfl hl.1 (Nat.le_of_ble_eq_true rfl) dX1_putEdge_25 (by rw [hR]; exact ⟨Nat.zero_le _, Nat.zero_le _⟩) (fun H locs hM hS => ?_)
    refine lv_ior hx hb dX1_putEdge_28 ?_
    refine lv_goto (tgt := 45) hx hb dX1_putEdge_29 (by decide) ?_
    refine mr_iastN C0 hM hS hO.2.1.1 hO.2.1.2 (by decide) (by omega) dX1_putEdge_45 (fun H locs hM hS => ?_)
    refine lv_aload_n hx hb dX1_putEdge_46 rfl (lv_at hl 0 rfl) ?_
    refine mr_callV (As := []) C0 (ctX1_findPreceded (I := (hm_put I (a + 1) x ((I (a + 1) x) ||| (fX3_setOf (nI y))))) (J := J) (a := a) hO) (cwV 0 C0.1.2.2.2.2 gX1_putEdge_X1_findPreceded rfl rfl rfl (by decide +kernel) (by rw [hR]; exact ⟨Nat.le_of_ble_eq_true rfl, Nat.le_of_ble_eq_true rfl⟩)) hM hO.1.1 hO.1.2 rfl rfl hM hS rfl rfl rfl hl.1 (Nat.le_of_ble_eq_true rfl) dX1_putEdge_47 (by rw [hR]; exact ⟨Nat.zero_le _, Nat.zero_le _⟩) (fun H locs hM hS => ?_)
    have eF : fX1_findPreceded (hm_put I (a + 1) x ((I (a + 1) x) ||| (fX3_setOf (nI y)))) a = fX1_putEdge_t I a x y on := by unfold fX1_putEdge_t; rw [if_pos c2]
    exact mr_vret C0 hr hlk hQ hS rfl (by rw [← eF]; exact hM) (Nat.le_refl _) (Nat.le_refl _) dX1_putEdge_50
def fX1_edgeCount (I : hm_I) (a : Nat) : Int32 :=
  (lp 8 (fun i1 x2 => x2 + (fJ6_bitCount_0f7a4 (I (a + 1) i1))) (nI 0))
set_option maxHeartbeats 4000000 in
set_option maxRecDepth 100000 in
theorem ctX1_edgeCount {l : Launch} {D : va_G} {T : Nat → ClassId} {L : List Nat} {A : Nat → Prop} {Sh : hm_S} {I : hm_I} {J : hm_J} {a : Nat} (hO : IsO L Sh a) :
    Ct l yX1_edgeCount wsX1_edgeCount { frames := 1, cells := 0, slots := 0, locals := 20 } 0 0 D T A [.ref a] (hm D T L A Sh I J) (some (.int (fX1_edgeCount I a))) (hm D T L A Sh I J) := by
  refine Ct.ofW (cc := cX1_edgeCount) (maxL := 3) (ret := (some .int)) (by decide) rfl (Nat.le_of_ble_eq_true rfl) ?_
  intro p_ e_ s_ m_ args_ below_ meth_ c_ ls R Qq hR hQ C0 hr hlk hname hM hl
  have hx := C0.1.1
  have hb := C0.1.2.1
  have hS : va_S A s_.heap s_.heap [] := va_S.rf
  have hl : lv_has ls 3 [(0, .ref a)] := hl
  refine lv_iconst (v := nI 0) hx hb dX1_edgeCount_0 (by decide) ?_
  refine lv_istore_n (lv' := [(1, .int (nI 0)), (0, .ref a)]) hx hb dX1_edgeCount_1 rfl hl (by decide) rfl (fun ls hl => ?_)
  refine lv_iconst (v := nI 0) hx hb dX1_edgeCount_2 (by decide) ?_
  refine lv_istore_n (lv' := [(2, .int (nI 0)), (1, .int (nI 0)), (0, .ref a)]) hx hb dX1_edgeCount_3 rfl hl (by decide) rfl (fun ls hl => ?_)
  refine lp_loop (σ := Int32) (fun i1 x2 => ∀ (H : Heap) (locs : List Loc) (ls : Array Slot), hm D T L A Sh I J H → va_S A s_.heap H locs → lv_has ls 3 [(0, .ref a), (1, .int x2), (2, .int (nI i1))] → W p_ l e_ R s_ m_ args_ below_ meth_ c_ H locs 0 0 Qq (F0 m_ 4 ls [])) 8 (fun i1 x2 => x2 + (fJ6_bitCount_0f7a4 (I (a + 1) i1))) (nI 0) (fun _ _ => True) trivial (fun _ _ _ _ => trivial) (fun i1 x2 hi3 hv4 k5 H locs ls hM hS hl => ?_) (fun hv4 H locs ls hM hS hl => ?_) _ _ _ hM hS (lv_sub hl [2, 1, 0] rfl)
  · have stp6 : ∀ yy_ : Int32, yy_ = (x2 + (fJ6_bitCount_0f7a4 (I (a + 1) i1))) → ∀ (H : Heap) (locs : List Loc) (ls : Array Slot), hm D T L A Sh I J H → va_S A s_.heap H locs → lv_has ls 3 [(0, .ref a), (1, .int yy_), (2, .int (nI (i1 + 1)))] → W p_ l e_ R s_ m_ args_ below_ meth_ c_ H locs 0 0 Qq (F0 m_ 4 ls []) := fun yy_ ey => by subst ey; exact k5
    refine lv_iload_n hx hb dX1_edgeCount_4 rfl (lv_at hl 2 rfl) ?_
    refine lv_bipush (v := nI 8) hx hb dX1_edgeCount_5 (by decide) ?_
    refine mr_geN (x := i1) (y := 8) (tgt := 28) C0 dX1_edgeCount_7 (by decide) (by omega) (by omega) (fun c7 => absurd c7 (by omega)) (fun c7 => ?_)
    refine lv_iload_n hx hb dX1_edgeCount_10 rfl (lv_at hl 1 rfl) ?_
    refine lv_aload_n hx hb dX1_edgeCount_11 rfl (lv_at hl 0 rfl) ?_
    refine mr_getr (r := a + 1) (TT := TX1) (N := 2) C0 uX1_edgeCount_X1 hM hO.1.1 hO.1.2 rfl 0 (by decide) rfl kX1_edgeCount_f9 rfl dX1_edgeCount_12 ?_
    refine lv_iload_n hx hb dX1_edgeCount_15 rfl (lv_at hl 2 rfl) ?_
    refine mr_ialdN (v := I (a + 1) i1) C0 hM hO.2.1.1 hO.2.1.2 (by decide) (by omega) rfl dX1_edgeCount_16 ?_
    refine mr_callS (As := [.int (I (a + 1) i1)]) C0 (ctJ6_bitCount_0f7a4 (I := I) (J := J) (u0 := (I (a + 1) i1)) ) (va_cwS 1 C0.1.2.2.2.2 gX1_edgeCount_J6_bitCount_0f7a4 rfl rfl rfl (by decide +kernel) (by rw [hR]; exact ⟨Nat.le_of_ble_eq_true rfl, Nat.le_of_ble_eq_true rfl⟩)) hM hS rfl rfl rfl hl.1 (Nat.le_of_ble_eq_true rfl) dX1_edgeCount_17 (by rw [hR]; exact ⟨Nat.zero_le _, Nat.zero_le _⟩) (fun H locs hM hS => ?_)
    refine lv_iadd hx hb dX1_edgeCount_20 ?_
    refine lv_istore_n (lv' := [(1, .int (x2 + (fJ6_bitCount_0f7a4 (I (a + 1) i1)))), (0, .ref a), (2, .int (nI i1))]) hx hb dX1_edgeCount_21 rfl hl (by decide) rfl (fun ls hl => ?_)
    refine lv_iinc (v := nI (i1 + 1)) (lv' := [(2, .int (nI (i1 + 1))), (1, .int (x2 + (fJ6_bitCount_0f7a4 (I (a + 1) i1)))), (0, .ref a)]) hx hb dX1_edgeCount_22 hl (k := 2) rfl (nI_1 _) (by decide) rfl (fun ls hl => ?_)
    refine lv_goto (tgt := 4) hx hb dX1_edgeCount_25 (by decide) ?_
    exact stp6 (x2 + (fJ6_bitCount_0f7a4 (I (a + 1) i1))) rfl H locs ls hM hS (lv_sub hl [2, 1, 0] rfl)
  · skip
    refine lv_iload_n hx hb dX1_edgeCount_4 rfl (lv_at hl 2 rfl) ?_
    refine lv_bipush (v := nI 8) hx hb dX1_edgeCount_5 (by decide) ?_
    refine mr_geN (x := 8) (y := 8) (tgt := 28) C0 dX1_edgeCount_7 (by decide) (by decide) (by decide) (fun _ => ?_) (fun c8 => absurd c8 (by decide))
    refine lv_iload_n hx hb dX1_edgeCount_28 rfl (lv_at hl 1 rfl) ?_
    have eF : (lp 8 (fun i1 x2 => x2 + (fJ6_bitCount_0f7a4 (I (a + 1) i1))) (nI 0)) = fX1_edgeCount I a := rfl
    exact mr_iret (v := (lp 8 (fun i1 x2 => x2 + (fJ6_bitCount_0f7a4 (I (a + 1) i1))) (nI 0))) C0 hr hlk hQ hS (by rw [← eF]) hM (Nat.le_refl _) (Nat.le_refl _) dX1_edgeCount_29
def fX1_hasSameEdges (I : hm_I) (a b : Nat) : Bool :=
  lpr (fun (i1 : Nat) (x2 : Unit) => (if I (a + 1) i1 = I (b + 1) i1 then Sum.inr () else Sum.inl false : Bool ⊕ (Unit))) (fun (x2 : Unit) => (true : Bool)) 8 0 ()
set_option maxHeartbeats 4000000 in
set_option maxRecDepth 100000 in
theorem ctX1_hasSameEdges {l : Launch} {D : va_G} {T : Nat → ClassId} {L : List Nat} {A : Nat → Prop} {Sh : hm_S} {I : hm_I} {J : hm_J} {a b : Nat} (hO : IsO L Sh a) (hG : IsO L Sh b) :
    Ct l yX1_hasSameEdges wsX1_hasSameEdges { frames := 0, cells := 0, slots := 0, locals := 0 } 0 0 D T A [.ref a, .ref b] (hm D T L A Sh I J) (some (.int (bI (fX1_hasSameEdges I a b)))) (hm D T L A Sh I J) := by
  refine Ct.ofW (cc := cX1_hasSameEdges) (maxL := 3) (ret := (some .boolean)) (by decide) rfl (Nat.le_of_ble_eq_true rfl) ?_
  intro p_ e_ s_ m_ args_ below_ meth_ c_ ls R Qq hR hQ C0 hr hlk hname hM hl
  have hx := C0.1.1
  have hb := C0.1.2.1
  have hS : va_S A s_.heap s_.heap [] := va_S.rf
  have hl : lv_has ls 3 [(0, .ref a), (1, .ref b)] := hl
  refine lv_iconst (v := nI 0) hx hb dX1_hasSameEdges_0 (by decide) ?_
  refine lv_istore_n (lv' := [(2, .int (nI 0)), (0, .ref a), (1, .ref b)]) hx hb dX1_hasSameEdges_1 rfl hl (by decide) rfl (fun ls hl => ?_)
  refine lpr_loop (σ := Unit) (ρ := Bool) (fun i1 x2 => ∀ (H : Heap) (locs : List Loc) (ls : Array Slot), hm D T L A Sh I J H → va_S A s_.heap H locs → lv_has ls 3 [(0, .ref a), (1, .ref b), (2, .int (nI i1))] → W p_ l e_ R s_ m_ args_ below_ meth_ c_ H locs 0 0 Qq (F0 m_ 2 ls [])) 8 (fun (i1 : Nat) (x2 : Unit) => (if I (a + 1) i1 = I (b + 1) i1 then Sum.inr () else Sum.inl false : Bool ⊕ (Unit))) (fun (x2 : Unit) => (true : Bool)) () (fun _ _ => True) trivial (fun _ _ _ _ _ _ => trivial) (fun i1 x2 hi3 hv4 kv5 k6 H locs ls hM hS hl => ?_) (fun x2 hv4 hd H locs ls hM hS hl => ?_) _ _ _ hM hS (lv_sub hl [1, 2, 0] rfl)
  · skip
    refine lv_iload_n hx hb dX1_hasSameEdges_2 rfl (lv_at hl 2 rfl) ?_
    refine lv_bipush (v := nI 8) hx hb dX1_hasSameEdges_3 (by decide) ?_
    refine mr_geN (x := i1) (y := 8) (tgt := 31) C0 dX1_hasSameEdges_5 (by decide) (by omega) (by omega) (fun c7 => absurd c7 (by omega)) (fun c7 => ?_)
    refine lv_aload_n hx hb dX1_hasSameEdges_8 rfl (lv_at hl 0 rfl) ?_
    refine mr_getr (r := a + 1) (TT := TX1) (N := 2) C0 uX1_hasSameEdges_X1 hM hO.1.1 hO.1.2 rfl 0 (by decide) rfl kX1_hasSameEdges_f9 rfl dX1_hasSameEdges_9 ?_
    refine lv_iload_n hx hb dX1_hasSameEdges_12 rfl (lv_at hl 2 rfl) ?_
    refine mr_ialdN (v := I (a + 1) i1) C0 hM hO.2.1.1 hO.2.1.2 (by decide) (by omega) rfl dX1_hasSameEdges_13 ?_
    refine lv_aload_n hx hb dX1_hasSameEdges_14 rfl (lv_at hl 1 rfl) ?_
    refine mr_getr (r := b + 1) (TT := TX1) (N := 2) C0 uX1_hasSameEdges_X1 hM hG.1.1 hG.1.2 rfl 0 (by decide) rfl kX1_hasSameEdges_f9 rfl dX1_hasSameEdges_15 ?_
    refine lv_iload_n hx hb dX1_hasSameEdges_18 rfl (lv_at hl 2 rfl) ?_
    refine mr_ialdN (v := I (b + 1) i1) C0 hM hG.2.1.1 hG.2.1.2 (by decide) (by omega) rfl dX1_hasSameEdges_19 ?_
    refine lv_icmp_eq (tgt := 25) hx hb dX1_hasSameEdges_20 (by decide) (fun c8 => ?_) (fun c8 => ?_)
    · skip
      refine lv_iinc (v := nI (i1 + 1)) (lv' := [(2, .int (nI (i1 + 1))), (0, .ref a), (1, .ref b)]) hx hb dX1_hasSameEdges_25 hl (k := 2) rfl (nI_1 _) (by decide) rfl (fun ls hl => ?_)
      refine lv_goto (tgt := 2) hx hb dX1_hasSameEdges_28 (by decide) ?_
      exact k6 () (by rw [if_pos c8]) H locs ls hM hS (lv_sub hl [1, 2, 0] rfl)
    · skip
      refine lv_iconst (v := nI 0) hx hb dX1_hasSameEdges_23 (by decide) ?_
      have hf9 := kv5 false (by rw [if_neg c8])
      refine mr_top (y := bI false) (by decide) ?_
      have eF : false = fX1_hasSameEdges I a b := hf9
      exact mr_zret (b := false) C0 hr hlk hQ hS (by rw [← eF]) hM (Nat.le_refl _) (Nat.le_refl _) dX1_hasSameEdges_24
  · skip
    refine lv_iload_n hx hb dX1_hasSameEdges_2 rfl (lv_at hl 2 rfl) ?_
    refine lv_bipush (v := nI 8) hx hb dX1_hasSameEdges_3 (by decide) ?_
    refine mr_geN (x := 8) (y := 8) (tgt := 31) C0 dX1_hasSameEdges_5 (by decide) (by decide) (by decide) (fun _ => ?_) (fun c10 => absurd c10 (by decide))
    refine lv_iconst (v := nI 1) hx hb dX1_hasSameEdges_31 (by decide) ?_
    have hf11 := Eq.trans (a := true) rfl hd
    refine mr_top (y := bI true) (by decide) ?_
    have eF : true = fX1_hasSameEdges I a b := hf11
    exact mr_zret (b := true) C0 hr hlk hQ hS (by rw [← eF]) hM (Nat.le_refl _) (Nat.le_refl _) dX1_hasSameEdges_32
def fX1_nextOfAll (I : hm_I) (a : Nat) (u : Int32) : Int32 :=
  (lp 8 (fun i1 x2 => if fX3_isIn u (nI i1) = true then x2 ||| (I (a + 1) i1) else x2) (nI 0))
set_option maxHeartbeats 4000000 in
set_option maxRecDepth 100000 in
theorem ctX1_nextOfAll {l : Launch} {D : va_G} {T : Nat → ClassId} {L : List Nat} {A : Nat → Prop} {Sh : hm_S} {I : hm_I} {J : hm_J} {a : Nat} (hO : IsO L Sh a) {u : Int32} :
    Ct l yX1_nextOfAll wsX1_nextOfAll { frames := 1, cells := 0, slots := 0, locals := 21 } 0 0 D T A [.ref a, .int u] (hm D T L A Sh I J) (some (.int (fX1_nextOfAll I a u))) (hm D T L A Sh I J) := by
  refine Ct.ofW (cc := cX1_nextOfAll) (maxL := 4) (ret := (some .int)) (by decide) rfl (Nat.le_of_ble_eq_true rfl) ?_
  intro p_ e_ s_ m_ args_ below_ meth_ c_ ls R Qq hR hQ C0 hr hlk hname hM hl
  have hx := C0.1.1
  have hb := C0.1.2.1
  have hS : va_S A s_.heap s_.heap [] := va_S.rf
  have hl : lv_has ls 4 [(0, .ref a), (1, .int u)] := hl
  refine lv_iconst (v := nI 0) hx hb dX1_nextOfAll_0 (by decide) ?_
  refine lv_istore_n (lv' := [(2, .int (nI 0)), (0, .ref a), (1, .int u)]) hx hb dX1_nextOfAll_1 rfl hl (by decide) rfl (fun ls hl => ?_)
  refine lv_iconst (v := nI 0) hx hb dX1_nextOfAll_2 (by decide) ?_
  refine lv_istore_n (lv' := [(3, .int (nI 0)), (2, .int (nI 0)), (0, .ref a), (1, .int u)]) hx hb dX1_nextOfAll_3 rfl hl (by decide) rfl (fun ls hl => ?_)
  refine lp_loop (σ := Int32) (fun i1 x2 => ∀ (H : Heap) (locs : List Loc) (ls : Array Slot), hm D T L A Sh I J H → va_S A s_.heap H locs → lv_has ls 4 [(0, .ref a), (1, .int u), (2, .int x2), (3, .int (nI i1))] → W p_ l e_ R s_ m_ args_ below_ meth_ c_ H locs 0 0 Qq (F0 m_ 4 ls [])) 8 (fun i1 x2 => if fX3_isIn u (nI i1) = true then x2 ||| (I (a + 1) i1) else x2) (nI 0) (fun _ _ => True) trivial (fun _ _ _ _ => trivial) (fun i1 x2 hi3 hv4 k5 H locs ls hM hS hl => ?_) (fun hv4 H locs ls hM hS hl => ?_) _ _ _ hM hS (lv_sub hl [2, 3, 1, 0] rfl)
  · have stp6 : ∀ yy_ : Int32, yy_ = (if fX3_isIn u (nI i1) = true then x2 ||| (I (a + 1) i1) else x2) → ∀ (H : Heap) (locs : List Loc) (ls : Array Slot), hm D T L A Sh I J H → va_S A s_.heap H locs → lv_has ls 4 [(0, .ref a), (1, .int u), (2, .int yy_), (3, .int (nI (i1 + 1)))] → W p_ l e_ R s_ m_ args_ below_ meth_ c_ H locs 0 0 Qq (F0 m_ 4 ls []) := fun yy_ ey => by subst ey; exact k5
    refine lv_iload_n hx hb dX1_nextOfAll_4 rfl (lv_at hl 3 rfl) ?_
    refine lv_bipush (v := nI 8) hx hb dX1_nextOfAll_5 (by decide) ?_
    refine mr_geN (x := i1) (y := 8) (tgt := 33) C0 dX1_nextOfAll_7 (by decide) (by omega) (by omega) (fun c7 => absurd c7 (by omega)) (fun c7 => ?_)
    refine lv_iload_n hx hb dX1_nextOfAll_10 rfl (lv_at hl 1 rfl) ?_
    refine lv_iload_n hx hb dX1_nextOfAll_11 rfl (lv_at hl 3 rfl) ?_
    refine mr_callSN (As := [.int u, .int (nI i1)]) C0 (ctX3_isIn (I := I) (J := J) (u0 := u) (s0 := (nI i1)) ) (va_cnB (own := RX1) (index := 22) 2 C0.1.2.2.2.2 ggX1_nextOfAll_X3_isIn rfl rfl rfl C0.2.2.2.1 (C0.1.2.2.2.2 _ (List.mem_of_getElem? (i := 3) rfl)) (by decide +kernel) (by rw [hR]; exact ⟨Nat.le_of_ble_eq_true rfl, Nat.le_of_ble_eq_true rfl⟩)) (C0.1.2.2.2.2 _ (List.mem_of_getElem? (i := 2) rfl)) hM hS rfl rfl rfl hl.1 (Nat.le_of_ble_eq_true rfl) dX1_nextOfAll_12 (by rw [hR]; exact ⟨Nat.zero_le _, Nat.zero_le _⟩) (fun H locs hM hS => ?_)
    refine mr_eqB (tgt := 27) C0 dX1_nextOfAll_15 (by decide) (fun c8 => ?_) (fun c8 => ?_)
    · skip
      refine lv_iinc (v := nI (i1 + 1)) (lv' := [(3, .int (nI (i1 + 1))), (0, .ref a), (1, .int u), (2, .int x2)]) hx hb dX1_nextOfAll_27 hl (k := 3) rfl (nI_1 _) (by decide) rfl (fun ls hl => ?_)
      refine lv_goto (tgt := 4) hx hb dX1_nextOfAll_30 (by decide) ?_
      exact stp6 x2 (by rw [if_neg (Bool.eq_false_iff.mp c8)]) H locs ls hM hS (lv_sub hl [1, 2, 3, 0] rfl)
    · skip
      refine lv_iload_n hx hb dX1_nextOfAll_18 rfl (lv_at hl 2 rfl) ?_
      refine lv_aload_n hx hb dX1_nextOfAll_19 rfl (lv_at hl 0 rfl) ?_
      refine mr_getr (r := a + 1) (TT := TX1) (N := 2) C0 uX1_nextOfAll_X1 hM hO.1.1 hO.1.2 rfl 0 (by decide) rfl kX1_nextOfAll_f9 rfl dX1_nextOfAll_20 ?_
      refine lv_iload_n hx hb dX1_nextOfAll_23 rfl (lv_at hl 3 rfl) ?_
      refine mr_ialdN (v := I (a + 1) i1) C0 hM hO.2.1.1 hO.2.1.2 (by decide) (by omega) rfl dX1_nextOfAll_24 ?_
      refine lv_ior hx hb dX1_nextOfAll_25 ?_
      refine lv_istore_n (lv' := [(2, .int (x2 ||| (I (a + 1) i1))), (0, .ref a), (1, .int u), (3, .int (nI i1))]) hx hb dX1_nextOfAll_26 rfl hl (by decide) rfl (fun ls hl => ?_)
      refine lv_iinc (v := nI (i1 + 1)) (lv' := [(3, .int (nI (i1 + 1))), (2, .int (x2 ||| (I (a + 1) i1))), (0, .ref a), (1, .int u)]) hx hb dX1_nextOfAll_27 hl (k := 3) rfl (nI_1 _) (by decide) rfl (fun ls hl => ?_)
      refine lv_goto (tgt := 4) hx hb dX1_nextOfAll_30 (by decide) ?_
      exact stp6 (x2 ||| (I (a + 1) i1)) (by rw [if_pos c8]) H locs ls hM hS (lv_sub hl [2, 3, 1, 0] rfl)
  · skip
    refine lv_iload_n hx hb dX1_nextOfAll_4 rfl (lv_at hl 3 rfl) ?_
    refine lv_bipush (v := nI 8) hx hb dX1_nextOfAll_5 (by decide) ?_
    refine mr_geN (x := 8) (y := 8) (tgt := 33) C0 dX1_nextOfAll_7 (by decide) (by decide) (by decide) (fun _ => ?_) (fun c9 => absurd c9 (by decide))
    refine lv_iload_n hx hb dX1_nextOfAll_33 rfl (lv_at hl 2 rfl) ?_
    have eF : (lp 8 (fun i1 x2 => if fX3_isIn u (nI i1) = true then x2 ||| (I (a + 1) i1) else x2) (nI 0)) = fX1_nextOfAll I a u := rfl
    exact mr_iret (v := (lp 8 (fun i1 x2 => if fX3_isIn u (nI i1) = true then x2 ||| (I (a + 1) i1) else x2) (nI 0))) C0 hr hlk hQ hS (by rw [← eF]) hM (Nat.le_refl _) (Nat.le_refl _) dX1_nextOfAll_34
def fX1_distance (I : hm_I) (a x y : Nat) : Int32 :=
  lpr (fun (i1 : Nat) (x2 : Int32) => (if fX3_isIn x2 (nI y) = true then Sum.inl (nI i1) else Sum.inr (x2 ||| (fX1_nextOfAll I a x2)) : Int32 ⊕ (Int32))) (fun (x2 : Int32) => ((-9) : Int32)) 8 0 (fX3_setOf (nI x))
set_option maxHeartbeats 4000000 in
set_option maxRecDepth 100000 in
theorem ctX1_distance {l : Launch} {D : va_G} {T : Nat → ClassId} {L : List Nat} {A : Nat → Prop} {Sh : hm_S} {I : hm_I} {J : hm_J} {a : Nat} (hO : IsO L Sh a) {x y : Nat} :
    Ct l yX1_distance wsX1_distance { frames := 2, cells := 0, slots := 0, locals := 44 } 0 0 D T A [.ref a, .int (nI x), .int (nI y)] (hm D T L A Sh I J) (some (.int (fX1_distance I a x y))) (hm D T L A Sh I J) := by
  refine Ct.ofW (cc := cX1_distance) (maxL := 5) (ret := (some .int)) (by decide) rfl (Nat.le_of_ble_eq_true rfl) ?_
  intro p_ e_ s_ m_ args_ below_ meth_ c_ ls R Qq hR hQ C0 hr hlk hname hM hl
  have hx := C0.1.1
  have hb := C0.1.2.1
  have hS : va_S A s_.heap s_.heap [] := va_S.rf
  have hl : lv_has ls 5 [(0, .ref a), (1, .int (nI x)), (2, .int (nI y))] := hl
  refine lv_iload_n hx hb dX1_distance_0 rfl (lv_at hl 1 rfl) ?_
  refine mr_callSN (As := [.int (nI x)]) C0 (ctX3_setOf (I := I) (J := J) (s0 := (nI x)) ) (va_cnB (own := RX1) (index := 29) 1 C0.1.2.2.2.2 ggX1_distance_X3_setOf rfl rfl rfl C0.2.2.2.2.2.1 (C0.1.2.2.2.2 _ (List.mem_of_getElem? (i := 2) rfl)) (by decide +kernel) (by rw [hR]; exact ⟨Nat.le_of_ble_eq_true rfl, Nat.le_of_ble_eq_true rfl⟩)) (C0.1.2.2.2.2 _ (List.mem_of_getElem? (i := 1) rfl)) hM hS rfl rfl rfl hl.1 (Nat.le_of_ble_eq_true rfl) dX1_distance_1 (by rw [hR]; exact ⟨Nat.zero_le _, Nat.zero_le _⟩) (fun H locs hM hS => ?_)
  refine lv_istore_n (lv' := [(3, .int (fX3_setOf (nI x))), (0, .ref a), (1, .int (nI x)), (2, .int (nI y))]) hx hb dX1_distance_4 rfl hl (by decide) rfl (fun ls hl => ?_)
  refine lv_iconst (v := nI 0) hx hb dX1_distance_5 (by decide) ?_
  refine lv_istore (lv' := [(4, .int (nI 0)), (3, .int (fX3_setOf (nI x))), (0, .ref a), (1, .int (nI x)), (2, .int (nI y))]) hx hb dX1_distance_6 hl (by decide) rfl (fun ls hl => ?_)
  refine lpr_loop (σ := Int32) (ρ := Int32) (fun i1 x2 => ∀ (H : Heap) (locs : List Loc) (ls : Array Slot), hm D T L A Sh I J H → va_S A s_.heap H locs → lv_has ls 5 [(0, .ref a), (2, .int (nI y)), (3, .int x2), (4, .int (nI i1))] → W p_ l e_ R s_ m_ args_ below_ meth_ c_ H locs 0 0 Qq (F0 m_ 8 ls [])) 8 (fun (i1 : Nat) (x2 : Int32) => (if fX3_isIn x2 (nI y) = true then Sum.inl (nI i1) else Sum.inr (x2 ||| (fX1_nextOfAll I a x2)) : Int32 ⊕ (Int32))) (fun (x2 : Int32) => ((-9) : Int32)) (fX3_setOf (nI x)) (fun _ _ => True) trivial (fun _ _ _ _ _ _ => trivial) (fun i1 x2 hi3 hv4 kv5 k6 H locs ls hM hS hl => ?_) (fun x2 hv4 hd H locs ls hM hS hl => ?_) _ _ _ hM hS (lv_sub hl [2, 4, 1, 0] rfl)
  · skip
    refine lv_iload hx hb dX1_distance_8 (lv_at hl 3 rfl) ?_
    refine lv_bipush (v := nI 8) hx hb dX1_distance_10 (by decide) ?_
    refine mr_geN (x := i1) (y := 8) (tgt := 40) C0 dX1_distance_12 (by decide) (by omega) (by omega) (fun c7 => absurd c7 (by omega)) (fun c7 => ?_)
    refine lv_iload_n hx hb dX1_distance_15 rfl (lv_at hl 2 rfl) ?_
    refine lv_iload_n hx hb dX1_distance_16 rfl (lv_at hl 1 rfl) ?_
    refine mr_callSN (As := [.int x2, .int (nI y)]) C0 (ctX3_isIn (I := I) (J := J) (u0 := x2) (s0 := (nI y)) ) (va_cnB (own := RX1) (index := 22) 2 C0.1.2.2.2.2 ggX1_distance_X3_isIn rfl rfl rfl C0.2.2.2.1 (C0.1.2.2.2.2 _ (List.mem_of_getElem? (i := 2) rfl)) (by decide +kernel) (by rw [hR]; exact ⟨Nat.le_of_ble_eq_true rfl, Nat.le_of_ble_eq_true rfl⟩)) (C0.1.2.2.2.2 _ (List.mem_of_getElem? (i := 4) rfl)) hM hS rfl rfl rfl hl.1 (Nat.le_of_ble_eq_true rfl) dX1_distance_17 (by rw [hR]; exact ⟨Nat.zero_le _, Nat.zero_le _⟩) (fun H locs hM hS => ?_)
    refine mr_eqB (tgt := 26) C0 dX1_distance_20 (by decide) (fun c8 => ?_) (fun c8 => ?_)
    · skip
      refine lv_iload_n hx hb dX1_distance_26 rfl (lv_at hl 2 rfl) ?_
      refine lv_aload_n hx hb dX1_distance_27 rfl (lv_at hl 0 rfl) ?_
      refine lv_iload_n hx hb dX1_distance_28 rfl (lv_at hl 2 rfl) ?_
      refine mr_callV (As := [.int x2]) C0 (ctX1_nextOfAll (I := I) (J := J) (a := a) (u := x2) hO) (cwV 1 C0.1.2.2.2.2 gX1_distance_X1_nextOfAll rfl rfl rfl (by decide +kernel) (by rw [hR]; exact ⟨Nat.le_of_ble_eq_true rfl, Nat.le_of_ble_eq_true rfl⟩)) hM hO.1.1 hO.1.2 rfl rfl hM hS rfl rfl rfl hl.1 (Nat.le_of_ble_eq_true rfl) dX1_distance_29 (by rw [hR]; exact ⟨Nat.zero_le _, Nat.zero_le _⟩) (fun H locs hM hS => ?_)
      refine lv_ior hx hb dX1_distance_32 ?_
      refine lv_istore_n (lv' := [(3, .int (x2 ||| (fX1_nextOfAll I a x2))), (0, .ref a), (2, .int (nI y)), (4, .int (nI i1))]) hx hb dX1_distance_33 rfl hl (by decide) rfl (fun ls hl => ?_)
      refine lv_iinc (v := nI (i1 + 1)) (lv' := [(4, .int (nI (i1 + 1))), (3, .int (x2 ||| (fX1_nextOfAll I a x2))), (0, .ref a), (2, .int (nI y))]) hx hb dX1_distance_34 hl (k := 3) rfl (nI_1 _) (by decide) rfl (fun ls hl => ?_)
      refine lv_goto (tgt := 8) hx hb dX1_distance_37 (by decide) ?_
      exact k6 (x2 ||| (fX1_nextOfAll I a x2)) (by rw [if_neg (Bool.eq_false_iff.mp c8)]) H locs ls hM hS (lv_sub hl [2, 3, 1, 0] rfl)
    · skip
      refine lv_iload hx hb dX1_distance_23 (lv_at hl 3 rfl) ?_
      have hf9 := kv5 (nI i1) (by rw [if_pos c8])
      have eF : nI i1 = fX1_distance I a x y := hf9
      exact mr_iret (v := nI i1) C0 hr hlk hQ hS (by rw [← eF]) hM (Nat.le_refl _) (Nat.le_refl _) dX1_distance_25
  · skip
    refine lv_iload hx hb dX1_distance_8 (lv_at hl 3 rfl) ?_
    refine lv_bipush (v := nI 8) hx hb dX1_distance_10 (by decide) ?_
    refine mr_geN (x := 8) (y := 8) (tgt := 40) C0 dX1_distance_12 (by decide) (by decide) (by decide) (fun _ => ?_) (fun c10 => absurd c10 (by decide))
    refine lv_bipush (v := (-9)) hx hb dX1_distance_40 (by decide) ?_
    have hf11 := Eq.trans (a := (-9)) rfl hd
    have eF : (-9) = fX1_distance I a x y := hf11
    exact mr_iret (v := (-9)) C0 hr hlk hQ hS (by rw [← eF]) hM (Nat.le_refl _) (Nat.le_refl _) dX1_distance_42
def fX1_lowestNextAt (I : hm_I) (a : Nat) (s0 : Int32) (y : Nat) (k : Int32) : Int32 :=
  lpr (fun (i1 : Nat) (x2 : Unit) => (if fX1_hasEdge_z I a s0 i1 = true then if fX1_distance I a i1 y = k then Sum.inl (nI i1) else Sum.inr () else Sum.inr () : Int32 ⊕ (Unit))) (fun (x2 : Unit) => ((-9) : Int32)) 8 0 ()
set_option maxHeartbeats 4000000 in
set_option maxRecDepth 100000 in
theorem ctX1_lowestNextAt {l : Launch} {D : va_G} {T : Nat → ClassId} {L : List Nat} {A : Nat → Prop} {Sh : hm_S} {I : hm_I} {J : hm_J} {a : Nat} (hO : IsO L Sh a) {s0 k : Int32} {y : Nat} :
    Ct l yX1_lowestNextAt wsX1_lowestNextAt { frames := 3, cells := 0, slots := 0, locals := 68 } 0 0 D T A [.ref a, .int s0, .int (nI y), .int k] (hm D T L A Sh I J) (some (.int (fX1_lowestNextAt I a s0 y k))) (hm D T L A Sh I J) := by
  refine Ct.ofW (cc := cX1_lowestNextAt) (maxL := 5) (ret := (some .int)) (by decide) rfl (Nat.le_of_ble_eq_true rfl) ?_
  intro p_ e_ s_ m_ args_ below_ meth_ c_ ls R Qq hR hQ C0 hr hlk hname hM hl
  have hx := C0.1.1
  have hb := C0.1.2.1
  have hS : va_S A s_.heap s_.heap [] := va_S.rf
  have hl : lv_has ls 5 [(0, .ref a), (1, .int s0), (2, .int (nI y)), (3, .int k)] := hl
  refine lv_iconst (v := nI 0) hx hb dX1_lowestNextAt_0 (by decide) ?_
  refine lv_istore (lv' := [(4, .int (nI 0)), (0, .ref a), (1, .int s0), (2, .int (nI y)), (3, .int k)]) hx hb dX1_lowestNextAt_1 hl (by decide) rfl (fun ls hl => ?_)
  refine lpr_loop (σ := Unit) (ρ := Int32) (fun i1 x2 => ∀ (H : Heap) (locs : List Loc) (ls : Array Slot), hm D T L A Sh I J H → va_S A s_.heap H locs → lv_has ls 5 [(0, .ref a), (1, .int s0), (2, .int (nI y)), (3, .int k), (4, .int (nI i1))] → W p_ l e_ R s_ m_ args_ below_ meth_ c_ H locs 0 0 Qq (F0 m_ 3 ls [])) 8 (fun (i1 : Nat) (x2 : Unit) => (if fX1_hasEdge_z I a s0 i1 = true then if fX1_distance I a i1 y = k then Sum.inl (nI i1) else Sum.inr () else Sum.inr () : Int32 ⊕ (Unit))) (fun (x2 : Unit) => ((-9) : Int32)) () (fun _ _ => True) trivial (fun _ _ _ _ _ _ => trivial) (fun i1 x2 hi3 hv4 kv5 k6 H locs ls hM hS hl => ?_) (fun x2 hv4 hd H locs ls hM hS hl => ?_) _ _ _ hM hS (lv_sub hl [1, 2, 3, 4, 0] rfl)
  · skip
    refine lv_iload hx hb dX1_lowestNextAt_3 (lv_at hl 4 rfl) ?_
    refine lv_bipush (v := nI 8) hx hb dX1_lowestNextAt_5 (by decide) ?_
    refine mr_geN (x := i1) (y := 8) (tgt := 40) C0 dX1_lowestNextAt_7 (by decide) (by omega) (by omega) (fun c7 => absurd c7 (by omega)) (fun c7 => ?_)
    refine lv_aload_n hx hb dX1_lowestNextAt_10 rfl (lv_at hl 0 rfl) ?_
    refine lv_iload_n hx hb dX1_lowestNextAt_11 rfl (lv_at hl 1 rfl) ?_
    refine lv_iload hx hb dX1_lowestNextAt_12 (lv_at hl 4 rfl) ?_
    refine mr_callV (As := [.int s0, .int (nI i1)]) C0 (ctX1_hasEdge_z (I := I) (J := J) (a := a) (x := s0) (y := i1) hO) (cwV 2 C0.1.2.2.2.2 gX1_lowestNextAt_X1_hasEdge rfl rfl rfl (by decide +kernel) (by rw [hR]; exact ⟨Nat.le_of_ble_eq_true rfl, Nat.le_of_ble_eq_true rfl⟩)) hM hO.1.1 hO.1.2 rfl rfl hM hS rfl rfl rfl hl.1 (Nat.le_of_ble_eq_true rfl) dX1_lowestNextAt_14 (by rw [hR]; exact ⟨Nat.zero_le _, Nat.zero_le _⟩) (fun H locs hM hS => ?_)
    refine mr_eqB (tgt := 34) C0 dX1_lowestNextAt_17 (by decide) (fun c8 => ?_) (fun c8 => ?_)
    · skip
      refine lv_iinc (v := nI (i1 + 1)) (lv' := [(4, .int (nI (i1 + 1))), (0, .ref a), (1, .int s0), (2, .int (nI y)), (3, .int k)]) hx hb dX1_lowestNextAt_34 hl (k := 4) rfl (nI_1 _) (by decide) rfl (fun ls hl => ?_)
      refine lv_goto (tgt := 3) hx hb dX1_lowestNextAt_37 (by decide) ?_
      exact k6 () (by rw [if_neg (Bool.eq_false_iff.mp c8)]) H locs ls hM hS (lv_sub hl [1, 2, 3, 4, 0] rfl)
    · skip
      refine lv_aload_n hx hb dX1_lowestNextAt_20 rfl (lv_at hl 0 rfl) ?_
      refine lv_iload hx hb dX1_lowestNextAt_21 (lv_at hl 4 rfl) ?_
      refine lv_iload_n hx hb dX1_lowestNextAt_23 rfl (lv_at hl 2 rfl) ?_
      refine mr_callV (As := [.int (nI i1), .int (nI y)]) C0 (ctX1_distance (I := I) (J := J) (a := a) (x := i1) (y := y) hO) (cwV 2 C0.1.2.2.2.2 gX1_lowestNextAt_X1_distance rfl rfl rfl (by decide +kernel) (by rw [hR]; exact ⟨Nat.le_of_ble_eq_true rfl, Nat.le_of_ble_eq_true rfl⟩)) hM hO.1.1 hO.1.2 rfl rfl hM hS rfl rfl rfl hl.1 (Nat.le_of_ble_eq_true rfl) dX1_lowestNextAt_24 (by rw [hR]; exact ⟨Nat.zero_le _, Nat.zero_le _⟩) (fun H locs hM hS => ?_)
      refine lv_iload_n hx hb dX1_lowestNextAt_27 rfl (lv_at hl 3 rfl) ?_
      refine lv_icmp_ne (tgt := 34) hx hb dX1_lowestNextAt_28 (by decide) (fun c9 => ?_) (fun c9 => ?_)
      · skip
        refine lv_iinc (v := nI (i1 + 1)) (lv' := [(4, .int (nI (i1 + 1))), (0, .ref a), (1, .int s0), (2, .int (nI y)), (3, .int k)]) hx hb dX1_lowestNextAt_34 hl (k := 4) rfl (nI_1 _) (by decide) rfl (fun ls hl => ?_)
        refine lv_goto (tgt := 3) hx hb dX1_lowestNextAt_37 (by decide) ?_
        exact k6 () (by rw [if_pos c8, if_neg c9]) H locs ls hM hS (lv_sub hl [1, 2, 3, 4, 0] rfl)
      · skip
        refine lv_iload hx hb dX1_lowestNextAt_31 (lv_at hl 4 rfl) ?_
        have hf10 := kv5 (nI i1) (by rw [if_pos c8, if_pos c9])
        have eF : nI i1 = fX1_lowestNextAt I a s0 y k := hf10
        exact mr_iret (v := nI i1) C0 hr hlk hQ hS (by rw [← eF]) hM (Nat.le_refl _) (Nat.le_refl _) dX1_lowestNextAt_33
  · skip
    refine lv_iload hx hb dX1_lowestNextAt_3 (lv_at hl 4 rfl) ?_
    refine lv_bipush (v := nI 8) hx hb dX1_lowestNextAt_5 (by decide) ?_
    refine mr_geN (x := 8) (y := 8) (tgt := 40) C0 dX1_lowestNextAt_7 (by decide) (by decide) (by decide) (fun _ => ?_) (fun c11 => absurd c11 (by decide))
    refine lv_bipush (v := (-9)) hx hb dX1_lowestNextAt_40 (by decide) ?_
    have hf12 := Eq.trans (a := (-9)) rfl hd
    have eF : (-9) = fX1_lowestNextAt I a s0 y k := hf12
    exact mr_iret (v := (-9)) C0 hr hlk hQ hS (by rw [← eF]) hM (Nat.le_refl _) (Nat.le_refl _) dX1_lowestNextAt_42
def fX1_streamOfWalk (I : hm_I) (a x y k : Nat) : Int32 :=
  (lp k (fun i1 x2 => (fX1_lowestNextAt I a x2.1 y (x2.2 + (-1)), x2.2 + (-1))) ((nI x), (fX1_distance I a x y))).1
set_option maxHeartbeats 4000000 in
set_option maxRecDepth 100000 in
theorem ctX1_streamOfWalk {l : Launch} {D : va_G} {T : Nat → ClassId} {L : List Nat} {A : Nat → Prop} {Sh : hm_S} {I : hm_I} {J : hm_J} {a : Nat} (hO : IsO L Sh a) {x y k : Nat} (hk : k < 8) :
    Ct l yX1_streamOfWalk wsX1_streamOfWalk { frames := 4, cells := 0, slots := 0, locals := 92 } 0 0 D T A [.ref a, .int (nI x), .int (nI y), .int (nI k)] (hm D T L A Sh I J) (some (.int (fX1_streamOfWalk I a x y k))) (hm D T L A Sh I J) := by
  refine Ct.ofW (cc := cX1_streamOfWalk) (maxL := 7) (ret := (some .int)) (by decide) rfl (Nat.le_of_ble_eq_true rfl) ?_
  intro p_ e_ s_ m_ args_ below_ meth_ c_ ls R Qq hR hQ C0 hr hlk hname hM hl
  have hx := C0.1.1
  have hb := C0.1.2.1
  have hS : va_S A s_.heap s_.heap [] := va_S.rf
  have hl : lv_has ls 7 [(0, .ref a), (1, .int (nI x)), (2, .int (nI y)), (3, .int (nI k))] := hl
  refine lv_iload_n hx hb dX1_streamOfWalk_0 rfl (lv_at hl 1 rfl) ?_
  refine lv_istore (lv' := [(4, .int (nI x)), (0, .ref a), (1, .int (nI x)), (2, .int (nI y)), (3, .int (nI k))]) hx hb dX1_streamOfWalk_1 hl (by decide) rfl (fun ls hl => ?_)
  refine lv_aload_n hx hb dX1_streamOfWalk_3 rfl (lv_at hl 1 rfl) ?_
  refine lv_iload_n hx hb dX1_streamOfWalk_4 rfl (lv_at hl 2 rfl) ?_
  refine lv_iload_n hx hb dX1_streamOfWalk_5 rfl (lv_at hl 3 rfl) ?_
  refine mr_callV (As := [.int (nI x), .int (nI y)]) C0 (ctX1_distance (I := I) (J := J) (a := a) (x := x) (y := y) hO) (cwV 2 C0.1.2.2.2.2 gX1_streamOfWalk_X1_distance rfl rfl rfl (by decide +kernel) (by rw [hR]; exact ⟨Nat.le_of_ble_eq_true rfl, Nat.le_of_ble_eq_true rfl⟩)) hM hO.1.1 hO.1.2 rfl rfl hM hS rfl rfl rfl hl.1 (Nat.le_of_ble_eq_true rfl) dX1_streamOfWalk_6 (by rw [hR]; exact ⟨Nat.zero_le _, Nat.zero_le _⟩) (fun H locs hM hS => ?_)
  refine lv_istore (lv' := [(5, .int (fX1_distance I a x y)), (4, .int (nI x)), (0, .ref a), (1, .int (nI x)), (2, .int (nI y)), (3, .int (nI k))]) hx hb dX1_streamOfWalk_9 hl (by decide) rfl (fun ls hl => ?_)
  refine lv_iconst (v := nI 0) hx hb dX1_streamOfWalk_11 (by decide) ?_
  refine lv_istore (lv' := [(6, .int (nI 0)), (5, .int (fX1_distance I a x y)), (4, .int (nI x)), (0, .ref a), (1, .int (nI x)), (2, .int (nI y)), (3, .int (nI k))]) hx hb dX1_streamOfWalk_12 hl (by decide) rfl (fun ls hl => ?_)
  refine lp_loop (σ := Int32 × Int32) (fun i1 x2 => ∀ (H : Heap) (locs : List Loc) (ls : Array Slot), hm D T L A Sh I J H → va_S A s_.heap H locs → lv_has ls 7 [(0, .ref a), (2, .int (nI y)), (3, .int (nI k)), (4, .int x2.1), (5, .int x2.2), (6, .int (nI i1))] → W p_ l e_ R s_ m_ args_ below_ meth_ c_ H locs 0 0 Qq (F0 m_ 14 ls [])) k (fun i1 x2 => (fX1_lowestNextAt I a x2.1 y (x2.2 + (-1)), x2.2 + (-1))) ((nI x), (fX1_distance I a x y)) (fun _ _ => True) trivial (fun _ _ _ _ => trivial) (fun i1 x2 hi3 hv4 k5 H locs ls hM hS hl => ?_) (fun hv4 H locs ls hM hS hl => ?_) _ _ _ hM hS (lv_sub hl [3, 5, 6, 2, 1, 0] rfl)
  · have stp6 : ∀ yy_ : Int32 × Int32, yy_ = ((fX1_lowestNextAt I a x2.1 y (x2.2 + (-1)), x2.2 + (-1))) → ∀ (H : Heap) (locs : List Loc) (ls : Array Slot), hm D T L A Sh I J H → va_S A s_.heap H locs → lv_has ls 7 [(0, .ref a), (2, .int (nI y)), (3, .int (nI k)), (4, .int yy_.1), (5, .int yy_.2), (6, .int (nI (i1 + 1)))] → W p_ l e_ R s_ m_ args_ below_ meth_ c_ H locs 0 0 Qq (F0 m_ 14 ls []) := fun yy_ ey => by subst ey; exact k5
    refine lv_iload hx hb dX1_streamOfWalk_14 (lv_at hl 5 rfl) ?_
    refine lv_iload_n hx hb dX1_streamOfWalk_16 rfl (lv_at hl 2 rfl) ?_
    refine mr_geN (x := i1) (y := k) (tgt := 47) C0 dX1_streamOfWalk_17 (by decide) (by omega) (by omega) (fun c7 => absurd c7 (by omega)) (fun c7 => ?_)
    refine lv_iload hx hb dX1_streamOfWalk_20 (lv_at hl 5 rfl) ?_
    refine lv_bipush (v := nI 8) hx hb dX1_streamOfWalk_22 (by decide) ?_
    refine mr_geN (x := i1) (y := 8) (tgt := 47) C0 dX1_streamOfWalk_24 (by decide) (by omega) (by omega) (fun c8 => absurd c8 (by omega)) (fun c8 => ?_)
    refine lv_iinc (v := x2.2 + (-1)) (lv' := [(5, .int (x2.2 + (-1))), (0, .ref a), (2, .int (nI y)), (3, .int (nI k)), (4, .int x2.1), (6, .int (nI i1))]) hx hb dX1_streamOfWalk_27 hl (k := 4) rfl rfl (by decide) rfl (fun ls hl => ?_)
    refine lv_aload_n hx hb dX1_streamOfWalk_30 rfl (lv_at hl 1 rfl) ?_
    refine lv_iload hx hb dX1_streamOfWalk_31 (lv_at hl 4 rfl) ?_
    refine lv_iload_n hx hb dX1_streamOfWalk_33 rfl (lv_at hl 2 rfl) ?_
    refine lv_iload hx hb dX1_streamOfWalk_34 (lv_at hl 0 rfl) ?_
    refine mr_callV (As := [.int x2.1, .int (nI y), .int (x2.2 + (-1))]) C0 (ctX1_lowestNextAt (I := I) (J := J) (a := a) (s0 := x2.1) (y := y) (k := (x2.2 + (-1))) hO) (cwV 3 C0.1.2.2.2.2 gX1_streamOfWalk_X1_lowestNextAt rfl rfl rfl (by decide +kernel) (by rw [hR]; exact ⟨Nat.le_of_ble_eq_true rfl, Nat.le_of_ble_eq_true rfl⟩)) hM hO.1.1 hO.1.2 rfl rfl hM hS rfl rfl rfl hl.1 (Nat.le_of_ble_eq_true rfl) dX1_streamOfWalk_36 (by rw [hR]; exact ⟨Nat.zero_le _, Nat.zero_le _⟩) (fun H locs hM hS => ?_)
    refine lv_istore (lv' := [(4, .int (fX1_lowestNextAt I a x2.1 y (x2.2 + (-1)))), (5, .int (x2.2 + (-1))), (0, .ref a), (2, .int (nI y)), (3, .int (nI k)), (6, .int (nI i1))]) hx hb dX1_streamOfWalk_39 hl (by decide) rfl (fun ls hl => ?_)
    refine lv_iinc (v := nI (i1 + 1)) (lv' := [(6, .int (nI (i1 + 1))), (4, .int (fX1_lowestNextAt I a x2.1 y (x2.2 + (-1)))), (5, .int (x2.2 + (-1))), (0, .ref a), (2, .int (nI y)), (3, .int (nI k))]) hx hb dX1_streamOfWalk_41 hl (k := 5) rfl (nI_1 _) (by decide) rfl (fun ls hl => ?_)
    refine lv_goto (tgt := 14) hx hb dX1_streamOfWalk_44 (by decide) ?_
    exact stp6 (fX1_lowestNextAt I a x2.1 y (x2.2 + (-1)), x2.2 + (-1)) rfl H locs ls hM hS (lv_sub hl [3, 4, 5, 1, 2, 0] rfl)
  · skip
    refine lv_iload hx hb dX1_streamOfWalk_14 (lv_at hl 5 rfl) ?_
    refine lv_iload_n hx hb dX1_streamOfWalk_16 rfl (lv_at hl 2 rfl) ?_
    refine mr_geN (x := k) (y := k) (tgt := 47) C0 dX1_streamOfWalk_17 (by decide) (by omega) (by omega) (fun c9 => ?_) (fun c9 => absurd c9 (by omega))
    refine lv_iload hx hb dX1_streamOfWalk_47 (lv_at hl 3 rfl) ?_
    have eF : (lp k (fun i1 x2 => (fX1_lowestNextAt I a x2.1 y (x2.2 + (-1)), x2.2 + (-1))) ((nI x), (fX1_distance I a x y))).1 = fX1_streamOfWalk I a x y k := rfl
    exact mr_iret (v := (lp k (fun i1 x2 => (fX1_lowestNextAt I a x2.1 y (x2.2 + (-1)), x2.2 + (-1))) ((nI x), (fX1_distance I a x y))).1) C0 hr hlk hQ hS (by rw [← eF]) hM (Nat.le_refl _) (Nat.le_refl _) dX1_streamOfWalk_49
def fX1_pairsAmong (I : hm_I) (a : Nat) (u : Int32) : Int32 :=
  (lp 8 (fun i1 x2 => if fX3_isIn u (nI i1) = true then x2 + (fJ6_bitCount_0f7a4 ((I (a + 2) i1) &&& u)) else x2) (nI 0))
set_option maxHeartbeats 4000000 in
set_option maxRecDepth 100000 in
theorem ctX1_pairsAmong {l : Launch} {D : va_G} {T : Nat → ClassId} {L : List Nat} {A : Nat → Prop} {Sh : hm_S} {I : hm_I} {J : hm_J} {a : Nat} (hO : IsO L Sh a) {u : Int32} :
    Ct l yX1_pairsAmong wsX1_pairsAmong { frames := 1, cells := 0, slots := 0, locals := 21 } 0 0 D T A [.ref a, .int u] (hm D T L A Sh I J) (some (.int (fX1_pairsAmong I a u))) (hm D T L A Sh I J) := by
  refine Ct.ofW (cc := cX1_pairsAmong) (maxL := 4) (ret := (some .int)) (by decide) rfl (Nat.le_of_ble_eq_true rfl) ?_
  intro p_ e_ s_ m_ args_ below_ meth_ c_ ls R Qq hR hQ C0 hr hlk hname hM hl
  have hx := C0.1.1
  have hb := C0.1.2.1
  have hS : va_S A s_.heap s_.heap [] := va_S.rf
  have hl : lv_has ls 4 [(0, .ref a), (1, .int u)] := hl
  refine lv_iconst (v := nI 0) hx hb dX1_pairsAmong_0 (by decide) ?_
  refine lv_istore_n (lv' := [(2, .int (nI 0)), (0, .ref a), (1, .int u)]) hx hb dX1_pairsAmong_1 rfl hl (by decide) rfl (fun ls hl => ?_)
  refine lv_iconst (v := nI 0) hx hb dX1_pairsAmong_2 (by decide) ?_
  refine lv_istore_n (lv' := [(3, .int (nI 0)), (2, .int (nI 0)), (0, .ref a), (1, .int u)]) hx hb dX1_pairsAmong_3 rfl hl (by decide) rfl (fun ls hl => ?_)
  refine lp_loop (σ := Int32) (fun i1 x2 => ∀ (H : Heap) (locs : List Loc) (ls : Array Slot), hm D T L A Sh I J H → va_S A s_.heap H locs → lv_has ls 4 [(0, .ref a), (1, .int u), (2, .int x2), (3, .int (nI i1))] → W p_ l e_ R s_ m_ args_ below_ meth_ c_ H locs 0 0 Qq (F0 m_ 4 ls [])) 8 (fun i1 x2 => if fX3_isIn u (nI i1) = true then x2 + (fJ6_bitCount_0f7a4 ((I (a + 2) i1) &&& u)) else x2) (nI 0) (fun _ _ => True) trivial (fun _ _ _ _ => trivial) (fun i1 x2 hi3 hv4 k5 H locs ls hM hS hl => ?_) (fun hv4 H locs ls hM hS hl => ?_) _ _ _ hM hS (lv_sub hl [2, 3, 1, 0] rfl)
  · have stp6 : ∀ yy_ : Int32, yy_ = (if fX3_isIn u (nI i1) = true then x2 + (fJ6_bitCount_0f7a4 ((I (a + 2) i1) &&& u)) else x2) → ∀ (H : Heap) (locs : List Loc) (ls : Array Slot), hm D T L A Sh I J H → va_S A s_.heap H locs → lv_has ls 4 [(0, .ref a), (1, .int u), (2, .int yy_), (3, .int (nI (i1 + 1)))] → W p_ l e_ R s_ m_ args_ below_ meth_ c_ H locs 0 0 Qq (F0 m_ 4 ls []) := fun yy_ ey => by subst ey; exact k5
    refine lv_iload_n hx hb dX1_pairsAmong_4 rfl (lv_at hl 3 rfl) ?_
    refine lv_bipush (v := nI 8) hx hb dX1_pairsAmong_5 (by decide) ?_
    refine mr_geN (x := i1) (y := 8) (tgt := 38) C0 dX1_pairsAmong_7 (by decide) (by omega) (by omega) (fun c7 => absurd c7 (by omega)) (fun c7 => ?_)
    refine lv_iload_n hx hb dX1_pairsAmong_10 rfl (lv_at hl 1 rfl) ?_
    refine lv_iload_n hx hb dX1_pairsAmong_11 rfl (lv_at hl 3 rfl) ?_
    refine mr_callSN (As := [.int u, .int (nI i1)]) C0 (ctX3_isIn (I := I) (J := J) (u0 := u) (s0 := (nI i1)) ) (va_cnB (own := RX1) (index := 22) 2 C0.1.2.2.2.2 ggX1_pairsAmong_X3_isIn rfl rfl rfl C0.2.2.2.1 (C0.1.2.2.2.2 _ (List.mem_of_getElem? (i := 3) rfl)) (by decide +kernel) (by rw [hR]; exact ⟨Nat.le_of_ble_eq_true rfl, Nat.le_of_ble_eq_true rfl⟩)) (C0.1.2.2.2.2 _ (List.mem_of_getElem? (i := 2) rfl)) hM hS rfl rfl rfl hl.1 (Nat.le_of_ble_eq_true rfl) dX1_pairsAmong_12 (by rw [hR]; exact ⟨Nat.zero_le _, Nat.zero_le _⟩) (fun H locs hM hS => ?_)
    refine mr_eqB (tgt := 32) C0 dX1_pairsAmong_15 (by decide) (fun c8 => ?_) (fun c8 => ?_)
    · skip
      refine lv_iinc (v := nI (i1 + 1)) (lv' := [(3, .int (nI (i1 + 1))), (0, .ref a), (1, .int u), (2, .int x2)]) hx hb dX1_pairsAmong_32 hl (k := 3) rfl (nI_1 _) (by decide) rfl (fun ls hl => ?_)
      refine lv_goto (tgt := 4) hx hb dX1_pairsAmong_35 (by decide) ?_
      exact stp6 x2 (by rw [if_neg (Bool.eq_false_iff.mp c8)]) H locs ls hM hS (lv_sub hl [1, 2, 3, 0] rfl)
    · skip
      refine lv_iload_n hx hb dX1_pairsAmong_18 rfl (lv_at hl 2 rfl) ?_
      refine lv_aload_n hx hb dX1_pairsAmong_19 rfl (lv_at hl 0 rfl) ?_
      refine mr_getr (r := a + 2) (TT := TX1) (N := 2) C0 uX1_pairsAmong_X1 hM hO.1.1 hO.1.2 rfl 1 (by decide) rfl kX1_pairsAmong_f15 rfl dX1_pairsAmong_20 ?_
      refine lv_iload_n hx hb dX1_pairsAmong_23 rfl (lv_at hl 3 rfl) ?_
      refine mr_ialdN (v := I (a + 2) i1) C0 hM hO.2.2.1 hO.2.2.2 (by decide) (by omega) rfl dX1_pairsAmong_24 ?_
      refine lv_iload_n hx hb dX1_pairsAmong_25 rfl (lv_at hl 1 rfl) ?_
      refine lv_iand hx hb dX1_pairsAmong_26 ?_
      refine mr_callS (As := [.int ((I (a + 2) i1) &&& u)]) C0 (ctJ6_bitCount_0f7a4 (I := I) (J := J) (u0 := ((I (a + 2) i1) &&& u)) ) (va_cwS 1 C0.1.2.2.2.2 gX1_pairsAmong_J6_bitCount_0f7a4 rfl rfl rfl (by decide +kernel) (by rw [hR]; exact ⟨Nat.le_of_ble_eq_true rfl, Nat.le_of_ble_eq_true rfl⟩)) hM hS rfl rfl rfl hl.1 (Nat.le_of_ble_eq_true rfl) dX1_pairsAmong_27 (by rw [hR]; exact ⟨Nat.zero_le _, Nat.zero_le _⟩) (fun H locs hM hS => ?_)
      refine lv_iadd hx hb dX1_pairsAmong_30 ?_
      refine lv_istore_n (lv' := [(2, .int (x2 + (fJ6_bitCount_0f7a4 ((I (a + 2) i1) &&& u)))), (0, .ref a), (1, .int u), (3, .int (nI i1))]) hx hb dX1_pairsAmong_31 rfl hl (by decide) rfl (fun ls hl => ?_)
      refine lv_iinc (v := nI (i1 + 1)) (lv' := [(3, .int (nI (i1 + 1))), (2, .int (x2 + (fJ6_bitCount_0f7a4 ((I (a + 2) i1) &&& u)))), (0, .ref a), (1, .int u)]) hx hb dX1_pairsAmong_32 hl (k := 3) rfl (nI_1 _) (by decide) rfl (fun ls hl => ?_)
      refine lv_goto (tgt := 4) hx hb dX1_pairsAmong_35 (by decide) ?_
      exact stp6 (x2 + (fJ6_bitCount_0f7a4 ((I (a + 2) i1) &&& u))) (by rw [if_pos c8]) H locs ls hM hS (lv_sub hl [2, 3, 1, 0] rfl)
  · skip
    refine lv_iload_n hx hb dX1_pairsAmong_4 rfl (lv_at hl 3 rfl) ?_
    refine lv_bipush (v := nI 8) hx hb dX1_pairsAmong_5 (by decide) ?_
    refine mr_geN (x := 8) (y := 8) (tgt := 38) C0 dX1_pairsAmong_7 (by decide) (by decide) (by decide) (fun _ => ?_) (fun c9 => absurd c9 (by decide))
    refine lv_iload_n hx hb dX1_pairsAmong_38 rfl (lv_at hl 2 rfl) ?_
    have eF : (lp 8 (fun i1 x2 => if fX3_isIn u (nI i1) = true then x2 + (fJ6_bitCount_0f7a4 ((I (a + 2) i1) &&& u)) else x2) (nI 0)) = fX1_pairsAmong I a u := rfl
    exact mr_iret (v := (lp 8 (fun i1 x2 => if fX3_isIn u (nI i1) = true then x2 + (fJ6_bitCount_0f7a4 ((I (a + 2) i1) &&& u)) else x2) (nI 0))) C0 hr hlk hQ hS (by rw [← eF]) hM (Nat.le_refl _) (Nat.le_refl _) dX1_pairsAmong_39
def fX1_firstOf (I : hm_I) (a : Nat) (u : Int32) : Int32 :=
  (lp 8 (fun i1 x2 => if fX3_isIn u (nI i1) = true then x2 &&& ((I (a + 2) i1) ^^^ (-1)) else x2) u)
set_option maxHeartbeats 4000000 in
set_option maxRecDepth 100000 in
theorem ctX1_firstOf {l : Launch} {D : va_G} {T : Nat → ClassId} {L : List Nat} {A : Nat → Prop} {Sh : hm_S} {I : hm_I} {J : hm_J} {a : Nat} (hO : IsO L Sh a) {u : Int32} :
    Ct l yX1_firstOf wsX1_firstOf { frames := 1, cells := 0, slots := 0, locals := 21 } 0 0 D T A [.ref a, .int u] (hm D T L A Sh I J) (some (.int (fX1_firstOf I a u))) (hm D T L A Sh I J) := by
  refine Ct.ofW (cc := cX1_firstOf) (maxL := 4) (ret := (some .int)) (by decide) rfl (Nat.le_of_ble_eq_true rfl) ?_
  intro p_ e_ s_ m_ args_ below_ meth_ c_ ls R Qq hR hQ C0 hr hlk hname hM hl
  have hx := C0.1.1
  have hb := C0.1.2.1
  have hS : va_S A s_.heap s_.heap [] := va_S.rf
  have hl : lv_has ls 4 [(0, .ref a), (1, .int u)] := hl
  refine lv_iload_n hx hb dX1_firstOf_0 rfl (lv_at hl 1 rfl) ?_
  refine lv_istore_n (lv' := [(2, .int u), (0, .ref a), (1, .int u)]) hx hb dX1_firstOf_1 rfl hl (by decide) rfl (fun ls hl => ?_)
  refine lv_iconst (v := nI 0) hx hb dX1_firstOf_2 (by decide) ?_
  refine lv_istore_n (lv' := [(3, .int (nI 0)), (2, .int u), (0, .ref a), (1, .int u)]) hx hb dX1_firstOf_3 rfl hl (by decide) rfl (fun ls hl => ?_)
  refine lp_loop (σ := Int32) (fun i1 x2 => ∀ (H : Heap) (locs : List Loc) (ls : Array Slot), hm D T L A Sh I J H → va_S A s_.heap H locs → lv_has ls 4 [(0, .ref a), (1, .int u), (2, .int x2), (3, .int (nI i1))] → W p_ l e_ R s_ m_ args_ below_ meth_ c_ H locs 0 0 Qq (F0 m_ 4 ls [])) 8 (fun i1 x2 => if fX3_isIn u (nI i1) = true then x2 &&& ((I (a + 2) i1) ^^^ (-1)) else x2) u (fun _ _ => True) trivial (fun _ _ _ _ => trivial) (fun i1 x2 hi3 hv4 k5 H locs ls hM hS hl => ?_) (fun hv4 H locs ls hM hS hl => ?_) _ _ _ hM hS (lv_sub hl [2, 3, 1, 0] rfl)
  · have stp6 : ∀ yy_ : Int32, yy_ = (if fX3_isIn u (nI i1) = true then x2 &&& ((I (a + 2) i1) ^^^ (-1)) else x2) → ∀ (H : Heap) (locs : List Loc) (ls : Array Slot), hm D T L A Sh I J H → va_S A s_.heap H locs → lv_has ls 4 [(0, .ref a), (1, .int u), (2, .int yy_), (3, .int (nI (i1 + 1)))] → W p_ l e_ R s_ m_ args_ below_ meth_ c_ H locs 0 0 Qq (F0 m_ 4 ls []) := fun yy_ ey => by subst ey; exact k5
    refine lv_iload_n hx hb dX1_firstOf_4 rfl (lv_at hl 3 rfl) ?_
    refine lv_bipush (v := nI 8) hx hb dX1_firstOf_5 (by decide) ?_
    refine mr_geN (x := i1) (y := 8) (tgt := 35) C0 dX1_firstOf_7 (by decide) (by omega) (by omega) (fun c7 => absurd c7 (by omega)) (fun c7 => ?_)
    refine lv_iload_n hx hb dX1_firstOf_10 rfl (lv_at hl 1 rfl) ?_
    refine lv_iload_n hx hb dX1_firstOf_11 rfl (lv_at hl 3 rfl) ?_
    refine mr_callSN (As := [.int u, .int (nI i1)]) C0 (ctX3_isIn (I := I) (J := J) (u0 := u) (s0 := (nI i1)) ) (va_cnB (own := RX1) (index := 22) 2 C0.1.2.2.2.2 ggX1_firstOf_X3_isIn rfl rfl rfl C0.2.2.2.1 (C0.1.2.2.2.2 _ (List.mem_of_getElem? (i := 3) rfl)) (by decide +kernel) (by rw [hR]; exact ⟨Nat.le_of_ble_eq_true rfl, Nat.le_of_ble_eq_true rfl⟩)) (C0.1.2.2.2.2 _ (List.mem_of_getElem? (i := 2) rfl)) hM hS rfl rfl rfl hl.1 (Nat.le_of_ble_eq_true rfl) dX1_firstOf_12 (by rw [hR]; exact ⟨Nat.zero_le _, Nat.zero_le _⟩) (fun H locs hM hS => ?_)
    refine mr_eqB (tgt := 29) C0 dX1_firstOf_15 (by decide) (fun c8 => ?_) (fun c8 => ?_)
    · skip
      refine lv_iinc (v := nI (i1 + 1)) (lv' := [(3, .int (nI (i1 + 1))), (0, .ref a), (1, .int u), (2, .int x2)]) hx hb dX1_firstOf_29 hl (k := 3) rfl (nI_1 _) (by decide) rfl (fun ls hl => ?_)
      refine lv_goto (tgt := 4) hx hb dX1_firstOf_32 (by decide) ?_
      exact stp6 x2 (by rw [if_neg (Bool.eq_false_iff.mp c8)]) H locs ls hM hS (lv_sub hl [1, 2, 3, 0] rfl)
    · skip
      refine lv_iload_n hx hb dX1_firstOf_18 rfl (lv_at hl 2 rfl) ?_
      refine lv_aload_n hx hb dX1_firstOf_19 rfl (lv_at hl 0 rfl) ?_
      refine mr_getr (r := a + 2) (TT := TX1) (N := 2) C0 uX1_firstOf_X1 hM hO.1.1 hO.1.2 rfl 1 (by decide) rfl kX1_firstOf_f15 rfl dX1_firstOf_20 ?_
      refine lv_iload_n hx hb dX1_firstOf_23 rfl (lv_at hl 3 rfl) ?_
      refine mr_ialdN (v := I (a + 2) i1) C0 hM hO.2.2.1 hO.2.2.2 (by decide) (by omega) rfl dX1_firstOf_24 ?_
      refine lv_iconst (v := (-1)) hx hb dX1_firstOf_25 (by decide) ?_
      refine lv_ixor hx hb dX1_firstOf_26 ?_
      refine lv_iand hx hb dX1_firstOf_27 ?_
      refine lv_istore_n (lv' := [(2, .int (x2 &&& ((I (a + 2) i1) ^^^ (-1)))), (0, .ref a), (1, .int u), (3, .int (nI i1))]) hx hb dX1_firstOf_28 rfl hl (by decide) rfl (fun ls hl => ?_)
      refine lv_iinc (v := nI (i1 + 1)) (lv' := [(3, .int (nI (i1 + 1))), (2, .int (x2 &&& ((I (a + 2) i1) ^^^ (-1)))), (0, .ref a), (1, .int u)]) hx hb dX1_firstOf_29 hl (k := 3) rfl (nI_1 _) (by decide) rfl (fun ls hl => ?_)
      refine lv_goto (tgt := 4) hx hb dX1_firstOf_32 (by decide) ?_
      exact stp6 (x2 &&& ((I (a + 2) i1) ^^^ (-1))) (by rw [if_pos c8]) H locs ls hM hS (lv_sub hl [2, 3, 1, 0] rfl)
  · skip
    refine lv_iload_n hx hb dX1_firstOf_4 rfl (lv_at hl 3 rfl) ?_
    refine lv_bipush (v := nI 8) hx hb dX1_firstOf_5 (by decide) ?_
    refine mr_geN (x := 8) (y := 8) (tgt := 35) C0 dX1_firstOf_7 (by decide) (by decide) (by decide) (fun _ => ?_) (fun c9 => absurd c9 (by decide))
    refine lv_iload_n hx hb dX1_firstOf_35 rfl (lv_at hl 2 rfl) ?_
    have eF : (lp 8 (fun i1 x2 => if fX3_isIn u (nI i1) = true then x2 &&& ((I (a + 2) i1) ^^^ (-1)) else x2) u) = fX1_firstOf I a u := rfl
    exact mr_iret (v := (lp 8 (fun i1 x2 => if fX3_isIn u (nI i1) = true then x2 &&& ((I (a + 2) i1) ^^^ (-1)) else x2) u)) C0 hr hlk hQ hS (by rw [← eF]) hM (Nat.le_refl _) (Nat.le_refl _) dX1_firstOf_36
def fX1_longestChainAmong (I : hm_I) (a : Nat) (u : Int32) : Int32 :=
  lpr (fun (i1 : Nat) (x2 : Int32) => (if x2 = 0 then Sum.inl (nI i1) else Sum.inr (x2 &&& ((fX1_firstOf I a x2) ^^^ (-1))) : Int32 ⊕ (Int32))) (fun (x2 : Int32) => (if x2 = 0 then nI 8 else nI 8 : Int32)) 8 0 u
set_option maxHeartbeats 4000000 in
set_option maxRecDepth 100000 in
theorem ctX1_longestChainAmong {l : Launch} {D : va_G} {T : Nat → ClassId} {L : List Nat} {A : Nat → Prop} {Sh : hm_S} {I : hm_I} {J : hm_J} {a : Nat} (hO : IsO L Sh a) {u : Int32} :
    Ct l yX1_longestChainAmong wsX1_longestChainAmong { frames := 2, cells := 0, slots := 0, locals := 44 } 0 0 D T A [.ref a, .int u] (hm D T L A Sh I J) (some (.int (fX1_longestChainAmong I a u))) (hm D T L A Sh I J) := by
  refine Ct.ofW (cc := cX1_longestChainAmong) (maxL := 4) (ret := (some .int)) (by decide) rfl (Nat.le_of_ble_eq_true rfl) ?_
  intro p_ e_ s_ m_ args_ below_ meth_ c_ ls R Qq hR hQ C0 hr hlk hname hM hl
  have hx := C0.1.1
  have hb := C0.1.2.1
  have hS : va_S A s_.heap s_.heap [] := va_S.rf
  have hl : lv_has ls 4 [(0, .ref a), (1, .int u)] := hl
  refine lv_iload_n hx hb dX1_longestChainAmong_0 rfl (lv_at hl 1 rfl) ?_
  refine lv_istore_n (lv' := [(2, .int u), (0, .ref a), (1, .int u)]) hx hb dX1_longestChainAmong_1 rfl hl (by decide) rfl (fun ls hl => ?_)
  refine lv_iconst (v := nI 0) hx hb dX1_longestChainAmong_2 (by decide) ?_
  refine lv_istore_n (lv' := [(3, .int (nI 0)), (2, .int u), (0, .ref a), (1, .int u)]) hx hb dX1_longestChainAmong_3 rfl hl (by decide) rfl (fun ls hl => ?_)
  refine lpr_loop (σ := Int32) (ρ := Int32) (fun i1 x2 => ∀ (H : Heap) (locs : List Loc) (ls : Array Slot), hm D T L A Sh I J H → va_S A s_.heap H locs → lv_has ls 4 [(0, .ref a), (2, .int x2), (3, .int (nI i1))] → W p_ l e_ R s_ m_ args_ below_ meth_ c_ H locs 0 0 Qq (F0 m_ 4 ls [])) 8 (fun (i1 : Nat) (x2 : Int32) => (if x2 = 0 then Sum.inl (nI i1) else Sum.inr (x2 &&& ((fX1_firstOf I a x2) ^^^ (-1))) : Int32 ⊕ (Int32))) (fun (x2 : Int32) => (if x2 = 0 then nI 8 else nI 8 : Int32)) u (fun _ _ => True) trivial (fun _ _ _ _ _ _ => trivial) (fun i1 x2 hi3 hv4 kv5 k6 H locs ls hM hS hl => ?_) (fun x2 hv4 hd H locs ls hM hS hl => ?_) _ _ _ hM hS (lv_sub hl [2, 1, 0] rfl)
  · skip
    refine lv_iload_n hx hb dX1_longestChainAmong_4 rfl (lv_at hl 1 rfl) ?_
    refine lv_if_eq (tgt := 30) hx hb dX1_longestChainAmong_5 (by decide) (fun c7 => ?_) (fun c7 => ?_)
    · skip
      refine lv_iload_n hx hb dX1_longestChainAmong_30 rfl (lv_at hl 2 rfl) ?_
      have hf8 := kv5 (nI i1) (by rw [if_pos c7])
      have eF : nI i1 = fX1_longestChainAmong I a u := hf8
      exact mr_iret (v := nI i1) C0 hr hlk hQ hS (by rw [← eF]) hM (Nat.le_refl _) (Nat.le_refl _) dX1_longestChainAmong_31
    · skip
      refine lv_iload_n hx hb dX1_longestChainAmong_8 rfl (lv_at hl 2 rfl) ?_
      refine lv_bipush (v := nI 8) hx hb dX1_longestChainAmong_9 (by decide) ?_
      refine mr_geN (x := i1) (y := 8) (tgt := 30) C0 dX1_longestChainAmong_11 (by decide) (by omega) (by omega) (fun c9 => absurd c9 (by omega)) (fun c9 => ?_)
      refine lv_iload_n hx hb dX1_longestChainAmong_14 rfl (lv_at hl 1 rfl) ?_
      refine lv_aload_n hx hb dX1_longestChainAmong_15 rfl (lv_at hl 0 rfl) ?_
      refine lv_iload_n hx hb dX1_longestChainAmong_16 rfl (lv_at hl 1 rfl) ?_
      refine mr_callV (As := [.int x2]) C0 (ctX1_firstOf (I := I) (J := J) (a := a) (u := x2) hO) (cwV 1 C0.1.2.2.2.2 gX1_longestChainAmong_X1_firstOf rfl rfl rfl (by decide +kernel) (by rw [hR]; exact ⟨Nat.le_of_ble_eq_true rfl, Nat.le_of_ble_eq_true rfl⟩)) hM hO.1.1 hO.1.2 rfl rfl hM hS rfl rfl rfl hl.1 (Nat.le_of_ble_eq_true rfl) dX1_longestChainAmong_17 (by rw [hR]; exact ⟨Nat.zero_le _, Nat.zero_le _⟩) (fun H locs hM hS => ?_)
      refine lv_iconst (v := (-1)) hx hb dX1_longestChainAmong_20 (by decide) ?_
      refine lv_ixor hx hb dX1_longestChainAmong_21 ?_
      refine lv_iand hx hb dX1_longestChainAmong_22 ?_
      refine lv_istore_n (lv' := [(2, .int (x2 &&& ((fX1_firstOf I a x2) ^^^ (-1)))), (0, .ref a), (3, .int (nI i1))]) hx hb dX1_longestChainAmong_23 rfl hl (by decide) rfl (fun ls hl => ?_)
      refine lv_iinc (v := nI (i1 + 1)) (lv' := [(3, .int (nI (i1 + 1))), (2, .int (x2 &&& ((fX1_firstOf I a x2) ^^^ (-1)))), (0, .ref a)]) hx hb dX1_longestChainAmong_24 hl (k := 2) rfl (nI_1 _) (by decide) rfl (fun ls hl => ?_)
      refine lv_goto (tgt := 4) hx hb dX1_longestChainAmong_27 (by decide) ?_
      exact k6 (x2 &&& ((fX1_firstOf I a x2) ^^^ (-1))) (by rw [if_neg c7]) H locs ls hM hS (lv_sub hl [2, 1, 0] rfl)
  · skip
    refine lv_iload_n hx hb dX1_longestChainAmong_4 rfl (lv_at hl 1 rfl) ?_
    refine lv_if_eq (tgt := 30) hx hb dX1_longestChainAmong_5 (by decide) (fun c10 => ?_) (fun c10 => ?_)
    · skip
      refine lv_iload_n hx hb dX1_longestChainAmong_30 rfl (lv_at hl 2 rfl) ?_
      have hf11 := Eq.trans (a := nI 8) (by rw [if_pos c10]) hd
      have eF : nI 8 = fX1_longestChainAmong I a u := hf11
      exact mr_iret (v := nI 8) C0 hr hlk hQ hS (by rw [← eF]) hM (Nat.le_refl _) (Nat.le_refl _) dX1_longestChainAmong_31
    · skip
      refine lv_iload_n hx hb dX1_longestChainAmong_8 rfl (lv_at hl 2 rfl) ?_
      refine lv_bipush (v := nI 8) hx hb dX1_longestChainAmong_9 (by decide) ?_
      refine mr_geN (x := 8) (y := 8) (tgt := 30) C0 dX1_longestChainAmong_11 (by decide) (by decide) (by decide) (fun _ => ?_) (fun c12 => absurd c12 (by decide))
      refine lv_iload_n hx hb dX1_longestChainAmong_30 rfl (lv_at hl 2 rfl) ?_
      have hf13 := Eq.trans (a := nI 8) (by rw [if_neg c10]) hd
      have eF : nI 8 = fX1_longestChainAmong I a u := hf13
      exact mr_iret (v := nI 8) C0 hr hlk hQ hS (by rw [← eF]) hM (Nat.le_refl _) (Nat.le_refl _) dX1_longestChainAmong_31
def fX1_widestChoiceAmong (I : hm_I) (a : Nat) (u : Int32) : Int32 :=
  (lp 256 (fun i1 x2 => if (nI i1) &&& (u ^^^ (-1)) = 0 then if fJ6_bitCount_0f7a4 (nI i1) ≤ x2 then x2 else if fX1_firstOf I a (nI i1) = nI i1 then fJ6_bitCount_0f7a4 (nI i1) else x2 else x2) (nI 0))
set_option maxHeartbeats 4000000 in
set_option maxRecDepth 100000 in
theorem ctX1_widestChoiceAmong {l : Launch} {D : va_G} {T : Nat → ClassId} {L : List Nat} {A : Nat → Prop} {Sh : hm_S} {I : hm_I} {J : hm_J} {a : Nat} (hO : IsO L Sh a) {u : Int32} :
    Ct l yX1_widestChoiceAmong wsX1_widestChoiceAmong { frames := 2, cells := 0, slots := 0, locals := 44 } 0 0 D T A [.ref a, .int u] (hm D T L A Sh I J) (some (.int (fX1_widestChoiceAmong I a u))) (hm D T L A Sh I J) := by
  refine Ct.ofW (cc := cX1_widestChoiceAmong) (maxL := 5) (ret := (some .int)) (by decide) rfl (Nat.le_of_ble_eq_true rfl) ?_
  intro p_ e_ s_ m_ args_ below_ meth_ c_ ls R Qq hR hQ C0 hr hlk hname hM hl
  have hx := C0.1.1
  have hb := C0.1.2.1
  have hS : va_S A s_.heap s_.heap [] := va_S.rf
  have hl : lv_has ls 5 [(0, .ref a), (1, .int u)] := hl
  refine lv_iconst (v := nI 0) hx hb dX1_widestChoiceAmong_0 (by decide) ?_
  refine lv_istore_n (lv' := [(2, .int (nI 0)), (0, .ref a), (1, .int u)]) hx hb dX1_widestChoiceAmong_1 rfl hl (by decide) rfl (fun ls hl => ?_)
  refine lv_iconst (v := nI 0) hx hb dX1_widestChoiceAmong_2 (by decide) ?_
  refine lv_istore_n (lv' := [(3, .int (nI 0)), (2, .int (nI 0)), (0, .ref a), (1, .int u)]) hx hb dX1_widestChoiceAmong_3 rfl hl (by decide) rfl (fun ls hl => ?_)
  refine lp_loop (σ := Int32) (fun i1 x2 => ∀ (H : Heap) (locs : List Loc) (ls : Array Slot), hm D T L A Sh I J H → va_S A s_.heap H locs → lv_has ls 5 [(0, .ref a), (1, .int u), (2, .int x2), (3, .int (nI i1))] → W p_ l e_ R s_ m_ args_ below_ meth_ c_ H locs 0 0 Qq (F0 m_ 4 ls [])) 256 (fun i1 x2 => if (nI i1) &&& (u ^^^ (-1)) = 0 then if fJ6_bitCount_0f7a4 (nI i1) ≤ x2 then x2 else if fX1_firstOf I a (nI i1) = nI i1 then fJ6_bitCount_0f7a4 (nI i1) else x2 else x2) (nI 0) (fun _ _ => True) trivial (fun _ _ _ _ => trivial) (fun i1 x2 hi3 hv4 k5 H locs ls hM hS hl => ?_) (fun hv4 H locs ls hM hS hl => ?_) _ _ _ hM hS (lv_sub hl [2, 3, 1, 0] rfl)
  · have stp6 : ∀ yy_ : Int32, yy_ = (if (nI i1) &&& (u ^^^ (-1)) = 0 then if fJ6_bitCount_0f7a4 (nI i1) ≤ x2 then x2 else if fX1_firstOf I a (nI i1) = nI i1 then fJ6_bitCount_0f7a4 (nI i1) else x2 else x2) → ∀ (H : Heap) (locs : List Loc) (ls : Array Slot), hm D T L A Sh I J H → va_S A s_.heap H locs → lv_has ls 5 [(0, .ref a), (1, .int u), (2, .int yy_), (3, .int (nI (i1 + 1)))] → W p_ l e_ R s_ m_ args_ below_ meth_ c_ H locs 0 0 Qq (F0 m_ 4 ls []) := fun yy_ ey => by subst ey; exact k5
    refine lv_iload_n hx hb dX1_widestChoiceAmong_4 rfl (lv_at hl 3 rfl) ?_
    refine lv_sipush (v := nI 256) hx hb dX1_widestChoiceAmong_5 (by decide) ?_
    refine mr_geN (x := i1) (y := 256) (tgt := 49) C0 dX1_widestChoiceAmong_8 (by decide) (by omega) (by omega) (fun c7 => absurd c7 (by omega)) (fun c7 => ?_)
    refine lv_iload_n hx hb dX1_widestChoiceAmong_11 rfl (lv_at hl 3 rfl) ?_
    refine mr_callS (As := [.int (nI i1)]) C0 (ctJ6_bitCount_0f7a4 (I := I) (J := J) (u0 := (nI i1)) ) (va_cwS 1 C0.1.2.2.2.2 gX1_widestChoiceAmong_J6_bitCount_0f7a4 rfl rfl rfl (by decide +kernel) (by rw [hR]; exact ⟨Nat.le_of_ble_eq_true rfl, Nat.le_of_ble_eq_true rfl⟩)) hM hS rfl rfl rfl hl.1 (Nat.le_of_ble_eq_true rfl) dX1_widestChoiceAmong_12 (by rw [hR]; exact ⟨Nat.zero_le _, Nat.zero_le _⟩) (fun H locs hM hS => ?_)
    refine lv_istore (lv' := [(4, .int (fJ6_bitCount_0f7a4 (nI i1))), (0, .ref a), (1, .int u), (2, .int x2), (3, .int (nI i1))]) hx hb dX1_widestChoiceAmong_15 hl (by decide) rfl (fun ls hl => ?_)
    refine lv_iload_n hx hb dX1_widestChoiceAmong_17 rfl (lv_at hl 4 rfl) ?_
    refine lv_iload_n hx hb dX1_widestChoiceAmong_18 rfl (lv_at hl 2 rfl) ?_
    refine lv_iconst (v := (-1)) hx hb dX1_widestChoiceAmong_19 (by decide) ?_
    refine lv_ixor hx hb dX1_widestChoiceAmong_20 ?_
    refine lv_iand hx hb dX1_widestChoiceAmong_21 ?_
    refine lv_if_ne (tgt := 43) hx hb dX1_widestChoiceAmong_22 (by decide) (fun c8 => ?_) (fun c8 => ?_)
    · skip
      refine lv_iinc (v := nI (i1 + 1)) (lv' := [(3, .int (nI (i1 + 1))), (4, .int (fJ6_bitCount_0f7a4 (nI i1))), (0, .ref a), (1, .int u), (2, .int x2)]) hx hb dX1_widestChoiceAmong_43 hl (k := 4) rfl (nI_1 _) (by decide) rfl (fun ls hl => ?_)
      refine lv_goto (tgt := 4) hx hb dX1_widestChoiceAmong_46 (by decide) ?_
      exact stp6 x2 (by rw [if_neg c8]) H locs ls hM hS (lv_sub hl [2, 3, 4, 0] rfl)
    · skip
      refine lv_iload hx hb dX1_widestChoiceAmong_25 (lv_at hl 0 rfl) ?_
      refine lv_iload_n hx hb dX1_widestChoiceAmong_27 rfl (lv_at hl 3 rfl) ?_
      refine lv_icmp_le (tgt := 43) hx hb dX1_widestChoiceAmong_28 (by decide) (fun c9 => ?_) (fun c9 => ?_)
      · skip
        refine lv_iinc (v := nI (i1 + 1)) (lv' := [(3, .int (nI (i1 + 1))), (4, .int (fJ6_bitCount_0f7a4 (nI i1))), (0, .ref a), (1, .int u), (2, .int x2)]) hx hb dX1_widestChoiceAmong_43 hl (k := 4) rfl (nI_1 _) (by decide) rfl (fun ls hl => ?_)
        refine lv_goto (tgt := 4) hx hb dX1_widestChoiceAmong_46 (by decide) ?_
        exact stp6 x2 (by rw [if_pos c8, if_pos c9]) H locs ls hM hS (lv_sub hl [2, 3, 4, 0] rfl)
      · skip
        refine lv_aload_n hx hb dX1_widestChoiceAmong_31 rfl (lv_at hl 1 rfl) ?_
        refine lv_iload_n hx hb dX1_widestChoiceAmong_32 rfl (lv_at hl 4 rfl) ?_
        refine mr_callV (As := [.int (nI i1)]) C0 (ctX1_firstOf (I := I) (J := J) (a := a) (u := (nI i1)) hO) (cwV 1 C0.1.2.2.2.2 gX1_widestChoiceAmong_X1_firstOf rfl rfl rfl (by decide +kernel) (by rw [hR]; exact ⟨Nat.le_of_ble_eq_true rfl, Nat.le_of_ble_eq_true rfl⟩)) hM hO.1.1 hO.1.2 rfl rfl hM hS rfl rfl rfl hl.1 (Nat.le_of_ble_eq_true rfl) dX1_widestChoiceAmong_33 (by rw [hR]; exact ⟨Nat.zero_le _, Nat.zero_le _⟩) (fun H locs hM hS => ?_)
        refine lv_iload_n hx hb dX1_widestChoiceAmong_36 rfl (lv_at hl 4 rfl) ?_
        refine lv_icmp_ne (tgt := 43) hx hb dX1_widestChoiceAmong_37 (by decide) (fun c10 => ?_) (fun c10 => ?_)
        · skip
          refine lv_iinc (v := nI (i1 + 1)) (lv' := [(3, .int (nI (i1 + 1))), (4, .int (fJ6_bitCount_0f7a4 (nI i1))), (0, .ref a), (1, .int u), (2, .int x2)]) hx hb dX1_widestChoiceAmong_43 hl (k := 4) rfl (nI_1 _) (by decide) rfl (fun ls hl => ?_)
          refine lv_goto (tgt := 4) hx hb dX1_widestChoiceAmong_46 (by decide) ?_
          exact stp6 x2 (by rw [if_pos c8, if_neg c9, if_neg c10]) H locs ls hM hS (lv_sub hl [2, 3, 4, 0] rfl)
        · skip
          refine lv_iload hx hb dX1_widestChoiceAmong_40 (lv_at hl 0 rfl) ?_
          refine lv_istore_n (lv' := [(2, .int (fJ6_bitCount_0f7a4 (nI i1))), (4, .int (fJ6_bitCount_0f7a4 (nI i1))), (0, .ref a), (1, .int u), (3, .int (nI i1))]) hx hb dX1_widestChoiceAmong_42 rfl hl (by decide) rfl (fun ls hl => ?_)
          refine lv_iinc (v := nI (i1 + 1)) (lv' := [(3, .int (nI (i1 + 1))), (2, .int (fJ6_bitCount_0f7a4 (nI i1))), (4, .int (fJ6_bitCount_0f7a4 (nI i1))), (0, .ref a), (1, .int u)]) hx hb dX1_widestChoiceAmong_43 hl (k := 4) rfl (nI_1 _) (by decide) rfl (fun ls hl => ?_)
          refine lv_goto (tgt := 4) hx hb dX1_widestChoiceAmong_46 (by decide) ?_
          exact stp6 (fJ6_bitCount_0f7a4 (nI i1)) (by rw [if_pos c8, if_neg c9, if_pos c10]) H locs ls hM hS (lv_sub hl [3, 4, 1, 0] rfl)
  · skip
    refine lv_iload_n hx hb dX1_widestChoiceAmong_4 rfl (lv_at hl 3 rfl) ?_
    refine lv_sipush (v := nI 256) hx hb dX1_widestChoiceAmong_5 (by decide) ?_
    refine mr_geN (x := 256) (y := 256) (tgt := 49) C0 dX1_widestChoiceAmong_8 (by decide) (by decide) (by decide) (fun _ => ?_) (fun c11 => absurd c11 (by decide))
    refine lv_iload_n hx hb dX1_widestChoiceAmong_49 rfl (lv_at hl 2 rfl) ?_
    have eF : (lp 256 (fun i1 x2 => if (nI i1) &&& (u ^^^ (-1)) = 0 then if fJ6_bitCount_0f7a4 (nI i1) ≤ x2 then x2 else if fX1_firstOf I a (nI i1) = nI i1 then fJ6_bitCount_0f7a4 (nI i1) else x2 else x2) (nI 0)) = fX1_widestChoiceAmong I a u := rfl
    exact mr_iret (v := (lp 256 (fun i1 x2 => if (nI i1) &&& (u ^^^ (-1)) = 0 then if fJ6_bitCount_0f7a4 (nI i1) ≤ x2 then x2 else if fX1_firstOf I a (nI i1) = nI i1 then fJ6_bitCount_0f7a4 (nI i1) else x2 else x2) (nI 0))) C0 hr hlk hQ hS (by rw [← eF]) hM (Nat.le_refl _) (Nat.le_refl _) dX1_widestChoiceAmong_50
def fX1_isPrecededByNextOf (I : hm_I) (a x y : Nat) : Bool :=
  lpr (fun (i1 : Nat) (x2 : Unit) => (if fX1_hasEdge_t I a x i1 = true then if fX1_precedes_t I a i1 y = true then Sum.inl true else Sum.inr () else Sum.inr () : Bool ⊕ (Unit))) (fun (x2 : Unit) => (false : Bool)) 8 0 ()
set_option maxHeartbeats 4000000 in
set_option maxRecDepth 100000 in
theorem ctX1_isPrecededByNextOf {l : Launch} {D : va_G} {T : Nat → ClassId} {L : List Nat} {A : Nat → Prop} {Sh : hm_S} {I : hm_I} {J : hm_J} {a : Nat} (hO : IsO L Sh a) {x y : Nat} (hx0 : x < 8) :
    Ct l yX1_isPrecededByNextOf wsX1_isPrecededByNextOf { frames := 2, cells := 0, slots := 0, locals := 43 } 0 0 D T A [.ref a, .int (nI x), .int (nI y)] (hm D T L A Sh I J) (some (.int (bI (fX1_isPrecededByNextOf I a x y)))) (hm D T L A Sh I J) := by
  refine Ct.ofW (cc := cX1_isPrecededByNextOf) (maxL := 4) (ret := (some .boolean)) (by decide) rfl (Nat.le_of_ble_eq_true rfl) ?_
  intro p_ e_ s_ m_ args_ below_ meth_ c_ ls R Qq hR hQ C0 hr hlk hname hM hl
  have hx := C0.1.1
  have hb := C0.1.2.1
  have hS : va_S A s_.heap s_.heap [] := va_S.rf
  have hl : lv_has ls 4 [(0, .ref a), (1, .int (nI x)), (2, .int (nI y))] := hl
  refine lv_iconst (v := nI 0) hx hb dX1_isPrecededByNextOf_0 (by decide) ?_
  refine lv_istore_n (lv' := [(3, .int (nI 0)), (0, .ref a), (1, .int (nI x)), (2, .int (nI y))]) hx hb dX1_isPrecededByNextOf_1 rfl hl (by decide) rfl (fun ls hl => ?_)
  refine lpr_loop (σ := Unit) (ρ := Bool) (fun i1 x2 => ∀ (H : Heap) (locs : List Loc) (ls : Array Slot), hm D T L A Sh I J H → va_S A s_.heap H locs → lv_has ls 4 [(0, .ref a), (1, .int (nI x)), (2, .int (nI y)), (3, .int (nI i1))] → W p_ l e_ R s_ m_ args_ below_ meth_ c_ H locs 0 0 Qq (F0 m_ 2 ls [])) 8 (fun (i1 : Nat) (x2 : Unit) => (if fX1_hasEdge_t I a x i1 = true then if fX1_precedes_t I a i1 y = true then Sum.inl true else Sum.inr () else Sum.inr () : Bool ⊕ (Unit))) (fun (x2 : Unit) => (false : Bool)) () (fun _ _ => True) trivial (fun _ _ _ _ _ _ => trivial) (fun i1 x2 hi3 hv4 kv5 k6 H locs ls hM hS hl => ?_) (fun x2 hv4 hd H locs ls hM hS hl => ?_) _ _ _ hM hS (lv_sub hl [1, 2, 3, 0] rfl)
  · skip
    refine lv_iload_n hx hb dX1_isPrecededByNextOf_2 rfl (lv_at hl 3 rfl) ?_
    refine lv_bipush (v := nI 8) hx hb dX1_isPrecededByNextOf_3 (by decide) ?_
    refine mr_geN (x := i1) (y := 8) (tgt := 34) C0 dX1_isPrecededByNextOf_5 (by decide) (by omega) (by omega) (fun c7 => absurd c7 (by omega)) (fun c7 => ?_)
    refine lv_aload_n hx hb dX1_isPrecededByNextOf_8 rfl (lv_at hl 0 rfl) ?_
    refine lv_iload_n hx hb dX1_isPrecededByNextOf_9 rfl (lv_at hl 1 rfl) ?_
    refine lv_iload_n hx hb dX1_isPrecededByNextOf_10 rfl (lv_at hl 3 rfl) ?_
    refine mr_callV (As := [.int (nI x), .int (nI i1)]) C0 (ctX1_hasEdge_t (I := I) (J := J) (a := a) (x := x) (y := i1) hO (by omega)) (cwV 2 C0.1.2.2.2.2 gX1_isPrecededByNextOf_X1_hasEdge rfl rfl rfl (by decide +kernel) (by rw [hR]; exact ⟨Nat.le_of_ble_eq_true rfl, Nat.le_of_ble_eq_true rfl⟩)) hM hO.1.1 hO.1.2 rfl rfl hM hS rfl rfl rfl hl.1 (Nat.le_of_ble_eq_true rfl) dX1_isPrecededByNextOf_11 (by rw [hR]; exact ⟨Nat.zero_le _, Nat.zero_le _⟩) (fun H locs hM hS => ?_)
    refine mr_eqB (tgt := 28) C0 dX1_isPrecededByNextOf_14 (by decide) (fun c8 => ?_) (fun c8 => ?_)
    · skip
      refine lv_iinc (v := nI (i1 + 1)) (lv' := [(3, .int (nI (i1 + 1))), (0, .ref a), (1, .int (nI x)), (2, .int (nI y))]) hx hb dX1_isPrecededByNextOf_28 hl (k := 3) rfl (nI_1 _) (by decide) rfl (fun ls hl => ?_)
      refine lv_goto (tgt := 2) hx hb dX1_isPrecededByNextOf_31 (by decide) ?_
      exact k6 () (by rw [if_neg (Bool.eq_false_iff.mp c8)]) H locs ls hM hS (lv_sub hl [1, 2, 3, 0] rfl)
    · skip
      refine lv_aload_n hx hb dX1_isPrecededByNextOf_17 rfl (lv_at hl 0 rfl) ?_
      refine lv_iload_n hx hb dX1_isPrecededByNextOf_18 rfl (lv_at hl 3 rfl) ?_
      refine lv_iload_n hx hb dX1_isPrecededByNextOf_19 rfl (lv_at hl 2 rfl) ?_
      refine mr_callV (As := [.int (nI i1), .int (nI y)]) C0 (ctX1_precedes_t (I := I) (J := J) (a := a) (x := i1) (y := y) hO (by omega)) (cwV 2 C0.1.2.2.2.2 gX1_isPrecededByNextOf_X1_precedes rfl rfl rfl (by decide +kernel) (by rw [hR]; exact ⟨Nat.le_of_ble_eq_true rfl, Nat.le_of_ble_eq_true rfl⟩)) hM hO.1.1 hO.1.2 rfl rfl hM hS rfl rfl rfl hl.1 (Nat.le_of_ble_eq_true rfl) dX1_isPrecededByNextOf_20 (by rw [hR]; exact ⟨Nat.zero_le _, Nat.zero_le _⟩) (fun H locs hM hS => ?_)
      refine mr_eqB (tgt := 28) C0 dX1_isPrecededByNextOf_23 (by decide) (fun c9 => ?_) (fun c9 => ?_)
      · skip
        refine lv_iinc (v := nI (i1 + 1)) (lv' := [(3, .int (nI (i1 + 1))), (0, .ref a), (1, .int (nI x)), (2, .int (nI y))]) hx hb dX1_isPrecededByNextOf_28 hl (k := 3) rfl (nI_1 _) (by decide) rfl (fun ls hl => ?_)
        refine lv_goto (tgt := 2) hx hb dX1_isPrecededByNextOf_31 (by decide) ?_
        exact k6 () (by rw [if_pos c8, if_neg (Bool.eq_false_iff.mp c9)]) H locs ls hM hS (lv_sub hl [1, 2, 3, 0] rfl)
      · skip
        refine lv_iconst (v := nI 1) hx hb dX1_isPrecededByNextOf_26 (by decide) ?_
        have hf10 := kv5 true (by rw [if_pos c8, if_pos c9])
        refine mr_top (y := bI true) (by decide) ?_
        have eF : true = fX1_isPrecededByNextOf I a x y := hf10
        exact mr_zret (b := true) C0 hr hlk hQ hS (by rw [← eF]) hM (Nat.le_refl _) (Nat.le_refl _) dX1_isPrecededByNextOf_27
  · skip
    refine lv_iload_n hx hb dX1_isPrecededByNextOf_2 rfl (lv_at hl 3 rfl) ?_
    refine lv_bipush (v := nI 8) hx hb dX1_isPrecededByNextOf_3 (by decide) ?_
    refine mr_geN (x := 8) (y := 8) (tgt := 34) C0 dX1_isPrecededByNextOf_5 (by decide) (by decide) (by decide) (fun _ => ?_) (fun c11 => absurd c11 (by decide))
    refine lv_iconst (v := nI 0) hx hb dX1_isPrecededByNextOf_34 (by decide) ?_
    have hf12 := Eq.trans (a := false) rfl hd
    refine mr_top (y := bI false) (by decide) ?_
    have eF : false = fX1_isPrecededByNextOf I a x y := hf12
    exact mr_zret (b := false) C0 hr hlk hQ hS (by rw [← eF]) hM (Nat.le_refl _) (Nat.le_refl _) dX1_isPrecededByNextOf_35
def fX1_needlessEdges (I : hm_I) (a : Nat) : Int32 :=
  (lp 8 (fun i1 x2 => (lp 8 (fun i8 x9 => if fX1_hasEdge_t I a i1 i8 = true then if fX1_isPrecededByNextOf I a i1 i8 = true then x9 + 1 else x9 else x9) x2)) (nI 0))
set_option maxHeartbeats 4000000 in
set_option maxRecDepth 100000 in
theorem ctX1_needlessEdges {l : Launch} {D : va_G} {T : Nat → ClassId} {L : List Nat} {A : Nat → Prop} {Sh : hm_S} {I : hm_I} {J : hm_J} {a : Nat} (hO : IsO L Sh a) :
    Ct l yX1_needlessEdges wsX1_needlessEdges { frames := 3, cells := 0, slots := 0, locals := 66 } 0 0 D T A [.ref a] (hm D T L A Sh I J) (some (.int (fX1_needlessEdges I a))) (hm D T L A Sh I J) := by
  refine Ct.ofW (cc := cX1_needlessEdges) (maxL := 4) (ret := (some .int)) (by decide) rfl (Nat.le_of_ble_eq_true rfl) ?_
  intro p_ e_ s_ m_ args_ below_ meth_ c_ ls R Qq hR hQ C0 hr hlk hname hM hl
  have hx := C0.1.1
  have hb := C0.1.2.1
  have hS : va_S A s_.heap s_.heap [] := va_S.rf
  have hl : lv_has ls 4 [(0, .ref a)] := hl
  refine lv_iconst (v := nI 0) hx hb dX1_needlessEdges_0 (by decide) ?_
  refine lv_istore_n (lv' := [(1, .int (nI 0)), (0, .ref a)]) hx hb dX1_needlessEdges_1 rfl hl (by decide) rfl (fun ls hl => ?_)
  refine lv_iconst (v := nI 0) hx hb dX1_needlessEdges_2 (by decide) ?_
  refine lv_istore_n (lv' := [(2, .int (nI 0)), (1, .int (nI 0)), (0, .ref a)]) hx hb dX1_needlessEdges_3 rfl hl (by decide) rfl (fun ls hl => ?_)
  refine lp_loop (σ := Int32) (fun i1 x2 => ∀ (H : Heap) (locs : List Loc) (ls : Array Slot), hm D T L A Sh I J H → va_S A s_.heap H locs → lv_has ls 4 [(0, .ref a), (1, .int x2), (2, .int (nI i1))] → W p_ l e_ R s_ m_ args_ below_ meth_ c_ H locs 0 0 Qq (F0 m_ 4 ls [])) 8 (fun i1 x2 => (lp 8 (fun i8 x9 => if fX1_hasEdge_t I a i1 i8 = true then if fX1_isPrecededByNextOf I a i1 i8 = true then x9 + 1 else x9 else x9) x2)) (nI 0) (fun _ _ => True) trivial (fun _ _ _ _ => trivial) (fun i1 x2 hi3 hv4 k5 H locs ls hM hS hl => ?_) (fun hv4 H locs ls hM hS hl => ?_) _ _ _ hM hS (lv_sub hl [2, 1, 0] rfl)
  · have stp6 : ∀ yy_ : Int32, yy_ = ((lp 8 (fun i8 x9 => if fX1_hasEdge_t I a i1 i8 = true then if fX1_isPrecededByNextOf I a i1 i8 = true then x9 + 1 else x9 else x9) x2)) → ∀ (H : Heap) (locs : List Loc) (ls : Array Slot), hm D T L A Sh I J H → va_S A s_.heap H locs → lv_has ls 4 [(0, .ref a), (1, .int yy_), (2, .int (nI (i1 + 1)))] → W p_ l e_ R s_ m_ args_ below_ meth_ c_ H locs 0 0 Qq (F0 m_ 4 ls []) := fun yy_ ey => by subst ey; exact k5
    refine lv_iload_n hx hb dX1_needlessEdges_4 rfl (lv_at hl 2 rfl) ?_
    refine lv_bipush (v := nI 8) hx hb dX1_needlessEdges_5 (by decide) ?_
    refine mr_geN (x := i1) (y := 8) (tgt := 51) C0 dX1_needlessEdges_7 (by decide) (by omega) (by omega) (fun c7 => absurd c7 (by omega)) (fun c7 => ?_)
    refine lv_iconst (v := nI 0) hx hb dX1_needlessEdges_10 (by decide) ?_
    refine lv_istore_n (lv' := [(3, .int (nI 0)), (0, .ref a), (1, .int x2), (2, .int (nI i1))]) hx hb dX1_needlessEdges_11 rfl hl (by decide) rfl (fun ls hl => ?_)
    refine lp_loop (σ := Int32) (fun i8 x9 => ∀ (H : Heap) (locs : List Loc) (ls : Array Slot), hm D T L A Sh I J H → va_S A s_.heap H locs → lv_has ls 4 [(0, .ref a), (1, .int x9), (2, .int (nI i1)), (3, .int (nI i8))] → W p_ l e_ R s_ m_ args_ below_ meth_ c_ H locs 0 0 Qq (F0 m_ 12 ls [])) 8 (fun i8 x9 => if fX1_hasEdge_t I a i1 i8 = true then if fX1_isPrecededByNextOf I a i1 i8 = true then x9 + 1 else x9 else x9) x2 (fun _ _ => True) trivial (fun _ _ _ _ => trivial) (fun i8 x9 hi10 hv11 k12 H locs ls hM hS hl => ?_) (fun hv11 H locs ls hM hS hl => ?_) _ _ _ hM hS (lv_sub hl [1, 2, 3, 0] rfl)
    · have stp13 : ∀ yy_ : Int32, yy_ = (if fX1_hasEdge_t I a i1 i8 = true then if fX1_isPrecededByNextOf I a i1 i8 = true then x9 + 1 else x9 else x9) → ∀ (H : Heap) (locs : List Loc) (ls : Array Slot), hm D T L A Sh I J H → va_S A s_.heap H locs → lv_has ls 4 [(0, .ref a), (1, .int yy_), (2, .int (nI i1)), (3, .int (nI (i8 + 1)))] → W p_ l e_ R s_ m_ args_ below_ meth_ c_ H locs 0 0 Qq (F0 m_ 12 ls []) := fun yy_ ey => by subst ey; exact k12
      refine lv_iload_n hx hb dX1_needlessEdges_12 rfl (lv_at hl 3 rfl) ?_
      refine lv_bipush (v := nI 8) hx hb dX1_needlessEdges_13 (by decide) ?_
      refine mr_geN (x := i8) (y := 8) (tgt := 45) C0 dX1_needlessEdges_15 (by decide) (by omega) (by omega) (fun c14 => absurd c14 (by omega)) (fun c14 => ?_)
      refine lv_aload_n hx hb dX1_needlessEdges_18 rfl (lv_at hl 0 rfl) ?_
      refine lv_iload_n hx hb dX1_needlessEdges_19 rfl (lv_at hl 2 rfl) ?_
      refine lv_iload_n hx hb dX1_needlessEdges_20 rfl (lv_at hl 3 rfl) ?_
      refine mr_callV (As := [.int (nI i1), .int (nI i8)]) C0 (ctX1_hasEdge_t (I := I) (J := J) (a := a) (x := i1) (y := i8) hO (by omega)) (cwV 2 C0.1.2.2.2.2 gX1_needlessEdges_X1_hasEdge rfl rfl rfl (by decide +kernel) (by rw [hR]; exact ⟨Nat.le_of_ble_eq_true rfl, Nat.le_of_ble_eq_true rfl⟩)) hM hO.1.1 hO.1.2 rfl rfl hM hS rfl rfl rfl hl.1 (Nat.le_of_ble_eq_true rfl) dX1_needlessEdges_21 (by rw [hR]; exact ⟨Nat.zero_le _, Nat.zero_le _⟩) (fun H locs hM hS => ?_)
      refine mr_eqB (tgt := 39) C0 dX1_needlessEdges_24 (by decide) (fun c15 => ?_) (fun c15 => ?_)
      · skip
        refine lv_iinc (v := nI (i8 + 1)) (lv' := [(3, .int (nI (i8 + 1))), (0, .ref a), (1, .int x9), (2, .int (nI i1))]) hx hb dX1_needlessEdges_39 hl (k := 3) rfl (nI_1 _) (by decide) rfl (fun ls hl => ?_)
        refine lv_goto (tgt := 12) hx hb dX1_needlessEdges_42 (by decide) ?_
        exact stp13 x9 (by rw [if_neg (Bool.eq_false_iff.mp c15)]) H locs ls hM hS (lv_sub hl [1, 2, 3, 0] rfl)
      · skip
        refine lv_aload_n hx hb dX1_needlessEdges_27 rfl (lv_at hl 0 rfl) ?_
        refine lv_iload_n hx hb dX1_needlessEdges_28 rfl (lv_at hl 2 rfl) ?_
        refine lv_iload_n hx hb dX1_needlessEdges_29 rfl (lv_at hl 3 rfl) ?_
        refine mr_callV (As := [.int (nI i1), .int (nI i8)]) C0 (ctX1_isPrecededByNextOf (I := I) (J := J) (a := a) (x := i1) (y := i8) hO (by omega)) (cwV 2 C0.1.2.2.2.2 gX1_needlessEdges_X1_isPrecededByNextOf rfl rfl rfl (by decide +kernel) (by rw [hR]; exact ⟨Nat.le_of_ble_eq_true rfl, Nat.le_of_ble_eq_true rfl⟩)) hM hO.1.1 hO.1.2 rfl rfl hM hS rfl rfl rfl hl.1 (Nat.le_of_ble_eq_true rfl) dX1_needlessEdges_30 (by rw [hR]; exact ⟨Nat.zero_le _, Nat.zero_le _⟩) (fun H locs hM hS => ?_)
        refine mr_eqB (tgt := 39) C0 dX1_needlessEdges_33 (by decide) (fun c16 => ?_) (fun c16 => ?_)
        · skip
          refine lv_iinc (v := nI (i8 + 1)) (lv' := [(3, .int (nI (i8 + 1))), (0, .ref a), (1, .int x9), (2, .int (nI i1))]) hx hb dX1_needlessEdges_39 hl (k := 3) rfl (nI_1 _) (by decide) rfl (fun ls hl => ?_)
          refine lv_goto (tgt := 12) hx hb dX1_needlessEdges_42 (by decide) ?_
          exact stp13 x9 (by rw [if_pos c15, if_neg (Bool.eq_false_iff.mp c16)]) H locs ls hM hS (lv_sub hl [1, 2, 3, 0] rfl)
        · skip
          refine lv_iinc (v := x9 + 1) (lv' := [(1, .int (x9 + 1)), (0, .ref a), (2, .int (nI i1)), (3, .int (nI i8))]) hx hb dX1_needlessEdges_36 hl (k := 1) rfl rfl (by decide) rfl (fun ls hl => ?_)
          refine lv_iinc (v := nI (i8 + 1)) (lv' := [(3, .int (nI (i8 + 1))), (1, .int (x9 + 1)), (0, .ref a), (2, .int (nI i1))]) hx hb dX1_needlessEdges_39 hl (k := 3) rfl (nI_1 _) (by decide) rfl (fun ls hl => ?_)
          refine lv_goto (tgt := 12) hx hb dX1_needlessEdges_42 (by decide) ?_
          exact stp13 (x9 + 1) (by rw [if_pos c15, if_pos c16]) H locs ls hM hS (lv_sub hl [2, 1, 3, 0] rfl)
    · skip
      refine lv_iload_n hx hb dX1_needlessEdges_12 rfl (lv_at hl 3 rfl) ?_
      refine lv_bipush (v := nI 8) hx hb dX1_needlessEdges_13 (by decide) ?_
      refine mr_geN (x := 8) (y := 8) (tgt := 45) C0 dX1_needlessEdges_15 (by decide) (by decide) (by decide) (fun _ => ?_) (fun c17 => absurd c17 (by decide))
      refine lv_iinc (v := nI (i1 + 1)) (lv' := [(2, .int (nI (i1 + 1))), (0, .ref a), (1, .int (lp 8 (fun i8 x9 => if fX1_hasEdge_t I a i1 i8 = true then if fX1_isPrecededByNextOf I a i1 i8 = true then x9 + 1 else x9 else x9) x2)), (3, .int (nI 8))]) hx hb dX1_needlessEdges_45 hl (k := 2) rfl (nI_1 _) (by decide) rfl (fun ls hl => ?_)
      refine lv_goto (tgt := 4) hx hb dX1_needlessEdges_48 (by decide) ?_
      exact stp6 (lp 8 (fun i8 x9 => if fX1_hasEdge_t I a i1 i8 = true then if fX1_isPrecededByNextOf I a i1 i8 = true then x9 + 1 else x9 else x9) x2) rfl H locs ls hM hS (lv_sub hl [1, 2, 0] rfl)
  · skip
    refine lv_iload_n hx hb dX1_needlessEdges_4 rfl (lv_at hl 2 rfl) ?_
    refine lv_bipush (v := nI 8) hx hb dX1_needlessEdges_5 (by decide) ?_
    refine mr_geN (x := 8) (y := 8) (tgt := 51) C0 dX1_needlessEdges_7 (by decide) (by decide) (by decide) (fun _ => ?_) (fun c18 => absurd c18 (by decide))
    refine lv_iload_n hx hb dX1_needlessEdges_51 rfl (lv_at hl 1 rfl) ?_
    have eF : (lp 8 (fun i1 x2 => (lp 8 (fun i8 x9 => if fX1_hasEdge_t I a i1 i8 = true then if fX1_isPrecededByNextOf I a i1 i8 = true then x9 + 1 else x9 else x9) x2)) (nI 0)) = fX1_needlessEdges I a := rfl
    exact mr_iret (v := (lp 8 (fun i1 x2 => (lp 8 (fun i8 x9 => if fX1_hasEdge_t I a i1 i8 = true then if fX1_isPrecededByNextOf I a i1 i8 = true then x9 + 1 else x9 else x9) x2)) (nI 0))) C0 hr hlk hQ hS (by rw [← eF]) hM (Nat.le_refl _) (Nat.le_refl _) dX1_needlessEdges_52
theorem clr_lt {u : Nat} (hu : u < 256) (z : Int32) : ((nI u &&& z).toNatClampNeg) < 256 ∧ (nI u &&& z) = nI (nI u &&& z).toNatClampNeg := by
  have e : (nI u &&& z) = nI (u &&& z.toBitVec.toNat) := by
    apply Int32.toBitVec_inj.mp
    apply BitVec.eq_of_toNat_eq
    have h1 : (nI u).toBitVec.toNat = u := pk_tn (by omega)
    have h2 : u &&& z.toBitVec.toNat ≤ u := Nat.and_le_left
    rw [Int32.toBitVec_and, BitVec.toNat_and, h1, pk_tn (by omega)]
  have h2 : u &&& z.toBitVec.toNat ≤ u := Nat.and_le_left
  rw [e, nI_clamp (by omega)]
  exact ⟨by omega, rfl⟩
def fX1_listsByLast (I : hm_I) (J : hm_J) (a u ja : Nat) : Int64 :=
  (lp 8 (fun i1 x2 => if fX3_isIn (nI u) (nI i1) = true then if (I (a + 2) i1) &&& (nI u) = 0 then x2 + (J ja (((nI u) &&& ((fX3_setOf (nI i1)) ^^^ (-1))).toNatClampNeg)) else x2 else x2) 0)
set_option maxHeartbeats 4000000 in
set_option maxRecDepth 100000 in
theorem ctX1_listsByLast {l : Launch} {D : va_G} {T : Nat → ClassId} {L : List Nat} {A : Nat → Prop} {Sh : hm_S} {I : hm_I} {J : hm_J} {a : Nat} (hO : IsO L Sh a) {u : Nat} (hu : u < 256) {ja : Nat} (hJ : ja ∈ L ∧ Sh ja = kJ 256) :
    Ct l yX1_listsByLast wsX1_listsByLast { frames := 1, cells := 0, slots := 0, locals := 21 } 0 0 D T A [.ref a, .int (nI u), .ref ja] (hm D T L A Sh I J) (some (.long (fX1_listsByLast I J a u ja))) (hm D T L A Sh I J) := by
  refine Ct.ofW (cc := cX1_listsByLast) (maxL := 6) (ret := (some .long)) (by decide) rfl (Nat.le_of_ble_eq_true rfl) ?_
  intro p_ e_ s_ m_ args_ below_ meth_ c_ ls R Qq hR hQ C0 hr hlk hname hM hl
  have hx := C0.1.1
  have hb := C0.1.2.1
  have hS : va_S A s_.heap s_.heap [] := va_S.rf
  have hl : lv_has ls 6 [(0, .ref a), (1, .int (nI u)), (2, .ref ja)] := hl
  refine lv_lconst (v := 0) hx hb dX1_listsByLast_0 (by decide) ?_
  refine lv_lstore_n (lv' := [(3, .long 0), (0, .ref a), (1, .int (nI u)), (2, .ref ja)]) hx hb dX1_listsByLast_1 rfl hl (by decide) rfl (fun ls hl => ?_)
  refine lv_iconst (v := nI 0) hx hb dX1_listsByLast_2 (by decide) ?_
  refine lv_istore (lv' := [(5, .int (nI 0)), (3, .long 0), (0, .ref a), (1, .int (nI u)), (2, .ref ja)]) hx hb dX1_listsByLast_3 hl (by decide) rfl (fun ls hl => ?_)
  refine lp_loop (σ := Int64) (fun i1 x2 => ∀ (H : Heap) (locs : List Loc) (ls : Array Slot), hm D T L A Sh I J H → va_S A s_.heap H locs → lv_has ls 6 [(0, .ref a), (1, .int (nI u)), (2, .ref ja), (3, .long x2), (5, .int (nI i1))] → W p_ l e_ R s_ m_ args_ below_ meth_ c_ H locs 0 0 Qq (F0 m_ 5 ls [])) 8 (fun i1 x2 => if fX3_isIn (nI u) (nI i1) = true then if (I (a + 2) i1) &&& (nI u) = 0 then x2 + (J ja (((nI u) &&& ((fX3_setOf (nI i1)) ^^^ (-1))).toNatClampNeg)) else x2 else x2) 0 (fun _ _ => True) trivial (fun _ _ _ _ => trivial) (fun i1 x2 hi3 hv4 k5 H locs ls hM hS hl => ?_) (fun hv4 H locs ls hM hS hl => ?_) _ _ _ hM hS (lv_sub hl [2, 3, 4, 1, 0] rfl)
  · have stp6 : ∀ yy_ : Int64, yy_ = (if fX3_isIn (nI u) (nI i1) = true then if (I (a + 2) i1) &&& (nI u) = 0 then x2 + (J ja (((nI u) &&& ((fX3_setOf (nI i1)) ^^^ (-1))).toNatClampNeg)) else x2 else x2) → ∀ (H : Heap) (locs : List Loc) (ls : Array Slot), hm D T L A Sh I J H → va_S A s_.heap H locs → lv_has ls 6 [(0, .ref a), (1, .int (nI u)), (2, .ref ja), (3, .long yy_), (5, .int (nI (i1 + 1)))] → W p_ l e_ R s_ m_ args_ below_ meth_ c_ H locs 0 0 Qq (F0 m_ 5 ls []) := fun yy_ ey => by subst ey; exact k5
    refine lv_iload hx hb dX1_listsByLast_5 (lv_at hl 4 rfl) ?_
    refine lv_bipush (v := nI 8) hx hb dX1_listsByLast_7 (by decide) ?_
    refine mr_geN (x := i1) (y := 8) (tgt := 53) C0 dX1_listsByLast_9 (by decide) (by omega) (by omega) (fun c7 => absurd c7 (by omega)) (fun c7 => ?_)
    refine lv_iload_n hx hb dX1_listsByLast_12 rfl (lv_at hl 1 rfl) ?_
    refine lv_iload hx hb dX1_listsByLast_13 (lv_at hl 4 rfl) ?_
    refine mr_callSN (As := [.int (nI u), .int (nI i1)]) C0 (ctX3_isIn (I := I) (J := J) (u0 := (nI u)) (s0 := (nI i1)) ) (va_cnB (own := RX1) (index := 22) 2 C0.1.2.2.2.2 ggX1_listsByLast_X3_isIn rfl rfl rfl C0.2.2.2.1 (C0.1.2.2.2.2 _ (List.mem_of_getElem? (i := 3) rfl)) (by decide +kernel) (by rw [hR]; exact ⟨Nat.le_of_ble_eq_true rfl, Nat.le_of_ble_eq_true rfl⟩)) (C0.1.2.2.2.2 _ (List.mem_of_getElem? (i := 2) rfl)) hM hS rfl rfl rfl hl.1 (Nat.le_of_ble_eq_true rfl) dX1_listsByLast_15 (by rw [hR]; exact ⟨Nat.zero_le _, Nat.zero_le _⟩) (fun H locs hM hS => ?_)
    refine mr_eqB (tgt := 47) C0 dX1_listsByLast_18 (by decide) (fun c8 => ?_) (fun c8 => ?_)
    · skip
      refine lv_iinc (v := nI (i1 + 1)) (lv' := [(5, .int (nI (i1 + 1))), (0, .ref a), (1, .int (nI u)), (2, .ref ja), (3, .long x2)]) hx hb dX1_listsByLast_47 hl (k := 4) rfl (nI_1 _) (by decide) rfl (fun ls hl => ?_)
      refine lv_goto (tgt := 5) hx hb dX1_listsByLast_50 (by decide) ?_
      exact stp6 x2 (by rw [if_neg (Bool.eq_false_iff.mp c8)]) H locs ls hM hS (lv_sub hl [1, 2, 3, 4, 0] rfl)
    · skip
      refine lv_aload_n hx hb dX1_listsByLast_21 rfl (lv_at hl 0 rfl) ?_
      refine mr_getr (r := a + 2) (TT := TX1) (N := 2) C0 uX1_listsByLast_X1 hM hO.1.1 hO.1.2 rfl 1 (by decide) rfl kX1_listsByLast_f15 rfl dX1_listsByLast_22 ?_
      refine lv_iload hx hb dX1_listsByLast_25 (lv_at hl 4 rfl) ?_
      refine mr_ialdN (v := I (a + 2) i1) C0 hM hO.2.2.1 hO.2.2.2 (by decide) (by omega) rfl dX1_listsByLast_27 ?_
      refine lv_iload_n hx hb dX1_listsByLast_28 rfl (lv_at hl 1 rfl) ?_
      refine lv_iand hx hb dX1_listsByLast_29 ?_
      refine lv_if_ne (tgt := 47) hx hb dX1_listsByLast_30 (by decide) (fun c9 => ?_) (fun c9 => ?_)
      · skip
        refine lv_iinc (v := nI (i1 + 1)) (lv' := [(5, .int (nI (i1 + 1))), (0, .ref a), (1, .int (nI u)), (2, .ref ja), (3, .long x2)]) hx hb dX1_listsByLast_47 hl (k := 4) rfl (nI_1 _) (by decide) rfl (fun ls hl => ?_)
        refine lv_goto (tgt := 5) hx hb dX1_listsByLast_50 (by decide) ?_
        exact stp6 x2 (by rw [if_pos c8, if_neg c9]) H locs ls hM hS (lv_sub hl [1, 2, 3, 4, 0] rfl)
      · skip
        refine lv_lload_n hx hb dX1_listsByLast_33 rfl (lv_at hl 3 rfl) ?_
        refine lv_aload_n hx hb dX1_listsByLast_34 rfl (lv_at hl 2 rfl) ?_
        refine lv_iload_n hx hb dX1_listsByLast_35 rfl (lv_at hl 1 rfl) ?_
        refine lv_iload hx hb dX1_listsByLast_36 (lv_at hl 4 rfl) ?_
        refine mr_callSN (As := [.int (nI i1)]) C0 (ctX3_setOf (I := I) (J := J) (s0 := (nI i1)) ) (va_cnB (own := RX1) (index := 29) 1 C0.1.2.2.2.2 ggX1_listsByLast_X3_setOf rfl rfl rfl C0.2.2.2.2.2.1 (C0.1.2.2.2.2 _ (List.mem_of_getElem? (i := 3) rfl)) (by decide +kernel) (by rw [hR]; exact ⟨Nat.le_of_ble_eq_true rfl, Nat.le_of_ble_eq_true rfl⟩)) (C0.1.2.2.2.2 _ (List.mem_of_getElem? (i := 5) rfl)) hM hS rfl rfl rfl hl.1 (Nat.le_of_ble_eq_true rfl) dX1_listsByLast_38 (by rw [hR]; exact ⟨Nat.zero_le _, Nat.zero_le _⟩) (fun H locs hM hS => ?_)
        refine lv_iconst (v := (-1)) hx hb dX1_listsByLast_41 (by decide) ?_
        refine lv_ixor hx hb dX1_listsByLast_42 ?_
        refine lv_iand hx hb dX1_listsByLast_43 ?_
        have hw10 := clr_lt (u := u) (by omega) ((fX3_setOf (nI i1)) ^^^ (-1))
        refine mr_top (y := nI (((nI u) &&& ((fX3_setOf (nI i1)) ^^^ (-1))).toNatClampNeg)) hw10.2 ?_
        refine mr_laldN (v := J ja (((nI u) &&& ((fX3_setOf (nI i1)) ^^^ (-1))).toNatClampNeg)) C0 hM hJ.1 hJ.2 (by decide) (by omega) rfl dX1_listsByLast_44 ?_
        refine lv_ladd hx hb dX1_listsByLast_45 ?_
        refine lv_lstore_n (lv' := [(3, .long (x2 + (J ja (((nI u) &&& ((fX3_setOf (nI i1)) ^^^ (-1))).toNatClampNeg)))), (0, .ref a), (1, .int (nI u)), (2, .ref ja), (5, .int (nI i1))]) hx hb dX1_listsByLast_46 rfl hl (by decide) rfl (fun ls hl => ?_)
        refine lv_iinc (v := nI (i1 + 1)) (lv' := [(5, .int (nI (i1 + 1))), (3, .long (x2 + (J ja (((nI u) &&& ((fX3_setOf (nI i1)) ^^^ (-1))).toNatClampNeg)))), (0, .ref a), (1, .int (nI u)), (2, .ref ja)]) hx hb dX1_listsByLast_47 hl (k := 4) rfl (nI_1 _) (by decide) rfl (fun ls hl => ?_)
        refine lv_goto (tgt := 5) hx hb dX1_listsByLast_50 (by decide) ?_
        exact stp6 (x2 + (J ja (((nI u) &&& ((fX3_setOf (nI i1)) ^^^ (-1))).toNatClampNeg))) (by rw [if_pos c8, if_pos c9]) H locs ls hM hS (lv_sub hl [2, 3, 4, 1, 0] rfl)
  · skip
    refine lv_iload hx hb dX1_listsByLast_5 (lv_at hl 4 rfl) ?_
    refine lv_bipush (v := nI 8) hx hb dX1_listsByLast_7 (by decide) ?_
    refine mr_geN (x := 8) (y := 8) (tgt := 53) C0 dX1_listsByLast_9 (by decide) (by decide) (by decide) (fun _ => ?_) (fun c11 => absurd c11 (by decide))
    refine lv_lload_n hx hb dX1_listsByLast_53 rfl (lv_at hl 3 rfl) ?_
    have eF : (lp 8 (fun i1 x2 => if fX3_isIn (nI u) (nI i1) = true then if (I (a + 2) i1) &&& (nI u) = 0 then x2 + (J ja (((nI u) &&& ((fX3_setOf (nI i1)) ^^^ (-1))).toNatClampNeg)) else x2 else x2) 0) = fX1_listsByLast I J a u ja := rfl
    exact mr_lret (v := (lp 8 (fun i1 x2 => if fX3_isIn (nI u) (nI i1) = true then if (I (a + 2) i1) &&& (nI u) = 0 then x2 + (J ja (((nI u) &&& ((fX3_setOf (nI i1)) ^^^ (-1))).toNatClampNeg)) else x2 else x2) 0)) C0 hr hlk hQ hS (by rw [← eF]) hM (Nat.le_refl _) (Nat.le_refl _) dX1_listsByLast_54
def fX1_countLists (I : hm_I) (J : hm_J) (a u ja : Nat) : Int64 × hm_J :=
  ((lp u (fun i3 x4 => if (nI (i3 + 1)) &&& ((nI u) ^^^ (-1)) = 0 then hm_putJ x4 ja (i3 + 1) (fX1_listsByLast I x4 a (i3 + 1) ja) else hm_putJ x4 ja (i3 + 1) 0) (hm_putJ J ja 0 1)) ja u, (lp u (fun i3 x4 => if (nI (i3 + 1)) &&& ((nI u) ^^^ (-1)) = 0 then hm_putJ x4 ja (i3 + 1) (fX1_listsByLast I x4 a (i3 + 1) ja) else hm_putJ x4 ja (i3 + 1) 0) (hm_putJ J ja 0 1)))
set_option maxHeartbeats 4000000 in
set_option maxRecDepth 100000 in
theorem ctX1_countLists {l : Launch} {D : va_G} {T : Nat → ClassId} {L : List Nat} {A : Nat → Prop} {Sh : hm_S} {I : hm_I} {J : hm_J} {a : Nat} (hO : IsO L Sh a) {u : Nat} (hu : u < 256) {ja : Nat} (hJ : ja ∈ L ∧ Sh ja = kJ 256) :
    Ct l yX1_countLists wsX1_countLists { frames := 2, cells := 0, slots := 0, locals := 46 } 0 0 D T A [.ref a, .int (nI u), .ref ja] (hm D T L A Sh I J) (some (.long ((fX1_countLists I J a u ja).1))) (hm D T L A Sh I ((fX1_countLists I J a u ja).2)) := by
  refine Ct.ofW (cc := cX1_countLists) (maxL := 4) (ret := (some .long)) (by decide) rfl (Nat.le_of_ble_eq_true rfl) ?_
  intro p_ e_ s_ m_ args_ below_ meth_ c_ ls R Qq hR hQ C0 hr hlk hname hM hl
  have hx := C0.1.1
  have hb := C0.1.2.1
  have hS : va_S A s_.heap s_.heap [] := va_S.rf
  have hl : lv_has ls 4 [(0, .ref a), (1, .int (nI u)), (2, .ref ja)] := hl
  refine lv_iload_n hx hb dX1_countLists_0 rfl (lv_at hl 1 rfl) ?_
  refine lv_if_lt (tgt := 10) hx hb dX1_countLists_1 (by decide) (fun c1 => absurd c1 (nI_pos (by omega))) (fun c1 => ?_)
  refine lv_iload_n hx hb dX1_countLists_4 rfl (lv_at hl 1 rfl) ?_
  refine lv_aload_n hx hb dX1_countLists_5 rfl (lv_at hl 2 rfl) ?_
  refine mr_alenJ C0 hM hJ.1 hJ.2 dX1_countLists_6 ?_
  refine mr_ltN (x := u) (y := 256) (tgt := 12) C0 dX1_countLists_7 (by decide) (by omega) (by omega) (fun c2 => ?_) (fun c2 => absurd c2 (by omega))
  refine lv_aload_n hx hb dX1_countLists_12 rfl (lv_at hl 2 rfl) ?_
  refine lv_iconst (v := nI 0) hx hb dX1_countLists_13 (by decide) ?_
  refine lv_lconst (v := 1) hx hb dX1_countLists_14 (by decide) ?_
  refine mr_lastN C0 hM hS hJ.1 hJ.2 (by decide) (by decide) dX1_countLists_15 (fun H locs hM hS => ?_)
  refine lv_iconst (v := nI 1) hx hb dX1_countLists_16 (by decide) ?_
  refine lv_istore_n (lv' := [(3, .int (nI 1)), (0, .ref a), (1, .int (nI u)), (2, .ref ja)]) hx hb dX1_countLists_17 rfl hl (by decide) rfl (fun ls hl => ?_)
  refine lp_loop (σ := hm_J) (fun i3 x4 => ∀ (H : Heap) (locs : List Loc) (ls : Array Slot), hm D T L A Sh I x4 H → va_S A s_.heap H locs → lv_has ls 4 [(0, .ref a), (1, .int (nI u)), (2, .ref ja), (3, .int (nI (i3 + 1)))] → W p_ l e_ R s_ m_ args_ below_ meth_ c_ H locs 0 0 Qq (F0 m_ 18 ls [])) u (fun i3 x4 => if (nI (i3 + 1)) &&& ((nI u) ^^^ (-1)) = 0 then hm_putJ x4 ja (i3 + 1) (fX1_listsByLast I x4 a (i3 + 1) ja) else hm_putJ x4 ja (i3 + 1) 0) (hm_putJ J ja 0 1) (fun _ _ => True) trivial (fun _ _ _ _ => trivial) (fun i3 x4 hi5 hv6 k7 H locs ls hM hS hl => ?_) (fun hv6 H locs ls hM hS hl => ?_) _ _ _ hM hS (lv_sub hl [1, 2, 3, 0] rfl)
  · have stp8 : ∀ yy_ : hm_J, yy_ = (if (nI (i3 + 1)) &&& ((nI u) ^^^ (-1)) = 0 then hm_putJ x4 ja (i3 + 1) (fX1_listsByLast I x4 a (i3 + 1) ja) else hm_putJ x4 ja (i3 + 1) 0) → ∀ (H : Heap) (locs : List Loc) (ls : Array Slot), hm D T L A Sh I yy_ H → va_S A s_.heap H locs → lv_has ls 4 [(0, .ref a), (1, .int (nI u)), (2, .ref ja), (3, .int (nI ((i3 + 1) + 1)))] → W p_ l e_ R s_ m_ args_ below_ meth_ c_ H locs 0 0 Qq (F0 m_ 18 ls []) := fun yy_ ey => by subst ey; exact k7
    refine lv_iload_n hx hb dX1_countLists_18 rfl (lv_at hl 3 rfl) ?_
    refine lv_iload_n hx hb dX1_countLists_19 rfl (lv_at hl 1 rfl) ?_
    refine mr_gtN (x := i3 + 1) (y := u) (tgt := 50) C0 dX1_countLists_20 (by decide) (by omega) (by omega) (fun c9 => absurd c9 (by omega)) (fun c9 => ?_)
    refine lv_aload_n hx hb dX1_countLists_23 rfl (lv_at hl 2 rfl) ?_
    refine lv_iload_n hx hb dX1_countLists_24 rfl (lv_at hl 3 rfl) ?_
    refine lv_iload_n hx hb dX1_countLists_25 rfl (lv_at hl 3 rfl) ?_
    refine lv_iload_n hx hb dX1_countLists_26 rfl (lv_at hl 1 rfl) ?_
    refine lv_iconst (v := (-1)) hx hb dX1_countLists_27 (by decide) ?_
    refine lv_ixor hx hb dX1_countLists_28 ?_
    refine lv_iand hx hb dX1_countLists_29 ?_
    refine lv_if_ne (tgt := 42) hx hb dX1_countLists_30 (by decide) (fun c10 => ?_) (fun c10 => ?_)
    · skip
      refine lv_lconst (v := 0) hx hb dX1_countLists_42 (by decide) ?_
      refine mr_lastN C0 hM hS hJ.1 hJ.2 (by decide) (by omega) dX1_countLists_43 (fun H locs hM hS => ?_)
      refine lv_iinc (v := nI (i3 + 1 + 1)) (lv' := [(3, .int (nI (i3 + 1 + 1))), (0, .ref a), (1, .int (nI u)), (2, .ref ja)]) hx hb dX1_countLists_44 hl (k := 3) rfl (nI_1 _) (by decide) rfl (fun ls hl => ?_)
      refine lv_goto (tgt := 18) hx hb dX1_countLists_47 (by decide) ?_
      exact stp8 (hm_putJ x4 ja (i3 + 1) 0) (by rw [if_neg c10]) H locs ls hM hS (lv_sub hl [1, 2, 3, 0] rfl)
    · skip
      refine lv_aload_n hx hb dX1_countLists_33 rfl (lv_at hl 0 rfl) ?_
      refine lv_iload_n hx hb dX1_countLists_34 rfl (lv_at hl 3 rfl) ?_
      refine lv_aload_n hx hb dX1_countLists_35 rfl (lv_at hl 2 rfl) ?_
      refine mr_callV (As := [.int (nI (i3 + 1)), .ref ja]) C0 (ctX1_listsByLast (I := I) (J := x4) (a := a) (u := (i3 + 1)) (ja := ja) hO (by omega) ⟨hJ.1, hJ.2⟩) (cwV 2 C0.1.2.2.2.2 gX1_countLists_X1_listsByLast rfl rfl rfl (by decide +kernel) (by rw [hR]; exact ⟨Nat.le_of_ble_eq_true rfl, Nat.le_of_ble_eq_true rfl⟩)) hM hO.1.1 hO.1.2 rfl rfl hM hS rfl rfl rfl hl.1 (Nat.le_of_ble_eq_true rfl) dX1_countLists_36 (by rw [hR]; exact ⟨Nat.zero_le _, Nat.zero_le _⟩) (fun H locs hM hS => ?_)
      refine lv_goto (tgt := 43) hx hb dX1_countLists_39 (by decide) ?_
      refine mr_lastN C0 hM hS hJ.1 hJ.2 (by decide) (by omega) dX1_countLists_43 (fun H locs hM hS => ?_)
      refine lv_iinc (v := nI (i3 + 1 + 1)) (lv' := [(3, .int (nI (i3 + 1 + 1))), (0, .ref a), (1, .int (nI u)), (2, .ref ja)]) hx hb dX1_countLists_44 hl (k := 3) rfl (nI_1 _) (by decide) rfl (fun ls hl => ?_)
      refine lv_goto (tgt := 18) hx hb dX1_countLists_47 (by decide) ?_
      exact stp8 (hm_putJ x4 ja (i3 + 1) (fX1_listsByLast I x4 a (i3 + 1) ja)) (by rw [if_pos c10]) H locs ls hM hS (lv_sub hl [1, 2, 3, 0] rfl)
  · skip
    refine lv_iload_n hx hb dX1_countLists_18 rfl (lv_at hl 3 rfl) ?_
    refine lv_iload_n hx hb dX1_countLists_19 rfl (lv_at hl 1 rfl) ?_
    refine mr_gtN (x := u + 1) (y := u) (tgt := 50) C0 dX1_countLists_20 (by decide) (by omega) (by omega) (fun c11 => ?_) (fun c11 => absurd c11 (by omega))
    refine lv_aload_n hx hb dX1_countLists_50 rfl (lv_at hl 2 rfl) ?_
    refine lv_iload_n hx hb dX1_countLists_51 rfl (lv_at hl 1 rfl) ?_
    refine mr_laldN (v := (lp u (fun i3 x4 => if (nI (i3 + 1)) &&& ((nI u) ^^^ (-1)) = 0 then hm_putJ x4 ja (i3 + 1) (fX1_listsByLast I x4 a (i3 + 1) ja) else hm_putJ x4 ja (i3 + 1) 0) (hm_putJ J ja 0 1)) ja u) C0 hM hJ.1 hJ.2 (by decide) (by omega) rfl dX1_countLists_52 ?_
    have eF : ((lp u (fun i3 x4 => if (nI (i3 + 1)) &&& ((nI u) ^^^ (-1)) = 0 then hm_putJ x4 ja (i3 + 1) (fX1_listsByLast I x4 a (i3 + 1) ja) else hm_putJ x4 ja (i3 + 1) 0) (hm_putJ J ja 0 1)) ja u, (lp u (fun i3 x4 => if (nI (i3 + 1)) &&& ((nI u) ^^^ (-1)) = 0 then hm_putJ x4 ja (i3 + 1) (fX1_listsByLast I x4 a (i3 + 1) ja) else hm_putJ x4 ja (i3 + 1) 0) (hm_putJ J ja 0 1))) = fX1_countLists I J a u ja := rfl
    exact mr_lret (v := (lp u (fun i3 x4 => if (nI (i3 + 1)) &&& ((nI u) ^^^ (-1)) = 0 then hm_putJ x4 ja (i3 + 1) (fX1_listsByLast I x4 a (i3 + 1) ja) else hm_putJ x4 ja (i3 + 1) 0) (hm_putJ J ja 0 1)) ja u) C0 hr hlk hQ hS (by rw [← eF]) (by rw [← eF]; exact hM) (Nat.le_refl _) (Nat.le_refl _) dX1_countLists_53
end
section
theorem dX2_copyFrom_0 : decode cX2_copyFrom 0 = .ok (.aload_n 0, 1) := by decide +kernel
theorem dX2_copyFrom_1 : decode cX2_copyFrom 1 = .ok (.aload_n 1, 1) := by decide +kernel
theorem dX2_copyFrom_2 : decode cX2_copyFrom 2 = .ok (.getfield 9, 3) := by decide +kernel
theorem dX2_copyFrom_5 : decode cX2_copyFrom 5 = .ok (.putfield 9, 3) := by decide +kernel
theorem dX2_copyFrom_8 : decode cX2_copyFrom 8 = .ok (.iconst 0, 1) := by decide +kernel
theorem dX2_copyFrom_9 : decode cX2_copyFrom 9 = .ok (.istore_n 2, 1) := by decide +kernel
theorem dX2_copyFrom_10 : decode cX2_copyFrom 10 = .ok (.iload_n 2, 1) := by decide +kernel
theorem dX2_copyFrom_11 : decode cX2_copyFrom 11 = .ok (.bipush 8, 2) := by decide +kernel
theorem dX2_copyFrom_13 : decode cX2_copyFrom 13 = .ok (.if_icmp .ge 48, 3) := by decide +kernel
theorem dX2_copyFrom_16 : decode cX2_copyFrom 16 = .ok (.aload_n 0, 1) := by decide +kernel
theorem dX2_copyFrom_17 : decode cX2_copyFrom 17 = .ok (.getfield 15, 3) := by decide +kernel
theorem dX2_copyFrom_20 : decode cX2_copyFrom 20 = .ok (.iload_n 2, 1) := by decide +kernel
theorem dX2_copyFrom_21 : decode cX2_copyFrom 21 = .ok (.aload_n 1, 1) := by decide +kernel
theorem dX2_copyFrom_22 : decode cX2_copyFrom 22 = .ok (.getfield 15, 3) := by decide +kernel
theorem dX2_copyFrom_25 : decode cX2_copyFrom 25 = .ok (.iload_n 2, 1) := by decide +kernel
theorem dX2_copyFrom_26 : decode cX2_copyFrom 26 = .ok (.iaload, 1) := by decide +kernel
theorem dX2_copyFrom_27 : decode cX2_copyFrom 27 = .ok (.iastore, 1) := by decide +kernel
theorem dX2_copyFrom_28 : decode cX2_copyFrom 28 = .ok (.aload_n 0, 1) := by decide +kernel
theorem dX2_copyFrom_29 : decode cX2_copyFrom 29 = .ok (.getfield 19, 3) := by decide +kernel
theorem dX2_copyFrom_32 : decode cX2_copyFrom 32 = .ok (.iload_n 2, 1) := by decide +kernel
theorem dX2_copyFrom_33 : decode cX2_copyFrom 33 = .ok (.aload_n 1, 1) := by decide +kernel
theorem dX2_copyFrom_34 : decode cX2_copyFrom 34 = .ok (.getfield 19, 3) := by decide +kernel
theorem dX2_copyFrom_37 : decode cX2_copyFrom 37 = .ok (.iload_n 2, 1) := by decide +kernel
theorem dX2_copyFrom_38 : decode cX2_copyFrom 38 = .ok (.iaload, 1) := by decide +kernel
theorem dX2_copyFrom_39 : decode cX2_copyFrom 39 = .ok (.iastore, 1) := by decide +kernel
theorem dX2_copyFrom_40 : decode cX2_copyFrom 40 = .ok (.aload_n 0, 1) := by decide +kernel
theorem dX2_copyFrom_41 : decode cX2_copyFrom 41 = .ok (.getfield 24, 3) := by decide +kernel
theorem dX2_copyFrom_44 : decode cX2_copyFrom 44 = .ok (.iload_n 2, 1) := by decide +kernel
theorem dX2_copyFrom_45 : decode cX2_copyFrom 45 = .ok (.aaload, 1) := by decide +kernel
theorem dX2_copyFrom_46 : decode cX2_copyFrom 46 = .ok (.aload_n 1, 1) := by decide +kernel
theorem dX2_copyFrom_47 : decode cX2_copyFrom 47 = .ok (.getfield 24, 3) := by decide +kernel
theorem dX2_copyFrom_50 : decode cX2_copyFrom 50 = .ok (.iload_n 2, 1) := by decide +kernel
theorem dX2_copyFrom_51 : decode cX2_copyFrom 51 = .ok (.aaload, 1) := by decide +kernel
theorem dX2_copyFrom_52 : decode cX2_copyFrom 52 = .ok (.invokevirtual 55, 3) := by decide +kernel
theorem dX2_copyFrom_55 : decode cX2_copyFrom 55 = .ok (.iinc 2 1, 3) := by decide +kernel
theorem dX2_copyFrom_58 : decode cX2_copyFrom 58 = .ok (.goto (-48), 3) := by decide +kernel
theorem dX2_copyFrom_61 : decode cX2_copyFrom 61 = .ok (.aload_n 0, 1) := by decide +kernel
theorem dX2_copyFrom_62 : decode cX2_copyFrom 62 = .ok (.getfield 34, 3) := by decide +kernel
theorem dX2_copyFrom_65 : decode cX2_copyFrom 65 = .ok (.aload_n 1, 1) := by decide +kernel
theorem dX2_copyFrom_66 : decode cX2_copyFrom 66 = .ok (.getfield 34, 3) := by decide +kernel
theorem dX2_copyFrom_69 : decode cX2_copyFrom 69 = .ok (.invokevirtual 59, 3) := by decide +kernel
theorem dX2_copyFrom_72 : decode cX2_copyFrom 72 = .ok (.aload_n 0, 1) := by decide +kernel
theorem dX2_copyFrom_73 : decode cX2_copyFrom 73 = .ok (.aload_n 1, 1) := by decide +kernel
theorem dX2_copyFrom_74 : decode cX2_copyFrom 74 = .ok (.getfield 42, 3) := by decide +kernel
theorem dX2_copyFrom_77 : decode cX2_copyFrom 77 = .ok (.putfield 42, 3) := by decide +kernel
theorem dX2_copyFrom_80 : decode cX2_copyFrom 80 = .ok (.iconst 0, 1) := by decide +kernel
theorem dX2_copyFrom_81 : decode cX2_copyFrom 81 = .ok (.istore_n 2, 1) := by decide +kernel
theorem dX2_copyFrom_82 : decode cX2_copyFrom 82 = .ok (.iload_n 2, 1) := by decide +kernel
theorem dX2_copyFrom_83 : decode cX2_copyFrom 83 = .ok (.aload_n 0, 1) := by decide +kernel
theorem dX2_copyFrom_84 : decode cX2_copyFrom 84 = .ok (.getfield 42, 3) := by decide +kernel
theorem dX2_copyFrom_87 : decode cX2_copyFrom 87 = .ok (.if_icmp .ge 30, 3) := by decide +kernel
theorem dX2_copyFrom_90 : decode cX2_copyFrom 90 = .ok (.iload_n 2, 1) := by decide +kernel
theorem dX2_copyFrom_91 : decode cX2_copyFrom 91 = .ok (.bipush 10, 2) := by decide +kernel
theorem dX2_copyFrom_93 : decode cX2_copyFrom 93 = .ok (.if_icmp .ge 24, 3) := by decide +kernel
theorem dX2_copyFrom_96 : decode cX2_copyFrom 96 = .ok (.aload_n 0, 1) := by decide +kernel
theorem dX2_copyFrom_97 : decode cX2_copyFrom 97 = .ok (.getfield 38, 3) := by decide +kernel
theorem dX2_copyFrom_100 : decode cX2_copyFrom 100 = .ok (.iload_n 2, 1) := by decide +kernel
theorem dX2_copyFrom_101 : decode cX2_copyFrom 101 = .ok (.aaload, 1) := by decide +kernel
theorem dX2_copyFrom_102 : decode cX2_copyFrom 102 = .ok (.aload_n 1, 1) := by decide +kernel
theorem dX2_copyFrom_103 : decode cX2_copyFrom 103 = .ok (.getfield 38, 3) := by decide +kernel
theorem dX2_copyFrom_106 : decode cX2_copyFrom 106 = .ok (.iload_n 2, 1) := by decide +kernel
theorem dX2_copyFrom_107 : decode cX2_copyFrom 107 = .ok (.aaload, 1) := by decide +kernel
theorem dX2_copyFrom_108 : decode cX2_copyFrom 108 = .ok (.invokevirtual 59, 3) := by decide +kernel
theorem dX2_copyFrom_111 : decode cX2_copyFrom 111 = .ok (.iinc 2 1, 3) := by decide +kernel
theorem dX2_copyFrom_114 : decode cX2_copyFrom 114 = .ok (.goto (-32), 3) := by decide +kernel
theorem dX2_copyFrom_117 : decode cX2_copyFrom 117 = .ok (.aload_n 0, 1) := by decide +kernel
theorem dX2_copyFrom_118 : decode cX2_copyFrom 118 = .ok (.aload_n 1, 1) := by decide +kernel
theorem dX2_copyFrom_119 : decode cX2_copyFrom 119 = .ok (.getfield 45, 3) := by decide +kernel
theorem dX2_copyFrom_122 : decode cX2_copyFrom 122 = .ok (.putfield 45, 3) := by decide +kernel
theorem dX2_copyFrom_125 : decode cX2_copyFrom 125 = .ok (.aload_n 0, 1) := by decide +kernel
theorem dX2_copyFrom_126 : decode cX2_copyFrom 126 = .ok (.aload_n 1, 1) := by decide +kernel
theorem dX2_copyFrom_127 : decode cX2_copyFrom 127 = .ok (.getfield 48, 3) := by decide +kernel
theorem dX2_copyFrom_130 : decode cX2_copyFrom 130 = .ok (.putfield 48, 3) := by decide +kernel
theorem dX2_copyFrom_133 : decode cX2_copyFrom 133 = .ok (.aload_n 0, 1) := by decide +kernel
theorem dX2_copyFrom_134 : decode cX2_copyFrom 134 = .ok (.getfield 51, 3) := by decide +kernel
theorem dX2_copyFrom_137 : decode cX2_copyFrom 137 = .ok (.aload_n 1, 1) := by decide +kernel
theorem dX2_copyFrom_138 : decode cX2_copyFrom 138 = .ok (.getfield 51, 3) := by decide +kernel
theorem dX2_copyFrom_141 : decode cX2_copyFrom 141 = .ok (.invokevirtual 55, 3) := by decide +kernel
theorem dX2_copyFrom_144 : decode cX2_copyFrom 144 = .ok (.return_, 1) := by decide +kernel
theorem dX2_isOpen_0 : decode cX2_isOpen 0 = .ok (.aload_n 0, 1) := by decide +kernel
theorem dX2_isOpen_1 : decode cX2_isOpen 1 = .ok (.getfield 9, 3) := by decide +kernel
theorem dX2_isOpen_4 : decode cX2_isOpen 4 = .ok (.iload_n 1, 1) := by decide +kernel
theorem dX2_isOpen_5 : decode cX2_isOpen 5 = .ok (.invokestatic 62, 3) := by decide +kernel
theorem dX2_isOpen_8 : decode cX2_isOpen 8 = .ok (.ireturn, 1) := by decide +kernel
theorem dX2_openStream_0 : decode cX2_openStream 0 = .ok (.iload_n 1, 1) := by decide +kernel
theorem dX2_openStream_1 : decode cX2_openStream 1 = .ok (.invokestatic 66, 3) := by decide +kernel
theorem dX2_openStream_4 : decode cX2_openStream 4 = .ok (.ifCond .ne 4, 3) := by decide +kernel
theorem dX2_openStream_7 : decode cX2_openStream 7 = .ok (.return_, 1) := by decide +kernel
theorem dX2_openStream_8 : decode cX2_openStream 8 = .ok (.aload_n 0, 1) := by decide +kernel
theorem dX2_openStream_9 : decode cX2_openStream 9 = .ok (.dup, 1) := by decide +kernel
theorem dX2_openStream_10 : decode cX2_openStream 10 = .ok (.getfield 9, 3) := by decide +kernel
theorem dX2_openStream_13 : decode cX2_openStream 13 = .ok (.iload_n 1, 1) := by decide +kernel
theorem dX2_openStream_14 : decode cX2_openStream 14 = .ok (.invokestatic 70, 3) := by decide +kernel
theorem dX2_openStream_17 : decode cX2_openStream 17 = .ok (.ior, 1) := by decide +kernel
theorem dX2_openStream_18 : decode cX2_openStream 18 = .ok (.putfield 9, 3) := by decide +kernel
theorem dX2_openStream_21 : decode cX2_openStream 21 = .ok (.aload_n 0, 1) := by decide +kernel
theorem dX2_openStream_22 : decode cX2_openStream 22 = .ok (.getfield 15, 3) := by decide +kernel
theorem dX2_openStream_25 : decode cX2_openStream 25 = .ok (.iload_n 1, 1) := by decide +kernel
theorem dX2_openStream_26 : decode cX2_openStream 26 = .ok (.iload_n 2, 1) := by decide +kernel
theorem dX2_openStream_27 : decode cX2_openStream 27 = .ok (.iastore, 1) := by decide +kernel
theorem dX2_openStream_28 : decode cX2_openStream 28 = .ok (.aload_n 0, 1) := by decide +kernel
theorem dX2_openStream_29 : decode cX2_openStream 29 = .ok (.getfield 19, 3) := by decide +kernel
theorem dX2_openStream_32 : decode cX2_openStream 32 = .ok (.iload_n 1, 1) := by decide +kernel
theorem dX2_openStream_33 : decode cX2_openStream 33 = .ok (.iconst 0, 1) := by decide +kernel
theorem dX2_openStream_34 : decode cX2_openStream 34 = .ok (.iastore, 1) := by decide +kernel
theorem dX2_openStream_35 : decode cX2_openStream 35 = .ok (.return_, 1) := by decide +kernel
theorem dX2_closeStream_0 : decode cX2_closeStream 0 = .ok (.aload_n 0, 1) := by decide +kernel
theorem dX2_closeStream_1 : decode cX2_closeStream 1 = .ok (.dup, 1) := by decide +kernel
theorem dX2_closeStream_2 : decode cX2_closeStream 2 = .ok (.getfield 9, 3) := by decide +kernel
theorem dX2_closeStream_5 : decode cX2_closeStream 5 = .ok (.iload_n 1, 1) := by decide +kernel
theorem dX2_closeStream_6 : decode cX2_closeStream 6 = .ok (.invokestatic 70, 3) := by decide +kernel
theorem dX2_closeStream_9 : decode cX2_closeStream 9 = .ok (.iconst (-1), 1) := by decide +kernel
theorem dX2_closeStream_10 : decode cX2_closeStream 10 = .ok (.ixor, 1) := by decide +kernel
theorem dX2_closeStream_11 : decode cX2_closeStream 11 = .ok (.iand, 1) := by decide +kernel
theorem dX2_closeStream_12 : decode cX2_closeStream 12 = .ok (.putfield 9, 3) := by decide +kernel
theorem dX2_closeStream_15 : decode cX2_closeStream 15 = .ok (.return_, 1) := by decide +kernel
theorem dX2_currentEpoch_0 : decode cX2_currentEpoch 0 = .ok (.aload_n 0, 1) := by decide +kernel
theorem dX2_currentEpoch_1 : decode cX2_currentEpoch 1 = .ok (.getfield 42, 3) := by decide +kernel
theorem dX2_currentEpoch_4 : decode cX2_currentEpoch 4 = .ok (.iconst 1, 1) := by decide +kernel
theorem dX2_currentEpoch_5 : decode cX2_currentEpoch 5 = .ok (.isub, 1) := by decide +kernel
theorem dX2_currentEpoch_6 : decode cX2_currentEpoch 6 = .ok (.ireturn, 1) := by decide +kernel
theorem dX2_orderOf_0 : decode cX2_orderOf 0 = .ok (.iload_n 1, 1) := by decide +kernel
theorem dX2_orderOf_1 : decode cX2_orderOf 1 = .ok (.ifCond .lt 26, 3) := by decide +kernel
theorem dX2_orderOf_4 : decode cX2_orderOf 4 = .ok (.iload_n 1, 1) := by decide +kernel
theorem dX2_orderOf_5 : decode cX2_orderOf 5 = .ok (.aload_n 0, 1) := by decide +kernel
theorem dX2_orderOf_6 : decode cX2_orderOf 6 = .ok (.getfield 42, 3) := by decide +kernel
theorem dX2_orderOf_9 : decode cX2_orderOf 9 = .ok (.if_icmp .ge 18, 3) := by decide +kernel
theorem dX2_orderOf_12 : decode cX2_orderOf 12 = .ok (.iload_n 1, 1) := by decide +kernel
theorem dX2_orderOf_13 : decode cX2_orderOf 13 = .ok (.bipush 10, 2) := by decide +kernel
theorem dX2_orderOf_15 : decode cX2_orderOf 15 = .ok (.if_icmp .ge 12, 3) := by decide +kernel
theorem dX2_orderOf_18 : decode cX2_orderOf 18 = .ok (.aload_n 0, 1) := by decide +kernel
theorem dX2_orderOf_19 : decode cX2_orderOf 19 = .ok (.getfield 38, 3) := by decide +kernel
theorem dX2_orderOf_22 : decode cX2_orderOf 22 = .ok (.iload_n 1, 1) := by decide +kernel
theorem dX2_orderOf_23 : decode cX2_orderOf 23 = .ok (.aaload, 1) := by decide +kernel
theorem dX2_orderOf_24 : decode cX2_orderOf 24 = .ok (.goto 7, 3) := by decide +kernel
theorem dX2_orderOf_27 : decode cX2_orderOf 27 = .ok (.aload_n 0, 1) := by decide +kernel
theorem dX2_orderOf_28 : decode cX2_orderOf 28 = .ok (.getfield 34, 3) := by decide +kernel
theorem dX2_orderOf_31 : decode cX2_orderOf 31 = .ok (.areturn, 1) := by decide +kernel
theorem dX2_beginEpoch_0 : decode cX2_beginEpoch 0 = .ok (.aload_n 0, 1) := by decide +kernel
theorem dX2_beginEpoch_1 : decode cX2_beginEpoch 1 = .ok (.getfield 42, 3) := by decide +kernel
theorem dX2_beginEpoch_4 : decode cX2_beginEpoch 4 = .ok (.bipush 10, 2) := by decide +kernel
theorem dX2_beginEpoch_6 : decode cX2_beginEpoch 6 = .ok (.if_icmp .lt 4, 3) := by decide +kernel
theorem dX2_beginEpoch_9 : decode cX2_beginEpoch 9 = .ok (.return_, 1) := by decide +kernel
theorem dX2_beginEpoch_10 : decode cX2_beginEpoch 10 = .ok (.aload_n 0, 1) := by decide +kernel
theorem dX2_beginEpoch_11 : decode cX2_beginEpoch 11 = .ok (.getfield 38, 3) := by decide +kernel
theorem dX2_beginEpoch_14 : decode cX2_beginEpoch 14 = .ok (.aload_n 0, 1) := by decide +kernel
theorem dX2_beginEpoch_15 : decode cX2_beginEpoch 15 = .ok (.getfield 42, 3) := by decide +kernel
theorem dX2_beginEpoch_18 : decode cX2_beginEpoch 18 = .ok (.aaload, 1) := by decide +kernel
theorem dX2_beginEpoch_19 : decode cX2_beginEpoch 19 = .ok (.aload_n 0, 1) := by decide +kernel
theorem dX2_beginEpoch_20 : decode cX2_beginEpoch 20 = .ok (.getfield 34, 3) := by decide +kernel
theorem dX2_beginEpoch_23 : decode cX2_beginEpoch 23 = .ok (.invokevirtual 59, 3) := by decide +kernel
theorem dX2_beginEpoch_26 : decode cX2_beginEpoch 26 = .ok (.aload_n 0, 1) := by decide +kernel
theorem dX2_beginEpoch_27 : decode cX2_beginEpoch 27 = .ok (.dup, 1) := by decide +kernel
theorem dX2_beginEpoch_28 : decode cX2_beginEpoch 28 = .ok (.getfield 42, 3) := by decide +kernel
theorem dX2_beginEpoch_31 : decode cX2_beginEpoch 31 = .ok (.iconst 1, 1) := by decide +kernel
theorem dX2_beginEpoch_32 : decode cX2_beginEpoch 32 = .ok (.iadd, 1) := by decide +kernel
theorem dX2_beginEpoch_33 : decode cX2_beginEpoch 33 = .ok (.putfield 42, 3) := by decide +kernel
theorem dX2_beginEpoch_36 : decode cX2_beginEpoch 36 = .ok (.return_, 1) := by decide +kernel
theorem dX2_takeFrame_0 : decode cX2_takeFrame 0 = .ok (.iload_n 1, 1) := by decide +kernel
theorem dX2_takeFrame_1 : decode cX2_takeFrame 1 = .ok (.invokestatic 66, 3) := by decide +kernel
theorem dX2_takeFrame_4 : decode cX2_takeFrame 4 = .ok (.ifCond .ne 6, 3) := by decide +kernel
theorem dX2_takeFrame_7 : decode cX2_takeFrame 7 = .ok (.bipush (-9), 2) := by decide +kernel
theorem dX2_takeFrame_9 : decode cX2_takeFrame 9 = .ok (.ireturn, 1) := by decide +kernel
theorem dX2_takeFrame_10 : decode cX2_takeFrame 10 = .ok (.aload_n 0, 1) := by decide +kernel
theorem dX2_takeFrame_11 : decode cX2_takeFrame 11 = .ok (.getfield 45, 3) := by decide +kernel
theorem dX2_takeFrame_14 : decode cX2_takeFrame 14 = .ok (.istore_n 3, 1) := by decide +kernel
theorem dX2_takeFrame_15 : decode cX2_takeFrame 15 = .ok (.aload_n 0, 1) := by decide +kernel
theorem dX2_takeFrame_16 : decode cX2_takeFrame 16 = .ok (.getfield 24, 3) := by decide +kernel
theorem dX2_takeFrame_19 : decode cX2_takeFrame 19 = .ok (.iload_n 1, 1) := by decide +kernel
theorem dX2_takeFrame_20 : decode cX2_takeFrame 20 = .ok (.aaload, 1) := by decide +kernel
theorem dX2_takeFrame_21 : decode cX2_takeFrame 21 = .ok (.iload_n 3, 1) := by decide +kernel
theorem dX2_takeFrame_22 : decode cX2_takeFrame 22 = .ok (.iload_n 1, 1) := by decide +kernel
theorem dX2_takeFrame_23 : decode cX2_takeFrame 23 = .ok (.iload_n 2, 1) := by decide +kernel
theorem dX2_takeFrame_24 : decode cX2_takeFrame 24 = .ok (.aload_n 0, 1) := by decide +kernel
theorem dX2_takeFrame_25 : decode cX2_takeFrame 25 = .ok (.invokevirtual 74, 3) := by decide +kernel
theorem dX2_takeFrame_28 : decode cX2_takeFrame 28 = .ok (.invokevirtual 78, 3) := by decide +kernel
theorem dX2_takeFrame_31 : decode cX2_takeFrame 31 = .ok (.aload_n 0, 1) := by decide +kernel
theorem dX2_takeFrame_32 : decode cX2_takeFrame 32 = .ok (.dup, 1) := by decide +kernel
theorem dX2_takeFrame_33 : decode cX2_takeFrame 33 = .ok (.getfield 45, 3) := by decide +kernel
theorem dX2_takeFrame_36 : decode cX2_takeFrame 36 = .ok (.iconst 1, 1) := by decide +kernel
theorem dX2_takeFrame_37 : decode cX2_takeFrame 37 = .ok (.iadd, 1) := by decide +kernel
theorem dX2_takeFrame_38 : decode cX2_takeFrame 38 = .ok (.putfield 45, 3) := by decide +kernel
theorem dX2_takeFrame_41 : decode cX2_takeFrame 41 = .ok (.iload_n 3, 1) := by decide +kernel
theorem dX2_takeFrame_42 : decode cX2_takeFrame 42 = .ok (.ireturn, 1) := by decide +kernel
theorem dX2_waitingCount_0 : decode cX2_waitingCount 0 = .ok (.iconst 0, 1) := by decide +kernel
theorem dX2_waitingCount_1 : decode cX2_waitingCount 1 = .ok (.istore_n 1, 1) := by decide +kernel
theorem dX2_waitingCount_2 : decode cX2_waitingCount 2 = .ok (.iconst 0, 1) := by decide +kernel
theorem dX2_waitingCount_3 : decode cX2_waitingCount 3 = .ok (.istore_n 2, 1) := by decide +kernel
theorem dX2_waitingCount_4 : decode cX2_waitingCount 4 = .ok (.iload_n 2, 1) := by decide +kernel
theorem dX2_waitingCount_5 : decode cX2_waitingCount 5 = .ok (.bipush 8, 2) := by decide +kernel
theorem dX2_waitingCount_7 : decode cX2_waitingCount 7 = .ok (.if_icmp .ge 21, 3) := by decide +kernel
theorem dX2_waitingCount_10 : decode cX2_waitingCount 10 = .ok (.iload_n 1, 1) := by decide +kernel
theorem dX2_waitingCount_11 : decode cX2_waitingCount 11 = .ok (.aload_n 0, 1) := by decide +kernel
theorem dX2_waitingCount_12 : decode cX2_waitingCount 12 = .ok (.getfield 24, 3) := by decide +kernel
theorem dX2_waitingCount_15 : decode cX2_waitingCount 15 = .ok (.iload_n 2, 1) := by decide +kernel
theorem dX2_waitingCount_16 : decode cX2_waitingCount 16 = .ok (.aaload, 1) := by decide +kernel
theorem dX2_waitingCount_17 : decode cX2_waitingCount 17 = .ok (.getfield 82, 3) := by decide +kernel
theorem dX2_waitingCount_20 : decode cX2_waitingCount 20 = .ok (.iadd, 1) := by decide +kernel
theorem dX2_waitingCount_21 : decode cX2_waitingCount 21 = .ok (.istore_n 1, 1) := by decide +kernel
theorem dX2_waitingCount_22 : decode cX2_waitingCount 22 = .ok (.iinc 2 1, 3) := by decide +kernel
theorem dX2_waitingCount_25 : decode cX2_waitingCount 25 = .ok (.goto (-21), 3) := by decide +kernel
theorem dX2_waitingCount_28 : decode cX2_waitingCount 28 = .ok (.iload_n 1, 1) := by decide +kernel
theorem dX2_waitingCount_29 : decode cX2_waitingCount 29 = .ok (.ireturn, 1) := by decide +kernel
theorem dX2_waitingSize_0 : decode cX2_waitingSize 0 = .ok (.iconst 0, 1) := by decide +kernel
theorem dX2_waitingSize_1 : decode cX2_waitingSize 1 = .ok (.istore_n 1, 1) := by decide +kernel
theorem dX2_waitingSize_2 : decode cX2_waitingSize 2 = .ok (.iconst 0, 1) := by decide +kernel
theorem dX2_waitingSize_3 : decode cX2_waitingSize 3 = .ok (.istore_n 2, 1) := by decide +kernel
theorem dX2_waitingSize_4 : decode cX2_waitingSize 4 = .ok (.iload_n 2, 1) := by decide +kernel
theorem dX2_waitingSize_5 : decode cX2_waitingSize 5 = .ok (.bipush 8, 2) := by decide +kernel
theorem dX2_waitingSize_7 : decode cX2_waitingSize 7 = .ok (.if_icmp .ge 21, 3) := by decide +kernel
theorem dX2_waitingSize_10 : decode cX2_waitingSize 10 = .ok (.iload_n 1, 1) := by decide +kernel
theorem dX2_waitingSize_11 : decode cX2_waitingSize 11 = .ok (.aload_n 0, 1) := by decide +kernel
theorem dX2_waitingSize_12 : decode cX2_waitingSize 12 = .ok (.getfield 24, 3) := by decide +kernel
theorem dX2_waitingSize_15 : decode cX2_waitingSize 15 = .ok (.iload_n 2, 1) := by decide +kernel
theorem dX2_waitingSize_16 : decode cX2_waitingSize 16 = .ok (.aaload, 1) := by decide +kernel
theorem dX2_waitingSize_17 : decode cX2_waitingSize 17 = .ok (.invokevirtual 85, 3) := by decide +kernel
theorem dX2_waitingSize_20 : decode cX2_waitingSize 20 = .ok (.iadd, 1) := by decide +kernel
theorem dX2_waitingSize_21 : decode cX2_waitingSize 21 = .ok (.istore_n 1, 1) := by decide +kernel
theorem dX2_waitingSize_22 : decode cX2_waitingSize 22 = .ok (.iinc 2 1, 3) := by decide +kernel
theorem dX2_waitingSize_25 : decode cX2_waitingSize 25 = .ok (.goto (-21), 3) := by decide +kernel
theorem dX2_waitingSize_28 : decode cX2_waitingSize 28 = .ok (.iload_n 1, 1) := by decide +kernel
theorem dX2_waitingSize_29 : decode cX2_waitingSize 29 = .ok (.ireturn, 1) := by decide +kernel
theorem dX2_blockersOfFirst_0 : decode cX2_blockersOfFirst 0 = .ok (.iload_n 1, 1) := by decide +kernel
theorem dX2_blockersOfFirst_1 : decode cX2_blockersOfFirst 1 = .ok (.invokestatic 66, 3) := by decide +kernel
theorem dX2_blockersOfFirst_4 : decode cX2_blockersOfFirst 4 = .ok (.ifCond .eq 15, 3) := by decide +kernel
theorem dX2_blockersOfFirst_7 : decode cX2_blockersOfFirst 7 = .ok (.aload_n 0, 1) := by decide +kernel
theorem dX2_blockersOfFirst_8 : decode cX2_blockersOfFirst 8 = .ok (.getfield 24, 3) := by decide +kernel
theorem dX2_blockersOfFirst_11 : decode cX2_blockersOfFirst 11 = .ok (.iload_n 1, 1) := by decide +kernel
theorem dX2_blockersOfFirst_12 : decode cX2_blockersOfFirst 12 = .ok (.aaload, 1) := by decide +kernel
theorem dX2_blockersOfFirst_13 : decode cX2_blockersOfFirst 13 = .ok (.getfield 82, 3) := by decide +kernel
theorem dX2_blockersOfFirst_16 : decode cX2_blockersOfFirst 16 = .ok (.ifCond .ne 5, 3) := by decide +kernel
theorem dX2_blockersOfFirst_19 : decode cX2_blockersOfFirst 19 = .ok (.iconst 0, 1) := by decide +kernel
theorem dX2_blockersOfFirst_20 : decode cX2_blockersOfFirst 20 = .ok (.ireturn, 1) := by decide +kernel
theorem dX2_blockersOfFirst_21 : decode cX2_blockersOfFirst 21 = .ok (.aload_n 0, 1) := by decide +kernel
theorem dX2_blockersOfFirst_22 : decode cX2_blockersOfFirst 22 = .ok (.getfield 24, 3) := by decide +kernel
theorem dX2_blockersOfFirst_25 : decode cX2_blockersOfFirst 25 = .ok (.iload_n 1, 1) := by decide +kernel
theorem dX2_blockersOfFirst_26 : decode cX2_blockersOfFirst 26 = .ok (.aaload, 1) := by decide +kernel
theorem dX2_blockersOfFirst_27 : decode cX2_blockersOfFirst 27 = .ok (.iconst 0, 1) := by decide +kernel
theorem dX2_blockersOfFirst_28 : decode cX2_blockersOfFirst 28 = .ok (.invokevirtual 88, 3) := by decide +kernel
theorem dX2_blockersOfFirst_31 : decode cX2_blockersOfFirst 31 = .ok (.istore_n 2, 1) := by decide +kernel
theorem dX2_blockersOfFirst_32 : decode cX2_blockersOfFirst 32 = .ok (.aload_n 0, 1) := by decide +kernel
theorem dX2_blockersOfFirst_33 : decode cX2_blockersOfFirst 33 = .ok (.iload_n 2, 1) := by decide +kernel
theorem dX2_blockersOfFirst_34 : decode cX2_blockersOfFirst 34 = .ok (.invokevirtual 91, 3) := by decide +kernel
theorem dX2_blockersOfFirst_37 : decode cX2_blockersOfFirst 37 = .ok (.astore_n 3, 1) := by decide +kernel
theorem dX2_blockersOfFirst_38 : decode cX2_blockersOfFirst 38 = .ok (.iconst 0, 1) := by decide +kernel
theorem dX2_blockersOfFirst_39 : decode cX2_blockersOfFirst 39 = .ok (.istore 4, 2) := by decide +kernel
theorem dX2_blockersOfFirst_41 : decode cX2_blockersOfFirst 41 = .ok (.iconst 0, 1) := by decide +kernel
theorem dX2_blockersOfFirst_42 : decode cX2_blockersOfFirst 42 = .ok (.istore 5, 2) := by decide +kernel
theorem dX2_blockersOfFirst_44 : decode cX2_blockersOfFirst 44 = .ok (.iload 5, 2) := by decide +kernel
theorem dX2_blockersOfFirst_46 : decode cX2_blockersOfFirst 46 = .ok (.bipush 8, 2) := by decide +kernel
theorem dX2_blockersOfFirst_48 : decode cX2_blockersOfFirst 48 = .ok (.if_icmp .ge 35, 3) := by decide +kernel
theorem dX2_blockersOfFirst_51 : decode cX2_blockersOfFirst 51 = .ok (.aload_n 3, 1) := by decide +kernel
theorem dX2_blockersOfFirst_52 : decode cX2_blockersOfFirst 52 = .ok (.iload 5, 2) := by decide +kernel
theorem dX2_blockersOfFirst_54 : decode cX2_blockersOfFirst 54 = .ok (.iload_n 1, 1) := by decide +kernel
theorem dX2_blockersOfFirst_55 : decode cX2_blockersOfFirst 55 = .ok (.invokevirtual 95, 3) := by decide +kernel
theorem dX2_blockersOfFirst_58 : decode cX2_blockersOfFirst 58 = .ok (.ifCond .eq 19, 3) := by decide +kernel
theorem dX2_blockersOfFirst_61 : decode cX2_blockersOfFirst 61 = .ok (.iload 4, 2) := by decide +kernel
theorem dX2_blockersOfFirst_63 : decode cX2_blockersOfFirst 63 = .ok (.aload_n 0, 1) := by decide +kernel
theorem dX2_blockersOfFirst_64 : decode cX2_blockersOfFirst 64 = .ok (.getfield 24, 3) := by decide +kernel
theorem dX2_blockersOfFirst_67 : decode cX2_blockersOfFirst 67 = .ok (.iload 5, 2) := by decide +kernel
theorem dX2_blockersOfFirst_69 : decode cX2_blockersOfFirst 69 = .ok (.aaload, 1) := by decide +kernel
theorem dX2_blockersOfFirst_70 : decode cX2_blockersOfFirst 70 = .ok (.iload_n 2, 1) := by decide +kernel
theorem dX2_blockersOfFirst_71 : decode cX2_blockersOfFirst 71 = .ok (.invokevirtual 98, 3) := by decide +kernel
theorem dX2_blockersOfFirst_74 : decode cX2_blockersOfFirst 74 = .ok (.iadd, 1) := by decide +kernel
theorem dX2_blockersOfFirst_75 : decode cX2_blockersOfFirst 75 = .ok (.istore 4, 2) := by decide +kernel
theorem dX2_blockersOfFirst_77 : decode cX2_blockersOfFirst 77 = .ok (.iinc 5 1, 3) := by decide +kernel
theorem dX2_blockersOfFirst_80 : decode cX2_blockersOfFirst 80 = .ok (.goto (-36), 3) := by decide +kernel
theorem dX2_blockersOfFirst_83 : decode cX2_blockersOfFirst 83 = .ok (.iload 4, 2) := by decide +kernel
theorem dX2_blockersOfFirst_85 : decode cX2_blockersOfFirst 85 = .ok (.ireturn, 1) := by decide +kernel
theorem dX2_isCandidate_0 : decode cX2_isCandidate 0 = .ok (.iload_n 1, 1) := by decide +kernel
theorem dX2_isCandidate_1 : decode cX2_isCandidate 1 = .ok (.invokestatic 66, 3) := by decide +kernel
theorem dX2_isCandidate_4 : decode cX2_isCandidate 4 = .ok (.ifCond .eq 27, 3) := by decide +kernel
theorem dX2_isCandidate_7 : decode cX2_isCandidate 7 = .ok (.aload_n 0, 1) := by decide +kernel
theorem dX2_isCandidate_8 : decode cX2_isCandidate 8 = .ok (.getfield 24, 3) := by decide +kernel
theorem dX2_isCandidate_11 : decode cX2_isCandidate 11 = .ok (.iload_n 1, 1) := by decide +kernel
theorem dX2_isCandidate_12 : decode cX2_isCandidate 12 = .ok (.aaload, 1) := by decide +kernel
theorem dX2_isCandidate_13 : decode cX2_isCandidate 13 = .ok (.getfield 82, 3) := by decide +kernel
theorem dX2_isCandidate_16 : decode cX2_isCandidate 16 = .ok (.ifCond .le 15, 3) := by decide +kernel
theorem dX2_isCandidate_19 : decode cX2_isCandidate 19 = .ok (.aload_n 0, 1) := by decide +kernel
theorem dX2_isCandidate_20 : decode cX2_isCandidate 20 = .ok (.iload_n 1, 1) := by decide +kernel
theorem dX2_isCandidate_21 : decode cX2_isCandidate 21 = .ok (.invokevirtual 101, 3) := by decide +kernel
theorem dX2_isCandidate_24 : decode cX2_isCandidate 24 = .ok (.ifCond .ne 7, 3) := by decide +kernel
theorem dX2_isCandidate_27 : decode cX2_isCandidate 27 = .ok (.iconst 1, 1) := by decide +kernel
theorem dX2_isCandidate_28 : decode cX2_isCandidate 28 = .ok (.goto 4, 3) := by decide +kernel
theorem dX2_isCandidate_31 : decode cX2_isCandidate 31 = .ok (.iconst 0, 1) := by decide +kernel
theorem dX2_isCandidate_32 : decode cX2_isCandidate 32 = .ok (.ireturn, 1) := by decide +kernel
theorem dX2_candidateCount_0 : decode cX2_candidateCount 0 = .ok (.iconst 0, 1) := by decide +kernel
theorem dX2_candidateCount_1 : decode cX2_candidateCount 1 = .ok (.istore_n 1, 1) := by decide +kernel
theorem dX2_candidateCount_2 : decode cX2_candidateCount 2 = .ok (.iconst 0, 1) := by decide +kernel
theorem dX2_candidateCount_3 : decode cX2_candidateCount 3 = .ok (.istore_n 2, 1) := by decide +kernel
theorem dX2_candidateCount_4 : decode cX2_candidateCount 4 = .ok (.iload_n 2, 1) := by decide +kernel
theorem dX2_candidateCount_5 : decode cX2_candidateCount 5 = .ok (.bipush 8, 2) := by decide +kernel
theorem dX2_candidateCount_7 : decode cX2_candidateCount 7 = .ok (.if_icmp .ge 20, 3) := by decide +kernel
theorem dX2_candidateCount_10 : decode cX2_candidateCount 10 = .ok (.aload_n 0, 1) := by decide +kernel
theorem dX2_candidateCount_11 : decode cX2_candidateCount 11 = .ok (.iload_n 2, 1) := by decide +kernel
theorem dX2_candidateCount_12 : decode cX2_candidateCount 12 = .ok (.invokevirtual 104, 3) := by decide +kernel
theorem dX2_candidateCount_15 : decode cX2_candidateCount 15 = .ok (.ifCond .eq 6, 3) := by decide +kernel
theorem dX2_candidateCount_18 : decode cX2_candidateCount 18 = .ok (.iinc 1 1, 3) := by decide +kernel
theorem dX2_candidateCount_21 : decode cX2_candidateCount 21 = .ok (.iinc 2 1, 3) := by decide +kernel
theorem dX2_candidateCount_24 : decode cX2_candidateCount 24 = .ok (.goto (-20), 3) := by decide +kernel
theorem dX2_candidateCount_27 : decode cX2_candidateCount 27 = .ok (.iload_n 1, 1) := by decide +kernel
theorem dX2_candidateCount_28 : decode cX2_candidateCount 28 = .ok (.ireturn, 1) := by decide +kernel
theorem dX2_nextStream_0 : decode cX2_nextStream 0 = .ok (.bipush (-9), 2) := by decide +kernel
theorem dX2_nextStream_2 : decode cX2_nextStream 2 = .ok (.istore_n 1, 1) := by decide +kernel
theorem dX2_nextStream_3 : decode cX2_nextStream 3 = .ok (.iconst 0, 1) := by decide +kernel
theorem dX2_nextStream_4 : decode cX2_nextStream 4 = .ok (.istore_n 2, 1) := by decide +kernel
theorem dX2_nextStream_5 : decode cX2_nextStream 5 = .ok (.iload_n 2, 1) := by decide +kernel
theorem dX2_nextStream_6 : decode cX2_nextStream 6 = .ok (.bipush 8, 2) := by decide +kernel
theorem dX2_nextStream_8 : decode cX2_nextStream 8 = .ok (.if_icmp .ge 34, 3) := by decide +kernel
theorem dX2_nextStream_11 : decode cX2_nextStream 11 = .ok (.aload_n 0, 1) := by decide +kernel
theorem dX2_nextStream_12 : decode cX2_nextStream 12 = .ok (.iload_n 2, 1) := by decide +kernel
theorem dX2_nextStream_13 : decode cX2_nextStream 13 = .ok (.invokevirtual 104, 3) := by decide +kernel
theorem dX2_nextStream_16 : decode cX2_nextStream 16 = .ok (.ifCond .eq 20, 3) := by decide +kernel
theorem dX2_nextStream_19 : decode cX2_nextStream 19 = .ok (.iload_n 1, 1) := by decide +kernel
theorem dX2_nextStream_20 : decode cX2_nextStream 20 = .ok (.bipush (-9), 2) := by decide +kernel
theorem dX2_nextStream_22 : decode cX2_nextStream 22 = .ok (.if_icmp .eq 12, 3) := by decide +kernel
theorem dX2_nextStream_25 : decode cX2_nextStream 25 = .ok (.aload_n 0, 1) := by decide +kernel
theorem dX2_nextStream_26 : decode cX2_nextStream 26 = .ok (.iload_n 2, 1) := by decide +kernel
theorem dX2_nextStream_27 : decode cX2_nextStream 27 = .ok (.iload_n 1, 1) := by decide +kernel
theorem dX2_nextStream_28 : decode cX2_nextStream 28 = .ok (.invokevirtual 107, 3) := by decide +kernel
theorem dX2_nextStream_31 : decode cX2_nextStream 31 = .ok (.ifCond .eq 5, 3) := by decide +kernel
theorem dX2_nextStream_34 : decode cX2_nextStream 34 = .ok (.iload_n 2, 1) := by decide +kernel
theorem dX2_nextStream_35 : decode cX2_nextStream 35 = .ok (.istore_n 1, 1) := by decide +kernel
theorem dX2_nextStream_36 : decode cX2_nextStream 36 = .ok (.iinc 2 1, 3) := by decide +kernel
theorem dX2_nextStream_39 : decode cX2_nextStream 39 = .ok (.goto (-34), 3) := by decide +kernel
theorem dX2_nextStream_42 : decode cX2_nextStream 42 = .ok (.iload_n 1, 1) := by decide +kernel
theorem dX2_nextStream_43 : decode cX2_nextStream 43 = .ok (.ireturn, 1) := by decide +kernel
theorem dX2_isLessServed_0 : decode cX2_isLessServed 0 = .ok (.iload_n 1, 1) := by decide +kernel
theorem dX2_isLessServed_1 : decode cX2_isLessServed 1 = .ok (.invokestatic 66, 3) := by decide +kernel
theorem dX2_isLessServed_4 : decode cX2_isLessServed 4 = .ok (.ifCond .eq 48, 3) := by decide +kernel
theorem dX2_isLessServed_7 : decode cX2_isLessServed 7 = .ok (.iload_n 2, 1) := by decide +kernel
theorem dX2_isLessServed_8 : decode cX2_isLessServed 8 = .ok (.invokestatic 66, 3) := by decide +kernel
theorem dX2_isLessServed_11 : decode cX2_isLessServed 11 = .ok (.ifCond .eq 41, 3) := by decide +kernel
theorem dX2_isLessServed_14 : decode cX2_isLessServed 14 = .ok (.aload_n 0, 1) := by decide +kernel
theorem dX2_isLessServed_15 : decode cX2_isLessServed 15 = .ok (.getfield 19, 3) := by decide +kernel
theorem dX2_isLessServed_18 : decode cX2_isLessServed 18 = .ok (.iload_n 1, 1) := by decide +kernel
theorem dX2_isLessServed_19 : decode cX2_isLessServed 19 = .ok (.iaload, 1) := by decide +kernel
theorem dX2_isLessServed_20 : decode cX2_isLessServed 20 = .ok (.i2l, 1) := by decide +kernel
theorem dX2_isLessServed_21 : decode cX2_isLessServed 21 = .ok (.aload_n 0, 1) := by decide +kernel
theorem dX2_isLessServed_22 : decode cX2_isLessServed 22 = .ok (.getfield 15, 3) := by decide +kernel
theorem dX2_isLessServed_25 : decode cX2_isLessServed 25 = .ok (.iload_n 2, 1) := by decide +kernel
theorem dX2_isLessServed_26 : decode cX2_isLessServed 26 = .ok (.iaload, 1) := by decide +kernel
theorem dX2_isLessServed_27 : decode cX2_isLessServed 27 = .ok (.i2l, 1) := by decide +kernel
theorem dX2_isLessServed_28 : decode cX2_isLessServed 28 = .ok (.lmul, 1) := by decide +kernel
theorem dX2_isLessServed_29 : decode cX2_isLessServed 29 = .ok (.aload_n 0, 1) := by decide +kernel
theorem dX2_isLessServed_30 : decode cX2_isLessServed 30 = .ok (.getfield 19, 3) := by decide +kernel
theorem dX2_isLessServed_33 : decode cX2_isLessServed 33 = .ok (.iload_n 2, 1) := by decide +kernel
theorem dX2_isLessServed_34 : decode cX2_isLessServed 34 = .ok (.iaload, 1) := by decide +kernel
theorem dX2_isLessServed_35 : decode cX2_isLessServed 35 = .ok (.i2l, 1) := by decide +kernel
theorem dX2_isLessServed_36 : decode cX2_isLessServed 36 = .ok (.aload_n 0, 1) := by decide +kernel
theorem dX2_isLessServed_37 : decode cX2_isLessServed 37 = .ok (.getfield 15, 3) := by decide +kernel
theorem dX2_isLessServed_40 : decode cX2_isLessServed 40 = .ok (.iload_n 1, 1) := by decide +kernel
theorem dX2_isLessServed_41 : decode cX2_isLessServed 41 = .ok (.iaload, 1) := by decide +kernel
theorem dX2_isLessServed_42 : decode cX2_isLessServed 42 = .ok (.i2l, 1) := by decide +kernel
theorem dX2_isLessServed_43 : decode cX2_isLessServed 43 = .ok (.lmul, 1) := by decide +kernel
theorem dX2_isLessServed_44 : decode cX2_isLessServed 44 = .ok (.lcmp, 1) := by decide +kernel
theorem dX2_isLessServed_45 : decode cX2_isLessServed 45 = .ok (.ifCond .ge 7, 3) := by decide +kernel
theorem dX2_isLessServed_48 : decode cX2_isLessServed 48 = .ok (.iconst 1, 1) := by decide +kernel
theorem dX2_isLessServed_49 : decode cX2_isLessServed 49 = .ok (.goto 4, 3) := by decide +kernel
theorem dX2_isLessServed_52 : decode cX2_isLessServed 52 = .ok (.iconst 0, 1) := by decide +kernel
theorem dX2_isLessServed_53 : decode cX2_isLessServed 53 = .ok (.ireturn, 1) := by decide +kernel
theorem dX2_sendFirst_0 : decode cX2_sendFirst 0 = .ok (.iload_n 1, 1) := by decide +kernel
theorem dX2_sendFirst_1 : decode cX2_sendFirst 1 = .ok (.invokestatic 66, 3) := by decide +kernel
theorem dX2_sendFirst_4 : decode cX2_sendFirst 4 = .ok (.ifCond .eq 15, 3) := by decide +kernel
theorem dX2_sendFirst_7 : decode cX2_sendFirst 7 = .ok (.aload_n 0, 1) := by decide +kernel
theorem dX2_sendFirst_8 : decode cX2_sendFirst 8 = .ok (.getfield 24, 3) := by decide +kernel
theorem dX2_sendFirst_11 : decode cX2_sendFirst 11 = .ok (.iload_n 1, 1) := by decide +kernel
theorem dX2_sendFirst_12 : decode cX2_sendFirst 12 = .ok (.aaload, 1) := by decide +kernel
theorem dX2_sendFirst_13 : decode cX2_sendFirst 13 = .ok (.getfield 82, 3) := by decide +kernel
theorem dX2_sendFirst_16 : decode cX2_sendFirst 16 = .ok (.ifCond .ne 4, 3) := by decide +kernel
theorem dX2_sendFirst_19 : decode cX2_sendFirst 19 = .ok (.return_, 1) := by decide +kernel
theorem dX2_sendFirst_20 : decode cX2_sendFirst 20 = .ok (.aload_n 0, 1) := by decide +kernel
theorem dX2_sendFirst_21 : decode cX2_sendFirst 21 = .ok (.getfield 24, 3) := by decide +kernel
theorem dX2_sendFirst_24 : decode cX2_sendFirst 24 = .ok (.iload_n 1, 1) := by decide +kernel
theorem dX2_sendFirst_25 : decode cX2_sendFirst 25 = .ok (.aaload, 1) := by decide +kernel
theorem dX2_sendFirst_26 : decode cX2_sendFirst 26 = .ok (.astore_n 2, 1) := by decide +kernel
theorem dX2_sendFirst_27 : decode cX2_sendFirst 27 = .ok (.aload_n 2, 1) := by decide +kernel
theorem dX2_sendFirst_28 : decode cX2_sendFirst 28 = .ok (.iconst 0, 1) := by decide +kernel
theorem dX2_sendFirst_29 : decode cX2_sendFirst 29 = .ok (.invokevirtual 110, 3) := by decide +kernel
theorem dX2_sendFirst_32 : decode cX2_sendFirst 32 = .ok (.istore_n 3, 1) := by decide +kernel
theorem dX2_sendFirst_33 : decode cX2_sendFirst 33 = .ok (.aload_n 0, 1) := by decide +kernel
theorem dX2_sendFirst_34 : decode cX2_sendFirst 34 = .ok (.getfield 51, 3) := by decide +kernel
theorem dX2_sendFirst_37 : decode cX2_sendFirst 37 = .ok (.invokevirtual 113, 3) := by decide +kernel
theorem dX2_sendFirst_40 : decode cX2_sendFirst 40 = .ok (.ifCond .eq 10, 3) := by decide +kernel
theorem dX2_sendFirst_43 : decode cX2_sendFirst 43 = .ok (.aload_n 0, 1) := by decide +kernel
theorem dX2_sendFirst_44 : decode cX2_sendFirst 44 = .ok (.getfield 51, 3) := by decide +kernel
theorem dX2_sendFirst_47 : decode cX2_sendFirst 47 = .ok (.invokevirtual 117, 3) := by decide +kernel
theorem dX2_sendFirst_50 : decode cX2_sendFirst 50 = .ok (.aload_n 0, 1) := by decide +kernel
theorem dX2_sendFirst_51 : decode cX2_sendFirst 51 = .ok (.getfield 51, 3) := by decide +kernel
theorem dX2_sendFirst_54 : decode cX2_sendFirst 54 = .ok (.aload_n 2, 1) := by decide +kernel
theorem dX2_sendFirst_55 : decode cX2_sendFirst 55 = .ok (.iconst 0, 1) := by decide +kernel
theorem dX2_sendFirst_56 : decode cX2_sendFirst 56 = .ok (.invokevirtual 120, 3) := by decide +kernel
theorem dX2_sendFirst_59 : decode cX2_sendFirst 59 = .ok (.iload_n 1, 1) := by decide +kernel
theorem dX2_sendFirst_60 : decode cX2_sendFirst 60 = .ok (.iload_n 3, 1) := by decide +kernel
theorem dX2_sendFirst_61 : decode cX2_sendFirst 61 = .ok (.aload_n 2, 1) := by decide +kernel
theorem dX2_sendFirst_62 : decode cX2_sendFirst 62 = .ok (.iconst 0, 1) := by decide +kernel
theorem dX2_sendFirst_63 : decode cX2_sendFirst 63 = .ok (.invokevirtual 88, 3) := by decide +kernel
theorem dX2_sendFirst_66 : decode cX2_sendFirst 66 = .ok (.invokevirtual 78, 3) := by decide +kernel
theorem dX2_sendFirst_69 : decode cX2_sendFirst 69 = .ok (.aload_n 2, 1) := by decide +kernel
theorem dX2_sendFirst_70 : decode cX2_sendFirst 70 = .ok (.invokevirtual 117, 3) := by decide +kernel
theorem dX2_sendFirst_73 : decode cX2_sendFirst 73 = .ok (.aload_n 0, 1) := by decide +kernel
theorem dX2_sendFirst_74 : decode cX2_sendFirst 74 = .ok (.getfield 19, 3) := by decide +kernel
theorem dX2_sendFirst_77 : decode cX2_sendFirst 77 = .ok (.iload_n 1, 1) := by decide +kernel
theorem dX2_sendFirst_78 : decode cX2_sendFirst 78 = .ok (.dup2, 1) := by decide +kernel
theorem dX2_sendFirst_79 : decode cX2_sendFirst 79 = .ok (.iaload, 1) := by decide +kernel
theorem dX2_sendFirst_80 : decode cX2_sendFirst 80 = .ok (.iload_n 3, 1) := by decide +kernel
theorem dX2_sendFirst_81 : decode cX2_sendFirst 81 = .ok (.iadd, 1) := by decide +kernel
theorem dX2_sendFirst_82 : decode cX2_sendFirst 82 = .ok (.iastore, 1) := by decide +kernel
theorem dX2_sendFirst_83 : decode cX2_sendFirst 83 = .ok (.aload_n 0, 1) := by decide +kernel
theorem dX2_sendFirst_84 : decode cX2_sendFirst 84 = .ok (.dup, 1) := by decide +kernel
theorem dX2_sendFirst_85 : decode cX2_sendFirst 85 = .ok (.getfield 48, 3) := by decide +kernel
theorem dX2_sendFirst_88 : decode cX2_sendFirst 88 = .ok (.iconst 1, 1) := by decide +kernel
theorem dX2_sendFirst_89 : decode cX2_sendFirst 89 = .ok (.iadd, 1) := by decide +kernel
theorem dX2_sendFirst_90 : decode cX2_sendFirst 90 = .ok (.putfield 48, 3) := by decide +kernel
theorem dX2_sendFirst_93 : decode cX2_sendFirst 93 = .ok (.return_, 1) := by decide +kernel
set_option maxRecDepth 20000 in
theorem ggX2_copyFrom_X0_copyFrom : GoodIn wsX2_copyFrom wsX0_copyFrom := goodIn_r _ [15, 16, 17, 18, 19, 20, 21, 22, 23, 24, 42, 43, 44, 45, 46] (by decide +kernel) (by decide +kernel)
set_option maxRecDepth 20000 in
theorem gX2_copyFrom_X0_copyFrom : GoodIn wsX2_copyFrom (wsV RX2 55 RX0 yX0_copyFrom wsX0_copyFrom) := goodIn_app (goodIn_of _ (by decide +kernel)) ggX2_copyFrom_X0_copyFrom
set_option maxRecDepth 20000 in
theorem ggX2_copyFrom_X1_copyFrom : GoodIn wsX2_copyFrom wsX1_copyFrom := goodIn_r _ [29, 30, 31, 47, 48] (by decide +kernel) (by decide +kernel)
set_option maxRecDepth 20000 in
theorem gX2_copyFrom_X1_copyFrom : GoodIn wsX2_copyFrom (wsV RX2 59 RX1 yX1_copyFrom wsX1_copyFrom) := goodIn_app (goodIn_of _ (by decide +kernel)) ggX2_copyFrom_X1_copyFrom
set_option maxRecDepth 20000 in
theorem ggX2_isOpen_X3_isIn : GoodIn wsX2_isOpen wsX3_isIn := goodIn_r _ [4] (by decide +kernel) (by decide +kernel)
set_option maxRecDepth 20000 in
theorem gX2_isOpen_X3_isIn_n62 : GoodIn wsX2_isOpen (wsX3_isIn) := ggX2_isOpen_X3_isIn
set_option maxRecDepth 20000 in
theorem ggX2_openStream_X3_isStream : GoodIn wsX2_openStream wsX3_isStream := goodIn_r _ [6] (by decide +kernel) (by decide +kernel)
set_option maxRecDepth 20000 in
theorem gX2_openStream_X3_isStream_n66 : GoodIn wsX2_openStream (wsX3_isStream) := ggX2_openStream_X3_isStream
set_option maxRecDepth 20000 in
theorem ggX2_openStream_X3_setOf : GoodIn wsX2_openStream wsX3_setOf := goodIn_r _ [8] (by decide +kernel) (by decide +kernel)
set_option maxRecDepth 20000 in
theorem gX2_openStream_X3_setOf_n70 : GoodIn wsX2_openStream (wsX3_setOf) := ggX2_openStream_X3_setOf
set_option maxRecDepth 20000 in
theorem ggX2_closeStream_X3_setOf : GoodIn wsX2_closeStream wsX3_setOf := goodIn_r _ [4] (by decide +kernel) (by decide +kernel)
set_option maxRecDepth 20000 in
theorem gX2_closeStream_X3_setOf_n70 : GoodIn wsX2_closeStream (wsX3_setOf) := ggX2_closeStream_X3_setOf


set_option maxRecDepth 20000 in
theorem ggX2_beginEpoch_X1_copyFrom : GoodIn wsX2_beginEpoch wsX1_copyFrom := goodIn_r _ [8, 9, 10, 21, 22] (by decide +kernel) (by decide +kernel)
set_option maxRecDepth 20000 in
theorem gX2_beginEpoch_X1_copyFrom : GoodIn wsX2_beginEpoch (wsV RX2 59 RX1 yX1_copyFrom wsX1_copyFrom) := goodIn_app (goodIn_of _ (by decide +kernel)) ggX2_beginEpoch_X1_copyFrom
set_option maxRecDepth 20000 in
theorem ggX2_takeFrame_X3_isStream : GoodIn wsX2_takeFrame wsX3_isStream := goodIn_r _ [5] (by decide +kernel) (by decide +kernel)
set_option maxRecDepth 20000 in
theorem gX2_takeFrame_X3_isStream_n66 : GoodIn wsX2_takeFrame (wsX3_isStream) := ggX2_takeFrame_X3_isStream
set_option maxRecDepth 20000 in
theorem ggX2_takeFrame_X2_currentEpoch : GoodIn wsX2_takeFrame wsX2_currentEpoch := goodIn_r _ [10, 11, 26, 27, 28, 29, 30, 31, 32, 33, 34, 35] (by decide +kernel) (by decide +kernel)
set_option maxRecDepth 20000 in
theorem gX2_takeFrame_X2_currentEpoch : GoodIn wsX2_takeFrame (wsV RX2 74 RX2 yX2_currentEpoch wsX2_currentEpoch) := goodIn_app (goodIn_of _ (by decide +kernel)) ggX2_takeFrame_X2_currentEpoch
set_option maxRecDepth 20000 in
theorem ggX2_takeFrame_X0_add : GoodIn wsX2_takeFrame wsX0_add := goodIn_r _ [16, 17, 18, 19, 20, 21, 22, 23, 24, 15, 25, 36, 37, 38, 39, 40] (by decide +kernel) (by decide +kernel)
set_option maxRecDepth 20000 in
theorem gX2_takeFrame_X0_add : GoodIn wsX2_takeFrame (wsV RX2 78 RX0 yX0_add wsX0_add) := goodIn_app (goodIn_of _ (by decide +kernel)) ggX2_takeFrame_X0_add

set_option maxRecDepth 20000 in
theorem ggX2_waitingSize_X0_sizeOfAll : GoodIn wsX2_waitingSize wsX0_sizeOfAll := goodIn_r _ [6, 7, 8, 19, 20, 21, 22, 23] (by decide +kernel) (by decide +kernel)
set_option maxRecDepth 20000 in
theorem gX2_waitingSize_X0_sizeOfAll : GoodIn wsX2_waitingSize (wsV RX2 85 RX0 yX0_sizeOfAll wsX0_sizeOfAll) := goodIn_app (goodIn_of _ (by decide +kernel)) ggX2_waitingSize_X0_sizeOfAll
set_option maxRecDepth 20000 in
theorem ggX2_blockersOfFirst_X3_isStream : GoodIn wsX2_blockersOfFirst wsX3_isStream := goodIn_r _ [5] (by decide +kernel) (by decide +kernel)
set_option maxRecDepth 20000 in
theorem gX2_blockersOfFirst_X3_isStream_n66 : GoodIn wsX2_blockersOfFirst (wsX3_isStream) := ggX2_blockersOfFirst_X3_isStream
set_option maxRecDepth 20000 in
theorem ggX2_blockersOfFirst_X0_epochAt : GoodIn wsX2_blockersOfFirst wsX0_epochAt := goodIn_r _ [10, 11, 12, 13, 14, 9, 15, 16, 47, 48, 49, 50, 51] (by decide +kernel) (by decide +kernel)
set_option maxRecDepth 20000 in
theorem gX2_blockersOfFirst_X0_epochAt : GoodIn wsX2_blockersOfFirst (wsV RX2 88 RX0 yX0_epochAt wsX0_epochAt) := goodIn_app (goodIn_of _ (by decide +kernel)) ggX2_blockersOfFirst_X0_epochAt
set_option maxRecDepth 20000 in
theorem ggX2_blockersOfFirst_X2_orderOf : GoodIn wsX2_blockersOfFirst wsX2_orderOf := goodIn_r _ [21, 22, 23, 24, 37, 38, 39, 40, 41, 42, 43, 44, 45, 46] (by decide +kernel) (by decide +kernel)
set_option maxRecDepth 20000 in
theorem gX2_blockersOfFirst_X2_orderOf : GoodIn wsX2_blockersOfFirst (wsV RX2 91 RX2 yX2_orderOf wsX2_orderOf) := goodIn_app (goodIn_of _ (by decide +kernel)) ggX2_blockersOfFirst_X2_orderOf
set_option maxRecDepth 20000 in
theorem ggX2_blockersOfFirst_X1_precedes : GoodIn wsX2_blockersOfFirst wsX1_precedes := goodIn_r _ [29, 30, 3, 4, 5, 31, 32, 52, 53] (by decide +kernel) (by decide +kernel)
set_option maxRecDepth 20000 in
theorem gX2_blockersOfFirst_X1_precedes : GoodIn wsX2_blockersOfFirst (wsV RX2 95 RX1 yX1_precedes wsX1_precedes) := goodIn_app (goodIn_of _ (by decide +kernel)) ggX2_blockersOfFirst_X1_precedes
set_option maxRecDepth 20000 in
theorem ggX2_blockersOfFirst_X0_countOfEpochUpTo : GoodIn wsX2_blockersOfFirst wsX0_countOfEpochUpTo := goodIn_r _ [36, 16, 11, 47, 48, 49, 50, 51] (by decide +kernel) (by decide +kernel)
set_option maxRecDepth 20000 in
theorem gX2_blockersOfFirst_X0_countOfEpochUpTo : GoodIn wsX2_blockersOfFirst (wsV RX2 98 RX0 yX0_countOfEpochUpTo wsX0_countOfEpochUpTo) := goodIn_app (goodIn_of _ (by decide +kernel)) ggX2_blockersOfFirst_X0_countOfEpochUpTo
set_option maxRecDepth 20000 in
theorem ggX2_isCandidate_X3_isStream : GoodIn wsX2_isCandidate wsX3_isStream := goodIn_r _ [5] (by decide +kernel) (by decide +kernel)
set_option maxRecDepth 20000 in
theorem gX2_isCandidate_X3_isStream_n66 : GoodIn wsX2_isCandidate (wsX3_isStream) := ggX2_isCandidate_X3_isStream
set_option maxRecDepth 20000 in
theorem ggX2_isCandidate_X2_blockersOfFirst : GoodIn wsX2_isCandidate wsX2_blockersOfFirst := goodIn_r _ [10, 1, 2, 3, 4, 5, 11, 12, 13, 14, 15, 16, 17, 18, 19, 20, 21, 22, 23, 24, 9, 25, 26, 27, 28, 29, 30, 31, 32, 33, 34, 35, 36, 37, 38, 39, 40, 41, 42, 43, 44, 45, 46, 47, 48, 49, 50, 51, 52, 53, 54, 55, 56, 57] (by decide +kernel) (by decide +kernel)
set_option maxRecDepth 20000 in
theorem gX2_isCandidate_X2_blockersOfFirst : GoodIn wsX2_isCandidate (wsV RX2 101 RX2 yX2_blockersOfFirst wsX2_blockersOfFirst) := goodIn_app (goodIn_of _ (by decide +kernel)) ggX2_isCandidate_X2_blockersOfFirst
set_option maxRecDepth 20000 in
theorem ggX2_candidateCount_X2_isCandidate : GoodIn wsX2_candidateCount wsX2_isCandidate := goodIn_r _ [5, 6, 7, 8, 9, 10, 11, 12, 13, 4, 14, 15, 16, 17, 18, 19, 20, 21, 22, 23, 24, 25, 26, 27, 28, 29, 30, 31, 32, 33, 34, 35, 36, 37, 38, 39, 40, 41, 42, 43, 44, 45, 46, 47, 48, 49, 50, 51, 52, 53, 54, 55, 56, 57, 58, 59, 60, 61] (by decide +kernel) (by decide +kernel)
set_option maxRecDepth 20000 in
theorem gX2_candidateCount_X2_isCandidate : GoodIn wsX2_candidateCount (wsV RX2 104 RX2 yX2_isCandidate wsX2_isCandidate) := goodIn_app (goodIn_of _ (by decide +kernel)) ggX2_candidateCount_X2_isCandidate
set_option maxRecDepth 20000 in
theorem ggX2_nextStream_X2_isCandidate : GoodIn wsX2_nextStream wsX2_isCandidate := goodIn_r _ [5, 6, 7, 8, 9, 10, 11, 12, 13, 4, 14, 15, 16, 17, 18, 19, 20, 21, 22, 23, 24, 25, 26, 27, 28, 29, 30, 31, 32, 33, 34, 35, 36, 37, 38, 39, 40, 41, 42, 43, 44, 51, 52, 53, 54, 55, 56, 57, 58, 59, 60, 61, 62, 63, 64, 65, 66, 67] (by decide +kernel) (by decide +kernel)
set_option maxRecDepth 20000 in
theorem gX2_nextStream_X2_isCandidate : GoodIn wsX2_nextStream (wsV RX2 104 RX2 yX2_isCandidate wsX2_isCandidate) := goodIn_app (goodIn_of _ (by decide +kernel)) ggX2_nextStream_X2_isCandidate
set_option maxRecDepth 20000 in
theorem ggX2_nextStream_X2_isLessServed : GoodIn wsX2_nextStream wsX2_isLessServed := goodIn_r _ [48, 49, 50, 8, 9, 10, 51, 52, 53, 54, 55, 56, 57, 58, 59, 60] (by decide +kernel) (by decide +kernel)
set_option maxRecDepth 20000 in
theorem gX2_nextStream_X2_isLessServed : GoodIn wsX2_nextStream (wsV RX2 107 RX2 yX2_isLessServed wsX2_isLessServed) := goodIn_app (goodIn_of _ (by decide +kernel)) ggX2_nextStream_X2_isLessServed
set_option maxRecDepth 20000 in
theorem ggX2_isLessServed_X3_isStream : GoodIn wsX2_isLessServed wsX3_isStream := goodIn_r _ [5] (by decide +kernel) (by decide +kernel)
set_option maxRecDepth 20000 in
theorem gX2_isLessServed_X3_isStream_n66 : GoodIn wsX2_isLessServed (wsX3_isStream) := ggX2_isLessServed_X3_isStream
set_option maxRecDepth 20000 in
theorem ggX2_sendFirst_X3_isStream : GoodIn wsX2_sendFirst wsX3_isStream := goodIn_r _ [8] (by decide +kernel) (by decide +kernel)
set_option maxRecDepth 20000 in
theorem gX2_sendFirst_X3_isStream_n66 : GoodIn wsX2_sendFirst (wsX3_isStream) := ggX2_sendFirst_X3_isStream
set_option maxRecDepth 20000 in
theorem ggX2_sendFirst_X0_sizeAt : GoodIn wsX2_sendFirst wsX0_sizeAt := goodIn_r _ [13, 14, 15, 16, 17, 12, 18, 19, 54, 55, 56, 57, 58] (by decide +kernel) (by decide +kernel)
set_option maxRecDepth 20000 in
theorem gX2_sendFirst_X0_sizeAt : GoodIn wsX2_sendFirst (wsV RX2 110 RX0 yX0_sizeAt wsX0_sizeAt) := goodIn_app (goodIn_of _ (by decide +kernel)) ggX2_sendFirst_X0_sizeAt
set_option maxRecDepth 20000 in
theorem ggX2_sendFirst_X0_isFull : GoodIn wsX2_sendFirst wsX0_isFull := goodIn_r _ [23, 19, 24, 54, 55, 56, 57, 58] (by decide +kernel) (by decide +kernel)
set_option maxRecDepth 20000 in
theorem gX2_sendFirst_X0_isFull : GoodIn wsX2_sendFirst (wsV RX2 113 RX0 yX0_isFull wsX0_isFull) := goodIn_app (goodIn_of _ (by decide +kernel)) ggX2_sendFirst_X0_isFull
set_option maxRecDepth 20000 in
theorem ggX2_sendFirst_X0_removeFirst : GoodIn wsX2_sendFirst wsX0_removeFirst := goodIn_r _ [28, 19, 24, 29, 14, 30, 54, 55, 56, 57, 58] (by decide +kernel) (by decide +kernel)
set_option maxRecDepth 20000 in
theorem gX2_sendFirst_X0_removeFirst : GoodIn wsX2_sendFirst (wsV RX2 117 RX0 yX0_removeFirst wsX0_removeFirst) := goodIn_app (goodIn_of _ (by decide +kernel)) ggX2_sendFirst_X0_removeFirst
set_option maxRecDepth 20000 in
theorem ggX2_sendFirst_X0_numberAt : GoodIn wsX2_sendFirst wsX0_numberAt := goodIn_r _ [34, 24, 15, 16, 17, 12, 18, 19, 54, 55, 56, 57, 58] (by decide +kernel) (by decide +kernel)
set_option maxRecDepth 20000 in
theorem gX2_sendFirst_X0_numberAt : GoodIn wsX2_sendFirst (wsV RX2 120 RX0 yX0_numberAt wsX0_numberAt) := goodIn_app (goodIn_of _ (by decide +kernel)) ggX2_sendFirst_X0_numberAt
set_option maxRecDepth 20000 in
theorem ggX2_sendFirst_X0_epochAt : GoodIn wsX2_sendFirst wsX0_epochAt := goodIn_r _ [38, 30, 15, 16, 17, 12, 18, 19, 54, 55, 56, 57, 58] (by decide +kernel) (by decide +kernel)
set_option maxRecDepth 20000 in
theorem gX2_sendFirst_X0_epochAt : GoodIn wsX2_sendFirst (wsV RX2 88 RX0 yX0_epochAt wsX0_epochAt) := goodIn_app (goodIn_of _ (by decide +kernel)) ggX2_sendFirst_X0_epochAt
set_option maxRecDepth 20000 in
theorem ggX2_sendFirst_X0_add : GoodIn wsX2_sendFirst wsX0_add := goodIn_r _ [42, 24, 19, 29, 14, 30, 43, 21, 22, 12, 23, 54, 55, 56, 57, 58] (by decide +kernel) (by decide +kernel)
set_option maxRecDepth 20000 in
theorem gX2_sendFirst_X0_add : GoodIn wsX2_sendFirst (wsV RX2 78 RX0 yX0_add wsX0_add) := goodIn_app (goodIn_of _ (by decide +kernel)) ggX2_sendFirst_X0_add
theorem kX2_isOpen_f9 : Cond.fieldLink RX2 9 "StreamMultiplexer$State" "opened" "I" ∈ wsX2_isOpen := List.mem_of_getElem? (i := 1) rfl
theorem uX2_isOpen_X2 : ∀ w ∈ wsX20, w ∈ wsX2_isOpen := fun w h => List.mem_cons_of_mem _ (List.mem_append_right _ h)
theorem kX2_openStream_f9 : Cond.fieldLink RX2 9 "StreamMultiplexer$State" "opened" "I" ∈ wsX2_openStream := List.mem_of_getElem? (i := 1) rfl
theorem uX2_openStream_X2 : ∀ w ∈ wsX20, w ∈ wsX2_openStream := fun w h => List.mem_cons_of_mem _ (List.mem_append_right _ h)
theorem kX2_openStream_f15 : Cond.fieldLink RX2 15 "StreamMultiplexer$State" "weights" "[I" ∈ wsX2_openStream := List.mem_of_getElem? (i := 2) rfl
theorem kX2_openStream_f19 : Cond.fieldLink RX2 19 "StreamMultiplexer$State" "amounts" "[I" ∈ wsX2_openStream := List.mem_of_getElem? (i := 3) rfl
theorem kX2_closeStream_f9 : Cond.fieldLink RX2 9 "StreamMultiplexer$State" "opened" "I" ∈ wsX2_closeStream := List.mem_of_getElem? (i := 1) rfl
theorem uX2_closeStream_X2 : ∀ w ∈ wsX20, w ∈ wsX2_closeStream := fun w h => List.mem_cons_of_mem _ (List.mem_append_right _ h)
theorem kX2_currentEpoch_f42 : Cond.fieldLink RX2 42 "StreamMultiplexer$State" "epochCount" "I" ∈ wsX2_currentEpoch := List.mem_of_getElem? (i := 1) rfl
theorem uX2_currentEpoch_X2 : ∀ w ∈ wsX20, w ∈ wsX2_currentEpoch := fun w h => List.mem_cons_of_mem _ (List.mem_append_right _ h)
theorem kX2_orderOf_f42 : Cond.fieldLink RX2 42 "StreamMultiplexer$State" "epochCount" "I" ∈ wsX2_orderOf := List.mem_of_getElem? (i := 1) rfl
theorem uX2_orderOf_X2 : ∀ w ∈ wsX20, w ∈ wsX2_orderOf := fun w h => List.mem_cons_of_mem _ (List.mem_append_right _ h)
theorem kX2_orderOf_f38 : Cond.fieldLink RX2 38 "StreamMultiplexer$State" "orders" "[LStreamMultiplexer$Order;" ∈ wsX2_orderOf := List.mem_of_getElem? (i := 2) rfl
theorem kX2_orderOf_f34 : Cond.fieldLink RX2 34 "StreamMultiplexer$State" "draft" "LStreamMultiplexer$Order;" ∈ wsX2_orderOf := List.mem_of_getElem? (i := 3) rfl
theorem kX2_beginEpoch_f42 : Cond.fieldLink RX2 42 "StreamMultiplexer$State" "epochCount" "I" ∈ wsX2_beginEpoch := List.mem_of_getElem? (i := 1) rfl
theorem uX2_beginEpoch_X2 : ∀ w ∈ wsX20, w ∈ wsX2_beginEpoch := fun w h => List.mem_cons_of_mem _ (List.mem_append_left _ (List.mem_append_right _ h))
theorem kX2_beginEpoch_f38 : Cond.fieldLink RX2 38 "StreamMultiplexer$State" "orders" "[LStreamMultiplexer$Order;" ∈ wsX2_beginEpoch := List.mem_of_getElem? (i := 2) rfl
theorem kX2_beginEpoch_f34 : Cond.fieldLink RX2 34 "StreamMultiplexer$State" "draft" "LStreamMultiplexer$Order;" ∈ wsX2_beginEpoch := List.mem_of_getElem? (i := 3) rfl
theorem kX2_takeFrame_f45 : Cond.fieldLink RX2 45 "StreamMultiplexer$State" "came" "I" ∈ wsX2_takeFrame := List.mem_of_getElem? (i := 1) rfl
theorem uX2_takeFrame_X2 : ∀ w ∈ wsX20, w ∈ wsX2_takeFrame := fun w h => List.mem_cons_of_mem _ (List.mem_append_left _ (List.mem_append_right _ h))
theorem kX2_takeFrame_f24 : Cond.fieldLink RX2 24 "StreamMultiplexer$State" "queues" "[LStreamMultiplexer$Frames;" ∈ wsX2_takeFrame := List.mem_of_getElem? (i := 2) rfl
theorem kX2_waitingCount_f24 : Cond.fieldLink RX2 24 "StreamMultiplexer$State" "queues" "[LStreamMultiplexer$Frames;" ∈ wsX2_waitingCount := List.mem_of_getElem? (i := 1) rfl
theorem uX2_waitingCount_X2 : ∀ w ∈ wsX20, w ∈ wsX2_waitingCount := fun w h => List.mem_cons_of_mem _ (List.mem_append_left _ (List.mem_append_right _ h))
theorem kX2_waitingCount_f82 : Cond.fieldLink RX2 82 "StreamMultiplexer$Frames" "count" "I" ∈ wsX2_waitingCount := List.mem_of_getElem? (i := 2) rfl
theorem uX2_waitingCount_X0 : ∀ w ∈ wsX00, w ∈ wsX2_waitingCount := fun w h => List.mem_cons_of_mem _ (List.mem_append_right _ h)
theorem kX2_waitingSize_f24 : Cond.fieldLink RX2 24 "StreamMultiplexer$State" "queues" "[LStreamMultiplexer$Frames;" ∈ wsX2_waitingSize := List.mem_of_getElem? (i := 1) rfl
theorem uX2_waitingSize_X2 : ∀ w ∈ wsX20, w ∈ wsX2_waitingSize := fun w h => List.mem_cons_of_mem _ (List.mem_append_left _ (List.mem_append_right _ h))
theorem kX2_blockersOfFirst_f24 : Cond.fieldLink RX2 24 "StreamMultiplexer$State" "queues" "[LStreamMultiplexer$Frames;" ∈ wsX2_blockersOfFirst := List.mem_of_getElem? (i := 1) rfl
theorem uX2_blockersOfFirst_X2 : ∀ w ∈ wsX20, w ∈ wsX2_blockersOfFirst := fun w h => List.mem_cons_of_mem _ (List.mem_append_left _ (List.mem_append_left _ (List.mem_append_right _ h)))
theorem kX2_blockersOfFirst_f82 : Cond.fieldLink RX2 82 "StreamMultiplexer$Frames" "count" "I" ∈ wsX2_blockersOfFirst := List.mem_of_getElem? (i := 2) rfl
theorem uX2_blockersOfFirst_X0 : ∀ w ∈ wsX00, w ∈ wsX2_blockersOfFirst := fun w h => List.mem_cons_of_mem _ (List.mem_append_left _ (List.mem_append_right _ h))
theorem kX2_isCandidate_f24 : Cond.fieldLink RX2 24 "StreamMultiplexer$State" "queues" "[LStreamMultiplexer$Frames;" ∈ wsX2_isCandidate := List.mem_of_getElem? (i := 1) rfl
theorem uX2_isCandidate_X2 : ∀ w ∈ wsX20, w ∈ wsX2_isCandidate := fun w h => List.mem_cons_of_mem _ (List.mem_append_left _ (List.mem_append_left _ (List.mem_append_right _ h)))
theorem kX2_isCandidate_f82 : Cond.fieldLink RX2 82 "StreamMultiplexer$Frames" "count" "I" ∈ wsX2_isCandidate := List.mem_of_getElem? (i := 2) rfl
theorem uX2_isCandidate_X0 : ∀ w ∈ wsX00, w ∈ wsX2_isCandidate := fun w h => List.mem_cons_of_mem _ (List.mem_append_left _ (List.mem_append_right _ h))
theorem kX2_isLessServed_f19 : Cond.fieldLink RX2 19 "StreamMultiplexer$State" "amounts" "[I" ∈ wsX2_isLessServed := List.mem_of_getElem? (i := 1) rfl
theorem uX2_isLessServed_X2 : ∀ w ∈ wsX20, w ∈ wsX2_isLessServed := fun w h => List.mem_cons_of_mem _ (List.mem_append_right _ h)
theorem kX2_isLessServed_f15 : Cond.fieldLink RX2 15 "StreamMultiplexer$State" "weights" "[I" ∈ wsX2_isLessServed := List.mem_of_getElem? (i := 2) rfl
theorem kX2_sendFirst_f24 : Cond.fieldLink RX2 24 "StreamMultiplexer$State" "queues" "[LStreamMultiplexer$Frames;" ∈ wsX2_sendFirst := List.mem_of_getElem? (i := 1) rfl
theorem uX2_sendFirst_X2 : ∀ w ∈ wsX20, w ∈ wsX2_sendFirst := fun w h => List.mem_cons_of_mem _ (List.mem_append_left _ (List.mem_append_right _ h))
theorem kX2_sendFirst_f82 : Cond.fieldLink RX2 82 "StreamMultiplexer$Frames" "count" "I" ∈ wsX2_sendFirst := List.mem_of_getElem? (i := 2) rfl
theorem uX2_sendFirst_X0 : ∀ w ∈ wsX00, w ∈ wsX2_sendFirst := fun w h => List.mem_cons_of_mem _ (List.mem_append_right _ h)
theorem kX2_sendFirst_f51 : Cond.fieldLink RX2 51 "StreamMultiplexer$State" "sentFrames" "LStreamMultiplexer$Frames;" ∈ wsX2_sendFirst := List.mem_of_getElem? (i := 3) rfl
theorem kX2_sendFirst_f19 : Cond.fieldLink RX2 19 "StreamMultiplexer$State" "amounts" "[I" ∈ wsX2_sendFirst := List.mem_of_getElem? (i := 4) rfl
theorem kX2_sendFirst_f48 : Cond.fieldLink RX2 48 "StreamMultiplexer$State" "sent" "I" ∈ wsX2_sendFirst := List.mem_of_getElem? (i := 5) rfl
theorem kX2_copyFrom_f9 : Cond.fieldLink RX2 9 "StreamMultiplexer$State" "opened" "I" ∈ wsX2_copyFrom := List.mem_of_getElem? (i := 1) rfl
theorem uX2_copyFrom_X2 : ∀ w ∈ wsX20, w ∈ wsX2_copyFrom := fun w h => List.mem_cons_of_mem _ (List.mem_append_left _ (List.mem_append_left _ (List.mem_append_right _ h)))
theorem kX2_copyFrom_f15 : Cond.fieldLink RX2 15 "StreamMultiplexer$State" "weights" "[I" ∈ wsX2_copyFrom := List.mem_of_getElem? (i := 2) rfl
theorem kX2_copyFrom_f19 : Cond.fieldLink RX2 19 "StreamMultiplexer$State" "amounts" "[I" ∈ wsX2_copyFrom := List.mem_of_getElem? (i := 3) rfl
theorem kX2_copyFrom_f24 : Cond.fieldLink RX2 24 "StreamMultiplexer$State" "queues" "[LStreamMultiplexer$Frames;" ∈ wsX2_copyFrom := List.mem_of_getElem? (i := 4) rfl
theorem kX2_copyFrom_f34 : Cond.fieldLink RX2 34 "StreamMultiplexer$State" "draft" "LStreamMultiplexer$Order;" ∈ wsX2_copyFrom := List.mem_of_getElem? (i := 5) rfl
theorem kX2_copyFrom_f42 : Cond.fieldLink RX2 42 "StreamMultiplexer$State" "epochCount" "I" ∈ wsX2_copyFrom := List.mem_of_getElem? (i := 6) rfl
theorem kX2_copyFrom_f38 : Cond.fieldLink RX2 38 "StreamMultiplexer$State" "orders" "[LStreamMultiplexer$Order;" ∈ wsX2_copyFrom := List.mem_of_getElem? (i := 7) rfl
theorem kX2_copyFrom_f45 : Cond.fieldLink RX2 45 "StreamMultiplexer$State" "came" "I" ∈ wsX2_copyFrom := List.mem_of_getElem? (i := 8) rfl
theorem kX2_copyFrom_f48 : Cond.fieldLink RX2 48 "StreamMultiplexer$State" "sent" "I" ∈ wsX2_copyFrom := List.mem_of_getElem? (i := 9) rfl
theorem kX2_copyFrom_f51 : Cond.fieldLink RX2 51 "StreamMultiplexer$State" "sentFrames" "LStreamMultiplexer$Frames;" ∈ wsX2_copyFrom := List.mem_of_getElem? (i := 10) rfl
/-- a state's own numbers: how many wait (c), the epoch of the first that waits (e), how many epochs (ec), how many entries the log has (lc) -/
def WfS (I : hm_I) (q : Nat) (c e : Nat → Nat) (ec lc : Nat) : Prop :=
  (∀ s, s < 8 → I (q + 4 + 5 * s) 4 = nI (c s) ∧ c s ≤ 6) ∧ (∀ s, s < 8 → 0 < c s → I ((q + 4 + 5 * s) + 4) 0 = nI (e s) ∧ e s < ec) ∧ I q 6 = nI ec ∧ 1 ≤ ec ∧ ec ≤ 10 ∧ I (q + 78) 4 = nI lc ∧ lc ≤ 40
def fX2_isOpen (I : hm_I) (q : Nat) (s0 : Int32) : Bool :=
  fX3_isIn (I q 0) s0
set_option maxHeartbeats 4000000 in
set_option maxRecDepth 100000 in
theorem ctX2_isOpen {l : Launch} {D : va_G} {T : Nat → ClassId} {L : List Nat} {A : Nat → Prop} {Sh : hm_S} {I : hm_I} {J : hm_J} {q : Nat} (hSt : IsS L Sh q) {s0 : Int32} :
    Ct l yX2_isOpen wsX2_isOpen { frames := 1, cells := 0, slots := 0, locals := 21 } 0 0 D T A [.ref q, .int s0] (hm D T L A Sh I J) (some (.int (bI (fX2_isOpen I q s0)))) (hm D T L A Sh I J) := by
  refine Ct.ofW (cc := cX2_isOpen) (maxL := 2) (ret := (some .boolean)) (by decide) rfl (Nat.le_of_ble_eq_true rfl) ?_
  intro p_ e_ s_ m_ args_ below_ meth_ c_ ls R Qq hR hQ C0 hr hlk hname hM hl
  have hx := C0.1.1
  have hb := C0.1.2.1
  have hS : va_S A s_.heap s_.heap [] := va_S.rf
  have hl : lv_has ls 2 [(0, .ref q), (1, .int s0)] := hl
  refine lv_aload_n hx hb dX2_isOpen_0 rfl (lv_at hl 0 rfl) ?_
  refine mr_geti (v := I q 0) (TT := TX2) (N := 10) C0 uX2_isOpen_X2 hM hSt.1.1 hSt.1.2 rfl 0 (by decide) rfl rfl kX2_isOpen_f9 rfl dX2_isOpen_1 ?_
  refine lv_iload_n hx hb dX2_isOpen_4 rfl (lv_at hl 1 rfl) ?_
  refine mr_callSN (As := [.int (I q 0), .int s0]) C0 (ctX3_isIn (I := I) (J := J) (u0 := (I q 0)) (s0 := s0) ) (va_cnB (own := RX2) (index := 62) 2 C0.1.2.2.2.2 ggX2_isOpen_X3_isIn rfl rfl rfl C0.2.2.2.2.2.2.1 (C0.1.2.2.2.2 _ (List.mem_of_getElem? (i := 3) rfl)) (by decide +kernel) (by rw [hR]; exact ⟨Nat.le_of_ble_eq_true rfl, Nat.le_of_ble_eq_true rfl⟩)) (C0.1.2.2.2.2 _ (List.mem_of_getElem? (i := 2) rfl)) hM hS rfl rfl rfl hl.1 (Nat.le_of_ble_eq_true rfl) dX2_isOpen_5 (by rw [hR]; exact ⟨Nat.zero_le _, Nat.zero_le _⟩) (fun H locs hM hS => ?_)
  have eF : fX3_isIn (I q 0) s0 = fX2_isOpen I q s0 := rfl
  exact mr_zret (b := fX3_isIn (I q 0) s0) C0 hr hlk hQ hS (by rw [← eF]) hM (Nat.le_refl _) (Nat.le_refl _) dX2_isOpen_8
def fX2_openStream_t (I : hm_I) (q s0 : Nat) (w0 : Int32) : hm_I :=
  hm_put (hm_put (hm_put I q 0 ((I q 0) ||| (fX3_setOf (nI s0)))) (q + 1) s0 w0) (q + 2) s0 (nI 0)
set_option maxHeartbeats 4000000 in
set_option maxRecDepth 100000 in
theorem ctX2_openStream_t {l : Launch} {D : va_G} {T : Nat → ClassId} {L : List Nat} {A : Nat → Prop} {Sh : hm_S} {I : hm_I} {J : hm_J} {q : Nat} (hSt : IsS L Sh q) {s0 : Nat} {w0 : Int32} (hs0 : s0 < 8) :
    Ct l yX2_openStream wsX2_openStream { frames := 1, cells := 0, slots := 0, locals := 20 } 0 0 D T A [.ref q, .int (nI s0), .int w0] (hm D T L A Sh I J) none (hm D T L A Sh (fX2_openStream_t I q s0 w0) J) := by
  refine Ct.ofW (cc := cX2_openStream) (maxL := 3) (ret := none) (by decide) rfl (Nat.le_of_ble_eq_true rfl) ?_
  intro p_ e_ s_ m_ args_ below_ meth_ c_ ls R Qq hR hQ C0 hr hlk hname hM hl
  have hx := C0.1.1
  have hb := C0.1.2.1
  have hS : va_S A s_.heap s_.heap [] := va_S.rf
  have hl : lv_has ls 3 [(0, .ref q), (1, .int (nI s0)), (2, .int w0)] := hl
  refine lv_iload_n hx hb dX2_openStream_0 rfl (lv_at hl 1 rfl) ?_
  refine mr_callSN (As := [.int (nI s0)]) C0 (ctX3_isStream_t (I := I) (J := J) (s0 := s0) (by omega)) (va_cnB (own := RX2) (index := 66) 1 C0.1.2.2.2.2 ggX2_openStream_X3_isStream rfl rfl rfl C0.2.2.2.2.2.2.2.1 (C0.1.2.2.2.2 _ (List.mem_of_getElem? (i := 5) rfl)) (by decide +kernel) (by rw [hR]; exact ⟨Nat.le_of_ble_eq_true rfl, Nat.le_of_ble_eq_true rfl⟩)) (C0.1.2.2.2.2 _ (List.mem_of_getElem? (i := 4) rfl)) hM hS rfl rfl rfl hl.1 (Nat.le_of_ble_eq_true rfl) dX2_openStream_1 (by rw [hR]; exact ⟨Nat.zero_le _, Nat.zero_le _⟩) (fun H locs hM hS => ?_)
  refine mr_neB (tgt := 8) C0 dX2_openStream_4 (by decide) (fun _ => ?_) (fun c1 => absurd c1 (by decide))
  refine lv_aload_n hx hb dX2_openStream_8 rfl (lv_at hl 0 rfl) ?_
  refine lv_dup hx hb dX2_openStream_9 rfl ?_
  refine mr_geti (v := I q 0) (TT := TX2) (N := 10) C0 uX2_openStream_X2 hM hSt.1.1 hSt.1.2 rfl 0 (by decide) rfl rfl kX2_openStream_f9 rfl dX2_openStream_10 ?_
  refine lv_iload_n hx hb dX2_openStream_13 rfl (lv_at hl 1 rfl) ?_
  refine mr_callSN (As := [.int (nI s0)]) C0 (ctX3_setOf (I := I) (J := J) (s0 := (nI s0)) ) (va_cnB (own := RX2) (index := 70) 1 C0.1.2.2.2.2 ggX2_openStream_X3_setOf rfl rfl rfl C0.2.2.2.2.2.2.2.2 (C0.1.2.2.2.2 _ (List.mem_of_getElem? (i := 5) rfl)) (by decide +kernel) (by rw [hR]; exact ⟨Nat.le_of_ble_eq_true rfl, Nat.le_of_ble_eq_true rfl⟩)) (C0.1.2.2.2.2 _ (List.mem_of_getElem? (i := 7) rfl)) hM hS rfl rfl rfl hl.1 (Nat.le_of_ble_eq_true rfl) dX2_openStream_14 (by rw [hR]; exact ⟨Nat.zero_le _, Nat.zero_le _⟩) (fun H locs hM hS => ?_)
  refine lv_ior hx hb dX2_openStream_17 ?_
  refine mr_puti (TT := TX2) (N := 10) C0 uX2_openStream_X2 tyX2 tyX2_ok nmX2 hM hS hSt.1.1 hSt.1.2 rfl 0 (by decide) rfl kX2_openStream_f9 rfl rfl (by decide +kernel) dX2_openStream_18 (fun H locs hM hS => ?_)
  refine lv_aload_n hx hb dX2_openStream_21 rfl (lv_at hl 0 rfl) ?_
  refine mr_getr (r := q + 1) (TT := TX2) (N := 10) C0 uX2_openStream_X2 hM hSt.1.1 hSt.1.2 rfl 1 (by decide) rfl kX2_openStream_f15 rfl dX2_openStream_22 ?_
  refine lv_iload_n hx hb dX2_openStream_25 rfl (lv_at hl 1 rfl) ?_
  refine lv_iload_n hx hb dX2_openStream_26 rfl (lv_at hl 2 rfl) ?_
  refine mr_iastN C0 hM hS hSt.2.1.1 hSt.2.1.2 (by decide) (by omega) dX2_openStream_27 (fun H locs hM hS => ?_)
  refine lv_aload_n hx hb dX2_openStream_28 rfl (lv_at hl 0 rfl) ?_
  refine mr_getr (r := q + 2) (TT := TX2) (N := 10) C0 uX2_openStream_X2 hM hSt.1.1 hSt.1.2 rfl 2 (by decide) rfl kX2_openStream_f19 rfl dX2_openStream_29 ?_
  refine lv_iload_n hx hb dX2_openStream_32 rfl (lv_at hl 1 rfl) ?_
  refine lv_iconst (v := nI 0) hx hb dX2_openStream_33 (by decide) ?_
  refine mr_iastN C0 hM hS hSt.2.2.1.1 hSt.2.2.1.2 (by decide) (by omega) dX2_openStream_34 (fun H locs hM hS => ?_)
  have eF : hm_put (hm_put (hm_put I q 0 ((I q 0) ||| (fX3_setOf (nI s0)))) (q + 1) s0 w0) (q + 2) s0 (nI 0) = fX2_openStream_t I q s0 w0 := rfl
  exact mr_vret C0 hr hlk hQ hS rfl (by rw [← eF]; exact hM) (Nat.le_refl _) (Nat.le_refl _) dX2_openStream_35
def fX2_closeStream (I : hm_I) (q : Nat) (s0 : Int32) : hm_I :=
  hm_put I q 0 ((I q 0) &&& ((fX3_setOf s0) ^^^ (-1)))
set_option maxHeartbeats 4000000 in
set_option maxRecDepth 100000 in
theorem ctX2_closeStream {l : Launch} {D : va_G} {T : Nat → ClassId} {L : List Nat} {A : Nat → Prop} {Sh : hm_S} {I : hm_I} {J : hm_J} {q : Nat} (hSt : IsS L Sh q) {s0 : Int32} :
    Ct l yX2_closeStream wsX2_closeStream { frames := 1, cells := 0, slots := 0, locals := 20 } 0 0 D T A [.ref q, .int s0] (hm D T L A Sh I J) none (hm D T L A Sh (fX2_closeStream I q s0) J) := by
  refine Ct.ofW (cc := cX2_closeStream) (maxL := 2) (ret := none) (by decide) rfl (Nat.le_of_ble_eq_true rfl) ?_
  intro p_ e_ s_ m_ args_ below_ meth_ c_ ls R Qq hR hQ C0 hr hlk hname hM hl
  have hx := C0.1.1
  have hb := C0.1.2.1
  have hS : va_S A s_.heap s_.heap [] := va_S.rf
  have hl : lv_has ls 2 [(0, .ref q), (1, .int s0)] := hl
  refine lv_aload_n hx hb dX2_closeStream_0 rfl (lv_at hl 0 rfl) ?_
  refine lv_dup hx hb dX2_closeStream_1 rfl ?_
  refine mr_geti (v := I q 0) (TT := TX2) (N := 10) C0 uX2_closeStream_X2 hM hSt.1.1 hSt.1.2 rfl 0 (by decide) rfl rfl kX2_closeStream_f9 rfl dX2_closeStream_2 ?_
  refine lv_iload_n hx hb dX2_closeStream_5 rfl (lv_at hl 1 rfl) ?_
  refine mr_callSN (As := [.int s0]) C0 (ctX3_setOf (I := I) (J := J) (s0 := s0) ) (va_cnB (own := RX2) (index := 70) 1 C0.1.2.2.2.2 ggX2_closeStream_X3_setOf rfl rfl rfl C0.2.2.2.2.2.2.2.2 (C0.1.2.2.2.2 _ (List.mem_of_getElem? (i := 3) rfl)) (by decide +kernel) (by rw [hR]; exact ⟨Nat.le_of_ble_eq_true rfl, Nat.le_of_ble_eq_true rfl⟩)) (C0.1.2.2.2.2 _ (List.mem_of_getElem? (i := 2) rfl)) hM hS rfl rfl rfl hl.1 (Nat.le_of_ble_eq_true rfl) dX2_closeStream_6 (by rw [hR]; exact ⟨Nat.zero_le _, Nat.zero_le _⟩) (fun H locs hM hS => ?_)
  refine lv_iconst (v := (-1)) hx hb dX2_closeStream_9 (by decide) ?_
  refine lv_ixor hx hb dX2_closeStream_10 ?_
  refine lv_iand hx hb dX2_closeStream_11 ?_
  refine mr_puti (TT := TX2) (N := 10) C0 uX2_closeStream_X2 tyX2 tyX2_ok nmX2 hM hS hSt.1.1 hSt.1.2 rfl 0 (by decide) rfl kX2_closeStream_f9 rfl rfl (by decide +kernel) dX2_closeStream_12 (fun H locs hM hS => ?_)
  have eF : hm_put I q 0 ((I q 0) &&& ((fX3_setOf s0) ^^^ (-1))) = fX2_closeStream I q s0 := rfl
  exact mr_vret C0 hr hlk hQ hS rfl (by rw [← eF]; exact hM) (Nat.le_refl _) (Nat.le_refl _) dX2_closeStream_15
set_option maxHeartbeats 4000000 in
set_option maxRecDepth 100000 in
theorem ctX2_currentEpoch {l : Launch} {D : va_G} {T : Nat → ClassId} {L : List Nat} {A : Nat → Prop} {Sh : hm_S} {I : hm_I} {J : hm_J} {q : Nat} (hSt : IsS L Sh q) {c e : Nat → Nat} {ec lc : Nat} (hW : WfS I q c e ec lc) :
    Ct l yX2_currentEpoch wsX2_currentEpoch { frames := 0, cells := 0, slots := 0, locals := 0 } 0 0 D T A [.ref q] (hm D T L A Sh I J) (some (.int (nI (ec - 1)))) (hm D T L A Sh I J) := by
  refine Ct.ofW (cc := cX2_currentEpoch) (maxL := 1) (ret := (some .int)) (by decide) rfl (Nat.le_of_ble_eq_true rfl) ?_
  intro p_ e_ s_ m_ args_ below_ meth_ c_ ls R Qq hR hQ C0 hr hlk hname hM hl
  have hx := C0.1.1
  have hb := C0.1.2.1
  have hS : va_S A s_.heap s_.heap [] := va_S.rf
  have hl : lv_has ls 1 [(0, .ref q)] := hl
  refine lv_aload_n hx hb dX2_currentEpoch_0 rfl (lv_at hl 0 rfl) ?_
  have hw1 := hW.2.2.2.1
  have hw1b := hW.2.2.2.2.1
  refine mr_geti (v := nI ec) (TT := TX2) (N := 10) C0 uX2_currentEpoch_X2 hM hSt.1.1 hSt.1.2 rfl 6 (by decide) rfl hW.2.2.1 kX2_currentEpoch_f42 rfl dX2_currentEpoch_1 ?_
  refine lv_iconst (v := nI 1) hx hb dX2_currentEpoch_4 (by decide) ?_
  refine mr_isubN (z := (ec - 1)) C0 (by omega) dX2_currentEpoch_5 ?_
  have eF : nI (ec - 1) = nI (ec - 1) := rfl
  exact mr_iret (v := nI (ec - 1)) C0 hr hlk hQ hS (by rw [← eF]) hM (Nat.le_refl _) (Nat.le_refl _) dX2_currentEpoch_6
set_option maxHeartbeats 4000000 in
set_option maxRecDepth 100000 in
theorem ctX2_orderOf_t {l : Launch} {D : va_G} {T : Nat → ClassId} {L : List Nat} {A : Nat → Prop} {Sh : hm_S} {I : hm_I} {J : hm_J} {q : Nat} (hSt : IsS L Sh q) {c e : Nat → Nat} {ec lc : Nat} (hW : WfS I q c e ec lc) {e0 : Nat} (he0 : e0 < ec) :
    Ct l yX2_orderOf wsX2_orderOf { frames := 0, cells := 0, slots := 0, locals := 0 } 0 0 D T A [.ref q, .int (nI e0)] (hm D T L A Sh I J) (some (.ref (q + 48 + 3 * e0))) (hm D T L A Sh I J) := by
  refine Ct.ofW (cc := cX2_orderOf) (maxL := 2) (ret := (some (.object "StreamMultiplexer$Order"))) (by decide) rfl (Nat.le_of_ble_eq_true rfl) ?_
  intro p_ e_ s_ m_ args_ below_ meth_ c_ ls R Qq hR hQ C0 hr hlk hname hM hl
  have hx := C0.1.1
  have hb := C0.1.2.1
  have hS : va_S A s_.heap s_.heap [] := va_S.rf
  have hl : lv_has ls 2 [(0, .ref q), (1, .int (nI e0))] := hl
  have hW1 := hW.2.2.2.2.1
  refine lv_iload_n hx hb dX2_orderOf_0 rfl (lv_at hl 1 rfl) ?_
  refine lv_if_lt (tgt := 27) hx hb dX2_orderOf_1 (by decide) (fun c1 => absurd c1 (nI_pos (by omega))) (fun c1 => ?_)
  refine lv_iload_n hx hb dX2_orderOf_4 rfl (lv_at hl 1 rfl) ?_
  refine lv_aload_n hx hb dX2_orderOf_5 rfl (lv_at hl 0 rfl) ?_
  have hw2 := hW.2.2.2.1
  have hw2b := hW.2.2.2.2.1
  refine mr_geti (v := nI ec) (TT := TX2) (N := 10) C0 uX2_orderOf_X2 hM hSt.1.1 hSt.1.2 rfl 6 (by decide) rfl hW.2.2.1 kX2_orderOf_f42 rfl dX2_orderOf_6 ?_
  refine mr_geN (x := e0) (y := ec) (tgt := 27) C0 dX2_orderOf_9 (by decide) (by omega) (by omega) (fun c3 => absurd c3 (by omega)) (fun c3 => ?_)
  refine lv_iload_n hx hb dX2_orderOf_12 rfl (lv_at hl 1 rfl) ?_
  refine lv_bipush (v := nI 10) hx hb dX2_orderOf_13 (by decide) ?_
  refine mr_geN (x := e0) (y := 10) (tgt := 27) C0 dX2_orderOf_15 (by decide) (by omega) (by omega) (fun c4 => absurd c4 (by omega)) (fun c4 => ?_)
  refine lv_aload_n hx hb dX2_orderOf_18 rfl (lv_at hl 0 rfl) ?_
  refine mr_getr (r := q + 47) (TT := TX2) (N := 10) C0 uX2_orderOf_X2 hM hSt.1.1 hSt.1.2 rfl 5 (by decide) rfl kX2_orderOf_f38 rfl dX2_orderOf_19 ?_
  refine lv_iload_n hx hb dX2_orderOf_22 rfl (lv_at hl 1 rfl) ?_
  refine mr_aald (t := 1) (C := RX1) (r := q + 48 + 3 * e0) C0 hM hSt.2.2.2.2.2.2.1.1 hSt.2.2.2.2.2.2.1.2 rfl (by decide) (by omega) rfl dX2_orderOf_23 ?_
  refine lv_goto (tgt := 31) hx hb dX2_orderOf_24 (by decide) ?_
  have eF : q + 48 + 3 * e0 = q + 48 + 3 * e0 := rfl
  exact mr_aret (v := q + 48 + 3 * e0) C0 hr hlk hQ hS (by rw [← eF]) hM (Nat.le_refl _) (Nat.le_refl _) dX2_orderOf_31
set_option maxHeartbeats 4000000 in
set_option maxRecDepth 100000 in
theorem ctX2_orderOf_d {l : Launch} {D : va_G} {T : Nat → ClassId} {L : List Nat} {A : Nat → Prop} {Sh : hm_S} {I : hm_I} {J : hm_J} {q : Nat} (hSt : IsS L Sh q) {e0 : Int32} (he0 : e0 < 0) :
    Ct l yX2_orderOf wsX2_orderOf { frames := 0, cells := 0, slots := 0, locals := 0 } 0 0 D T A [.ref q, .int e0] (hm D T L A Sh I J) (some (.ref (q + 44))) (hm D T L A Sh I J) := by
  refine Ct.ofW (cc := cX2_orderOf) (maxL := 2) (ret := (some (.object "StreamMultiplexer$Order"))) (by decide) rfl (Nat.le_of_ble_eq_true rfl) ?_
  intro p_ e_ s_ m_ args_ below_ meth_ c_ ls R Qq hR hQ C0 hr hlk hname hM hl
  have hx := C0.1.1
  have hb := C0.1.2.1
  have hS : va_S A s_.heap s_.heap [] := va_S.rf
  have hl : lv_has ls 2 [(0, .ref q), (1, .int e0)] := hl
  refine lv_iload_n hx hb dX2_orderOf_0 rfl (lv_at hl 1 rfl) ?_
  refine lv_if_lt (tgt := 27) hx hb dX2_orderOf_1 (by decide) (fun c1 => ?_) (fun c1 => absurd he0 c1)
  refine lv_aload_n hx hb dX2_orderOf_27 rfl (lv_at hl 0 rfl) ?_
  refine mr_getr (r := q + 44) (TT := TX2) (N := 10) C0 uX2_orderOf_X2 hM hSt.1.1 hSt.1.2 rfl 4 (by decide) rfl kX2_orderOf_f34 rfl dX2_orderOf_28 ?_
  have eF : q + 44 = q + 44 := rfl
  exact mr_aret (v := q + 44) C0 hr hlk hQ hS (by rw [← eF]) hM (Nat.le_refl _) (Nat.le_refl _) dX2_orderOf_31
def fX2_beginEpoch_t (I : hm_I) (q ec : Nat) : hm_I :=
  hm_put (fX1_copyFrom I (q + 48 + 3 * ec) (q + 44)) q 6 (nI (ec + 1))
set_option maxHeartbeats 4000000 in
set_option maxRecDepth 100000 in
theorem ctX2_beginEpoch_t {l : Launch} {D : va_G} {T : Nat → ClassId} {L : List Nat} {A : Nat → Prop} {Sh : hm_S} {I : hm_I} {J : hm_J} {q : Nat} (hSt : IsS L Sh q) {c e : Nat → Nat} {ec lc : Nat} (hW : WfS I q c e ec lc) (hec : ec < 10) :
    Ct l yX2_beginEpoch wsX2_beginEpoch { frames := 1, cells := 0, slots := 0, locals := 22 } 0 0 D T A [.ref q] (hm D T L A Sh I J) none (hm D T L A Sh (fX2_beginEpoch_t I q ec) J) := by
  refine Ct.ofW (cc := cX2_beginEpoch) (maxL := 1) (ret := none) (by decide) rfl (Nat.le_of_ble_eq_true rfl) ?_
  intro p_ e_ s_ m_ args_ below_ meth_ c_ ls R Qq hR hQ C0 hr hlk hname hM hl
  have hx := C0.1.1
  have hb := C0.1.2.1
  have hS : va_S A s_.heap s_.heap [] := va_S.rf
  have hl : lv_has ls 1 [(0, .ref q)] := hl
  refine lv_aload_n hx hb dX2_beginEpoch_0 rfl (lv_at hl 0 rfl) ?_
  have hw1 := hW.2.2.2.1
  have hw1b := hW.2.2.2.2.1
  refine mr_geti (v := nI ec) (TT := TX2) (N := 10) C0 uX2_beginEpoch_X2 hM hSt.1.1 hSt.1.2 rfl 6 (by decide) rfl hW.2.2.1 kX2_beginEpoch_f42 rfl dX2_beginEpoch_1 ?_
  refine lv_bipush (v := nI 10) hx hb dX2_beginEpoch_4 (by decide) ?_
  refine mr_ltN (x := ec) (y := 10) (tgt := 10) C0 dX2_beginEpoch_6 (by decide) (by omega) (by omega) (fun c2 => ?_) (fun c2 => absurd c2 (by omega))
  refine lv_aload_n hx hb dX2_beginEpoch_10 rfl (lv_at hl 0 rfl) ?_
  refine mr_getr (r := q + 47) (TT := TX2) (N := 10) C0 uX2_beginEpoch_X2 hM hSt.1.1 hSt.1.2 rfl 5 (by decide) rfl kX2_beginEpoch_f38 rfl dX2_beginEpoch_11 ?_
  refine lv_aload_n hx hb dX2_beginEpoch_14 rfl (lv_at hl 0 rfl) ?_
  refine mr_geti (v := nI ec) (TT := TX2) (N := 10) C0 uX2_beginEpoch_X2 hM hSt.1.1 hSt.1.2 rfl 6 (by decide) rfl hW.2.2.1 kX2_beginEpoch_f42 rfl dX2_beginEpoch_15 ?_
  refine mr_aald (t := 1) (C := RX1) (r := q + 48 + 3 * ec) C0 hM hSt.2.2.2.2.2.2.1.1 hSt.2.2.2.2.2.2.1.2 rfl (by decide) (by omega) rfl dX2_beginEpoch_18 ?_
  refine lv_aload_n hx hb dX2_beginEpoch_19 rfl (lv_at hl 0 rfl) ?_
  refine mr_getr (r := q + 44) (TT := TX2) (N := 10) C0 uX2_beginEpoch_X2 hM hSt.1.1 hSt.1.2 rfl 4 (by decide) rfl kX2_beginEpoch_f34 rfl dX2_beginEpoch_20 ?_
  refine mr_callV (As := [.ref (q + 44)]) C0 (ctX1_copyFrom (I := I) (J := J) (a := (q + 48 + 3 * ec)) (b := (q + 44)) (hSt.2.2.2.2.2.2.2.1 _ (by omega)) hSt.2.2.2.2.2.1 (by omega)) (cwV 1 C0.1.2.2.2.2 gX2_beginEpoch_X1_copyFrom rfl rfl rfl (by decide +kernel) (by rw [hR]; exact ⟨Nat.le_of_ble_eq_true rfl, Nat.le_of_ble_eq_true rfl⟩)) hM (hSt.2.2.2.2.2.2.2.1 _ (by omega)).1.1 (hSt.2.2.2.2.2.2.2.1 _ (by omega)).1.2 rfl rfl hM hS rfl rfl rfl hl.1 (Nat.le_of_ble_eq_true rfl) dX2_beginEpoch_23 (by rw [hR]; exact ⟨Nat.zero_le _, Nat.zero_le _⟩) (fun H locs hM hS => ?_)
  refine lv_aload_n hx hb dX2_beginEpoch_26 rfl (lv_at hl 0 rfl) ?_
  refine lv_dup hx hb dX2_beginEpoch_27 rfl ?_
  refine mr_geti (v := nI ec) (TT := TX2) (N := 10) C0 uX2_beginEpoch_X2 hM hSt.1.1 hSt.1.2 rfl 6 (by decide) rfl ((congrFun (fX1_copyFrom_ne (by omega)) _).trans hW.2.2.1) kX2_beginEpoch_f42 rfl dX2_beginEpoch_28 ?_
  refine lv_iconst (v := nI 1) hx hb dX2_beginEpoch_31 (by decide) ?_
  refine mr_iaddN (z := ec + 1) C0 rfl dX2_beginEpoch_32 ?_
  refine mr_puti (TT := TX2) (N := 10) C0 uX2_beginEpoch_X2 tyX2 tyX2_ok nmX2 hM hS hSt.1.1 hSt.1.2 rfl 6 (by decide) rfl kX2_beginEpoch_f42 rfl rfl (by decide +kernel) dX2_beginEpoch_33 (fun H locs hM hS => ?_)
  have eF : hm_put (fX1_copyFrom I (q + 48 + 3 * ec) (q + 44)) q 6 (nI (ec + 1)) = fX2_beginEpoch_t I q ec := rfl
  exact mr_vret C0 hr hlk hQ hS rfl (by rw [← eF]; exact hM) (Nat.le_refl _) (Nat.le_refl _) dX2_beginEpoch_36
def fX2_takeFrame_t (I : hm_I) (q : Nat) (c : Nat → Nat) (ec s0 : Nat) (z : Int32) : Int32 × hm_I :=
  (I q 7, hm_put (fX0_add_t I (q + 4 + 5 * s0) (c s0) (I q 7) (nI s0) z (nI (ec - 1))) q 7 (((fX0_add_t I (q + 4 + 5 * s0) (c s0) (I q 7) (nI s0) z (nI (ec - 1))) q 7) + (nI 1)))
set_option maxHeartbeats 4000000 in
set_option maxRecDepth 100000 in
theorem ctX2_takeFrame_t {l : Launch} {D : va_G} {T : Nat → ClassId} {L : List Nat} {A : Nat → Prop} {Sh : hm_S} {I : hm_I} {J : hm_J} {q : Nat} (hSt : IsS L Sh q) {c e : Nat → Nat} {ec lc : Nat} (hW : WfS I q c e ec lc) {s0 : Nat} {z : Int32} (hs0 : s0 < 8) (hcl : c s0 < 6) :
    Ct l yX2_takeFrame wsX2_takeFrame { frames := 2, cells := 0, slots := 0, locals := 44 } 0 0 D T A [.ref q, .int (nI s0), .int z] (hm D T L A Sh I J) (some (.int ((fX2_takeFrame_t I q c ec s0 z).1))) (hm D T L A Sh ((fX2_takeFrame_t I q c ec s0 z).2) J) := by
  refine Ct.ofW (cc := cX2_takeFrame) (maxL := 4) (ret := (some .int)) (by decide) rfl (Nat.le_of_ble_eq_true rfl) ?_
  intro p_ e_ s_ m_ args_ below_ meth_ c_ ls R Qq hR hQ C0 hr hlk hname hM hl
  have hx := C0.1.1
  have hb := C0.1.2.1
  have hS : va_S A s_.heap s_.heap [] := va_S.rf
  have hl : lv_has ls 4 [(0, .ref q), (1, .int (nI s0)), (2, .int z)] := hl
  refine lv_iload_n hx hb dX2_takeFrame_0 rfl (lv_at hl 1 rfl) ?_
  refine mr_callSN (As := [.int (nI s0)]) C0 (ctX3_isStream_t (I := I) (J := J) (s0 := s0) (by omega)) (va_cnB (own := RX2) (index := 66) 1 C0.1.2.2.2.2 ggX2_takeFrame_X3_isStream rfl rfl rfl C0.2.2.2.2.2.2.2.1 (C0.1.2.2.2.2 _ (List.mem_of_getElem? (i := 4) rfl)) (by decide +kernel) (by rw [hR]; exact ⟨Nat.le_of_ble_eq_true rfl, Nat.le_of_ble_eq_true rfl⟩)) (C0.1.2.2.2.2 _ (List.mem_of_getElem? (i := 3) rfl)) hM hS rfl rfl rfl hl.1 (Nat.le_of_ble_eq_true rfl) dX2_takeFrame_1 (by rw [hR]; exact ⟨Nat.zero_le _, Nat.zero_le _⟩) (fun H locs hM hS => ?_)
  refine mr_neB (tgt := 10) C0 dX2_takeFrame_4 (by decide) (fun _ => ?_) (fun c1 => absurd c1 (by decide))
  refine lv_aload_n hx hb dX2_takeFrame_10 rfl (lv_at hl 0 rfl) ?_
  refine mr_geti (v := I q 7) (TT := TX2) (N := 10) C0 uX2_takeFrame_X2 hM hSt.1.1 hSt.1.2 rfl 7 (by decide) rfl rfl kX2_takeFrame_f45 rfl dX2_takeFrame_11 ?_
  refine lv_istore_n (lv' := [(3, .int (I q 7)), (0, .ref q), (1, .int (nI s0)), (2, .int z)]) hx hb dX2_takeFrame_14 rfl hl (by decide) rfl (fun ls hl => ?_)
  refine lv_aload_n hx hb dX2_takeFrame_15 rfl (lv_at hl 1 rfl) ?_
  refine mr_getr (r := q + 3) (TT := TX2) (N := 10) C0 uX2_takeFrame_X2 hM hSt.1.1 hSt.1.2 rfl 3 (by decide) rfl kX2_takeFrame_f24 rfl dX2_takeFrame_16 ?_
  refine lv_iload_n hx hb dX2_takeFrame_19 rfl (lv_at hl 2 rfl) ?_
  refine mr_aald (t := 0) (C := RX0) (r := q + 4 + 5 * s0) C0 hM hSt.2.2.2.1.1 hSt.2.2.2.1.2 rfl (by decide) (by omega) rfl dX2_takeFrame_20 ?_
  refine lv_iload_n hx hb dX2_takeFrame_21 rfl (lv_at hl 0 rfl) ?_
  refine lv_iload_n hx hb dX2_takeFrame_22 rfl (lv_at hl 2 rfl) ?_
  refine lv_iload_n hx hb dX2_takeFrame_23 rfl (lv_at hl 3 rfl) ?_
  refine lv_aload_n hx hb dX2_takeFrame_24 rfl (lv_at hl 1 rfl) ?_
  refine mr_callV (As := []) C0 (ctX2_currentEpoch (I := I) (J := J) (q := q) hSt hW) (cwV 0 C0.1.2.2.2.2 gX2_takeFrame_X2_currentEpoch rfl rfl rfl (by decide +kernel) (by rw [hR]; exact ⟨Nat.le_of_ble_eq_true rfl, Nat.le_of_ble_eq_true rfl⟩)) hM hSt.1.1 hSt.1.2 rfl rfl hM hS rfl rfl rfl hl.1 (Nat.le_of_ble_eq_true rfl) dX2_takeFrame_25 (by rw [hR]; exact ⟨Nat.zero_le _, Nat.zero_le _⟩) (fun H locs hM hS => ?_)
  have hw2 := hW.1 s0 (by omega)
  have hw2b := hw2.2
  refine mr_callV (As := [.int (I q 7), .int (nI s0), .int z, .int (nI (ec - 1))]) C0 (ctX0_add_t (I := I) (J := J) (a := (q + 4 + 5 * s0)) (v := (I q 7)) (s0 := (nI s0)) (z := z) (e0 := (nI (ec - 1))) (hSt.2.2.2.2.1 _ (by omega)) hw2.1 (by omega) (by omega) (by omega)) (cwV 4 C0.1.2.2.2.2 gX2_takeFrame_X0_add rfl rfl rfl (by decide +kernel) (by rw [hR]; exact ⟨Nat.le_of_ble_eq_true rfl, Nat.le_of_ble_eq_true rfl⟩)) hM (hSt.2.2.2.2.1 _ (by omega)).1.1 (hSt.2.2.2.2.1 _ (by omega)).1.2 rfl rfl hM hS rfl rfl rfl hl.1 (Nat.le_of_ble_eq_true rfl) dX2_takeFrame_28 (by rw [hR]; exact ⟨Nat.zero_le _, Nat.zero_le _⟩) (fun H locs hM hS => ?_)
  refine lv_aload_n hx hb dX2_takeFrame_31 rfl (lv_at hl 1 rfl) ?_
  refine lv_dup hx hb dX2_takeFrame_32 rfl ?_
  refine mr_geti (v := (fX0_add_t I (q + 4 + 5 * s0) (c s0) (I q 7) (nI s0) z (nI (ec - 1))) q 7) (TT := TX2) (N := 10) C0 uX2_takeFrame_X2 hM hSt.1.1 hSt.1.2 rfl 7 (by decide) rfl rfl kX2_takeFrame_f45 rfl dX2_takeFrame_33 ?_
  refine lv_iconst (v := nI 1) hx hb dX2_takeFrame_36 (by decide) ?_
  refine lv_iadd hx hb dX2_takeFrame_37 ?_
  refine mr_puti (TT := TX2) (N := 10) C0 uX2_takeFrame_X2 tyX2 tyX2_ok nmX2 hM hS hSt.1.1 hSt.1.2 rfl 7 (by decide) rfl kX2_takeFrame_f45 rfl rfl (by decide +kernel) dX2_takeFrame_38 (fun H locs hM hS => ?_)
  refine lv_iload_n hx hb dX2_takeFrame_41 rfl (lv_at hl 0 rfl) ?_
  have eF : (I q 7, hm_put (fX0_add_t I (q + 4 + 5 * s0) (c s0) (I q 7) (nI s0) z (nI (ec - 1))) q 7 (((fX0_add_t I (q + 4 + 5 * s0) (c s0) (I q 7) (nI s0) z (nI (ec - 1))) q 7) + (nI 1))) = fX2_takeFrame_t I q c ec s0 z := rfl
  exact mr_iret (v := I q 7) C0 hr hlk hQ hS (by rw [← eF]) (by rw [← eF]; exact hM) (Nat.le_refl _) (Nat.le_refl _) dX2_takeFrame_42
def fX2_waitingCount (c : Nat → Nat) : Int32 :=
  (lp 8 (fun i1 x2 => x2 + (nI (c i1))) (nI 0))
set_option maxHeartbeats 4000000 in
set_option maxRecDepth 100000 in
theorem ctX2_waitingCount {l : Launch} {D : va_G} {T : Nat → ClassId} {L : List Nat} {A : Nat → Prop} {Sh : hm_S} {I : hm_I} {J : hm_J} {q : Nat} (hSt : IsS L Sh q) {c e : Nat → Nat} {ec lc : Nat} (hW : WfS I q c e ec lc) :
    Ct l yX2_waitingCount wsX2_waitingCount { frames := 0, cells := 0, slots := 0, locals := 0 } 0 0 D T A [.ref q] (hm D T L A Sh I J) (some (.int (fX2_waitingCount c))) (hm D T L A Sh I J) := by
  refine Ct.ofW (cc := cX2_waitingCount) (maxL := 3) (ret := (some .int)) (by decide) rfl (Nat.le_of_ble_eq_true rfl) ?_
  intro p_ e_ s_ m_ args_ below_ meth_ c_ ls R Qq hR hQ C0 hr hlk hname hM hl
  have hx := C0.1.1
  have hb := C0.1.2.1
  have hS : va_S A s_.heap s_.heap [] := va_S.rf
  have hl : lv_has ls 3 [(0, .ref q)] := hl
  refine lv_iconst (v := nI 0) hx hb dX2_waitingCount_0 (by decide) ?_
  refine lv_istore_n (lv' := [(1, .int (nI 0)), (0, .ref q)]) hx hb dX2_waitingCount_1 rfl hl (by decide) rfl (fun ls hl => ?_)
  refine lv_iconst (v := nI 0) hx hb dX2_waitingCount_2 (by decide) ?_
  refine lv_istore_n (lv' := [(2, .int (nI 0)), (1, .int (nI 0)), (0, .ref q)]) hx hb dX2_waitingCount_3 rfl hl (by decide) rfl (fun ls hl => ?_)
  refine lp_loop (σ := Int32) (fun i1 x2 => ∀ (H : Heap) (locs : List Loc) (ls : Array Slot), hm D T L A Sh I J H → va_S A s_.heap H locs → lv_has ls 3 [(0, .ref q), (1, .int x2), (2, .int (nI i1))] → W p_ l e_ R s_ m_ args_ below_ meth_ c_ H locs 0 0 Qq (F0 m_ 4 ls [])) 8 (fun i1 x2 => x2 + (nI (c i1))) (nI 0) (fun _ _ => True) trivial (fun _ _ _ _ => trivial) (fun i1 x2 hi3 hv4 k5 H locs ls hM hS hl => ?_) (fun hv4 H locs ls hM hS hl => ?_) _ _ _ hM hS (lv_sub hl [2, 1, 0] rfl)
  · have stp6 : ∀ yy_ : Int32, yy_ = (x2 + (nI (c i1))) → ∀ (H : Heap) (locs : List Loc) (ls : Array Slot), hm D T L A Sh I J H → va_S A s_.heap H locs → lv_has ls 3 [(0, .ref q), (1, .int yy_), (2, .int (nI (i1 + 1)))] → W p_ l e_ R s_ m_ args_ below_ meth_ c_ H locs 0 0 Qq (F0 m_ 4 ls []) := fun yy_ ey => by subst ey; exact k5
    refine lv_iload_n hx hb dX2_waitingCount_4 rfl (lv_at hl 2 rfl) ?_
    refine lv_bipush (v := nI 8) hx hb dX2_waitingCount_5 (by decide) ?_
    refine mr_geN (x := i1) (y := 8) (tgt := 28) C0 dX2_waitingCount_7 (by decide) (by omega) (by omega) (fun c7 => absurd c7 (by omega)) (fun c7 => ?_)
    refine lv_iload_n hx hb dX2_waitingCount_10 rfl (lv_at hl 1 rfl) ?_
    refine lv_aload_n hx hb dX2_waitingCount_11 rfl (lv_at hl 0 rfl) ?_
    refine mr_getr (r := q + 3) (TT := TX2) (N := 10) C0 uX2_waitingCount_X2 hM hSt.1.1 hSt.1.2 rfl 3 (by decide) rfl kX2_waitingCount_f24 rfl dX2_waitingCount_12 ?_
    refine lv_iload_n hx hb dX2_waitingCount_15 rfl (lv_at hl 2 rfl) ?_
    refine mr_aald (t := 0) (C := RX0) (r := q + 4 + 5 * i1) C0 hM hSt.2.2.2.1.1 hSt.2.2.2.1.2 rfl (by decide) (by omega) rfl dX2_waitingCount_16 ?_
    have hw8 := hW.1 i1 (by omega)
    have hw8b := hw8.2
    refine mr_geti (v := nI (c i1)) (TT := TX0) (N := 5) C0 uX2_waitingCount_X0 hM (hSt.2.2.2.2.1 _ (by omega)).1.1 (hSt.2.2.2.2.1 _ (by omega)).1.2 rfl 4 (by decide) rfl hw8.1 kX2_waitingCount_f82 rfl dX2_waitingCount_17 ?_
    refine lv_iadd hx hb dX2_waitingCount_20 ?_
    refine lv_istore_n (lv' := [(1, .int (x2 + (nI (c i1)))), (0, .ref q), (2, .int (nI i1))]) hx hb dX2_waitingCount_21 rfl hl (by decide) rfl (fun ls hl => ?_)
    refine lv_iinc (v := nI (i1 + 1)) (lv' := [(2, .int (nI (i1 + 1))), (1, .int (x2 + (nI (c i1)))), (0, .ref q)]) hx hb dX2_waitingCount_22 hl (k := 2) rfl (nI_1 _) (by decide) rfl (fun ls hl => ?_)
    refine lv_goto (tgt := 4) hx hb dX2_waitingCount_25 (by decide) ?_
    exact stp6 (x2 + (nI (c i1))) rfl H locs ls hM hS (lv_sub hl [2, 1, 0] rfl)
  · skip
    refine lv_iload_n hx hb dX2_waitingCount_4 rfl (lv_at hl 2 rfl) ?_
    refine lv_bipush (v := nI 8) hx hb dX2_waitingCount_5 (by decide) ?_
    refine mr_geN (x := 8) (y := 8) (tgt := 28) C0 dX2_waitingCount_7 (by decide) (by decide) (by decide) (fun _ => ?_) (fun c9 => absurd c9 (by decide))
    refine lv_iload_n hx hb dX2_waitingCount_28 rfl (lv_at hl 1 rfl) ?_
    have eF : (lp 8 (fun i1 x2 => x2 + (nI (c i1))) (nI 0)) = fX2_waitingCount c := rfl
    exact mr_iret (v := (lp 8 (fun i1 x2 => x2 + (nI (c i1))) (nI 0))) C0 hr hlk hQ hS (by rw [← eF]) hM (Nat.le_refl _) (Nat.le_refl _) dX2_waitingCount_29
def fX2_waitingSize (I : hm_I) (q : Nat) (c : Nat → Nat) : Int32 :=
  (lp 8 (fun i1 x2 => x2 + (fX0_sizeOfAll I (q + 4 + 5 * i1) (c i1))) (nI 0))
set_option maxHeartbeats 4000000 in
set_option maxRecDepth 100000 in
theorem ctX2_waitingSize {l : Launch} {D : va_G} {T : Nat → ClassId} {L : List Nat} {A : Nat → Prop} {Sh : hm_S} {I : hm_I} {J : hm_J} {q : Nat} (hSt : IsS L Sh q) {c e : Nat → Nat} {ec lc : Nat} (hW : WfS I q c e ec lc) :
    Ct l yX2_waitingSize wsX2_waitingSize { frames := 1, cells := 0, slots := 0, locals := 22 } 0 0 D T A [.ref q] (hm D T L A Sh I J) (some (.int (fX2_waitingSize I q c))) (hm D T L A Sh I J) := by
  refine Ct.ofW (cc := cX2_waitingSize) (maxL := 3) (ret := (some .int)) (by decide) rfl (Nat.le_of_ble_eq_true rfl) ?_
  intro p_ e_ s_ m_ args_ below_ meth_ c_ ls R Qq hR hQ C0 hr hlk hname hM hl
  have hx := C0.1.1
  have hb := C0.1.2.1
  have hS : va_S A s_.heap s_.heap [] := va_S.rf
  have hl : lv_has ls 3 [(0, .ref q)] := hl
  refine lv_iconst (v := nI 0) hx hb dX2_waitingSize_0 (by decide) ?_
  refine lv_istore_n (lv' := [(1, .int (nI 0)), (0, .ref q)]) hx hb dX2_waitingSize_1 rfl hl (by decide) rfl (fun ls hl => ?_)
  refine lv_iconst (v := nI 0) hx hb dX2_waitingSize_2 (by decide) ?_
  refine lv_istore_n (lv' := [(2, .int (nI 0)), (1, .int (nI 0)), (0, .ref q)]) hx hb dX2_waitingSize_3 rfl hl (by decide) rfl (fun ls hl => ?_)
  refine lp_loop (σ := Int32) (fun i1 x2 => ∀ (H : Heap) (locs : List Loc) (ls : Array Slot), hm D T L A Sh I J H → va_S A s_.heap H locs → lv_has ls 3 [(0, .ref q), (1, .int x2), (2, .int (nI i1))] → W p_ l e_ R s_ m_ args_ below_ meth_ c_ H locs 0 0 Qq (F0 m_ 4 ls [])) 8 (fun i1 x2 => x2 + (fX0_sizeOfAll I (q + 4 + 5 * i1) (c i1))) (nI 0) (fun _ _ => True) trivial (fun _ _ _ _ => trivial) (fun i1 x2 hi3 hv4 k5 H locs ls hM hS hl => ?_) (fun hv4 H locs ls hM hS hl => ?_) _ _ _ hM hS (lv_sub hl [2, 1, 0] rfl)
  · have stp6 : ∀ yy_ : Int32, yy_ = (x2 + (fX0_sizeOfAll I (q + 4 + 5 * i1) (c i1))) → ∀ (H : Heap) (locs : List Loc) (ls : Array Slot), hm D T L A Sh I J H → va_S A s_.heap H locs → lv_has ls 3 [(0, .ref q), (1, .int yy_), (2, .int (nI (i1 + 1)))] → W p_ l e_ R s_ m_ args_ below_ meth_ c_ H locs 0 0 Qq (F0 m_ 4 ls []) := fun yy_ ey => by subst ey; exact k5
    refine lv_iload_n hx hb dX2_waitingSize_4 rfl (lv_at hl 2 rfl) ?_
    refine lv_bipush (v := nI 8) hx hb dX2_waitingSize_5 (by decide) ?_
    refine mr_geN (x := i1) (y := 8) (tgt := 28) C0 dX2_waitingSize_7 (by decide) (by omega) (by omega) (fun c7 => absurd c7 (by omega)) (fun c7 => ?_)
    refine lv_iload_n hx hb dX2_waitingSize_10 rfl (lv_at hl 1 rfl) ?_
    refine lv_aload_n hx hb dX2_waitingSize_11 rfl (lv_at hl 0 rfl) ?_
    refine mr_getr (r := q + 3) (TT := TX2) (N := 10) C0 uX2_waitingSize_X2 hM hSt.1.1 hSt.1.2 rfl 3 (by decide) rfl kX2_waitingSize_f24 rfl dX2_waitingSize_12 ?_
    refine lv_iload_n hx hb dX2_waitingSize_15 rfl (lv_at hl 2 rfl) ?_
    refine mr_aald (t := 0) (C := RX0) (r := q + 4 + 5 * i1) C0 hM hSt.2.2.2.1.1 hSt.2.2.2.1.2 rfl (by decide) (by omega) rfl dX2_waitingSize_16 ?_
    have hw8 := hW.1 i1 (by omega)
    have hw8b := hw8.2
    refine mr_callV (As := []) C0 (ctX0_sizeOfAll (I := I) (J := J) (a := (q + 4 + 5 * i1)) (hSt.2.2.2.2.1 _ (by omega)) hw8.1 (by omega) (by omega)) (cwV 0 C0.1.2.2.2.2 gX2_waitingSize_X0_sizeOfAll rfl rfl rfl (by decide +kernel) (by rw [hR]; exact ⟨Nat.le_of_ble_eq_true rfl, Nat.le_of_ble_eq_true rfl⟩)) hM (hSt.2.2.2.2.1 _ (by omega)).1.1 (hSt.2.2.2.2.1 _ (by omega)).1.2 rfl rfl hM hS rfl rfl rfl hl.1 (Nat.le_of_ble_eq_true rfl) dX2_waitingSize_17 (by rw [hR]; exact ⟨Nat.zero_le _, Nat.zero_le _⟩) (fun H locs hM hS => ?_)
    refine lv_iadd hx hb dX2_waitingSize_20 ?_
    refine lv_istore_n (lv' := [(1, .int (x2 + (fX0_sizeOfAll I (q + 4 + 5 * i1) (c i1)))), (0, .ref q), (2, .int (nI i1))]) hx hb dX2_waitingSize_21 rfl hl (by decide) rfl (fun ls hl => ?_)
    refine lv_iinc (v := nI (i1 + 1)) (lv' := [(2, .int (nI (i1 + 1))), (1, .int (x2 + (fX0_sizeOfAll I (q + 4 + 5 * i1) (c i1)))), (0, .ref q)]) hx hb dX2_waitingSize_22 hl (k := 2) rfl (nI_1 _) (by decide) rfl (fun ls hl => ?_)
    refine lv_goto (tgt := 4) hx hb dX2_waitingSize_25 (by decide) ?_
    exact stp6 (x2 + (fX0_sizeOfAll I (q + 4 + 5 * i1) (c i1))) rfl H locs ls hM hS (lv_sub hl [2, 1, 0] rfl)
  · skip
    refine lv_iload_n hx hb dX2_waitingSize_4 rfl (lv_at hl 2 rfl) ?_
    refine lv_bipush (v := nI 8) hx hb dX2_waitingSize_5 (by decide) ?_
    refine mr_geN (x := 8) (y := 8) (tgt := 28) C0 dX2_waitingSize_7 (by decide) (by decide) (by decide) (fun _ => ?_) (fun c9 => absurd c9 (by decide))
    refine lv_iload_n hx hb dX2_waitingSize_28 rfl (lv_at hl 1 rfl) ?_
    have eF : (lp 8 (fun i1 x2 => x2 + (fX0_sizeOfAll I (q + 4 + 5 * i1) (c i1))) (nI 0)) = fX2_waitingSize I q c := rfl
    exact mr_iret (v := (lp 8 (fun i1 x2 => x2 + (fX0_sizeOfAll I (q + 4 + 5 * i1) (c i1))) (nI 0))) C0 hr hlk hQ hS (by rw [← eF]) hM (Nat.le_refl _) (Nat.le_refl _) dX2_waitingSize_29
def fX2_blockersOfFirst_t (I : hm_I) (q : Nat) (c e : Nat → Nat) (s0 : Nat) : Int32 :=
  (lp 8 (fun i5 x6 => if fX1_precedes_t I (q + 48 + 3 * (e s0)) i5 s0 = true then x6 + (fX0_countOfEpochUpTo I (q + 4 + 5 * i5) (c i5) (nI (e s0))) else x6) (nI 0))
set_option maxHeartbeats 4000000 in
set_option maxRecDepth 100000 in
theorem ctX2_blockersOfFirst_t {l : Launch} {D : va_G} {T : Nat → ClassId} {L : List Nat} {A : Nat → Prop} {Sh : hm_S} {I : hm_I} {J : hm_J} {q : Nat} (hSt : IsS L Sh q) {c e : Nat → Nat} {ec lc : Nat} (hW : WfS I q c e ec lc) {s0 : Nat} (hs0 : s0 < 8) (hc0 : 0 < c s0) :
    Ct l yX2_blockersOfFirst wsX2_blockersOfFirst { frames := 2, cells := 0, slots := 0, locals := 43 } 0 0 D T A [.ref q, .int (nI s0)] (hm D T L A Sh I J) (some (.int (fX2_blockersOfFirst_t I q c e s0))) (hm D T L A Sh I J) := by
  refine Ct.ofW (cc := cX2_blockersOfFirst) (maxL := 6) (ret := (some .int)) (by decide) rfl (Nat.le_of_ble_eq_true rfl) ?_
  intro p_ e_ s_ m_ args_ below_ meth_ c_ ls R Qq hR hQ C0 hr hlk hname hM hl
  have hx := C0.1.1
  have hb := C0.1.2.1
  have hS : va_S A s_.heap s_.heap [] := va_S.rf
  have hl : lv_has ls 6 [(0, .ref q), (1, .int (nI s0))] := hl
  refine lv_iload_n hx hb dX2_blockersOfFirst_0 rfl (lv_at hl 1 rfl) ?_
  refine mr_callSN (As := [.int (nI s0)]) C0 (ctX3_isStream_t (I := I) (J := J) (s0 := s0) (by omega)) (va_cnB (own := RX2) (index := 66) 1 C0.1.2.2.2.2 ggX2_blockersOfFirst_X3_isStream rfl rfl rfl C0.2.2.2.2.2.2.2.1 (C0.1.2.2.2.2 _ (List.mem_of_getElem? (i := 4) rfl)) (by decide +kernel) (by rw [hR]; exact ⟨Nat.le_of_ble_eq_true rfl, Nat.le_of_ble_eq_true rfl⟩)) (C0.1.2.2.2.2 _ (List.mem_of_getElem? (i := 3) rfl)) hM hS rfl rfl rfl hl.1 (Nat.le_of_ble_eq_true rfl) dX2_blockersOfFirst_1 (by rw [hR]; exact ⟨Nat.zero_le _, Nat.zero_le _⟩) (fun H locs hM hS => ?_)
  refine mr_eqB (tgt := 19) C0 dX2_blockersOfFirst_4 (by decide) (fun c1 => absurd c1 (by decide)) (fun _ => ?_)
  refine lv_aload_n hx hb dX2_blockersOfFirst_7 rfl (lv_at hl 0 rfl) ?_
  refine mr_getr (r := q + 3) (TT := TX2) (N := 10) C0 uX2_blockersOfFirst_X2 hM hSt.1.1 hSt.1.2 rfl 3 (by decide) rfl kX2_blockersOfFirst_f24 rfl dX2_blockersOfFirst_8 ?_
  refine lv_iload_n hx hb dX2_blockersOfFirst_11 rfl (lv_at hl 1 rfl) ?_
  refine mr_aald (t := 0) (C := RX0) (r := q + 4 + 5 * s0) C0 hM hSt.2.2.2.1.1 hSt.2.2.2.1.2 rfl (by decide) (by omega) rfl dX2_blockersOfFirst_12 ?_
  have hw2 := hW.1 s0 (by omega)
  have hw2b := hw2.2
  refine mr_geti (v := nI (c s0)) (TT := TX0) (N := 5) C0 uX2_blockersOfFirst_X0 hM (hSt.2.2.2.2.1 _ (by omega)).1.1 (hSt.2.2.2.2.1 _ (by omega)).1.2 rfl 4 (by decide) rfl hw2.1 kX2_blockersOfFirst_f82 rfl dX2_blockersOfFirst_13 ?_
  refine mr_ne0N (x := (c s0)) (tgt := 21) C0 dX2_blockersOfFirst_16 (by decide) (by omega) (fun c3 => ?_) (fun c3 => absurd c3 (by omega))
  refine lv_aload_n hx hb dX2_blockersOfFirst_21 rfl (lv_at hl 0 rfl) ?_
  refine mr_getr (r := q + 3) (TT := TX2) (N := 10) C0 uX2_blockersOfFirst_X2 hM hSt.1.1 hSt.1.2 rfl 3 (by decide) rfl kX2_blockersOfFirst_f24 rfl dX2_blockersOfFirst_22 ?_
  refine lv_iload_n hx hb dX2_blockersOfFirst_25 rfl (lv_at hl 1 rfl) ?_
  refine mr_aald (t := 0) (C := RX0) (r := q + 4 + 5 * s0) C0 hM hSt.2.2.2.1.1 hSt.2.2.2.1.2 rfl (by decide) (by omega) rfl dX2_blockersOfFirst_26 ?_
  refine lv_iconst (v := nI 0) hx hb dX2_blockersOfFirst_27 (by decide) ?_
  refine mr_callV (As := [.int (nI 0)]) C0 (ctX0_epochAt_t (I := I) (J := J) (a := (q + 4 + 5 * s0)) (k := 0) (hSt.2.2.2.2.1 _ (by omega)) hw2.1 (by omega) (by omega) (by omega)) (cwV 1 C0.1.2.2.2.2 gX2_blockersOfFirst_X0_epochAt rfl rfl rfl (by decide +kernel) (by rw [hR]; exact ⟨Nat.le_of_ble_eq_true rfl, Nat.le_of_ble_eq_true rfl⟩)) hM (hSt.2.2.2.2.1 _ (by omega)).1.1 (hSt.2.2.2.2.1 _ (by omega)).1.2 rfl rfl hM hS rfl rfl rfl hl.1 (Nat.le_of_ble_eq_true rfl) dX2_blockersOfFirst_28 (by rw [hR]; exact ⟨Nat.zero_le _, Nat.zero_le _⟩) (fun H locs hM hS => ?_)
  have hw4 := hW.2.1 s0 (by omega) (by omega)
  have hw4b := hw4.2
  have hw4c := hW.2.2.2.2.1
  refine mr_top (y := nI (e s0)) hw4.1 ?_
  refine lv_istore_n (lv' := [(2, .int (nI (e s0))), (0, .ref q), (1, .int (nI s0))]) hx hb dX2_blockersOfFirst_31 rfl hl (by decide) rfl (fun ls hl => ?_)
  refine lv_aload_n hx hb dX2_blockersOfFirst_32 rfl (lv_at hl 1 rfl) ?_
  refine lv_iload_n hx hb dX2_blockersOfFirst_33 rfl (lv_at hl 0 rfl) ?_
  refine mr_callV (As := [.int (nI (e s0))]) C0 (ctX2_orderOf_t (I := I) (J := J) (q := q) (e0 := (e s0)) hSt hW (by omega)) (cwV 1 C0.1.2.2.2.2 gX2_blockersOfFirst_X2_orderOf rfl rfl rfl (by decide +kernel) (by rw [hR]; exact ⟨Nat.le_of_ble_eq_true rfl, Nat.le_of_ble_eq_true rfl⟩)) hM hSt.1.1 hSt.1.2 rfl rfl hM hS rfl rfl rfl hl.1 (Nat.le_of_ble_eq_true rfl) dX2_blockersOfFirst_34 (by rw [hR]; exact ⟨Nat.zero_le _, Nat.zero_le _⟩) (fun H locs hM hS => ?_)
  refine lv_astore_n (lv' := [(3, .ref (q + 48 + 3 * (e s0))), (2, .int (nI (e s0))), (0, .ref q), (1, .int (nI s0))]) hx hb dX2_blockersOfFirst_37 rfl hl (by decide) rfl (fun ls hl => ?_)
  refine lv_iconst (v := nI 0) hx hb dX2_blockersOfFirst_38 (by decide) ?_
  refine lv_istore (lv' := [(4, .int (nI 0)), (3, .ref (q + 48 + 3 * (e s0))), (2, .int (nI (e s0))), (0, .ref q), (1, .int (nI s0))]) hx hb dX2_blockersOfFirst_39 hl (by decide) rfl (fun ls hl => ?_)
  refine lv_iconst (v := nI 0) hx hb dX2_blockersOfFirst_41 (by decide) ?_
  refine lv_istore (lv' := [(5, .int (nI 0)), (4, .int (nI 0)), (3, .ref (q + 48 + 3 * (e s0))), (2, .int (nI (e s0))), (0, .ref q), (1, .int (nI s0))]) hx hb dX2_blockersOfFirst_42 hl (by decide) rfl (fun ls hl => ?_)
  refine lp_loop (σ := Int32) (fun i5 x6 => ∀ (H : Heap) (locs : List Loc) (ls : Array Slot), hm D T L A Sh I J H → va_S A s_.heap H locs → lv_has ls 6 [(0, .ref q), (1, .int (nI s0)), (2, .int (nI (e s0))), (3, .ref (q + 48 + 3 * (e s0))), (4, .int x6), (5, .int (nI i5))] → W p_ l e_ R s_ m_ args_ below_ meth_ c_ H locs 0 0 Qq (F0 m_ 44 ls [])) 8 (fun i5 x6 => if fX1_precedes_t I (q + 48 + 3 * (e s0)) i5 s0 = true then x6 + (fX0_countOfEpochUpTo I (q + 4 + 5 * i5) (c i5) (nI (e s0))) else x6) (nI 0) (fun _ _ => True) trivial (fun _ _ _ _ => trivial) (fun i5 x6 hi7 hv8 k9 H locs ls hM hS hl => ?_) (fun hv8 H locs ls hM hS hl => ?_) _ _ _ hM hS (lv_sub hl [4, 5, 3, 2, 1, 0] rfl)
  · have stp10 : ∀ yy_ : Int32, yy_ = (if fX1_precedes_t I (q + 48 + 3 * (e s0)) i5 s0 = true then x6 + (fX0_countOfEpochUpTo I (q + 4 + 5 * i5) (c i5) (nI (e s0))) else x6) → ∀ (H : Heap) (locs : List Loc) (ls : Array Slot), hm D T L A Sh I J H → va_S A s_.heap H locs → lv_has ls 6 [(0, .ref q), (1, .int (nI s0)), (2, .int (nI (e s0))), (3, .ref (q + 48 + 3 * (e s0))), (4, .int yy_), (5, .int (nI (i5 + 1)))] → W p_ l e_ R s_ m_ args_ below_ meth_ c_ H locs 0 0 Qq (F0 m_ 44 ls []) := fun yy_ ey => by subst ey; exact k9
    refine lv_iload hx hb dX2_blockersOfFirst_44 (lv_at hl 5 rfl) ?_
    refine lv_bipush (v := nI 8) hx hb dX2_blockersOfFirst_46 (by decide) ?_
    refine mr_geN (x := i5) (y := 8) (tgt := 83) C0 dX2_blockersOfFirst_48 (by decide) (by omega) (by omega) (fun c11 => absurd c11 (by omega)) (fun c11 => ?_)
    refine lv_aload_n hx hb dX2_blockersOfFirst_51 rfl (lv_at hl 3 rfl) ?_
    refine lv_iload hx hb dX2_blockersOfFirst_52 (lv_at hl 5 rfl) ?_
    refine lv_iload_n hx hb dX2_blockersOfFirst_54 rfl (lv_at hl 1 rfl) ?_
    refine mr_callV (As := [.int (nI i5), .int (nI s0)]) C0 (ctX1_precedes_t (I := I) (J := J) (a := (q + 48 + 3 * (e s0))) (x := i5) (y := s0) (hSt.2.2.2.2.2.2.2.1 _ (by omega)) (by omega)) (cwV 2 C0.1.2.2.2.2 gX2_blockersOfFirst_X1_precedes rfl rfl rfl (by decide +kernel) (by rw [hR]; exact ⟨Nat.le_of_ble_eq_true rfl, Nat.le_of_ble_eq_true rfl⟩)) hM (hSt.2.2.2.2.2.2.2.1 _ (by omega)).1.1 (hSt.2.2.2.2.2.2.2.1 _ (by omega)).1.2 rfl rfl hM hS rfl rfl rfl hl.1 (Nat.le_of_ble_eq_true rfl) dX2_blockersOfFirst_55 (by rw [hR]; exact ⟨Nat.zero_le _, Nat.zero_le _⟩) (fun H locs hM hS => ?_)
    refine mr_eqB (tgt := 77) C0 dX2_blockersOfFirst_58 (by decide) (fun c12 => ?_) (fun c12 => ?_)
    · skip
      refine lv_iinc (v := nI (i5 + 1)) (lv' := [(5, .int (nI (i5 + 1))), (0, .ref q), (1, .int (nI s0)), (2, .int (nI (e s0))), (3, .ref (q + 48 + 3 * (e s0))), (4, .int x6)]) hx hb dX2_blockersOfFirst_77 hl (k := 5) rfl (nI_1 _) (by decide) rfl (fun ls hl => ?_)
      refine lv_goto (tgt := 44) hx hb dX2_blockersOfFirst_80 (by decide) ?_
      exact stp10 x6 (by rw [if_neg (Bool.eq_false_iff.mp c12)]) H locs ls hM hS (lv_sub hl [1, 2, 3, 4, 5, 0] rfl)
    · skip
      refine lv_iload hx hb dX2_blockersOfFirst_61 (lv_at hl 4 rfl) ?_
      refine lv_aload_n hx hb dX2_blockersOfFirst_63 rfl (lv_at hl 0 rfl) ?_
      refine mr_getr (r := q + 3) (TT := TX2) (N := 10) C0 uX2_blockersOfFirst_X2 hM hSt.1.1 hSt.1.2 rfl 3 (by decide) rfl kX2_blockersOfFirst_f24 rfl dX2_blockersOfFirst_64 ?_
      refine lv_iload hx hb dX2_blockersOfFirst_67 (lv_at hl 5 rfl) ?_
      refine mr_aald (t := 0) (C := RX0) (r := q + 4 + 5 * i5) C0 hM hSt.2.2.2.1.1 hSt.2.2.2.1.2 rfl (by decide) (by omega) rfl dX2_blockersOfFirst_69 ?_
      refine lv_iload_n hx hb dX2_blockersOfFirst_70 rfl (lv_at hl 2 rfl) ?_
      have hw13 := hW.1 i5 (by omega)
      have hw13b := hw13.2
      refine mr_callV (As := [.int (nI (e s0))]) C0 (ctX0_countOfEpochUpTo (I := I) (J := J) (a := (q + 4 + 5 * i5)) (e0 := (nI (e s0))) (hSt.2.2.2.2.1 _ (by omega)) hw13.1 (by omega) (by omega)) (cwV 1 C0.1.2.2.2.2 gX2_blockersOfFirst_X0_countOfEpochUpTo rfl rfl rfl (by decide +kernel) (by rw [hR]; exact ⟨Nat.le_of_ble_eq_true rfl, Nat.le_of_ble_eq_true rfl⟩)) hM (hSt.2.2.2.2.1 _ (by omega)).1.1 (hSt.2.2.2.2.1 _ (by omega)).1.2 rfl rfl hM hS rfl rfl rfl hl.1 (Nat.le_of_ble_eq_true rfl) dX2_blockersOfFirst_71 (by rw [hR]; exact ⟨Nat.zero_le _, Nat.zero_le _⟩) (fun H locs hM hS => ?_)
      refine lv_iadd hx hb dX2_blockersOfFirst_74 ?_
      refine lv_istore (lv' := [(4, .int (x6 + (fX0_countOfEpochUpTo I (q + 4 + 5 * i5) (c i5) (nI (e s0))))), (0, .ref q), (1, .int (nI s0)), (2, .int (nI (e s0))), (3, .ref (q + 48 + 3 * (e s0))), (5, .int (nI i5))]) hx hb dX2_blockersOfFirst_75 hl (by decide) rfl (fun ls hl => ?_)
      refine lv_iinc (v := nI (i5 + 1)) (lv' := [(5, .int (nI (i5 + 1))), (4, .int (x6 + (fX0_countOfEpochUpTo I (q + 4 + 5 * i5) (c i5) (nI (e s0))))), (0, .ref q), (1, .int (nI s0)), (2, .int (nI (e s0))), (3, .ref (q + 48 + 3 * (e s0)))]) hx hb dX2_blockersOfFirst_77 hl (k := 5) rfl (nI_1 _) (by decide) rfl (fun ls hl => ?_)
      refine lv_goto (tgt := 44) hx hb dX2_blockersOfFirst_80 (by decide) ?_
      exact stp10 (x6 + (fX0_countOfEpochUpTo I (q + 4 + 5 * i5) (c i5) (nI (e s0)))) (by rw [if_pos c12]) H locs ls hM hS (lv_sub hl [2, 3, 4, 5, 1, 0] rfl)
  · skip
    refine lv_iload hx hb dX2_blockersOfFirst_44 (lv_at hl 5 rfl) ?_
    refine lv_bipush (v := nI 8) hx hb dX2_blockersOfFirst_46 (by decide) ?_
    refine mr_geN (x := 8) (y := 8) (tgt := 83) C0 dX2_blockersOfFirst_48 (by decide) (by decide) (by decide) (fun _ => ?_) (fun c14 => absurd c14 (by decide))
    refine lv_iload hx hb dX2_blockersOfFirst_83 (lv_at hl 4 rfl) ?_
    have eF : (lp 8 (fun i5 x6 => if fX1_precedes_t I (q + 48 + 3 * (e s0)) i5 s0 = true then x6 + (fX0_countOfEpochUpTo I (q + 4 + 5 * i5) (c i5) (nI (e s0))) else x6) (nI 0)) = fX2_blockersOfFirst_t I q c e s0 := rfl
    exact mr_iret (v := (lp 8 (fun i5 x6 => if fX1_precedes_t I (q + 48 + 3 * (e s0)) i5 s0 = true then x6 + (fX0_countOfEpochUpTo I (q + 4 + 5 * i5) (c i5) (nI (e s0))) else x6) (nI 0))) C0 hr hlk hQ hS (by rw [← eF]) hM (Nat.le_refl _) (Nat.le_refl _) dX2_blockersOfFirst_85
def fX2_isCandidate_t (I : hm_I) (q : Nat) (c e : Nat → Nat) (s0 : Nat) : Bool :=
  if (c s0) = 0 then false else if fX2_blockersOfFirst_t I q c e s0 = 0 then true else false
set_option maxHeartbeats 4000000 in
set_option maxRecDepth 100000 in
theorem ctX2_isCandidate_t {l : Launch} {D : va_G} {T : Nat → ClassId} {L : List Nat} {A : Nat → Prop} {Sh : hm_S} {I : hm_I} {J : hm_J} {q : Nat} (hSt : IsS L Sh q) {c e : Nat → Nat} {ec lc : Nat} (hW : WfS I q c e ec lc) {s0 : Nat} (hs0 : s0 < 8) :
    Ct l yX2_isCandidate wsX2_isCandidate { frames := 3, cells := 0, slots := 0, locals := 68 } 0 0 D T A [.ref q, .int (nI s0)] (hm D T L A Sh I J) (some (.int (bI (fX2_isCandidate_t I q c e s0)))) (hm D T L A Sh I J) := by
  refine Ct.ofW (cc := cX2_isCandidate) (maxL := 2) (ret := (some .boolean)) (by decide) rfl (Nat.le_of_ble_eq_true rfl) ?_
  intro p_ e_ s_ m_ args_ below_ meth_ c_ ls R Qq hR hQ C0 hr hlk hname hM hl
  have hx := C0.1.1
  have hb := C0.1.2.1
  have hS : va_S A s_.heap s_.heap [] := va_S.rf
  have hl : lv_has ls 2 [(0, .ref q), (1, .int (nI s0))] := hl
  refine lv_iload_n hx hb dX2_isCandidate_0 rfl (lv_at hl 1 rfl) ?_
  refine mr_callSN (As := [.int (nI s0)]) C0 (ctX3_isStream_t (I := I) (J := J) (s0 := s0) (by omega)) (va_cnB (own := RX2) (index := 66) 1 C0.1.2.2.2.2 ggX2_isCandidate_X3_isStream rfl rfl rfl C0.2.2.2.2.2.2.2.1 (C0.1.2.2.2.2 _ (List.mem_of_getElem? (i := 4) rfl)) (by decide +kernel) (by rw [hR]; exact ⟨Nat.le_of_ble_eq_true rfl, Nat.le_of_ble_eq_true rfl⟩)) (C0.1.2.2.2.2 _ (List.mem_of_getElem? (i := 3) rfl)) hM hS rfl rfl rfl hl.1 (Nat.le_of_ble_eq_true rfl) dX2_isCandidate_1 (by rw [hR]; exact ⟨Nat.zero_le _, Nat.zero_le _⟩) (fun H locs hM hS => ?_)
  refine mr_eqB (tgt := 31) C0 dX2_isCandidate_4 (by decide) (fun c1 => absurd c1 (by decide)) (fun _ => ?_)
  refine lv_aload_n hx hb dX2_isCandidate_7 rfl (lv_at hl 0 rfl) ?_
  refine mr_getr (r := q + 3) (TT := TX2) (N := 10) C0 uX2_isCandidate_X2 hM hSt.1.1 hSt.1.2 rfl 3 (by decide) rfl kX2_isCandidate_f24 rfl dX2_isCandidate_8 ?_
  refine lv_iload_n hx hb dX2_isCandidate_11 rfl (lv_at hl 1 rfl) ?_
  refine mr_aald (t := 0) (C := RX0) (r := q + 4 + 5 * s0) C0 hM hSt.2.2.2.1.1 hSt.2.2.2.1.2 rfl (by decide) (by omega) rfl dX2_isCandidate_12 ?_
  have hw2 := hW.1 s0 (by omega)
  have hw2b := hw2.2
  refine mr_geti (v := nI (c s0)) (TT := TX0) (N := 5) C0 uX2_isCandidate_X0 hM (hSt.2.2.2.2.1 _ (by omega)).1.1 (hSt.2.2.2.2.1 _ (by omega)).1.2 rfl 4 (by decide) rfl hw2.1 kX2_isCandidate_f82 rfl dX2_isCandidate_13 ?_
  refine mr_le0N (x := (c s0)) (tgt := 31) C0 dX2_isCandidate_16 (by decide) (by omega) (fun c3 => ?_) (fun c3 => ?_)
  · skip
    refine lv_iconst (v := nI 0) hx hb dX2_isCandidate_31 (by decide) ?_
    refine mr_top (y := bI false) (by decide) ?_
    have eF : false = fX2_isCandidate_t I q c e s0 := by unfold fX2_isCandidate_t; rw [if_pos c3]
    exact mr_zret (b := false) C0 hr hlk hQ hS (by rw [← eF]) hM (Nat.le_refl _) (Nat.le_refl _) dX2_isCandidate_32
  · skip
    refine lv_aload_n hx hb dX2_isCandidate_19 rfl (lv_at hl 0 rfl) ?_
    refine lv_iload_n hx hb dX2_isCandidate_20 rfl (lv_at hl 1 rfl) ?_
    refine mr_callV (As := [.int (nI s0)]) C0 (ctX2_blockersOfFirst_t (I := I) (J := J) (q := q) (s0 := s0) hSt hW (by omega) (by omega)) (cwV 1 C0.1.2.2.2.2 gX2_isCandidate_X2_blockersOfFirst rfl rfl rfl (by decide +kernel) (by rw [hR]; exact ⟨Nat.le_of_ble_eq_true rfl, Nat.le_of_ble_eq_true rfl⟩)) hM hSt.1.1 hSt.1.2 rfl rfl hM hS rfl rfl rfl hl.1 (Nat.le_of_ble_eq_true rfl) dX2_isCandidate_21 (by rw [hR]; exact ⟨Nat.zero_le _, Nat.zero_le _⟩) (fun H locs hM hS => ?_)
    refine lv_if_ne (tgt := 31) hx hb dX2_isCandidate_24 (by decide) (fun c4 => ?_) (fun c4 => ?_)
    · skip
      refine lv_iconst (v := nI 0) hx hb dX2_isCandidate_31 (by decide) ?_
      refine mr_top (y := bI false) (by decide) ?_
      have eF : false = fX2_isCandidate_t I q c e s0 := by unfold fX2_isCandidate_t; rw [if_neg (Nat.ne_of_gt c3), if_neg c4]
      exact mr_zret (b := false) C0 hr hlk hQ hS (by rw [← eF]) hM (Nat.le_refl _) (Nat.le_refl _) dX2_isCandidate_32
    · skip
      refine lv_iconst (v := nI 1) hx hb dX2_isCandidate_27 (by decide) ?_
      refine lv_goto (tgt := 32) hx hb dX2_isCandidate_28 (by decide) ?_
      refine mr_top (y := bI true) (by decide) ?_
      have eF : true = fX2_isCandidate_t I q c e s0 := by unfold fX2_isCandidate_t; rw [if_neg (Nat.ne_of_gt c3), if_pos c4]
      exact mr_zret (b := true) C0 hr hlk hQ hS (by rw [← eF]) hM (Nat.le_refl _) (Nat.le_refl _) dX2_isCandidate_32
def fX2_candidateCount (I : hm_I) (q : Nat) (c e : Nat → Nat) : Int32 :=
  (lp 8 (fun i1 x2 => if fX2_isCandidate_t I q c e i1 = true then x2 + 1 else x2) (nI 0))
set_option maxHeartbeats 4000000 in
set_option maxRecDepth 100000 in
theorem ctX2_candidateCount {l : Launch} {D : va_G} {T : Nat → ClassId} {L : List Nat} {A : Nat → Prop} {Sh : hm_S} {I : hm_I} {J : hm_J} {q : Nat} (hSt : IsS L Sh q) {c e : Nat → Nat} {ec lc : Nat} (hW : WfS I q c e ec lc) :
    Ct l yX2_candidateCount wsX2_candidateCount { frames := 4, cells := 0, slots := 0, locals := 89 } 0 0 D T A [.ref q] (hm D T L A Sh I J) (some (.int (fX2_candidateCount I q c e))) (hm D T L A Sh I J) := by
  refine Ct.ofW (cc := cX2_candidateCount) (maxL := 3) (ret := (some .int)) (by decide) rfl (Nat.le_of_ble_eq_true rfl) ?_
  intro p_ e_ s_ m_ args_ below_ meth_ c_ ls R Qq hR hQ C0 hr hlk hname hM hl
  have hx := C0.1.1
  have hb := C0.1.2.1
  have hS : va_S A s_.heap s_.heap [] := va_S.rf
  have hl : lv_has ls 3 [(0, .ref q)] := hl
  refine lv_iconst (v := nI 0) hx hb dX2_candidateCount_0 (by decide) ?_
  refine lv_istore_n (lv' := [(1, .int (nI 0)), (0, .ref q)]) hx hb dX2_candidateCount_1 rfl hl (by decide) rfl (fun ls hl => ?_)
  refine lv_iconst (v := nI 0) hx hb dX2_candidateCount_2 (by decide) ?_
  refine lv_istore_n (lv' := [(2, .int (nI 0)), (1, .int (nI 0)), (0, .ref q)]) hx hb dX2_candidateCount_3 rfl hl (by decide) rfl (fun ls hl => ?_)
  refine lp_loop (σ := Int32) (fun i1 x2 => ∀ (H : Heap) (locs : List Loc) (ls : Array Slot), hm D T L A Sh I J H → va_S A s_.heap H locs → lv_has ls 3 [(0, .ref q), (1, .int x2), (2, .int (nI i1))] → W p_ l e_ R s_ m_ args_ below_ meth_ c_ H locs 0 0 Qq (F0 m_ 4 ls [])) 8 (fun i1 x2 => if fX2_isCandidate_t I q c e i1 = true then x2 + 1 else x2) (nI 0) (fun _ _ => True) trivial (fun _ _ _ _ => trivial) (fun i1 x2 hi3 hv4 k5 H locs ls hM hS hl => ?_) (fun hv4 H locs ls hM hS hl => ?_) _ _ _ hM hS (lv_sub hl [2, 1, 0] rfl)
  · have stp6 : ∀ yy_ : Int32, yy_ = (if fX2_isCandidate_t I q c e i1 = true then x2 + 1 else x2) → ∀ (H : Heap) (locs : List Loc) (ls : Array Slot), hm D T L A Sh I J H → va_S A s_.heap H locs → lv_has ls 3 [(0, .ref q), (1, .int yy_), (2, .int (nI (i1 + 1)))] → W p_ l e_ R s_ m_ args_ below_ meth_ c_ H locs 0 0 Qq (F0 m_ 4 ls []) := fun yy_ ey => by subst ey; exact k5
    refine lv_iload_n hx hb dX2_candidateCount_4 rfl (lv_at hl 2 rfl) ?_
    refine lv_bipush (v := nI 8) hx hb dX2_candidateCount_5 (by decide) ?_
    refine mr_geN (x := i1) (y := 8) (tgt := 27) C0 dX2_candidateCount_7 (by decide) (by omega) (by omega) (fun c7 => absurd c7 (by omega)) (fun c7 => ?_)
    refine lv_aload_n hx hb dX2_candidateCount_10 rfl (lv_at hl 0 rfl) ?_
    refine lv_iload_n hx hb dX2_candidateCount_11 rfl (lv_at hl 2 rfl) ?_
    refine mr_callV (As := [.int (nI i1)]) C0 (ctX2_isCandidate_t (I := I) (J := J) (q := q) (s0 := i1) hSt hW (by omega)) (cwV 1 C0.1.2.2.2.2 gX2_candidateCount_X2_isCandidate rfl rfl rfl (by decide +kernel) (by rw [hR]; exact ⟨Nat.le_of_ble_eq_true rfl, Nat.le_of_ble_eq_true rfl⟩)) hM hSt.1.1 hSt.1.2 rfl rfl hM hS rfl rfl rfl hl.1 (Nat.le_of_ble_eq_true rfl) dX2_candidateCount_12 (by rw [hR]; exact ⟨Nat.zero_le _, Nat.zero_le _⟩) (fun H locs hM hS => ?_)
    refine mr_eqB (tgt := 21) C0 dX2_candidateCount_15 (by decide) (fun c8 => ?_) (fun c8 => ?_)
    · skip
      refine lv_iinc (v := nI (i1 + 1)) (lv' := [(2, .int (nI (i1 + 1))), (0, .ref q), (1, .int x2)]) hx hb dX2_candidateCount_21 hl (k := 2) rfl (nI_1 _) (by decide) rfl (fun ls hl => ?_)
      refine lv_goto (tgt := 4) hx hb dX2_candidateCount_24 (by decide) ?_
      exact stp6 x2 (by rw [if_neg (Bool.eq_false_iff.mp c8)]) H locs ls hM hS (lv_sub hl [1, 2, 0] rfl)
    · skip
      refine lv_iinc (v := x2 + 1) (lv' := [(1, .int (x2 + 1)), (0, .ref q), (2, .int (nI i1))]) hx hb dX2_candidateCount_18 hl (k := 1) rfl rfl (by decide) rfl (fun ls hl => ?_)
      refine lv_iinc (v := nI (i1 + 1)) (lv' := [(2, .int (nI (i1 + 1))), (1, .int (x2 + 1)), (0, .ref q)]) hx hb dX2_candidateCount_21 hl (k := 2) rfl (nI_1 _) (by decide) rfl (fun ls hl => ?_)
      refine lv_goto (tgt := 4) hx hb dX2_candidateCount_24 (by decide) ?_
      exact stp6 (x2 + 1) (by rw [if_pos c8]) H locs ls hM hS (lv_sub hl [2, 1, 0] rfl)
  · skip
    refine lv_iload_n hx hb dX2_candidateCount_4 rfl (lv_at hl 2 rfl) ?_
    refine lv_bipush (v := nI 8) hx hb dX2_candidateCount_5 (by decide) ?_
    refine mr_geN (x := 8) (y := 8) (tgt := 27) C0 dX2_candidateCount_7 (by decide) (by decide) (by decide) (fun _ => ?_) (fun c9 => absurd c9 (by decide))
    refine lv_iload_n hx hb dX2_candidateCount_27 rfl (lv_at hl 1 rfl) ?_
    have eF : (lp 8 (fun i1 x2 => if fX2_isCandidate_t I q c e i1 = true then x2 + 1 else x2) (nI 0)) = fX2_candidateCount I q c e := rfl
    exact mr_iret (v := (lp 8 (fun i1 x2 => if fX2_isCandidate_t I q c e i1 = true then x2 + 1 else x2) (nI 0))) C0 hr hlk hQ hS (by rw [← eF]) hM (Nat.le_refl _) (Nat.le_refl _) dX2_candidateCount_28
def fX2_isLessServed_t (I : hm_I) (q s0 t0 : Nat) : Bool :=
  if 0 ≤ lg_cmp (((I (q + 2) s0).toInt64) * ((I (q + 1) t0).toInt64)) (((I (q + 2) t0).toInt64) * ((I (q + 1) s0).toInt64)) then false else true
set_option maxHeartbeats 4000000 in
set_option maxRecDepth 100000 in
theorem ctX2_isLessServed_t {l : Launch} {D : va_G} {T : Nat → ClassId} {L : List Nat} {A : Nat → Prop} {Sh : hm_S} {I : hm_I} {J : hm_J} {q : Nat} (hSt : IsS L Sh q) {s0 t0 : Nat} (hs0 : s0 < 8) (ht0 : t0 < 8) :
    Ct l yX2_isLessServed wsX2_isLessServed { frames := 1, cells := 0, slots := 0, locals := 20 } 0 0 D T A [.ref q, .int (nI s0), .int (nI t0)] (hm D T L A Sh I J) (some (.int (bI (fX2_isLessServed_t I q s0 t0)))) (hm D T L A Sh I J) := by
  refine Ct.ofW (cc := cX2_isLessServed) (maxL := 3) (ret := (some .boolean)) (by decide) rfl (Nat.le_of_ble_eq_true rfl) ?_
  intro p_ e_ s_ m_ args_ below_ meth_ c_ ls R Qq hR hQ C0 hr hlk hname hM hl
  have hx := C0.1.1
  have hb := C0.1.2.1
  have hS : va_S A s_.heap s_.heap [] := va_S.rf
  have hl : lv_has ls 3 [(0, .ref q), (1, .int (nI s0)), (2, .int (nI t0))] := hl
  refine lv_iload_n hx hb dX2_isLessServed_0 rfl (lv_at hl 1 rfl) ?_
  refine mr_callSN (As := [.int (nI s0)]) C0 (ctX3_isStream_t (I := I) (J := J) (s0 := s0) (by omega)) (va_cnB (own := RX2) (index := 66) 1 C0.1.2.2.2.2 ggX2_isLessServed_X3_isStream rfl rfl rfl C0.2.2.2.2.2.2.2.1 (C0.1.2.2.2.2 _ (List.mem_of_getElem? (i := 4) rfl)) (by decide +kernel) (by rw [hR]; exact ⟨Nat.le_of_ble_eq_true rfl, Nat.le_of_ble_eq_true rfl⟩)) (C0.1.2.2.2.2 _ (List.mem_of_getElem? (i := 3) rfl)) hM hS rfl rfl rfl hl.1 (Nat.le_of_ble_eq_true rfl) dX2_isLessServed_1 (by rw [hR]; exact ⟨Nat.zero_le _, Nat.zero_le _⟩) (fun H locs hM hS => ?_)
  refine mr_eqB (tgt := 52) C0 dX2_isLessServed_4 (by decide) (fun c1 => absurd c1 (by decide)) (fun _ => ?_)
  refine lv_iload_n hx hb dX2_isLessServed_7 rfl (lv_at hl 2 rfl) ?_
  refine mr_callSN (As := [.int (nI t0)]) C0 (ctX3_isStream_t (I := I) (J := J) (s0 := t0) (by omega)) (va_cnB (own := RX2) (index := 66) 1 C0.1.2.2.2.2 ggX2_isLessServed_X3_isStream rfl rfl rfl C0.2.2.2.2.2.2.2.1 (C0.1.2.2.2.2 _ (List.mem_of_getElem? (i := 4) rfl)) (by decide +kernel) (by rw [hR]; exact ⟨Nat.le_of_ble_eq_true rfl, Nat.le_of_ble_eq_true rfl⟩)) (C0.1.2.2.2.2 _ (List.mem_of_getElem? (i := 3) rfl)) hM hS rfl rfl rfl hl.1 (Nat.le_of_ble_eq_true rfl) dX2_isLessServed_8 (by rw [hR]; exact ⟨Nat.zero_le _, Nat.zero_le _⟩) (fun H locs hM hS => ?_)
  refine mr_eqB (tgt := 52) C0 dX2_isLessServed_11 (by decide) (fun c2 => absurd c2 (by decide)) (fun _ => ?_)
  refine lv_aload_n hx hb dX2_isLessServed_14 rfl (lv_at hl 0 rfl) ?_
  refine mr_getr (r := q + 2) (TT := TX2) (N := 10) C0 uX2_isLessServed_X2 hM hSt.1.1 hSt.1.2 rfl 2 (by decide) rfl kX2_isLessServed_f19 rfl dX2_isLessServed_15 ?_
  refine lv_iload_n hx hb dX2_isLessServed_18 rfl (lv_at hl 1 rfl) ?_
  refine mr_ialdN (v := I (q + 2) s0) C0 hM hSt.2.2.1.1 hSt.2.2.1.2 (by decide) (by omega) rfl dX2_isLessServed_19 ?_
  refine lv_i2l hx hb dX2_isLessServed_20 rfl ?_
  refine lv_aload_n hx hb dX2_isLessServed_21 rfl (lv_at hl 0 rfl) ?_
  refine mr_getr (r := q + 1) (TT := TX2) (N := 10) C0 uX2_isLessServed_X2 hM hSt.1.1 hSt.1.2 rfl 1 (by decide) rfl kX2_isLessServed_f15 rfl dX2_isLessServed_22 ?_
  refine lv_iload_n hx hb dX2_isLessServed_25 rfl (lv_at hl 2 rfl) ?_
  refine mr_ialdN (v := I (q + 1) t0) C0 hM hSt.2.1.1 hSt.2.1.2 (by decide) (by omega) rfl dX2_isLessServed_26 ?_
  refine lv_i2l hx hb dX2_isLessServed_27 rfl ?_
  refine lv_lmul hx hb dX2_isLessServed_28 ?_
  refine lv_aload_n hx hb dX2_isLessServed_29 rfl (lv_at hl 0 rfl) ?_
  refine mr_getr (r := q + 2) (TT := TX2) (N := 10) C0 uX2_isLessServed_X2 hM hSt.1.1 hSt.1.2 rfl 2 (by decide) rfl kX2_isLessServed_f19 rfl dX2_isLessServed_30 ?_
  refine lv_iload_n hx hb dX2_isLessServed_33 rfl (lv_at hl 2 rfl) ?_
  refine mr_ialdN (v := I (q + 2) t0) C0 hM hSt.2.2.1.1 hSt.2.2.1.2 (by decide) (by omega) rfl dX2_isLessServed_34 ?_
  refine lv_i2l hx hb dX2_isLessServed_35 rfl ?_
  refine lv_aload_n hx hb dX2_isLessServed_36 rfl (lv_at hl 0 rfl) ?_
  refine mr_getr (r := q + 1) (TT := TX2) (N := 10) C0 uX2_isLessServed_X2 hM hSt.1.1 hSt.1.2 rfl 1 (by decide) rfl kX2_isLessServed_f15 rfl dX2_isLessServed_37 ?_
  refine lv_iload_n hx hb dX2_isLessServed_40 rfl (lv_at hl 1 rfl) ?_
  refine mr_ialdN (v := I (q + 1) s0) C0 hM hSt.2.1.1 hSt.2.1.2 (by decide) (by omega) rfl dX2_isLessServed_41 ?_
  refine lv_i2l hx hb dX2_isLessServed_42 rfl ?_
  refine lv_lmul hx hb dX2_isLessServed_43 ?_
  refine W.lcmp hx hb dX2_isLessServed_44 ?_
  refine lv_if_ge (tgt := 52) hx hb dX2_isLessServed_45 (by decide) (fun c3 => ?_) (fun c3 => ?_)
  · skip
    refine lv_iconst (v := nI 0) hx hb dX2_isLessServed_52 (by decide) ?_
    refine mr_top (y := bI false) (by decide) ?_
    have eF : false = fX2_isLessServed_t I q s0 t0 := by unfold fX2_isLessServed_t; rw [if_pos c3]
    exact mr_zret (b := false) C0 hr hlk hQ hS (by rw [← eF]) hM (Nat.le_refl _) (Nat.le_refl _) dX2_isLessServed_53
  · skip
    refine lv_iconst (v := nI 1) hx hb dX2_isLessServed_48 (by decide) ?_
    refine lv_goto (tgt := 53) hx hb dX2_isLessServed_49 (by decide) ?_
    refine mr_top (y := bI true) (by decide) ?_
    have eF : true = fX2_isLessServed_t I q s0 t0 := by unfold fX2_isLessServed_t; rw [if_neg c3]
    exact mr_zret (b := true) C0 hr hlk hQ hS (by rw [← eF]) hM (Nat.le_refl _) (Nat.le_refl _) dX2_isLessServed_53
set_option maxHeartbeats 4000000 in
set_option maxRecDepth 100000 in
theorem ctX2_isLessServed_f {l : Launch} {D : va_G} {T : Nat → ClassId} {L : List Nat} {A : Nat → Prop} {Sh : hm_S} {I : hm_I} {J : hm_J} {q : Nat} (hSt : IsS L Sh q) {s0 : Nat} {t0 : Int32} (hs0 : s0 < 8) (ht0 : fX3_isStream t0 = false) :
    Ct l yX2_isLessServed wsX2_isLessServed { frames := 1, cells := 0, slots := 0, locals := 20 } 0 0 D T A [.ref q, .int (nI s0), .int t0] (hm D T L A Sh I J) (some (.int (bI false))) (hm D T L A Sh I J) := by
  refine Ct.ofW (cc := cX2_isLessServed) (maxL := 3) (ret := (some .boolean)) (by decide) rfl (Nat.le_of_ble_eq_true rfl) ?_
  intro p_ e_ s_ m_ args_ below_ meth_ c_ ls R Qq hR hQ C0 hr hlk hname hM hl
  have hx := C0.1.1
  have hb := C0.1.2.1
  have hS : va_S A s_.heap s_.heap [] := va_S.rf
  have hl : lv_has ls 3 [(0, .ref q), (1, .int (nI s0)), (2, .int t0)] := hl
  refine lv_iload_n hx hb dX2_isLessServed_0 rfl (lv_at hl 1 rfl) ?_
  refine mr_callSN (As := [.int (nI s0)]) C0 (ctX3_isStream_t (I := I) (J := J) (s0 := s0) (by omega)) (va_cnB (own := RX2) (index := 66) 1 C0.1.2.2.2.2 ggX2_isLessServed_X3_isStream rfl rfl rfl C0.2.2.2.2.2.2.2.1 (C0.1.2.2.2.2 _ (List.mem_of_getElem? (i := 4) rfl)) (by decide +kernel) (by rw [hR]; exact ⟨Nat.le_of_ble_eq_true rfl, Nat.le_of_ble_eq_true rfl⟩)) (C0.1.2.2.2.2 _ (List.mem_of_getElem? (i := 3) rfl)) hM hS rfl rfl rfl hl.1 (Nat.le_of_ble_eq_true rfl) dX2_isLessServed_1 (by rw [hR]; exact ⟨Nat.zero_le _, Nat.zero_le _⟩) (fun H locs hM hS => ?_)
  refine mr_eqB (tgt := 52) C0 dX2_isLessServed_4 (by decide) (fun c1 => absurd c1 (by decide)) (fun _ => ?_)
  refine lv_iload_n hx hb dX2_isLessServed_7 rfl (lv_at hl 2 rfl) ?_
  refine mr_callSN (As := [.int t0]) C0 (ctX3_isStream (I := I) (J := J) (s0 := t0) ) (va_cnB (own := RX2) (index := 66) 1 C0.1.2.2.2.2 ggX2_isLessServed_X3_isStream rfl rfl rfl C0.2.2.2.2.2.2.2.1 (C0.1.2.2.2.2 _ (List.mem_of_getElem? (i := 4) rfl)) (by decide +kernel) (by rw [hR]; exact ⟨Nat.le_of_ble_eq_true rfl, Nat.le_of_ble_eq_true rfl⟩)) (C0.1.2.2.2.2 _ (List.mem_of_getElem? (i := 3) rfl)) hM hS rfl rfl rfl hl.1 (Nat.le_of_ble_eq_true rfl) dX2_isLessServed_8 (by rw [hR]; exact ⟨Nat.zero_le _, Nat.zero_le _⟩) (fun H locs hM hS => ?_)
  refine mr_eqB (tgt := 52) C0 dX2_isLessServed_11 (by decide) (fun c2 => ?_) (fun c2 => absurd c2 (by rw [ht0]; decide))
  refine lv_iconst (v := nI 0) hx hb dX2_isLessServed_52 (by decide) ?_
  refine mr_top (y := bI false) (by decide) ?_
  have eF : false = false := rfl
  exact mr_zret (b := false) C0 hr hlk hQ hS (by rw [← eF]) hM (Nat.le_refl _) (Nat.le_refl _) dX2_isLessServed_53
def fX2_isLessServed_z (I : hm_I) (q s0 : Nat) (t0 : Int32) : Bool := if fX3_isStream t0 = true then fX2_isLessServed_t I q s0 t0.toNatClampNeg else false
theorem ctX2_isLessServed_z {l : Launch} {D : va_G} {T : Nat → ClassId} {L : List Nat} {A : Nat → Prop} {Sh : hm_S} {I : hm_I} {J : hm_J} {q : Nat} (hSt : IsS L Sh q) {s0 : Nat} {t0 : Int32} (hs0 : s0 < 8) :
    Ct l yX2_isLessServed wsX2_isLessServed { frames := 1, cells := 0, slots := 0, locals := 20 } 0 0 D T A [.ref q, .int (nI s0), .int t0] (hm D T L A Sh I J) (some (.int (bI (fX2_isLessServed_z I q s0 t0)))) (hm D T L A Sh I J) := by
  by_cases h : fX3_isStream t0 = true
  · obtain ⟨k, hk, rfl⟩ := isStream_nat h
    unfold fX2_isLessServed_z
    rw [if_pos h, nI_clamp (by omega)]
    exact ctX2_isLessServed_t hSt hs0 hk
  · unfold fX2_isLessServed_z
    rw [if_neg h]
    exact ctX2_isLessServed_f hSt hs0 (Bool.eq_false_iff.mpr h)
def fX2_nextStream (I : hm_I) (q : Nat) (c e : Nat → Nat) : Int32 :=
  (lp 8 (fun i1 x2 => if fX2_isCandidate_t I q c e i1 = true then if x2 = (-9) then nI i1 else if fX2_isLessServed_z I q i1 x2 = true then nI i1 else x2 else x2) (-9))
set_option maxHeartbeats 4000000 in
set_option maxRecDepth 100000 in
theorem ctX2_nextStream {l : Launch} {D : va_G} {T : Nat → ClassId} {L : List Nat} {A : Nat → Prop} {Sh : hm_S} {I : hm_I} {J : hm_J} {q : Nat} (hSt : IsS L Sh q) {c e : Nat → Nat} {ec lc : Nat} (hW : WfS I q c e ec lc) :
    Ct l yX2_nextStream wsX2_nextStream { frames := 4, cells := 0, slots := 0, locals := 89 } 0 0 D T A [.ref q] (hm D T L A Sh I J) (some (.int (fX2_nextStream I q c e))) (hm D T L A Sh I J) := by
  refine Ct.ofW (cc := cX2_nextStream) (maxL := 3) (ret := (some .int)) (by decide) rfl (Nat.le_of_ble_eq_true rfl) ?_
  intro p_ e_ s_ m_ args_ below_ meth_ c_ ls R Qq hR hQ C0 hr hlk hname hM hl
  have hx := C0.1.1
  have hb := C0.1.2.1
  have hS : va_S A s_.heap s_.heap [] := va_S.rf
  have hl : lv_has ls 3 [(0, .ref q)] := hl
  refine lv_bipush (v := (-9)) hx hb dX2_nextStream_0 (by decide) ?_
  refine lv_istore_n (lv' := [(1, .int (-9)), (0, .ref q)]) hx hb dX2_nextStream_2 rfl hl (by decide) rfl (fun ls hl => ?_)
  refine lv_iconst (v := nI 0) hx hb dX2_nextStream_3 (by decide) ?_
  refine lv_istore_n (lv' := [(2, .int (nI 0)), (1, .int (-9)), (0, .ref q)]) hx hb dX2_nextStream_4 rfl hl (by decide) rfl (fun ls hl => ?_)
  refine lp_loop (σ := Int32) (fun i1 x2 => ∀ (H : Heap) (locs : List Loc) (ls : Array Slot), hm D T L A Sh I J H → va_S A s_.heap H locs → lv_has ls 3 [(0, .ref q), (1, .int x2), (2, .int (nI i1))] → W p_ l e_ R s_ m_ args_ below_ meth_ c_ H locs 0 0 Qq (F0 m_ 5 ls [])) 8 (fun i1 x2 => if fX2_isCandidate_t I q c e i1 = true then if x2 = (-9) then nI i1 else if fX2_isLessServed_z I q i1 x2 = true then nI i1 else x2 else x2) (-9) (fun _ _ => True) trivial (fun _ _ _ _ => trivial) (fun i1 x2 hi3 hv4 k5 H locs ls hM hS hl => ?_) (fun hv4 H locs ls hM hS hl => ?_) _ _ _ hM hS (lv_sub hl [2, 1, 0] rfl)
  · have stp6 : ∀ yy_ : Int32, yy_ = (if fX2_isCandidate_t I q c e i1 = true then if x2 = (-9) then nI i1 else if fX2_isLessServed_z I q i1 x2 = true then nI i1 else x2 else x2) → ∀ (H : Heap) (locs : List Loc) (ls : Array Slot), hm D T L A Sh I J H → va_S A s_.heap H locs → lv_has ls 3 [(0, .ref q), (1, .int yy_), (2, .int (nI (i1 + 1)))] → W p_ l e_ R s_ m_ args_ below_ meth_ c_ H locs 0 0 Qq (F0 m_ 5 ls []) := fun yy_ ey => by subst ey; exact k5
    refine lv_iload_n hx hb dX2_nextStream_5 rfl (lv_at hl 2 rfl) ?_
    refine lv_bipush (v := nI 8) hx hb dX2_nextStream_6 (by decide) ?_
    refine mr_geN (x := i1) (y := 8) (tgt := 42) C0 dX2_nextStream_8 (by decide) (by omega) (by omega) (fun c7 => absurd c7 (by omega)) (fun c7 => ?_)
    refine lv_aload_n hx hb dX2_nextStream_11 rfl (lv_at hl 0 rfl) ?_
    refine lv_iload_n hx hb dX2_nextStream_12 rfl (lv_at hl 2 rfl) ?_
    refine mr_callV (As := [.int (nI i1)]) C0 (ctX2_isCandidate_t (I := I) (J := J) (q := q) (s0 := i1) hSt hW (by omega)) (cwV 1 C0.1.2.2.2.2 gX2_nextStream_X2_isCandidate rfl rfl rfl (by decide +kernel) (by rw [hR]; exact ⟨Nat.le_of_ble_eq_true rfl, Nat.le_of_ble_eq_true rfl⟩)) hM hSt.1.1 hSt.1.2 rfl rfl hM hS rfl rfl rfl hl.1 (Nat.le_of_ble_eq_true rfl) dX2_nextStream_13 (by rw [hR]; exact ⟨Nat.zero_le _, Nat.zero_le _⟩) (fun H locs hM hS => ?_)
    refine mr_eqB (tgt := 36) C0 dX2_nextStream_16 (by decide) (fun c8 => ?_) (fun c8 => ?_)
    · skip
      refine lv_iinc (v := nI (i1 + 1)) (lv' := [(2, .int (nI (i1 + 1))), (0, .ref q), (1, .int x2)]) hx hb dX2_nextStream_36 hl (k := 2) rfl (nI_1 _) (by decide) rfl (fun ls hl => ?_)
      refine lv_goto (tgt := 5) hx hb dX2_nextStream_39 (by decide) ?_
      exact stp6 x2 (by rw [if_neg (Bool.eq_false_iff.mp c8)]) H locs ls hM hS (lv_sub hl [1, 2, 0] rfl)
    · skip
      refine lv_iload_n hx hb dX2_nextStream_19 rfl (lv_at hl 1 rfl) ?_
      refine lv_bipush (v := (-9)) hx hb dX2_nextStream_20 (by decide) ?_
      refine lv_icmp_eq (tgt := 34) hx hb dX2_nextStream_22 (by decide) (fun c9 => ?_) (fun c9 => ?_)
      · skip
        refine lv_iload_n hx hb dX2_nextStream_34 rfl (lv_at hl 2 rfl) ?_
        refine lv_istore_n (lv' := [(1, .int (nI i1)), (0, .ref q), (2, .int (nI i1))]) hx hb dX2_nextStream_35 rfl hl (by decide) rfl (fun ls hl => ?_)
        refine lv_iinc (v := nI (i1 + 1)) (lv' := [(2, .int (nI (i1 + 1))), (1, .int (nI i1)), (0, .ref q)]) hx hb dX2_nextStream_36 hl (k := 2) rfl (nI_1 _) (by decide) rfl (fun ls hl => ?_)
        refine lv_goto (tgt := 5) hx hb dX2_nextStream_39 (by decide) ?_
        exact stp6 (nI i1) (by rw [if_pos c8, if_pos c9]) H locs ls hM hS (lv_sub hl [2, 1, 0] rfl)
      · skip
        refine lv_aload_n hx hb dX2_nextStream_25 rfl (lv_at hl 0 rfl) ?_
        refine lv_iload_n hx hb dX2_nextStream_26 rfl (lv_at hl 2 rfl) ?_
        refine lv_iload_n hx hb dX2_nextStream_27 rfl (lv_at hl 1 rfl) ?_
        refine mr_callV (As := [.int (nI i1), .int x2]) C0 (ctX2_isLessServed_z (I := I) (J := J) (q := q) (s0 := i1) (t0 := x2) hSt (by omega)) (cwV 2 C0.1.2.2.2.2 gX2_nextStream_X2_isLessServed rfl rfl rfl (by decide +kernel) (by rw [hR]; exact ⟨Nat.le_of_ble_eq_true rfl, Nat.le_of_ble_eq_true rfl⟩)) hM hSt.1.1 hSt.1.2 rfl rfl hM hS rfl rfl rfl hl.1 (Nat.le_of_ble_eq_true rfl) dX2_nextStream_28 (by rw [hR]; exact ⟨Nat.zero_le _, Nat.zero_le _⟩) (fun H locs hM hS => ?_)
        refine mr_eqB (tgt := 36) C0 dX2_nextStream_31 (by decide) (fun c10 => ?_) (fun c10 => ?_)
        · skip
          refine lv_iinc (v := nI (i1 + 1)) (lv' := [(2, .int (nI (i1 + 1))), (0, .ref q), (1, .int x2)]) hx hb dX2_nextStream_36 hl (k := 2) rfl (nI_1 _) (by decide) rfl (fun ls hl => ?_)
          refine lv_goto (tgt := 5) hx hb dX2_nextStream_39 (by decide) ?_
          exact stp6 x2 (by rw [if_pos c8, if_neg c9, if_neg (Bool.eq_false_iff.mp c10)]) H locs ls hM hS (lv_sub hl [1, 2, 0] rfl)
        · skip
          refine lv_iload_n hx hb dX2_nextStream_34 rfl (lv_at hl 2 rfl) ?_
          refine lv_istore_n (lv' := [(1, .int (nI i1)), (0, .ref q), (2, .int (nI i1))]) hx hb dX2_nextStream_35 rfl hl (by decide) rfl (fun ls hl => ?_)
          refine lv_iinc (v := nI (i1 + 1)) (lv' := [(2, .int (nI (i1 + 1))), (1, .int (nI i1)), (0, .ref q)]) hx hb dX2_nextStream_36 hl (k := 2) rfl (nI_1 _) (by decide) rfl (fun ls hl => ?_)
          refine lv_goto (tgt := 5) hx hb dX2_nextStream_39 (by decide) ?_
          exact stp6 (nI i1) (by rw [if_pos c8, if_neg c9, if_pos c10]) H locs ls hM hS (lv_sub hl [2, 1, 0] rfl)
  · skip
    refine lv_iload_n hx hb dX2_nextStream_5 rfl (lv_at hl 2 rfl) ?_
    refine lv_bipush (v := nI 8) hx hb dX2_nextStream_6 (by decide) ?_
    refine mr_geN (x := 8) (y := 8) (tgt := 42) C0 dX2_nextStream_8 (by decide) (by decide) (by decide) (fun _ => ?_) (fun c11 => absurd c11 (by decide))
    refine lv_iload_n hx hb dX2_nextStream_42 rfl (lv_at hl 1 rfl) ?_
    have eF : (lp 8 (fun i1 x2 => if fX2_isCandidate_t I q c e i1 = true then if x2 = (-9) then nI i1 else if fX2_isLessServed_z I q i1 x2 = true then nI i1 else x2 else x2) (-9)) = fX2_nextStream I q c e := rfl
    exact mr_iret (v := (lp 8 (fun i1 x2 => if fX2_isCandidate_t I q c e i1 = true then if x2 = (-9) then nI i1 else if fX2_isLessServed_z I q i1 x2 = true then nI i1 else x2 else x2) (-9))) C0 hr hlk hQ hS (by rw [← eF]) hM (Nat.le_refl _) (Nat.le_refl _) dX2_nextStream_43
def fX2_sendFirst_t (I : hm_I) (q : Nat) (c : Nat → Nat) (lc s0 : Nat) : hm_I :=
  if fX0_isFull 40 lc = true then hm_put (hm_put (fX0_removeFirst_t (fX0_add_t (fX0_removeFirst_t I (q + 78) lc) (q + 78) (lc - 1) ((fX0_removeFirst_t I (q + 78) lc) ((q + 4 + 5 * s0) + 1) 0) (nI s0) (I ((q + 4 + 5 * s0) + 3) 0) ((fX0_removeFirst_t I (q + 78) lc) ((q + 4 + 5 * s0) + 4) 0)) (q + 4 + 5 * s0) (c s0)) (q + 2) s0 (((fX0_removeFirst_t (fX0_add_t (fX0_removeFirst_t I (q + 78) lc) (q + 78) (lc - 1) ((fX0_removeFirst_t I (q + 78) lc) ((q + 4 + 5 * s0) + 1) 0) (nI s0) (I ((q + 4 + 5 * s0) + 3) 0) ((fX0_removeFirst_t I (q + 78) lc) ((q + 4 + 5 * s0) + 4) 0)) (q + 4 + 5 * s0) (c s0)) (q + 2) s0) + (I ((q + 4 + 5 * s0) + 3) 0))) q 8 (((fX0_removeFirst_t (fX0_add_t (fX0_removeFirst_t I (q + 78) lc) (q + 78) (lc - 1) ((fX0_removeFirst_t I (q + 78) lc) ((q + 4 + 5 * s0) + 1) 0) (nI s0) (I ((q + 4 + 5 * s0) + 3) 0) ((fX0_removeFirst_t I (q + 78) lc) ((q + 4 + 5 * s0) + 4) 0)) (q + 4 + 5 * s0) (c s0)) q 8) + (nI 1)) else hm_put (hm_put (fX0_removeFirst_t (fX0_add_t I (q + 78) lc (I ((q + 4 + 5 * s0) + 1) 0) (nI s0) (I ((q + 4 + 5 * s0) + 3) 0) (I ((q + 4 + 5 * s0) + 4) 0)) (q + 4 + 5 * s0) (c s0)) (q + 2) s0 (((fX0_removeFirst_t (fX0_add_t I (q + 78) lc (I ((q + 4 + 5 * s0) + 1) 0) (nI s0) (I ((q + 4 + 5 * s0) + 3) 0) (I ((q + 4 + 5 * s0) + 4) 0)) (q + 4 + 5 * s0) (c s0)) (q + 2) s0) + (I ((q + 4 + 5 * s0) + 3) 0))) q 8 (((fX0_removeFirst_t (fX0_add_t I (q + 78) lc (I ((q + 4 + 5 * s0) + 1) 0) (nI s0) (I ((q + 4 + 5 * s0) + 3) 0) (I ((q + 4 + 5 * s0) + 4) 0)) (q + 4 + 5 * s0) (c s0)) q 8) + (nI 1))
set_option maxHeartbeats 4000000 in
set_option maxRecDepth 100000 in
theorem ctX2_sendFirst_t {l : Launch} {D : va_G} {T : Nat → ClassId} {L : List Nat} {A : Nat → Prop} {Sh : hm_S} {I : hm_I} {J : hm_J} {q : Nat} (hSt : IsS L Sh q) {c e : Nat → Nat} {ec lc : Nat} (hW : WfS I q c e ec lc) {s0 : Nat} (hs0 : s0 < 8) (hc0 : 0 < c s0) :
    Ct l yX2_sendFirst wsX2_sendFirst { frames := 2, cells := 0, slots := 0, locals := 44 } 0 0 D T A [.ref q, .int (nI s0)] (hm D T L A Sh I J) none (hm D T L A Sh (fX2_sendFirst_t I q c lc s0) J) := by
  refine Ct.ofW (cc := cX2_sendFirst) (maxL := 4) (ret := none) (by decide) rfl (Nat.le_of_ble_eq_true rfl) ?_
  intro p_ e_ s_ m_ args_ below_ meth_ c_ ls R Qq hR hQ C0 hr hlk hname hM hl
  have hx := C0.1.1
  have hb := C0.1.2.1
  have hS : va_S A s_.heap s_.heap [] := va_S.rf
  have hl : lv_has ls 4 [(0, .ref q), (1, .int (nI s0))] := hl
  refine lv_iload_n hx hb dX2_sendFirst_0 rfl (lv_at hl 1 rfl) ?_
  refine mr_callSN (As := [.int (nI s0)]) C0 (ctX3_isStream_t (I := I) (J := J) (s0 := s0) (by omega)) (va_cnB (own := RX2) (index := 66) 1 C0.1.2.2.2.2 ggX2_sendFirst_X3_isStream rfl rfl rfl C0.2.2.2.2.2.2.2.1 (C0.1.2.2.2.2 _ (List.mem_of_getElem? (i := 7) rfl)) (by decide +kernel) (by rw [hR]; exact ⟨Nat.le_of_ble_eq_true rfl, Nat.le_of_ble_eq_true rfl⟩)) (C0.1.2.2.2.2 _ (List.mem_of_getElem? (i := 6) rfl)) hM hS rfl rfl rfl hl.1 (Nat.le_of_ble_eq_true rfl) dX2_sendFirst_1 (by rw [hR]; exact ⟨Nat.zero_le _, Nat.zero_le _⟩) (fun H locs hM hS => ?_)
  refine mr_eqB (tgt := 19) C0 dX2_sendFirst_4 (by decide) (fun c1 => absurd c1 (by decide)) (fun _ => ?_)
  refine lv_aload_n hx hb dX2_sendFirst_7 rfl (lv_at hl 0 rfl) ?_
  refine mr_getr (r := q + 3) (TT := TX2) (N := 10) C0 uX2_sendFirst_X2 hM hSt.1.1 hSt.1.2 rfl 3 (by decide) rfl kX2_sendFirst_f24 rfl dX2_sendFirst_8 ?_
  refine lv_iload_n hx hb dX2_sendFirst_11 rfl (lv_at hl 1 rfl) ?_
  refine mr_aald (t := 0) (C := RX0) (r := q + 4 + 5 * s0) C0 hM hSt.2.2.2.1.1 hSt.2.2.2.1.2 rfl (by decide) (by omega) rfl dX2_sendFirst_12 ?_
  have hw2 := hW.1 s0 (by omega)
  have hw2b := hw2.2
  refine mr_geti (v := nI (c s0)) (TT := TX0) (N := 5) C0 uX2_sendFirst_X0 hM (hSt.2.2.2.2.1 _ (by omega)).1.1 (hSt.2.2.2.2.1 _ (by omega)).1.2 rfl 4 (by decide) rfl hw2.1 kX2_sendFirst_f82 rfl dX2_sendFirst_13 ?_
  refine mr_ne0N (x := (c s0)) (tgt := 20) C0 dX2_sendFirst_16 (by decide) (by omega) (fun c3 => ?_) (fun c3 => absurd c3 (by omega))
  refine lv_aload_n hx hb dX2_sendFirst_20 rfl (lv_at hl 0 rfl) ?_
  refine mr_getr (r := q + 3) (TT := TX2) (N := 10) C0 uX2_sendFirst_X2 hM hSt.1.1 hSt.1.2 rfl 3 (by decide) rfl kX2_sendFirst_f24 rfl dX2_sendFirst_21 ?_
  refine lv_iload_n hx hb dX2_sendFirst_24 rfl (lv_at hl 1 rfl) ?_
  refine mr_aald (t := 0) (C := RX0) (r := q + 4 + 5 * s0) C0 hM hSt.2.2.2.1.1 hSt.2.2.2.1.2 rfl (by decide) (by omega) rfl dX2_sendFirst_25 ?_
  refine lv_astore_n (lv' := [(2, .ref (q + 4 + 5 * s0)), (0, .ref q), (1, .int (nI s0))]) hx hb dX2_sendFirst_26 rfl hl (by decide) rfl (fun ls hl => ?_)
  refine lv_aload_n hx hb dX2_sendFirst_27 rfl (lv_at hl 0 rfl) ?_
  refine lv_iconst (v := nI 0) hx hb dX2_sendFirst_28 (by decide) ?_
  refine mr_callV (As := [.int (nI 0)]) C0 (ctX0_sizeAt_t (I := I) (J := J) (a := (q + 4 + 5 * s0)) (k := 0) (hSt.2.2.2.2.1 _ (by omega)) hw2.1 (by omega) (by omega) (by omega)) (cwV 1 C0.1.2.2.2.2 gX2_sendFirst_X0_sizeAt rfl rfl rfl (by decide +kernel) (by rw [hR]; exact ⟨Nat.le_of_ble_eq_true rfl, Nat.le_of_ble_eq_true rfl⟩)) hM (hSt.2.2.2.2.1 _ (by omega)).1.1 (hSt.2.2.2.2.1 _ (by omega)).1.2 rfl rfl hM hS rfl rfl rfl hl.1 (Nat.le_of_ble_eq_true rfl) dX2_sendFirst_29 (by rw [hR]; exact ⟨Nat.zero_le _, Nat.zero_le _⟩) (fun H locs hM hS => ?_)
  refine lv_istore_n (lv' := [(3, .int (I ((q + 4 + 5 * s0) + 3) 0)), (2, .ref (q + 4 + 5 * s0)), (0, .ref q), (1, .int (nI s0))]) hx hb dX2_sendFirst_32 rfl hl (by decide) rfl (fun ls hl => ?_)
  refine lv_aload_n hx hb dX2_sendFirst_33 rfl (lv_at hl 2 rfl) ?_
  refine mr_getr (r := q + 78) (TT := TX2) (N := 10) C0 uX2_sendFirst_X2 hM hSt.1.1 hSt.1.2 rfl 9 (by decide) rfl kX2_sendFirst_f51 rfl dX2_sendFirst_34 ?_
  have hw4 := hW.2.2.2.2.2.2
  refine mr_callV (As := []) C0 (ctX0_isFull (I := I) (J := J) (a := (q + 78)) hSt.2.2.2.2.2.2.2.2 hW.2.2.2.2.2.1 (by omega) (by omega)) (cwV 0 C0.1.2.2.2.2 gX2_sendFirst_X0_isFull rfl rfl rfl (by decide +kernel) (by rw [hR]; exact ⟨Nat.le_of_ble_eq_true rfl, Nat.le_of_ble_eq_true rfl⟩)) hM hSt.2.2.2.2.2.2.2.2.1.1 hSt.2.2.2.2.2.2.2.2.1.2 rfl rfl hM hS rfl rfl rfl hl.1 (Nat.le_of_ble_eq_true rfl) dX2_sendFirst_37 (by rw [hR]; exact ⟨Nat.zero_le _, Nat.zero_le _⟩) (fun H locs hM hS => ?_)
  refine mr_eqB (tgt := 50) C0 dX2_sendFirst_40 (by decide) (fun c5 => ?_) (fun c5 => ?_)
  · skip
    have hfu := isFull_f c5
    refine lv_aload_n hx hb dX2_sendFirst_50 rfl (lv_at hl 2 rfl) ?_
    refine mr_getr (r := q + 78) (TT := TX2) (N := 10) C0 uX2_sendFirst_X2 hM hSt.1.1 hSt.1.2 rfl 9 (by decide) rfl kX2_sendFirst_f51 rfl dX2_sendFirst_51 ?_
    refine lv_aload_n hx hb dX2_sendFirst_54 rfl (lv_at hl 1 rfl) ?_
    refine lv_iconst (v := nI 0) hx hb dX2_sendFirst_55 (by decide) ?_
    refine mr_callV (As := [.int (nI 0)]) C0 (ctX0_numberAt_t (I := I) (J := J) (a := (q + 4 + 5 * s0)) (k := 0) (hSt.2.2.2.2.1 _ (by omega)) hw2.1 (by omega) (by omega) (by omega)) (cwV 1 C0.1.2.2.2.2 gX2_sendFirst_X0_numberAt rfl rfl rfl (by decide +kernel) (by rw [hR]; exact ⟨Nat.le_of_ble_eq_true rfl, Nat.le_of_ble_eq_true rfl⟩)) hM (hSt.2.2.2.2.1 _ (by omega)).1.1 (hSt.2.2.2.2.1 _ (by omega)).1.2 rfl rfl hM hS rfl rfl rfl hl.1 (Nat.le_of_ble_eq_true rfl) dX2_sendFirst_56 (by rw [hR]; exact ⟨Nat.zero_le _, Nat.zero_le _⟩) (fun H locs hM hS => ?_)
    refine lv_iload_n hx hb dX2_sendFirst_59 rfl (lv_at hl 3 rfl) ?_
    refine lv_iload_n hx hb dX2_sendFirst_60 rfl (lv_at hl 0 rfl) ?_
    refine lv_aload_n hx hb dX2_sendFirst_61 rfl (lv_at hl 1 rfl) ?_
    refine lv_iconst (v := nI 0) hx hb dX2_sendFirst_62 (by decide) ?_
    refine mr_callV (As := [.int (nI 0)]) C0 (ctX0_epochAt_t (I := I) (J := J) (a := (q + 4 + 5 * s0)) (k := 0) (hSt.2.2.2.2.1 _ (by omega)) hw2.1 (by omega) (by omega) (by omega)) (cwV 1 C0.1.2.2.2.2 gX2_sendFirst_X0_epochAt rfl rfl rfl (by decide +kernel) (by rw [hR]; exact ⟨Nat.le_of_ble_eq_true rfl, Nat.le_of_ble_eq_true rfl⟩)) hM (hSt.2.2.2.2.1 _ (by omega)).1.1 (hSt.2.2.2.2.1 _ (by omega)).1.2 rfl rfl hM hS rfl rfl rfl hl.1 (Nat.le_of_ble_eq_true rfl) dX2_sendFirst_63 (by rw [hR]; exact ⟨Nat.zero_le _, Nat.zero_le _⟩) (fun H locs hM hS => ?_)
    refine mr_callV (As := [.int (I ((q + 4 + 5 * s0) + 1) 0), .int (nI s0), .int (I ((q + 4 + 5 * s0) + 3) 0), .int (I ((q + 4 + 5 * s0) + 4) 0)]) C0 (ctX0_add_t (I := I) (J := J) (a := (q + 78)) (v := (I ((q + 4 + 5 * s0) + 1) 0)) (s0 := (nI s0)) (z := (I ((q + 4 + 5 * s0) + 3) 0)) (e0 := (I ((q + 4 + 5 * s0) + 4) 0)) hSt.2.2.2.2.2.2.2.2 hW.2.2.2.2.2.1 (by omega) (by omega) (by omega)) (cwV 4 C0.1.2.2.2.2 gX2_sendFirst_X0_add rfl rfl rfl (by decide +kernel) (by rw [hR]; exact ⟨Nat.le_of_ble_eq_true rfl, Nat.le_of_ble_eq_true rfl⟩)) hM hSt.2.2.2.2.2.2.2.2.1.1 hSt.2.2.2.2.2.2.2.2.1.2 rfl rfl hM hS rfl rfl rfl hl.1 (Nat.le_of_ble_eq_true rfl) dX2_sendFirst_66 (by rw [hR]; exact ⟨Nat.zero_le _, Nat.zero_le _⟩) (fun H locs hM hS => ?_)
    refine lv_aload_n hx hb dX2_sendFirst_69 rfl (lv_at hl 1 rfl) ?_
    refine mr_callV (As := []) C0 (ctX0_removeFirst_t (I := (fX0_add_t I (q + 78) lc (I ((q + 4 + 5 * s0) + 1) 0) (nI s0) (I ((q + 4 + 5 * s0) + 3) 0) (I ((q + 4 + 5 * s0) + 4) 0))) (J := J) (a := (q + 4 + 5 * s0)) (hSt.2.2.2.2.1 _ (by omega)) ((congrFun (fX0_add_ne (by omega)) _).trans hw2.1) (by omega) (by omega) (by omega)) (cwV 0 C0.1.2.2.2.2 gX2_sendFirst_X0_removeFirst rfl rfl rfl (by decide +kernel) (by rw [hR]; exact ⟨Nat.le_of_ble_eq_true rfl, Nat.le_of_ble_eq_true rfl⟩)) hM (hSt.2.2.2.2.1 _ (by omega)).1.1 (hSt.2.2.2.2.1 _ (by omega)).1.2 rfl rfl hM hS rfl rfl rfl hl.1 (Nat.le_of_ble_eq_true rfl) dX2_sendFirst_70 (by rw [hR]; exact ⟨Nat.zero_le _, Nat.zero_le _⟩) (fun H locs hM hS => ?_)
    refine lv_aload_n hx hb dX2_sendFirst_73 rfl (lv_at hl 2 rfl) ?_
    refine mr_getr (r := q + 2) (TT := TX2) (N := 10) C0 uX2_sendFirst_X2 hM hSt.1.1 hSt.1.2 rfl 2 (by decide) rfl kX2_sendFirst_f19 rfl dX2_sendFirst_74 ?_
    refine lv_iload_n hx hb dX2_sendFirst_77 rfl (lv_at hl 3 rfl) ?_
    refine lv_dup2_11 hx hb dX2_sendFirst_78 rfl rfl ?_
    refine mr_ialdN (v := (fX0_removeFirst_t (fX0_add_t I (q + 78) lc (I ((q + 4 + 5 * s0) + 1) 0) (nI s0) (I ((q + 4 + 5 * s0) + 3) 0) (I ((q + 4 + 5 * s0) + 4) 0)) (q + 4 + 5 * s0) (c s0)) (q + 2) s0) C0 hM hSt.2.2.1.1 hSt.2.2.1.2 (by decide) (by omega) rfl dX2_sendFirst_79 ?_
    refine lv_iload_n hx hb dX2_sendFirst_80 rfl (lv_at hl 0 rfl) ?_
    refine lv_iadd hx hb dX2_sendFirst_81 ?_
    refine mr_iastN C0 hM hS hSt.2.2.1.1 hSt.2.2.1.2 (by decide) (by omega) dX2_sendFirst_82 (fun H locs hM hS => ?_)
    refine lv_aload_n hx hb dX2_sendFirst_83 rfl (lv_at hl 2 rfl) ?_
    refine lv_dup hx hb dX2_sendFirst_84 rfl ?_
    refine mr_geti (v := (fX0_removeFirst_t (fX0_add_t I (q + 78) lc (I ((q + 4 + 5 * s0) + 1) 0) (nI s0) (I ((q + 4 + 5 * s0) + 3) 0) (I ((q + 4 + 5 * s0) + 4) 0)) (q + 4 + 5 * s0) (c s0)) q 8) (TT := TX2) (N := 10) C0 uX2_sendFirst_X2 hM hSt.1.1 hSt.1.2 rfl 8 (by decide) rfl (hm_put_get (by omega)) kX2_sendFirst_f48 rfl dX2_sendFirst_85 ?_
    refine lv_iconst (v := nI 1) hx hb dX2_sendFirst_88 (by decide) ?_
    refine lv_iadd hx hb dX2_sendFirst_89 ?_
    refine mr_puti (TT := TX2) (N := 10) C0 uX2_sendFirst_X2 tyX2 tyX2_ok nmX2 hM hS hSt.1.1 hSt.1.2 rfl 8 (by decide) rfl kX2_sendFirst_f48 rfl rfl (by decide +kernel) dX2_sendFirst_90 (fun H locs hM hS => ?_)
    have eF : hm_put (hm_put (fX0_removeFirst_t (fX0_add_t I (q + 78) lc (I ((q + 4 + 5 * s0) + 1) 0) (nI s0) (I ((q + 4 + 5 * s0) + 3) 0) (I ((q + 4 + 5 * s0) + 4) 0)) (q + 4 + 5 * s0) (c s0)) (q + 2) s0 (((fX0_removeFirst_t (fX0_add_t I (q + 78) lc (I ((q + 4 + 5 * s0) + 1) 0) (nI s0) (I ((q + 4 + 5 * s0) + 3) 0) (I ((q + 4 + 5 * s0) + 4) 0)) (q + 4 + 5 * s0) (c s0)) (q + 2) s0) + (I ((q + 4 + 5 * s0) + 3) 0))) q 8 (((fX0_removeFirst_t (fX0_add_t I (q + 78) lc (I ((q + 4 + 5 * s0) + 1) 0) (nI s0) (I ((q + 4 + 5 * s0) + 3) 0) (I ((q + 4 + 5 * s0) + 4) 0)) (q + 4 + 5 * s0) (c s0)) q 8) + (nI 1)) = fX2_sendFirst_t I q c lc s0 := by unfold fX2_sendFirst_t; rw [if_neg (Bool.eq_false_iff.mp c5)]
    exact mr_vret C0 hr hlk hQ hS rfl (by rw [← eF]; exact hM) (Nat.le_refl _) (Nat.le_refl _) dX2_sendFirst_93
  · skip
    have hfu := isFull_t c5
    refine lv_aload_n hx hb dX2_sendFirst_43 rfl (lv_at hl 2 rfl) ?_
    refine mr_getr (r := q + 78) (TT := TX2) (N := 10) C0 uX2_sendFirst_X2 hM hSt.1.1 hSt.1.2 rfl 9 (by decide) rfl kX2_sendFirst_f51 rfl dX2_sendFirst_44 ?_
    refine mr_callV (As := []) C0 (ctX0_removeFirst_t (I := I) (J := J) (a := (q + 78)) hSt.2.2.2.2.2.2.2.2 hW.2.2.2.2.2.1 (by omega) (by omega) (by omega)) (cwV 0 C0.1.2.2.2.2 gX2_sendFirst_X0_removeFirst rfl rfl rfl (by decide +kernel) (by rw [hR]; exact ⟨Nat.le_of_ble_eq_true rfl, Nat.le_of_ble_eq_true rfl⟩)) hM hSt.2.2.2.2.2.2.2.2.1.1 hSt.2.2.2.2.2.2.2.2.1.2 rfl rfl hM hS rfl rfl rfl hl.1 (Nat.le_of_ble_eq_true rfl) dX2_sendFirst_47 (by rw [hR]; exact ⟨Nat.zero_le _, Nat.zero_le _⟩) (fun H locs hM hS => ?_)
    have hfu := isFull_t c5
    refine lv_aload_n hx hb dX2_sendFirst_50 rfl (lv_at hl 2 rfl) ?_
    refine mr_getr (r := q + 78) (TT := TX2) (N := 10) C0 uX2_sendFirst_X2 hM hSt.1.1 hSt.1.2 rfl 9 (by decide) rfl kX2_sendFirst_f51 rfl dX2_sendFirst_51 ?_
    refine lv_aload_n hx hb dX2_sendFirst_54 rfl (lv_at hl 1 rfl) ?_
    refine lv_iconst (v := nI 0) hx hb dX2_sendFirst_55 (by decide) ?_
    refine mr_callV (As := [.int (nI 0)]) C0 (ctX0_numberAt_t (I := (fX0_removeFirst_t I (q + 78) lc)) (J := J) (a := (q + 4 + 5 * s0)) (k := 0) (hSt.2.2.2.2.1 _ (by omega)) ((congrFun (fX0_removeFirst_ne (by omega)) _).trans hw2.1) (by omega) (by omega) (by omega)) (cwV 1 C0.1.2.2.2.2 gX2_sendFirst_X0_numberAt rfl rfl rfl (by decide +kernel) (by rw [hR]; exact ⟨Nat.le_of_ble_eq_true rfl, Nat.le_of_ble_eq_true rfl⟩)) hM (hSt.2.2.2.2.1 _ (by omega)).1.1 (hSt.2.2.2.2.1 _ (by omega)).1.2 rfl rfl hM hS rfl rfl rfl hl.1 (Nat.le_of_ble_eq_true rfl) dX2_sendFirst_56 (by rw [hR]; exact ⟨Nat.zero_le _, Nat.zero_le _⟩) (fun H locs hM hS => ?_)
    refine lv_iload_n hx hb dX2_sendFirst_59 rfl (lv_at hl 3 rfl) ?_
    refine lv_iload_n hx hb dX2_sendFirst_60 rfl (lv_at hl 0 rfl) ?_
    refine lv_aload_n hx hb dX2_sendFirst_61 rfl (lv_at hl 1 rfl) ?_
    refine lv_iconst (v := nI 0) hx hb dX2_sendFirst_62 (by decide) ?_
    refine mr_callV (As := [.int (nI 0)]) C0 (ctX0_epochAt_t (I := (fX0_removeFirst_t I (q + 78) lc)) (J := J) (a := (q + 4 + 5 * s0)) (k := 0) (hSt.2.2.2.2.1 _ (by omega)) ((congrFun (fX0_removeFirst_ne (by omega)) _).trans hw2.1) (by omega) (by omega) (by omega)) (cwV 1 C0.1.2.2.2.2 gX2_sendFirst_X0_epochAt rfl rfl rfl (by decide +kernel) (by rw [hR]; exact ⟨Nat.le_of_ble_eq_true rfl, Nat.le_of_ble_eq_true rfl⟩)) hM (hSt.2.2.2.2.1 _ (by omega)).1.1 (hSt.2.2.2.2.1 _ (by omega)).1.2 rfl rfl hM hS rfl rfl rfl hl.1 (Nat.le_of_ble_eq_true rfl) dX2_sendFirst_63 (by rw [hR]; exact ⟨Nat.zero_le _, Nat.zero_le _⟩) (fun H locs hM hS => ?_)
    refine mr_callV (As := [.int ((fX0_removeFirst_t I (q + 78) lc) ((q + 4 + 5 * s0) + 1) 0), .int (nI s0), .int (I ((q + 4 + 5 * s0) + 3) 0), .int ((fX0_removeFirst_t I (q + 78) lc) ((q + 4 + 5 * s0) + 4) 0)]) C0 (ctX0_add_t (I := (fX0_removeFirst_t I (q + 78) lc)) (J := J) (a := (q + 78)) (v := ((fX0_removeFirst_t I (q + 78) lc) ((q + 4 + 5 * s0) + 1) 0)) (s0 := (nI s0)) (z := (I ((q + 4 + 5 * s0) + 3) 0)) (e0 := ((fX0_removeFirst_t I (q + 78) lc) ((q + 4 + 5 * s0) + 4) 0)) hSt.2.2.2.2.2.2.2.2 fX0_removeFirst_cnt (by omega) (by omega) (by omega)) (cwV 4 C0.1.2.2.2.2 gX2_sendFirst_X0_add rfl rfl rfl (by decide +kernel) (by rw [hR]; exact ⟨Nat.le_of_ble_eq_true rfl, Nat.le_of_ble_eq_true rfl⟩)) hM hSt.2.2.2.2.2.2.2.2.1.1 hSt.2.2.2.2.2.2.2.2.1.2 rfl rfl hM hS rfl rfl rfl hl.1 (Nat.le_of_ble_eq_true rfl) dX2_sendFirst_66 (by rw [hR]; exact ⟨Nat.zero_le _, Nat.zero_le _⟩) (fun H locs hM hS => ?_)
    refine lv_aload_n hx hb dX2_sendFirst_69 rfl (lv_at hl 1 rfl) ?_
    refine mr_callV (As := []) C0 (ctX0_removeFirst_t (I := (fX0_add_t (fX0_removeFirst_t I (q + 78) lc) (q + 78) (lc - 1) ((fX0_removeFirst_t I (q + 78) lc) ((q + 4 + 5 * s0) + 1) 0) (nI s0) (I ((q + 4 + 5 * s0) + 3) 0) ((fX0_removeFirst_t I (q + 78) lc) ((q + 4 + 5 * s0) + 4) 0))) (J := J) (a := (q + 4 + 5 * s0)) (hSt.2.2.2.2.1 _ (by omega)) ((congrFun (fX0_add_ne (by omega)) _).trans ((congrFun (fX0_removeFirst_ne (by omega)) _).trans hw2.1)) (by omega) (by omega) (by omega)) (cwV 0 C0.1.2.2.2.2 gX2_sendFirst_X0_removeFirst rfl rfl rfl (by decide +kernel) (by rw [hR]; exact ⟨Nat.le_of_ble_eq_true rfl, Nat.le_of_ble_eq_true rfl⟩)) hM (hSt.2.2.2.2.1 _ (by omega)).1.1 (hSt.2.2.2.2.1 _ (by omega)).1.2 rfl rfl hM hS rfl rfl rfl hl.1 (Nat.le_of_ble_eq_true rfl) dX2_sendFirst_70 (by rw [hR]; exact ⟨Nat.zero_le _, Nat.zero_le _⟩) (fun H locs hM hS => ?_)
    refine lv_aload_n hx hb dX2_sendFirst_73 rfl (lv_at hl 2 rfl) ?_
    refine mr_getr (r := q + 2) (TT := TX2) (N := 10) C0 uX2_sendFirst_X2 hM hSt.1.1 hSt.1.2 rfl 2 (by decide) rfl kX2_sendFirst_f19 rfl dX2_sendFirst_74 ?_
    refine lv_iload_n hx hb dX2_sendFirst_77 rfl (lv_at hl 3 rfl) ?_
    refine lv_dup2_11 hx hb dX2_sendFirst_78 rfl rfl ?_
    refine mr_ialdN (v := (fX0_removeFirst_t (fX0_add_t (fX0_removeFirst_t I (q + 78) lc) (q + 78) (lc - 1) ((fX0_removeFirst_t I (q + 78) lc) ((q + 4 + 5 * s0) + 1) 0) (nI s0) (I ((q + 4 + 5 * s0) + 3) 0) ((fX0_removeFirst_t I (q + 78) lc) ((q + 4 + 5 * s0) + 4) 0)) (q + 4 + 5 * s0) (c s0)) (q + 2) s0) C0 hM hSt.2.2.1.1 hSt.2.2.1.2 (by decide) (by omega) rfl dX2_sendFirst_79 ?_
    refine lv_iload_n hx hb dX2_sendFirst_80 rfl (lv_at hl 0 rfl) ?_
    refine lv_iadd hx hb dX2_sendFirst_81 ?_
    refine mr_iastN C0 hM hS hSt.2.2.1.1 hSt.2.2.1.2 (by decide) (by omega) dX2_sendFirst_82 (fun H locs hM hS => ?_)
    refine lv_aload_n hx hb dX2_sendFirst_83 rfl (lv_at hl 2 rfl) ?_
    refine lv_dup hx hb dX2_sendFirst_84 rfl ?_
    refine mr_geti (v := (fX0_removeFirst_t (fX0_add_t (fX0_removeFirst_t I (q + 78) lc) (q + 78) (lc - 1) ((fX0_removeFirst_t I (q + 78) lc) ((q + 4 + 5 * s0) + 1) 0) (nI s0) (I ((q + 4 + 5 * s0) + 3) 0) ((fX0_removeFirst_t I (q + 78) lc) ((q + 4 + 5 * s0) + 4) 0)) (q + 4 + 5 * s0) (c s0)) q 8) (TT := TX2) (N := 10) C0 uX2_sendFirst_X2 hM hSt.1.1 hSt.1.2 rfl 8 (by decide) rfl (hm_put_get (by omega)) kX2_sendFirst_f48 rfl dX2_sendFirst_85 ?_
    refine lv_iconst (v := nI 1) hx hb dX2_sendFirst_88 (by decide) ?_
    refine lv_iadd hx hb dX2_sendFirst_89 ?_
    refine mr_puti (TT := TX2) (N := 10) C0 uX2_sendFirst_X2 tyX2 tyX2_ok nmX2 hM hS hSt.1.1 hSt.1.2 rfl 8 (by decide) rfl kX2_sendFirst_f48 rfl rfl (by decide +kernel) dX2_sendFirst_90 (fun H locs hM hS => ?_)
    have eF : hm_put (hm_put (fX0_removeFirst_t (fX0_add_t (fX0_removeFirst_t I (q + 78) lc) (q + 78) (lc - 1) ((fX0_removeFirst_t I (q + 78) lc) ((q + 4 + 5 * s0) + 1) 0) (nI s0) (I ((q + 4 + 5 * s0) + 3) 0) ((fX0_removeFirst_t I (q + 78) lc) ((q + 4 + 5 * s0) + 4) 0)) (q + 4 + 5 * s0) (c s0)) (q + 2) s0 (((fX0_removeFirst_t (fX0_add_t (fX0_removeFirst_t I (q + 78) lc) (q + 78) (lc - 1) ((fX0_removeFirst_t I (q + 78) lc) ((q + 4 + 5 * s0) + 1) 0) (nI s0) (I ((q + 4 + 5 * s0) + 3) 0) ((fX0_removeFirst_t I (q + 78) lc) ((q + 4 + 5 * s0) + 4) 0)) (q + 4 + 5 * s0) (c s0)) (q + 2) s0) + (I ((q + 4 + 5 * s0) + 3) 0))) q 8 (((fX0_removeFirst_t (fX0_add_t (fX0_removeFirst_t I (q + 78) lc) (q + 78) (lc - 1) ((fX0_removeFirst_t I (q + 78) lc) ((q + 4 + 5 * s0) + 1) 0) (nI s0) (I ((q + 4 + 5 * s0) + 3) 0) ((fX0_removeFirst_t I (q + 78) lc) ((q + 4 + 5 * s0) + 4) 0)) (q + 4 + 5 * s0) (c s0)) q 8) + (nI 1)) = fX2_sendFirst_t I q c lc s0 := by unfold fX2_sendFirst_t; rw [if_pos c5]
    exact mr_vret C0 hr hlk hQ hS rfl (by rw [← eF]; exact hM) (Nat.le_refl _) (Nat.le_refl _) dX2_sendFirst_93
def fX2_copyFrom (I : hm_I) (q r : Nat) (c : Nat → Nat) (ec lc : Nat) : hm_I :=
  fX0_copyFrom (hm_put (hm_put (lp ec (fun i9 x10 => fX1_copyFrom x10 (q + 48 + 3 * i9) (r + 48 + 3 * i9)) (hm_put (fX1_copyFrom (lp 8 (fun i1 x2 => fX0_copyFrom (hm_put (hm_put x2 (q + 1) i1 (x2 (r + 1) i1)) (q + 2) i1 (x2 (r + 2) i1)) (q + 4 + 5 * i1) (r + 4 + 5 * i1) (c i1)) (hm_put I q 0 (I r 0))) (q + 44) (r + 44)) q 6 (nI ec))) q 7 ((lp ec (fun i9 x10 => fX1_copyFrom x10 (q + 48 + 3 * i9) (r + 48 + 3 * i9)) (hm_put (fX1_copyFrom (lp 8 (fun i1 x2 => fX0_copyFrom (hm_put (hm_put x2 (q + 1) i1 (x2 (r + 1) i1)) (q + 2) i1 (x2 (r + 2) i1)) (q + 4 + 5 * i1) (r + 4 + 5 * i1) (c i1)) (hm_put I q 0 (I r 0))) (q + 44) (r + 44)) q 6 (nI ec))) r 7)) q 8 ((lp ec (fun i9 x10 => fX1_copyFrom x10 (q + 48 + 3 * i9) (r + 48 + 3 * i9)) (hm_put (fX1_copyFrom (lp 8 (fun i1 x2 => fX0_copyFrom (hm_put (hm_put x2 (q + 1) i1 (x2 (r + 1) i1)) (q + 2) i1 (x2 (r + 2) i1)) (q + 4 + 5 * i1) (r + 4 + 5 * i1) (c i1)) (hm_put I q 0 (I r 0))) (q + 44) (r + 44)) q 6 (nI ec))) r 8)) (q + 78) (r + 78) lc
set_option maxHeartbeats 4000000 in
set_option maxRecDepth 100000 in
theorem ctX2_copyFrom {l : Launch} {D : va_G} {T : Nat → ClassId} {L : List Nat} {A : Nat → Prop} {Sh : hm_S} {I : hm_I} {J : hm_J} {q r : Nat} (hSt : IsS L Sh q) (hSr : IsS L Sh r) {c e : Nat → Nat} {ec lc : Nat} (hW : WfS I r c e ec lc) (hqr : q + 83 ≤ r ∨ r + 83 ≤ q) :
    Ct l yX2_copyFrom wsX2_copyFrom { frames := 2, cells := 0, slots := 0, locals := 43 } 0 0 D T A [.ref q, .ref r] (hm D T L A Sh I J) none (hm D T L A Sh (fX2_copyFrom I q r c ec lc) J) := by
  refine Ct.ofW (cc := cX2_copyFrom) (maxL := 3) (ret := none) (by decide) rfl (Nat.le_of_ble_eq_true rfl) ?_
  intro p_ e_ s_ m_ args_ below_ meth_ c_ ls R Qq hR hQ C0 hr hlk hname hM hl
  have hx := C0.1.1
  have hb := C0.1.2.1
  have hS : va_S A s_.heap s_.heap [] := va_S.rf
  have hl : lv_has ls 3 [(0, .ref q), (1, .ref r)] := hl
  have hW0 := hW.2.2.2.1
  have hW1 := hW.2.2.2.2.1
  have hW2 := hW.2.2.2.2.2.2
  refine lv_aload_n hx hb dX2_copyFrom_0 rfl (lv_at hl 0 rfl) ?_
  refine lv_aload_n hx hb dX2_copyFrom_1 rfl (lv_at hl 1 rfl) ?_
  refine mr_geti (v := I r 0) (TT := TX2) (N := 10) C0 uX2_copyFrom_X2 hM hSr.1.1 hSr.1.2 rfl 0 (by decide) rfl rfl kX2_copyFrom_f9 rfl dX2_copyFrom_2 ?_
  refine mr_puti (TT := TX2) (N := 10) C0 uX2_copyFrom_X2 tyX2 tyX2_ok nmX2 hM hS hSt.1.1 hSt.1.2 rfl 0 (by decide) rfl kX2_copyFrom_f9 rfl rfl (by decide +kernel) dX2_copyFrom_5 (fun H locs hM hS => ?_)
  refine lv_iconst (v := nI 0) hx hb dX2_copyFrom_8 (by decide) ?_
  refine lv_istore_n (lv' := [(2, .int (nI 0)), (0, .ref q), (1, .ref r)]) hx hb dX2_copyFrom_9 rfl hl (by decide) rfl (fun ls hl => ?_)
  refine lp_loop (σ := hm_I) (fun i1 x2 => ∀ (H : Heap) (locs : List Loc) (ls : Array Slot), hm D T L A Sh x2 J H → va_S A s_.heap H locs → lv_has ls 3 [(0, .ref q), (1, .ref r), (2, .int (nI i1))] → W p_ l e_ R s_ m_ args_ below_ meth_ c_ H locs 0 0 Qq (F0 m_ 10 ls [])) 8 (fun i1 x2 => fX0_copyFrom (hm_put (hm_put x2 (q + 1) i1 (x2 (r + 1) i1)) (q + 2) i1 (x2 (r + 2) i1)) (q + 4 + 5 * i1) (r + 4 + 5 * i1) (c i1)) (hm_put I q 0 (I r 0)) (fun (i1 : Nat) (x2 : hm_I) => ∀ b, (b < q ∨ q + 83 ≤ b) → x2 b = I b) (fun b hb => hm_put_ne _ _ _ _ (by omega)) (fun i x hi hv b hb => (fX0_copyFrom_ne (by omega)).trans ((hm_put_ne _ _ _ _ (by omega)).trans ((hm_put_ne _ _ _ _ (by omega)).trans (hv b hb)))) (fun i1 x2 hi3 hv4 k5 H locs ls hM hS hl => ?_) (fun hv4 H locs ls hM hS hl => ?_) _ _ _ hM hS (lv_sub hl [1, 2, 0] rfl)
  · have stp6 : ∀ yy_ : hm_I, yy_ = (fX0_copyFrom (hm_put (hm_put x2 (q + 1) i1 (x2 (r + 1) i1)) (q + 2) i1 (x2 (r + 2) i1)) (q + 4 + 5 * i1) (r + 4 + 5 * i1) (c i1)) → ∀ (H : Heap) (locs : List Loc) (ls : Array Slot), hm D T L A Sh yy_ J H → va_S A s_.heap H locs → lv_has ls 3 [(0, .ref q), (1, .ref r), (2, .int (nI (i1 + 1)))] → W p_ l e_ R s_ m_ args_ below_ meth_ c_ H locs 0 0 Qq (F0 m_ 10 ls []) := fun yy_ ey => by subst ey; exact k5
    have hcc := hW.1 i1 hi3
    have hcd := hcc.2
    refine lv_iload_n hx hb dX2_copyFrom_10 rfl (lv_at hl 2 rfl) ?_
    refine lv_bipush (v := nI 8) hx hb dX2_copyFrom_11 (by decide) ?_
    refine mr_geN (x := i1) (y := 8) (tgt := 61) C0 dX2_copyFrom_13 (by decide) (by omega) (by omega) (fun c7 => absurd c7 (by omega)) (fun c7 => ?_)
    refine lv_aload_n hx hb dX2_copyFrom_16 rfl (lv_at hl 0 rfl) ?_
    refine mr_getr (r := q + 1) (TT := TX2) (N := 10) C0 uX2_copyFrom_X2 hM hSt.1.1 hSt.1.2 rfl 1 (by decide) rfl kX2_copyFrom_f15 rfl dX2_copyFrom_17 ?_
    refine lv_iload_n hx hb dX2_copyFrom_20 rfl (lv_at hl 2 rfl) ?_
    refine lv_aload_n hx hb dX2_copyFrom_21 rfl (lv_at hl 1 rfl) ?_
    refine mr_getr (r := r + 1) (TT := TX2) (N := 10) C0 uX2_copyFrom_X2 hM hSr.1.1 hSr.1.2 rfl 1 (by decide) rfl kX2_copyFrom_f15 rfl dX2_copyFrom_22 ?_
    refine lv_iload_n hx hb dX2_copyFrom_25 rfl (lv_at hl 2 rfl) ?_
    refine mr_ialdN (v := x2 (r + 1) i1) C0 hM hSr.2.1.1 hSr.2.1.2 (by decide) (by omega) rfl dX2_copyFrom_26 ?_
    refine mr_iastN C0 hM hS hSt.2.1.1 hSt.2.1.2 (by decide) (by omega) dX2_copyFrom_27 (fun H locs hM hS => ?_)
    refine lv_aload_n hx hb dX2_copyFrom_28 rfl (lv_at hl 0 rfl) ?_
    refine mr_getr (r := q + 2) (TT := TX2) (N := 10) C0 uX2_copyFrom_X2 hM hSt.1.1 hSt.1.2 rfl 2 (by decide) rfl kX2_copyFrom_f19 rfl dX2_copyFrom_29 ?_
    refine lv_iload_n hx hb dX2_copyFrom_32 rfl (lv_at hl 2 rfl) ?_
    refine lv_aload_n hx hb dX2_copyFrom_33 rfl (lv_at hl 1 rfl) ?_
    refine mr_getr (r := r + 2) (TT := TX2) (N := 10) C0 uX2_copyFrom_X2 hM hSr.1.1 hSr.1.2 rfl 2 (by decide) rfl kX2_copyFrom_f19 rfl dX2_copyFrom_34 ?_
    refine lv_iload_n hx hb dX2_copyFrom_37 rfl (lv_at hl 2 rfl) ?_
    refine mr_ialdN (v := x2 (r + 2) i1) C0 hM hSr.2.2.1.1 hSr.2.2.1.2 (by decide) (by omega) (hm_put_get (by omega)) dX2_copyFrom_38 ?_
    refine mr_iastN C0 hM hS hSt.2.2.1.1 hSt.2.2.1.2 (by decide) (by omega) dX2_copyFrom_39 (fun H locs hM hS => ?_)
    refine lv_aload_n hx hb dX2_copyFrom_40 rfl (lv_at hl 0 rfl) ?_
    refine mr_getr (r := q + 3) (TT := TX2) (N := 10) C0 uX2_copyFrom_X2 hM hSt.1.1 hSt.1.2 rfl 3 (by decide) rfl kX2_copyFrom_f24 rfl dX2_copyFrom_41 ?_
    refine lv_iload_n hx hb dX2_copyFrom_44 rfl (lv_at hl 2 rfl) ?_
    refine mr_aald (t := 0) (C := RX0) (r := q + 4 + 5 * i1) C0 hM hSt.2.2.2.1.1 hSt.2.2.2.1.2 rfl (by decide) (by omega) rfl dX2_copyFrom_45 ?_
    refine lv_aload_n hx hb dX2_copyFrom_46 rfl (lv_at hl 1 rfl) ?_
    refine mr_getr (r := r + 3) (TT := TX2) (N := 10) C0 uX2_copyFrom_X2 hM hSr.1.1 hSr.1.2 rfl 3 (by decide) rfl kX2_copyFrom_f24 rfl dX2_copyFrom_47 ?_
    refine lv_iload_n hx hb dX2_copyFrom_50 rfl (lv_at hl 2 rfl) ?_
    refine mr_aald (t := 0) (C := RX0) (r := r + 4 + 5 * i1) C0 hM hSr.2.2.2.1.1 hSr.2.2.2.1.2 rfl (by decide) (by omega) rfl dX2_copyFrom_51 ?_
    refine mr_callV (As := [.ref (r + 4 + 5 * i1)]) C0 (ctX0_copyFrom (I := (hm_put (hm_put x2 (q + 1) i1 (x2 (r + 1) i1)) (q + 2) i1 (x2 (r + 2) i1))) (J := J) (a := (q + 4 + 5 * i1)) (b := (r + 4 + 5 * i1)) (hSt.2.2.2.2.1 _ (by omega)) (hSr.2.2.2.2.1 _ (by omega)) ((hm_put_get (by omega)).trans ((hm_put_get (by omega)).trans ((congrFun (hv4 _ (by omega)) 4).trans hcc.1))) (by omega) (by omega) (by omega) (by omega) (by omega)) (cwV 1 C0.1.2.2.2.2 gX2_copyFrom_X0_copyFrom rfl rfl rfl (by decide +kernel) (by rw [hR]; exact ⟨Nat.le_of_ble_eq_true rfl, Nat.le_of_ble_eq_true rfl⟩)) hM (hSt.2.2.2.2.1 _ (by omega)).1.1 (hSt.2.2.2.2.1 _ (by omega)).1.2 rfl rfl hM hS rfl rfl rfl hl.1 (Nat.le_of_ble_eq_true rfl) dX2_copyFrom_52 (by rw [hR]; exact ⟨Nat.zero_le _, Nat.zero_le _⟩) (fun H locs hM hS => ?_)
    refine lv_iinc (v := nI (i1 + 1)) (lv' := [(2, .int (nI (i1 + 1))), (0, .ref q), (1, .ref r)]) hx hb dX2_copyFrom_55 hl (k := 2) rfl (nI_1 _) (by decide) rfl (fun ls hl => ?_)
    refine lv_goto (tgt := 10) hx hb dX2_copyFrom_58 (by decide) ?_
    exact stp6 (fX0_copyFrom (hm_put (hm_put x2 (q + 1) i1 (x2 (r + 1) i1)) (q + 2) i1 (x2 (r + 2) i1)) (q + 4 + 5 * i1) (r + 4 + 5 * i1) (c i1)) rfl H locs ls hM hS (lv_sub hl [1, 2, 0] rfl)
  · skip
    refine lv_iload_n hx hb dX2_copyFrom_10 rfl (lv_at hl 2 rfl) ?_
    refine lv_bipush (v := nI 8) hx hb dX2_copyFrom_11 (by decide) ?_
    refine mr_geN (x := 8) (y := 8) (tgt := 61) C0 dX2_copyFrom_13 (by decide) (by decide) (by decide) (fun _ => ?_) (fun c8 => absurd c8 (by decide))
    refine lv_aload_n hx hb dX2_copyFrom_61 rfl (lv_at hl 0 rfl) ?_
    refine mr_getr (r := q + 44) (TT := TX2) (N := 10) C0 uX2_copyFrom_X2 hM hSt.1.1 hSt.1.2 rfl 4 (by decide) rfl kX2_copyFrom_f34 rfl dX2_copyFrom_62 ?_
    refine lv_aload_n hx hb dX2_copyFrom_65 rfl (lv_at hl 1 rfl) ?_
    refine mr_getr (r := r + 44) (TT := TX2) (N := 10) C0 uX2_copyFrom_X2 hM hSr.1.1 hSr.1.2 rfl 4 (by decide) rfl kX2_copyFrom_f34 rfl dX2_copyFrom_66 ?_
    refine mr_callV (As := [.ref (r + 44)]) C0 (ctX1_copyFrom (I := (lp 8 (fun i1 x2 => fX0_copyFrom (hm_put (hm_put x2 (q + 1) i1 (x2 (r + 1) i1)) (q + 2) i1 (x2 (r + 2) i1)) (q + 4 + 5 * i1) (r + 4 + 5 * i1) (c i1)) (hm_put I q 0 (I r 0)))) (J := J) (a := (q + 44)) (b := (r + 44)) hSt.2.2.2.2.2.1 hSr.2.2.2.2.2.1 (by omega)) (cwV 1 C0.1.2.2.2.2 gX2_copyFrom_X1_copyFrom rfl rfl rfl (by decide +kernel) (by rw [hR]; exact ⟨Nat.le_of_ble_eq_true rfl, Nat.le_of_ble_eq_true rfl⟩)) hM hSt.2.2.2.2.2.1.1.1 hSt.2.2.2.2.2.1.1.2 rfl rfl hM hS rfl rfl rfl hl.1 (Nat.le_of_ble_eq_true rfl) dX2_copyFrom_69 (by rw [hR]; exact ⟨Nat.zero_le _, Nat.zero_le _⟩) (fun H locs hM hS => ?_)
    refine lv_aload_n hx hb dX2_copyFrom_72 rfl (lv_at hl 0 rfl) ?_
    refine lv_aload_n hx hb dX2_copyFrom_73 rfl (lv_at hl 1 rfl) ?_
    refine mr_geti (v := nI ec) (TT := TX2) (N := 10) C0 uX2_copyFrom_X2 hM hSr.1.1 hSr.1.2 rfl 6 (by decide) rfl ((congrFun (fX1_copyFrom_ne (by omega)) _).trans ((congrFun (hv4 _ (by omega)) 6).trans hW.2.2.1)) kX2_copyFrom_f42 rfl dX2_copyFrom_74 ?_
    refine mr_puti (TT := TX2) (N := 10) C0 uX2_copyFrom_X2 tyX2 tyX2_ok nmX2 hM hS hSt.1.1 hSt.1.2 rfl 6 (by decide) rfl kX2_copyFrom_f42 rfl rfl (by decide +kernel) dX2_copyFrom_77 (fun H locs hM hS => ?_)
    refine lv_iconst (v := nI 0) hx hb dX2_copyFrom_80 (by decide) ?_
    refine lv_istore_n (lv' := [(2, .int (nI 0)), (0, .ref q), (1, .ref r)]) hx hb dX2_copyFrom_81 rfl hl (by decide) rfl (fun ls hl => ?_)
    refine lp_loop (σ := hm_I) (fun i9 x10 => ∀ (H : Heap) (locs : List Loc) (ls : Array Slot), hm D T L A Sh x10 J H → va_S A s_.heap H locs → lv_has ls 3 [(0, .ref q), (1, .ref r), (2, .int (nI i9))] → W p_ l e_ R s_ m_ args_ below_ meth_ c_ H locs 0 0 Qq (F0 m_ 82 ls [])) ec (fun i9 x10 => fX1_copyFrom x10 (q + 48 + 3 * i9) (r + 48 + 3 * i9)) (hm_put (fX1_copyFrom (lp 8 (fun i1 x2 => fX0_copyFrom (hm_put (hm_put x2 (q + 1) i1 (x2 (r + 1) i1)) (q + 2) i1 (x2 (r + 2) i1)) (q + 4 + 5 * i1) (r + 4 + 5 * i1) (c i1)) (hm_put I q 0 (I r 0))) (q + 44) (r + 44)) q 6 (nI ec)) (fun (i9 : Nat) (x10 : hm_I) => x10 q 6 = nI ec ∧ x10 (r + 78) 4 = nI lc) ⟨(hm_put_at _ _ _ _), ((hm_put_get (by omega)).trans ((congrFun (fX1_copyFrom_ne (by omega)) _).trans ((congrFun (hv4 _ (by omega)) 4).trans hW.2.2.2.2.2.1)))⟩ (fun i x hi hv => have h10 := hW.2.2.2.2.1; ⟨(congrFun (fX1_copyFrom_ne (by omega)) 6).trans hv.1, (congrFun (fX1_copyFrom_ne (by omega)) 4).trans hv.2⟩) (fun i9 x10 hi11 hv12 k13 H locs ls hM hS hl => ?_) (fun hv12 H locs ls hM hS hl => ?_) _ _ _ hM hS (lv_sub hl [1, 2, 0] rfl)
    · have stp14 : ∀ yy_ : hm_I, yy_ = (fX1_copyFrom x10 (q + 48 + 3 * i9) (r + 48 + 3 * i9)) → ∀ (H : Heap) (locs : List Loc) (ls : Array Slot), hm D T L A Sh yy_ J H → va_S A s_.heap H locs → lv_has ls 3 [(0, .ref q), (1, .ref r), (2, .int (nI (i9 + 1)))] → W p_ l e_ R s_ m_ args_ below_ meth_ c_ H locs 0 0 Qq (F0 m_ 82 ls []) := fun yy_ ey => by subst ey; exact k13
      have h10 := hW.2.2.2.2.1
      refine lv_iload_n hx hb dX2_copyFrom_82 rfl (lv_at hl 2 rfl) ?_
      refine lv_aload_n hx hb dX2_copyFrom_83 rfl (lv_at hl 0 rfl) ?_
      refine mr_geti (v := nI ec) (TT := TX2) (N := 10) C0 uX2_copyFrom_X2 hM hSt.1.1 hSt.1.2 rfl 6 (by decide) rfl hv12.1 kX2_copyFrom_f42 rfl dX2_copyFrom_84 ?_
      refine mr_geN (x := i9) (y := ec) (tgt := 117) C0 dX2_copyFrom_87 (by decide) (by omega) (by omega) (fun c15 => absurd c15 (by omega)) (fun c15 => ?_)
      refine lv_iload_n hx hb dX2_copyFrom_90 rfl (lv_at hl 2 rfl) ?_
      refine lv_bipush (v := nI 10) hx hb dX2_copyFrom_91 (by decide) ?_
      refine mr_geN (x := i9) (y := 10) (tgt := 117) C0 dX2_copyFrom_93 (by decide) (by omega) (by omega) (fun c16 => absurd c16 (by omega)) (fun c16 => ?_)
      refine lv_aload_n hx hb dX2_copyFrom_96 rfl (lv_at hl 0 rfl) ?_
      refine mr_getr (r := q + 47) (TT := TX2) (N := 10) C0 uX2_copyFrom_X2 hM hSt.1.1 hSt.1.2 rfl 5 (by decide) rfl kX2_copyFrom_f38 rfl dX2_copyFrom_97 ?_
      refine lv_iload_n hx hb dX2_copyFrom_100 rfl (lv_at hl 2 rfl) ?_
      refine mr_aald (t := 1) (C := RX1) (r := q + 48 + 3 * i9) C0 hM hSt.2.2.2.2.2.2.1.1 hSt.2.2.2.2.2.2.1.2 rfl (by decide) (by omega) rfl dX2_copyFrom_101 ?_
      refine lv_aload_n hx hb dX2_copyFrom_102 rfl (lv_at hl 1 rfl) ?_
      refine mr_getr (r := r + 47) (TT := TX2) (N := 10) C0 uX2_copyFrom_X2 hM hSr.1.1 hSr.1.2 rfl 5 (by decide) rfl kX2_copyFrom_f38 rfl dX2_copyFrom_103 ?_
      refine lv_iload_n hx hb dX2_copyFrom_106 rfl (lv_at hl 2 rfl) ?_
      refine mr_aald (t := 1) (C := RX1) (r := r + 48 + 3 * i9) C0 hM hSr.2.2.2.2.2.2.1.1 hSr.2.2.2.2.2.2.1.2 rfl (by decide) (by omega) rfl dX2_copyFrom_107 ?_
      refine mr_callV (As := [.ref (r + 48 + 3 * i9)]) C0 (ctX1_copyFrom (I := x10) (J := J) (a := (q + 48 + 3 * i9)) (b := (r + 48 + 3 * i9)) (hSt.2.2.2.2.2.2.2.1 _ (by omega)) (hSr.2.2.2.2.2.2.2.1 _ (by omega)) (by omega)) (cwV 1 C0.1.2.2.2.2 gX2_copyFrom_X1_copyFrom rfl rfl rfl (by decide +kernel) (by rw [hR]; exact ⟨Nat.le_of_ble_eq_true rfl, Nat.le_of_ble_eq_true rfl⟩)) hM (hSt.2.2.2.2.2.2.2.1 _ (by omega)).1.1 (hSt.2.2.2.2.2.2.2.1 _ (by omega)).1.2 rfl rfl hM hS rfl rfl rfl hl.1 (Nat.le_of_ble_eq_true rfl) dX2_copyFrom_108 (by rw [hR]; exact ⟨Nat.zero_le _, Nat.zero_le _⟩) (fun H locs hM hS => ?_)
      refine lv_iinc (v := nI (i9 + 1)) (lv' := [(2, .int (nI (i9 + 1))), (0, .ref q), (1, .ref r)]) hx hb dX2_copyFrom_111 hl (k := 2) rfl (nI_1 _) (by decide) rfl (fun ls hl => ?_)
      refine lv_goto (tgt := 82) hx hb dX2_copyFrom_114 (by decide) ?_
      exact stp14 (fX1_copyFrom x10 (q + 48 + 3 * i9) (r + 48 + 3 * i9)) rfl H locs ls hM hS (lv_sub hl [1, 2, 0] rfl)
    · skip
      refine lv_iload_n hx hb dX2_copyFrom_82 rfl (lv_at hl 2 rfl) ?_
      refine lv_aload_n hx hb dX2_copyFrom_83 rfl (lv_at hl 0 rfl) ?_
      refine mr_geti (v := nI ec) (TT := TX2) (N := 10) C0 uX2_copyFrom_X2 hM hSt.1.1 hSt.1.2 rfl 6 (by decide) rfl hv12.1 kX2_copyFrom_f42 rfl dX2_copyFrom_84 ?_
      refine mr_geN (x := ec) (y := ec) (tgt := 117) C0 dX2_copyFrom_87 (by decide) (by omega) (by omega) (fun c17 => ?_) (fun c17 => absurd c17 (by omega))
      refine lv_aload_n hx hb dX2_copyFrom_117 rfl (lv_at hl 0 rfl) ?_
      refine lv_aload_n hx hb dX2_copyFrom_118 rfl (lv_at hl 1 rfl) ?_
      refine mr_geti (v := (lp ec (fun i9 x10 => fX1_copyFrom x10 (q + 48 + 3 * i9) (r + 48 + 3 * i9)) (hm_put (fX1_copyFrom (lp 8 (fun i1 x2 => fX0_copyFrom (hm_put (hm_put x2 (q + 1) i1 (x2 (r + 1) i1)) (q + 2) i1 (x2 (r + 2) i1)) (q + 4 + 5 * i1) (r + 4 + 5 * i1) (c i1)) (hm_put I q 0 (I r 0))) (q + 44) (r + 44)) q 6 (nI ec))) r 7) (TT := TX2) (N := 10) C0 uX2_copyFrom_X2 hM hSr.1.1 hSr.1.2 rfl 7 (by decide) rfl rfl kX2_copyFrom_f45 rfl dX2_copyFrom_119 ?_
      refine mr_puti (TT := TX2) (N := 10) C0 uX2_copyFrom_X2 tyX2 tyX2_ok nmX2 hM hS hSt.1.1 hSt.1.2 rfl 7 (by decide) rfl kX2_copyFrom_f45 rfl rfl (by decide +kernel) dX2_copyFrom_122 (fun H locs hM hS => ?_)
      refine lv_aload_n hx hb dX2_copyFrom_125 rfl (lv_at hl 0 rfl) ?_
      refine lv_aload_n hx hb dX2_copyFrom_126 rfl (lv_at hl 1 rfl) ?_
      refine mr_geti (v := (lp ec (fun i9 x10 => fX1_copyFrom x10 (q + 48 + 3 * i9) (r + 48 + 3 * i9)) (hm_put (fX1_copyFrom (lp 8 (fun i1 x2 => fX0_copyFrom (hm_put (hm_put x2 (q + 1) i1 (x2 (r + 1) i1)) (q + 2) i1 (x2 (r + 2) i1)) (q + 4 + 5 * i1) (r + 4 + 5 * i1) (c i1)) (hm_put I q 0 (I r 0))) (q + 44) (r + 44)) q 6 (nI ec))) r 8) (TT := TX2) (N := 10) C0 uX2_copyFrom_X2 hM hSr.1.1 hSr.1.2 rfl 8 (by decide) rfl (hm_put_get (by omega)) kX2_copyFrom_f48 rfl dX2_copyFrom_127 ?_
      refine mr_puti (TT := TX2) (N := 10) C0 uX2_copyFrom_X2 tyX2 tyX2_ok nmX2 hM hS hSt.1.1 hSt.1.2 rfl 8 (by decide) rfl kX2_copyFrom_f48 rfl rfl (by decide +kernel) dX2_copyFrom_130 (fun H locs hM hS => ?_)
      refine lv_aload_n hx hb dX2_copyFrom_133 rfl (lv_at hl 0 rfl) ?_
      refine mr_getr (r := q + 78) (TT := TX2) (N := 10) C0 uX2_copyFrom_X2 hM hSt.1.1 hSt.1.2 rfl 9 (by decide) rfl kX2_copyFrom_f51 rfl dX2_copyFrom_134 ?_
      refine lv_aload_n hx hb dX2_copyFrom_137 rfl (lv_at hl 1 rfl) ?_
      refine mr_getr (r := r + 78) (TT := TX2) (N := 10) C0 uX2_copyFrom_X2 hM hSr.1.1 hSr.1.2 rfl 9 (by decide) rfl kX2_copyFrom_f51 rfl dX2_copyFrom_138 ?_
      refine mr_callV (As := [.ref (r + 78)]) C0 (ctX0_copyFrom (I := (hm_put (hm_put (lp ec (fun i9 x10 => fX1_copyFrom x10 (q + 48 + 3 * i9) (r + 48 + 3 * i9)) (hm_put (fX1_copyFrom (lp 8 (fun i1 x2 => fX0_copyFrom (hm_put (hm_put x2 (q + 1) i1 (x2 (r + 1) i1)) (q + 2) i1 (x2 (r + 2) i1)) (q + 4 + 5 * i1) (r + 4 + 5 * i1) (c i1)) (hm_put I q 0 (I r 0))) (q + 44) (r + 44)) q 6 (nI ec))) q 7 ((lp ec (fun i9 x10 => fX1_copyFrom x10 (q + 48 + 3 * i9) (r + 48 + 3 * i9)) (hm_put (fX1_copyFrom (lp 8 (fun i1 x2 => fX0_copyFrom (hm_put (hm_put x2 (q + 1) i1 (x2 (r + 1) i1)) (q + 2) i1 (x2 (r + 2) i1)) (q + 4 + 5 * i1) (r + 4 + 5 * i1) (c i1)) (hm_put I q 0 (I r 0))) (q + 44) (r + 44)) q 6 (nI ec))) r 7)) q 8 ((lp ec (fun i9 x10 => fX1_copyFrom x10 (q + 48 + 3 * i9) (r + 48 + 3 * i9)) (hm_put (fX1_copyFrom (lp 8 (fun i1 x2 => fX0_copyFrom (hm_put (hm_put x2 (q + 1) i1 (x2 (r + 1) i1)) (q + 2) i1 (x2 (r + 2) i1)) (q + 4 + 5 * i1) (r + 4 + 5 * i1) (c i1)) (hm_put I q 0 (I r 0))) (q + 44) (r + 44)) q 6 (nI ec))) r 8))) (J := J) (a := (q + 78)) (b := (r + 78)) hSt.2.2.2.2.2.2.2.2 hSr.2.2.2.2.2.2.2.2 ((hm_put_get (by omega)).trans ((hm_put_get (by omega)).trans hv12.2)) (by omega) (by omega) (by omega) (by omega) (by omega)) (cwV 1 C0.1.2.2.2.2 gX2_copyFrom_X0_copyFrom rfl rfl rfl (by decide +kernel) (by rw [hR]; exact ⟨Nat.le_of_ble_eq_true rfl, Nat.le_of_ble_eq_true rfl⟩)) hM hSt.2.2.2.2.2.2.2.2.1.1 hSt.2.2.2.2.2.2.2.2.1.2 rfl rfl hM hS rfl rfl rfl hl.1 (Nat.le_of_ble_eq_true rfl) dX2_copyFrom_141 (by rw [hR]; exact ⟨Nat.zero_le _, Nat.zero_le _⟩) (fun H locs hM hS => ?_)
      have eF : fX0_copyFrom (hm_put (hm_put (lp ec (fun i9 x10 => fX1_copyFrom x10 (q + 48 + 3 * i9) (r + 48 + 3 * i9)) (hm_put (fX1_copyFrom (lp 8 (fun i1 x2 => fX0_copyFrom (hm_put (hm_put x2 (q + 1) i1 (x2 (r + 1) i1)) (q + 2) i1 (x2 (r + 2) i1)) (q + 4 + 5 * i1) (r + 4 + 5 * i1) (c i1)) (hm_put I q 0 (I r 0))) (q + 44) (r + 44)) q 6 (nI ec))) q 7 ((lp ec (fun i9 x10 => fX1_copyFrom x10 (q + 48 + 3 * i9) (r + 48 + 3 * i9)) (hm_put (fX1_copyFrom (lp 8 (fun i1 x2 => fX0_copyFrom (hm_put (hm_put x2 (q + 1) i1 (x2 (r + 1) i1)) (q + 2) i1 (x2 (r + 2) i1)) (q + 4 + 5 * i1) (r + 4 + 5 * i1) (c i1)) (hm_put I q 0 (I r 0))) (q + 44) (r + 44)) q 6 (nI ec))) r 7)) q 8 ((lp ec (fun i9 x10 => fX1_copyFrom x10 (q + 48 + 3 * i9) (r + 48 + 3 * i9)) (hm_put (fX1_copyFrom (lp 8 (fun i1 x2 => fX0_copyFrom (hm_put (hm_put x2 (q + 1) i1 (x2 (r + 1) i1)) (q + 2) i1 (x2 (r + 2) i1)) (q + 4 + 5 * i1) (r + 4 + 5 * i1) (c i1)) (hm_put I q 0 (I r 0))) (q + 44) (r + 44)) q 6 (nI ec))) r 8)) (q + 78) (r + 78) lc = fX2_copyFrom I q r c ec lc := rfl
      exact mr_vret C0 hr hlk hQ hS rfl (by rw [← eF]; exact hM) (Nat.le_refl _) (Nat.le_refl _) dX2_copyFrom_144
end
