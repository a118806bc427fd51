theorem dX0_init_0 : decode cX0_init 0 = .ok (.aload_n 0, 1) := by decide +kernel
theorem dX0_init_1 : decode cX0_init 1 = .ok (.invokespecial 3, 3) := by decide +kernel
theorem dX0_init_4 : decode cX0_init 4 = .ok (.iload_n 1, 1) := by decide +kernel
theorem dX0_init_5 : decode cX0_init 5 = .ok (.iconst 0, 1) := by decide +kernel
theorem dX0_init_6 : decode cX0_init 6 = .ok (.invokestatic 9, 3) := by decide +kernel
theorem dX0_init_9 : decode cX0_init 9 = .ok (.istore_n 2, 1) := by decide +kernel
theorem dX0_init_10 : decode cX0_init 10 = .ok (.aload_n 0, 1) := by decide +kernel
theorem dX0_init_11 : decode cX0_init 11 = .ok (.iload_n 2, 1) := by decide +kernel
theorem dX0_init_12 : decode cX0_init 12 = .ok (.newarray .int, 2) := by decide +kernel
theorem dX0_init_14 : decode cX0_init 14 = .ok (.putfield 15, 3) := by decide +kernel
theorem dX0_init_17 : decode cX0_init 17 = .ok (.aload_n 0, 1) := by decide +kernel
theorem dX0_init_18 : decode cX0_init 18 = .ok (.iload_n 2, 1) := by decide +kernel
theorem dX0_init_19 : decode cX0_init 19 = .ok (.newarray .int, 2) := by decide +kernel
theorem dX0_init_21 : decode cX0_init 21 = .ok (.putfield 21, 3) := by decide +kernel
theorem dX0_init_24 : decode cX0_init 24 = .ok (.aload_n 0, 1) := by decide +kernel
theorem dX0_init_25 : decode cX0_init 25 = .ok (.iload_n 2, 1) := by decide +kernel
theorem dX0_init_26 : decode cX0_init 26 = .ok (.newarray .int, 2) := by decide +kernel
theorem dX0_init_28 : decode cX0_init 28 = .ok (.putfield 24, 3) := by decide +kernel
theorem dX0_init_31 : decode cX0_init 31 = .ok (.aload_n 0, 1) := by decide +kernel
theorem dX0_init_32 : decode cX0_init 32 = .ok (.iload_n 2, 1) := by decide +kernel
theorem dX0_init_33 : decode cX0_init 33 = .ok (.newarray .int, 2) := by decide +kernel
theorem dX0_init_35 : decode cX0_init 35 = .ok (.putfield 27, 3) := by decide +kernel
theorem dX0_init_38 : decode cX0_init 38 = .ok (.aload_n 0, 1) := by decide +kernel
theorem dX0_init_39 : decode cX0_init 39 = .ok (.iconst 0, 1) := by decide +kernel
theorem dX0_init_40 : decode cX0_init 40 = .ok (.putfield 30, 3) := by decide +kernel
theorem dX0_init_43 : decode cX0_init 43 = .ok (.return_, 1) := by decide +kernel
theorem dX1_init_0 : decode cX1_init 0 = .ok (.aload_n 0, 1) := by decide +kernel
theorem dX1_init_1 : decode cX1_init 1 = .ok (.invokespecial 3, 3) := by decide +kernel
theorem dX1_init_4 : decode cX1_init 4 = .ok (.aload_n 0, 1) := by decide +kernel
theorem dX1_init_5 : decode cX1_init 5 = .ok (.bipush 8, 2) := by decide +kernel
theorem dX1_init_7 : decode cX1_init 7 = .ok (.newarray .int, 2) := by decide +kernel
theorem dX1_init_9 : decode cX1_init 9 = .ok (.putfield 9, 3) := by decide +kernel
theorem dX1_init_12 : decode cX1_init 12 = .ok (.aload_n 0, 1) := by decide +kernel
theorem dX1_init_13 : decode cX1_init 13 = .ok (.bipush 8, 2) := by decide +kernel
theorem dX1_init_15 : decode cX1_init 15 = .ok (.newarray .int, 2) := by decide +kernel
theorem dX1_init_17 : decode cX1_init 17 = .ok (.putfield 15, 3) := by decide +kernel
theorem dX1_init_20 : decode cX1_init 20 = .ok (.return_, 1) := by decide +kernel
theorem ggX2_init_X0_init : GoodIn wsX2_init wsX0_init := goodIn_r _ [23, 24, 2, 3, 25, 26, 27, 28, 5, 29, 30, 31, 32, 33, 50, 51, 52, 53, 54] (by decide +kernel) (by decide +kernel)
theorem ggX2_init_X1_init : GoodIn wsX2_init wsX1_init := goodIn_r _ [36, 37, 2, 3, 5, 38, 39, 55, 56] (by decide +kernel) (by decide +kernel)
theorem dX2_init_0 : decode cX2_init 0 = .ok (.aload_n 0, 1) := by decide +kernel
theorem dX2_init_1 : decode cX2_init 1 = .ok (.invokespecial 3, 3) := by decide +kernel
theorem dX2_init_4 : decode cX2_init 4 = .ok (.aload_n 0, 1) := by decide +kernel
theorem dX2_init_5 : decode cX2_init 5 = .ok (.iconst 0, 1) := by decide +kernel
theorem dX2_init_6 : decode cX2_init 6 = .ok (.putfield 9, 3) := by decide +kernel
theorem dX2_init_9 : decode cX2_init 9 = .ok (.aload_n 0, 1) := by decide +kernel
theorem dX2_init_10 : decode cX2_init 10 = .ok (.bipush 8, 2) := by decide +kernel
theorem dX2_init_12 : decode cX2_init 12 = .ok (.newarray .int, 2) := by decide +kernel
theorem dX2_init_14 : decode cX2_init 14 = .ok (.putfield 15, 3) := by decide +kernel
theorem dX2_init_17 : decode cX2_init 17 = .ok (.aload_n 0, 1) := by decide +kernel
theorem dX2_init_18 : decode cX2_init 18 = .ok (.bipush 8, 2) := by decide +kernel
theorem dX2_init_20 : decode cX2_init 20 = .ok (.newarray .int, 2) := by decide +kernel
theorem dX2_init_22 : decode cX2_init 22 = .ok (.putfield 19, 3) := by decide +kernel
theorem dX2_init_25 : decode cX2_init 25 = .ok (.aload_n 0, 1) := by decide +kernel
theorem dX2_init_26 : decode cX2_init 26 = .ok (.bipush 8, 2) := by decide +kernel
theorem dX2_init_28 : decode cX2_init 28 = .ok (.anewarray 22, 3) := by decide +kernel
theorem dX2_init_31 : decode cX2_init 31 = .ok (.putfield 24, 3) := by decide +kernel
theorem dX2_init_34 : decode cX2_init 34 = .ok (.iconst 0, 1) := by decide +kernel
theorem dX2_init_35 : decode cX2_init 35 = .ok (.istore_n 1, 1) := by decide +kernel
theorem dX2_init_36 : decode cX2_init 36 = .ok (.iload_n 1, 1) := by decide +kernel
theorem dX2_init_37 : decode cX2_init 37 = .ok (.bipush 8, 2) := by decide +kernel
theorem dX2_init_39 : decode cX2_init 39 = .ok (.if_icmp .ge 31, 3) := by decide +kernel
theorem dX2_init_42 : decode cX2_init 42 = .ok (.aload_n 0, 1) := by decide +kernel
theorem dX2_init_43 : decode cX2_init 43 = .ok (.getfield 15, 3) := by decide +kernel
theorem dX2_init_46 : decode cX2_init 46 = .ok (.iload_n 1, 1) := by decide +kernel
theorem dX2_init_47 : decode cX2_init 47 = .ok (.iconst 1, 1) := by decide +kernel
theorem dX2_init_48 : decode cX2_init 48 = .ok (.iastore, 1) := by decide +kernel
theorem dX2_init_49 : decode cX2_init 49 = .ok (.aload_n 0, 1) := by decide +kernel
theorem dX2_init_50 : decode cX2_init 50 = .ok (.getfield 24, 3) := by decide +kernel
theorem dX2_init_53 : decode cX2_init 53 = .ok (.iload_n 1, 1) := by decide +kernel
theorem dX2_init_54 : decode cX2_init 54 = .ok (.new 22, 3) := by decide +kernel
theorem dX2_init_57 : decode cX2_init 57 = .ok (.dup, 1) := by decide +kernel
theorem dX2_init_58 : decode cX2_init 58 = .ok (.bipush 6, 2) := by decide +kernel
theorem dX2_init_60 : decode cX2_init 60 = .ok (.invokespecial 28, 3) := by decide +kernel
theorem dX2_init_63 : decode cX2_init 63 = .ok (.aastore, 1) := by decide +kernel
theorem dX2_init_64 : decode cX2_init 64 = .ok (.iinc 1 1, 3) := by decide +kernel
theorem dX2_init_67 : decode cX2_init 67 = .ok (.goto (-31), 3) := by decide +kernel
theorem dX2_init_70 : decode cX2_init 70 = .ok (.aload_n 0, 1) := by decide +kernel
theorem dX2_init_71 : decode cX2_init 71 = .ok (.new 31, 3) := by decide +kernel
theorem dX2_init_74 : decode cX2_init 74 = .ok (.dup, 1) := by decide +kernel
theorem dX2_init_75 : decode cX2_init 75 = .ok (.invokespecial 33, 3) := by decide +kernel
theorem dX2_init_78 : decode cX2_init 78 = .ok (.putfield 34, 3) := by decide +kernel
theorem dX2_init_81 : decode cX2_init 81 = .ok (.aload_n 0, 1) := by decide +kernel
theorem dX2_init_82 : decode cX2_init 82 = .ok (.bipush 10, 2) := by decide +kernel
theorem dX2_init_84 : decode cX2_init 84 = .ok (.anewarray 31, 3) := by decide +kernel
theorem dX2_init_87 : decode cX2_init 87 = .ok (.putfield 38, 3) := by decide +kernel
theorem dX2_init_90 : decode cX2_init 90 = .ok (.iconst 0, 1) := by decide +kernel
theorem dX2_init_91 : decode cX2_init 91 = .ok (.istore_n 1, 1) := by decide +kernel
theorem dX2_init_92 : decode cX2_init 92 = .ok (.iload_n 1, 1) := by decide +kernel
theorem dX2_init_93 : decode cX2_init 93 = .ok (.bipush 10, 2) := by decide +kernel
theorem dX2_init_95 : decode cX2_init 95 = .ok (.if_icmp .ge 22, 3) := by decide +kernel
theorem dX2_init_98 : decode cX2_init 98 = .ok (.aload_n 0, 1) := by decide +kernel
theorem dX2_init_99 : decode cX2_init 99 = .ok (.getfield 38, 3) := by decide +kernel
theorem dX2_init_102 : decode cX2_init 102 = .ok (.iload_n 1, 1) := by decide +kernel
theorem dX2_init_103 : decode cX2_init 103 = .ok (.new 31, 3) := by decide +kernel
theorem dX2_init_106 : decode cX2_init 106 = .ok (.dup, 1) := by decide +kernel
theorem dX2_init_107 : decode cX2_init 107 = .ok (.invokespecial 33, 3) := by decide +kernel
theorem dX2_init_110 : decode cX2_init 110 = .ok (.aastore, 1) := by decide +kernel
theorem dX2_init_111 : decode cX2_init 111 = .ok (.iinc 1 1, 3) := by decide +kernel
theorem dX2_init_114 : decode cX2_init 114 = .ok (.goto (-22), 3) := by decide +kernel
theorem dX2_init_117 : decode cX2_init 117 = .ok (.aload_n 0, 1) := by decide +kernel
theorem dX2_init_118 : decode cX2_init 118 = .ok (.iconst 1, 1) := by decide +kernel
theorem dX2_init_119 : decode cX2_init 119 = .ok (.putfield 42, 3) := by decide +kernel
theorem dX2_init_122 : decode cX2_init 122 = .ok (.aload_n 0, 1) := by decide +kernel
theorem dX2_init_123 : decode cX2_init 123 = .ok (.iconst 0, 1) := by decide +kernel
theorem dX2_init_124 : decode cX2_init 124 = .ok (.putfield 45, 3) := by decide +kernel
theorem dX2_init_127 : decode cX2_init 127 = .ok (.aload_n 0, 1) := by decide +kernel
theorem dX2_init_128 : decode cX2_init 128 = .ok (.iconst 0, 1) := by decide +kernel
theorem dX2_init_129 : decode cX2_init 129 = .ok (.putfield 48, 3) := by decide +kernel
theorem dX2_init_132 : decode cX2_init 132 = .ok (.aload_n 0, 1) := by decide +kernel
theorem dX2_init_133 : decode cX2_init 133 = .ok (.new 22, 3) := by decide +kernel
theorem dX2_init_136 : decode cX2_init 136 = .ok (.dup, 1) := by decide +kernel
theorem dX2_init_137 : decode cX2_init 137 = .ok (.bipush 40, 2) := by decide +kernel
theorem dX2_init_139 : decode cX2_init 139 = .ok (.invokespecial 28, 3) := by decide +kernel
theorem dX2_init_142 : decode cX2_init 142 = .ok (.putfield 51, 3) := by decide +kernel
theorem dX2_init_145 : decode cX2_init 145 = .ok (.return_, 1) := by decide +kernel
theorem ggX3_init_X2_init : GoodIn wsX3_init wsX2_init := goodIn_r _ [18, 19, 2, 3, 20, 21, 22, 23, 24, 25, 26, 27, 28, 29, 30, 31, 32, 33, 34, 35, 36, 37, 38, 39, 40, 41, 42, 43, 44, 45, 46, 47, 48, 49, 50, 51, 52, 53, 54, 55, 56, 57, 58, 59, 60, 61, 62, 63, 64, 65, 73, 74, 75, 76, 77, 78, 79] (by decide +kernel) (by decide +kernel)
theorem dX3_init_0 : decode cX3_init 0 = .ok (.aload_n 0, 1) := by decide +kernel
theorem dX3_init_1 : decode cX3_init 1 = .ok (.invokespecial 1, 3) := by decide +kernel
theorem dX3_init_4 : decode cX3_init 4 = .ok (.aload_n 0, 1) := by decide +kernel
theorem dX3_init_5 : decode cX3_init 5 = .ok (.new 7, 3) := by decide +kernel
theorem dX3_init_8 : decode cX3_init 8 = .ok (.dup, 1) := by decide +kernel
theorem dX3_init_9 : decode cX3_init 9 = .ok (.invokespecial 9, 3) := by decide +kernel
theorem dX3_init_12 : decode cX3_init 12 = .ok (.putfield 10, 3) := by decide +kernel
theorem dX3_init_15 : decode cX3_init 15 = .ok (.aload_n 0, 1) := by decide +kernel
theorem dX3_init_16 : decode cX3_init 16 = .ok (.new 7, 3) := by decide +kernel
theorem dX3_init_19 : decode cX3_init 19 = .ok (.dup, 1) := by decide +kernel
theorem dX3_init_20 : decode cX3_init 20 = .ok (.invokespecial 9, 3) := by decide +kernel
theorem dX3_init_23 : decode cX3_init 23 = .ok (.putfield 16, 3) := by decide +kernel
theorem dX3_init_26 : decode cX3_init 26 = .ok (.aload_n 0, 1) := by decide +kernel
theorem dX3_init_27 : decode cX3_init 27 = .ok (.bipush 8, 2) := by decide +kernel
theorem dX3_init_29 : decode cX3_init 29 = .ok (.anewarray 7, 3) := by decide +kernel
theorem dX3_init_32 : decode cX3_init 32 = .ok (.putfield 19, 3) := by decide +kernel
theorem dX3_init_35 : decode cX3_init 35 = .ok (.iconst 0, 1) := by decide +kernel
theorem dX3_init_36 : decode cX3_init 36 = .ok (.istore_n 1, 1) := by decide +kernel
theorem dX3_init_37 : decode cX3_init 37 = .ok (.iload_n 1, 1) := by decide +kernel
theorem dX3_init_38 : decode cX3_init 38 = .ok (.bipush 8, 2) := by decide +kernel
theorem dX3_init_40 : decode cX3_init 40 = .ok (.if_icmp .ge 22, 3) := by decide +kernel
theorem dX3_init_43 : decode cX3_init 43 = .ok (.aload_n 0, 1) := by decide +kernel
theorem dX3_init_44 : decode cX3_init 44 = .ok (.getfield 19, 3) := by decide +kernel
theorem dX3_init_47 : decode cX3_init 47 = .ok (.iload_n 1, 1) := by decide +kernel
theorem dX3_init_48 : decode cX3_init 48 = .ok (.new 7, 3) := by decide +kernel
theorem dX3_init_51 : decode cX3_init 51 = .ok (.dup, 1) := by decide +kernel
theorem dX3_init_52 : decode cX3_init 52 = .ok (.invokespecial 9, 3) := by decide +kernel
theorem dX3_init_55 : decode cX3_init 55 = .ok (.aastore, 1) := by decide +kernel
theorem dX3_init_56 : decode cX3_init 56 = .ok (.iinc 1 1, 3) := by decide +kernel
theorem dX3_init_59 : decode cX3_init 59 = .ok (.goto (-22), 3) := by decide +kernel
theorem dX3_init_62 : decode cX3_init 62 = .ok (.aload_n 0, 1) := by decide +kernel
theorem dX3_init_63 : decode cX3_init 63 = .ok (.iconst 0, 1) := by decide +kernel
theorem dX3_init_64 : decode cX3_init 64 = .ok (.putfield 23, 3) := by decide +kernel
theorem dX3_init_67 : decode cX3_init 67 = .ok (.aload_n 0, 1) := by decide +kernel
theorem dX3_init_68 : decode cX3_init 68 = .ok (.iconst 2, 1) := by decide +kernel
theorem dX3_init_69 : decode cX3_init 69 = .ok (.anewarray 7, 3) := by decide +kernel
theorem dX3_init_72 : decode cX3_init 72 = .ok (.putfield 27, 3) := by decide +kernel
theorem dX3_init_75 : decode cX3_init 75 = .ok (.iconst 0, 1) := by decide +kernel
theorem dX3_init_76 : decode cX3_init 76 = .ok (.istore_n 1, 1) := by decide +kernel
theorem dX3_init_77 : decode cX3_init 77 = .ok (.iload_n 1, 1) := by decide +kernel
theorem dX3_init_78 : decode cX3_init 78 = .ok (.iconst 2, 1) := by decide +kernel
theorem dX3_init_79 : decode cX3_init 79 = .ok (.if_icmp .ge 22, 3) := by decide +kernel
theorem dX3_init_82 : decode cX3_init 82 = .ok (.aload_n 0, 1) := by decide +kernel
theorem dX3_init_83 : decode cX3_init 83 = .ok (.getfield 27, 3) := by decide +kernel
theorem dX3_init_86 : decode cX3_init 86 = .ok (.iload_n 1, 1) := by decide +kernel
theorem dX3_init_87 : decode cX3_init 87 = .ok (.new 7, 3) := by decide +kernel
theorem dX3_init_90 : decode cX3_init 90 = .ok (.dup, 1) := by decide +kernel
theorem dX3_init_91 : decode cX3_init 91 = .ok (.invokespecial 9, 3) := by decide +kernel
theorem dX3_init_94 : decode cX3_init 94 = .ok (.aastore, 1) := by decide +kernel
theorem dX3_init_95 : decode cX3_init 95 = .ok (.iinc 1 1, 3) := by decide +kernel
theorem dX3_init_98 : decode cX3_init 98 = .ok (.goto (-21), 3) := by decide +kernel
theorem dX3_init_101 : decode cX3_init 101 = .ok (.aload_n 0, 1) := by decide +kernel
theorem dX3_init_102 : decode cX3_init 102 = .ok (.iconst 2, 1) := by decide +kernel
theorem dX3_init_103 : decode cX3_init 103 = .ok (.newarray .boolean, 2) := by decide +kernel
theorem dX3_init_105 : decode cX3_init 105 = .ok (.putfield 30, 3) := by decide +kernel
theorem dX3_init_108 : decode cX3_init 108 = .ok (.aload_n 0, 1) := by decide +kernel
theorem dX3_init_109 : decode cX3_init 109 = .ok (.sipush 256, 3) := by decide +kernel
theorem dX3_init_112 : decode cX3_init 112 = .ok (.newarray .long, 2) := by decide +kernel
theorem dX3_init_114 : decode cX3_init 114 = .ok (.putfield 34, 3) := by decide +kernel
theorem dX3_init_117 : decode cX3_init 117 = .ok (.return_, 1) := by decide +kernel
theorem uX0_init_X0 : ∀ w ∈ wsX00, w ∈ wsX0_init := fun w h => List.mem_cons_of_mem _ (List.mem_append_right _ h)
def HF (Sh : hm_S) (a n : Nat) : Prop := Sh a = kO 0 [some (some (a + 1)), some (some (a + 2)), some (some (a + 3)), some (some (a + 4)), none] ∧ Sh (a + 1) = kI n ∧ Sh (a + 2) = kI n ∧ Sh (a + 3) = kI n ∧ Sh (a + 4) = kI n
def HO (Sh : hm_S) (a : Nat) : Prop := Sh a = kO 1 [some (some (a + 1)), some (some (a + 2))] ∧ Sh (a + 1) = kI 8 ∧ Sh (a + 2) = kI 8
def smB (Sh Sh0 : hm_S) (I I0 : hm_I) (a : Nat) : Prop := ∀ b, b < a → Sh b = Sh0 b ∧ I b = I0 b
set_option maxHeartbeats 4000000 in
set_option maxRecDepth 100000 in
theorem ctX0_init {l : Launch} {D : va_G} {T : Nat → ClassId} {A : Nat → Prop} {B : Nat} {Sh : hm_S} {I : hm_I} {J : hm_J} {a n : Nat} (hB : B ≤ a) (hn : n < 1000) (hA : ∀ q, B ≤ q → A q) (hs : Sh a = kO 0 [some none, some none, some none, some none, none]) (hI : I a 4 = 0) :
    Ct l yX0_init wsX0_init { frames := 1, cells := 4, slots := 4 * n, locals := 13 } (4) (4 * n) D T A [.ref a, .int (nI n)] (fun H => hm D T (rg B (a + 1)) A Sh I J H ∧ H.size = a + 1) none (fun H => ∃ (Sh1 : hm_S) (I1 : hm_I), (hm D T (rg B (a + 5)) A Sh1 I1 J H ∧ H.size = a + 5) ∧ smB Sh1 Sh I1 I a ∧ HF Sh1 a n ∧ I1 a 4 = 0) := by
  refine Ct.ofW (cc := cX0_init) (maxL := 3) (ret := none) (by decide) rfl (Nat.le_of_ble_eq_true rfl) ?_
  intro p_ e_ s_ m_ args_ below_ meth_ c_ ls R Qq hR hQ0 C0 hr hlk hname hP hl
  obtain ⟨hM, hz⟩ := hP
  have hz0 := hz
  have hx := C0.1.1
  have hb := C0.1.2.1
  have hS : va_S A s_.heap s_.heap [] := va_S.rf
  have hl : lv_has ls 3 [(0, .ref a), (1, .int (nI n))] := hl
  refine lv_aload_n hx hb dX0_init_0 rfl (lv_at hl 0 rfl) ?_
  refine W.objInit hx hb C0.1.2.2.2.1 (C0.1.2.2.2.2 _ (List.mem_of_getElem? (i := 1) rfl)) (C0.1.2.2.2.2 _ (List.mem_of_getElem? (i := 2) rfl)) (C0.1.2.2.2.2 _ (List.mem_of_getElem? (i := 3) rfl)) rfl (hl.1.trans C0.1.2.2.1.symm) rfl dX0_init_1 (by rw [hR]; exact Nat.le_of_ble_eq_true rfl) (by rw [hR]; exact Nat.le_of_ble_eq_true rfl) ?_
  refine W.eq (g2 := F0 m_ 4 ls []) rfl ?_
  refine lv_iload_n hx hb dX0_init_4 rfl (lv_at hl 1 rfl) ?_
  refine lv_iconst (v := 0) hx hb dX0_init_5 (by decide) ?_
  refine va_mmax hx hb (C0.1.2.2.1.trans hl.1.symm) C0.1.2.2.2.1 (C0.1.2.2.2.2 _ (List.mem_of_getElem? (i := 4) rfl)) (C0.1.2.2.2.2 _ (List.mem_of_getElem? (i := 5) rfl)) (C0.1.2.2.2.2 _ (List.mem_of_getElem? (i := 6) rfl)) (C0.1.2.2.2.2 _ (List.mem_of_getElem? (i := 7) rfl)) (by rw [hR]; exact Nat.le_of_ble_eq_true rfl) (by rw [hR]; exact Nat.le_of_ble_eq_true rfl) (Nat.zero_le _) (Nat.zero_le _) dX0_init_6 ?_
  refine mr_top (y := nI n) (if_neg (nI_pos (by omega))) ?_
  refine lv_istore_n (lv' := [(2, .int (nI n)), (0, .ref a), (1, .int (nI n))]) hx hb dX0_init_9 rfl hl (by decide) rfl (fun ls hl => ?_)
  refine lv_aload_n hx hb dX0_init_10 rfl (lv_at hl 1 rfl) ?_
  refine lv_iload_n hx hb dX0_init_11 rfl (lv_at hl 0 rfl) ?_
  refine mz_newI (n := n) C0 (List.mem_of_getElem? (i := 8) rfl) hM hz (by omega) hS hA (by omega) (by rw [hR]; show _ ≤ 4; omega) (by rw [hR]; show _ ≤ 4 * n; omega) dX0_init_12 (fun H hM1 hS1 hz1 => ?_)
  clear hM hS hz
  have hM := hM1
  have hS := hS1
  clear hM1 hS1
  have hz := hz1
  clear hz1
  have hM1 := hM
  clear hM
  obtain ⟨mS1, emS1⟩ : ∃ f : hm_S, f = va_up Sh (a + 1) (kI n) := ⟨_, rfl⟩
  have hbmS1 : mS1 (a) = kO 0 [some none, some none, some none, some none, none] := by rw [emS1]; simp (disch := omega) only [va_up_self, va_up_ne, hs]
  obtain ⟨mI1, emI1⟩ : ∃ f : hm_I, f = va_up I (a + 1) (fun _ => 0) := ⟨_, rfl⟩
  have hM : hm D T (rg B (a + 2)) A mS1 mI1 J H := by rw [emS1, emI1]; exact hM1
  clear hM1
  have hz1 := hz
  clear hz
  have hz : H.size = a + 2 := hz1
  clear hz1
  refine mr_putF (TT := TX0) (N := 5) (ci := 0) C0 uX0_init_X0 tyX0 tyX0_ok nmX0 hM hS (rg_in (by omega) (by omega)) (fs := [some none, some none, some none, some none, none]) hbmS1 rfl 0 (by decide) (v0 := none) rfl (v := a + 1) (List.mem_of_getElem? (i := 9) rfl) rfl rfl rfl hname (ty := .array .int) (by decide +kernel) rfl rfl dX0_init_14 (fun H locs hM1 hS1 => ?_)
  clear hM hS hz
  have hM := hM1
  have hS := hS1
  clear hM1 hS1
  have hz := hz0
  have hM1 := hM
  clear hM
  obtain ⟨mS2, emS2⟩ : ∃ f : hm_S, f = va_up mS1 (a) (kO 0 [some (some (a + 1)), some none, some none, some none, none]) := ⟨_, rfl⟩
  have hbmS2 : mS2 (a) = kO 0 [some (some (a + 1)), some none, some none, some none, none] := by rw [emS2]; simp (disch := omega) only [va_up_self, va_up_ne, hbmS1]
  have hM : hm D T (rg B (a + 2)) A mS2 mI1 J H := by rw [emS2]; exact hM1
  clear hM1
  refine mz_sz fun hsz => ?_
  clear hz
  have hz : H.size = a + 2 := mz_size hM (by omega) (by omega) hsz
  clear hsz
  refine lv_aload_n hx hb dX0_init_17 rfl (lv_at hl 1 rfl) ?_
  refine lv_iload_n hx hb dX0_init_18 rfl (lv_at hl 0 rfl) ?_
  refine mz_newI (n := n) C0 (List.mem_of_getElem? (i := 8) rfl) hM hz (by omega) hS hA (by omega) (by rw [hR]; show _ ≤ 4; omega) (by rw [hR]; show _ ≤ 4 * n; omega) dX0_init_19 (fun H hM1 hS1 hz1 => ?_)
  clear hM hS hz
  have hM := hM1
  have hS := hS1
  clear hM1 hS1
  have hz := hz1
  clear hz1
  have hM1 := hM
  clear hM
  obtain ⟨mS3, emS3⟩ : ∃ f : hm_S, f = va_up mS2 (a + 2) (kI n) := ⟨_, rfl⟩
  have hbmS3 : mS3 (a) = kO 0 [some (some (a + 1)), some none, some none, some none, none] := by rw [emS3]; simp (disch := omega) only [va_up_self, va_up_ne, hbmS2]
  obtain ⟨mI3, emI3⟩ : ∃ f : hm_I, f = va_up mI1 (a + 2) (fun _ => 0) := ⟨_, rfl⟩
  have hM : hm D T (rg B (a + 3)) A mS3 mI3 J H := by rw [emS3, emI3]; exact hM1
  clear hM1
  have hz1 := hz
  clear hz
  have hz : H.size = a + 3 := hz1
  clear hz1
  refine mr_putF (TT := TX0) (N := 5) (ci := 0) C0 uX0_init_X0 tyX0 tyX0_ok nmX0 hM hS (rg_in (by omega) (by omega)) (fs := [some (some (a + 1)), some none, some none, some none, none]) hbmS3 rfl 1 (by decide) (v0 := none) rfl (v := a + 2) (List.mem_of_getElem? (i := 10) rfl) rfl rfl rfl hname (ty := .array .int) (by decide +kernel) rfl rfl dX0_init_21 (fun H locs hM1 hS1 => ?_)
  clear hM hS hz
  have hM := hM1
  have hS := hS1
  clear hM1 hS1
  have hz := hz0
  have hM1 := hM
  clear hM
  obtain ⟨mS4, emS4⟩ : ∃ f : hm_S, f = va_up mS3 (a) (kO 0 [some (some (a + 1)), some (some (a + 2)), some none, some none, none]) := ⟨_, rfl⟩
  have hbmS4 : mS4 (a) = kO 0 [some (some (a + 1)), some (some (a + 2)), some none, some none, none] := by rw [emS4]; simp (disch := omega) only [va_up_self, va_up_ne, hbmS3]
  have hM : hm D T (rg B (a + 3)) A mS4 mI3 J H := by rw [emS4]; exact hM1
  clear hM1
  refine mz_sz fun hsz => ?_
  clear hz
  have hz : H.size = a + 3 := mz_size hM (by omega) (by omega) hsz
  clear hsz
  refine lv_aload_n hx hb dX0_init_24 rfl (lv_at hl 1 rfl) ?_
  refine lv_iload_n hx hb dX0_init_25 rfl (lv_at hl 0 rfl) ?_
  refine mz_newI (n := n) C0 (List.mem_of_getElem? (i := 8) rfl) hM hz (by omega) hS hA (by omega) (by rw [hR]; show _ ≤ 4; omega) (by rw [hR]; show _ ≤ 4 * n; omega) dX0_init_26 (fun H hM1 hS1 hz1 => ?_)
  clear hM hS hz
  have hM := hM1
  have hS := hS1
  clear hM1 hS1
  have hz := hz1
  clear hz1
  have hM1 := hM
  clear hM
  obtain ⟨mS5, emS5⟩ : ∃ f : hm_S, f = va_up mS4 (a + 3) (kI n) := ⟨_, rfl⟩
  have hbmS5 : mS5 (a) = kO 0 [some (some (a + 1)), some (some (a + 2)), some none, some none, none] := by rw [emS5]; simp (disch := omega) only [va_up_self, va_up_ne, hbmS4]
  obtain ⟨mI5, emI5⟩ : ∃ f : hm_I, f = va_up mI3 (a + 3) (fun _ => 0) := ⟨_, rfl⟩
  have hM : hm D T (rg B (a + 4)) A mS5 mI5 J H := by rw [emS5, emI5]; exact hM1
  clear hM1
  have hz1 := hz
  clear hz
  have hz : H.size = a + 4 := hz1
  clear hz1
  refine mr_putF (TT := TX0) (N := 5) (ci := 0) C0 uX0_init_X0 tyX0 tyX0_ok nmX0 hM hS (rg_in (by omega) (by omega)) (fs := [some (some (a + 1)), some (some (a + 2)), some none, some none, none]) hbmS5 rfl 2 (by decide) (v0 := none) rfl (v := a + 3) (List.mem_of_getElem? (i := 11) rfl) rfl rfl rfl hname (ty := .array .int) (by decide +kernel) rfl rfl dX0_init_28 (fun H locs hM1 hS1 => ?_)
  clear hM hS hz
  have hM := hM1
  have hS := hS1
  clear hM1 hS1
  have hz := hz0
  have hM1 := hM
  clear hM
  obtain ⟨mS6, emS6⟩ : ∃ f : hm_S, f = va_up mS5 (a) (kO 0 [some (some (a + 1)), some (some (a + 2)), some (some (a + 3)), some none, none]) := ⟨_, rfl⟩
  have hbmS6 : mS6 (a) = kO 0 [some (some (a + 1)), some (some (a + 2)), some (some (a + 3)), some none, none] := by rw [emS6]; simp (disch := omega) only [va_up_self, va_up_ne, hbmS5]
  have hM : hm D T (rg B (a + 4)) A mS6 mI5 J H := by rw [emS6]; exact hM1
  clear hM1
  refine mz_sz fun hsz => ?_
  clear hz
  have hz : H.size = a + 4 := mz_size hM (by omega) (by omega) hsz
  clear hsz
  refine lv_aload_n hx hb dX0_init_31 rfl (lv_at hl 1 rfl) ?_
  refine lv_iload_n hx hb dX0_init_32 rfl (lv_at hl 0 rfl) ?_
  refine mz_newI (n := n) C0 (List.mem_of_getElem? (i := 8) rfl) hM hz (by omega) hS hA (by omega) (by rw [hR]; show _ ≤ 4; omega) (by rw [hR]; show _ ≤ 4 * n; omega) dX0_init_33 (fun H hM1 hS1 hz1 => ?_)
  clear hM hS hz
  have hM := hM1
  have hS := hS1
  clear hM1 hS1
  have hz := hz1
  clear hz1
  have hM1 := hM
  clear hM
  obtain ⟨mS7, emS7⟩ : ∃ f : hm_S, f = va_up mS6 (a + 4) (kI n) := ⟨_, rfl⟩
  have hbmS7 : mS7 (a) = kO 0 [some (some (a + 1)), some (some (a + 2)), some (some (a + 3)), some none, none] := by rw [emS7]; simp (disch := omega) only [va_up_self, va_up_ne, hbmS6]
  obtain ⟨mI7, emI7⟩ : ∃ f : hm_I, f = va_up mI5 (a + 4) (fun _ => 0) := ⟨_, rfl⟩
  have hM : hm D T (rg B (a + 5)) A mS7 mI7 J H := by rw [emS7, emI7]; exact hM1
  clear hM1
  have hz1 := hz
  clear hz
  have hz : H.size = a + 5 := hz1
  clear hz1
  refine mr_putF (TT := TX0) (N := 5) (ci := 0) C0 uX0_init_X0 tyX0 tyX0_ok nmX0 hM hS (rg_in (by omega) (by omega)) (fs := [some (some (a + 1)), some (some (a + 2)), some (some (a + 3)), some none, none]) hbmS7 rfl 3 (by decide) (v0 := none) rfl (v := a + 4) (List.mem_of_getElem? (i := 12) rfl) rfl rfl rfl hname (ty := .array .int) (by decide +kernel) rfl rfl dX0_init_35 (fun H locs hM1 hS1 => ?_)
  clear hM hS hz
  have hM := hM1
  have hS := hS1
  clear hM1 hS1
  have hz := hz0
  have hM1 := hM
  clear hM
  obtain ⟨mS8, emS8⟩ : ∃ f : hm_S, f = va_up mS7 (a) (kO 0 [some (some (a + 1)), some (some (a + 2)), some (some (a + 3)), some (some (a + 4)), none]) := ⟨_, rfl⟩
  have hbmS8 : mS8 (a) = kO 0 [some (some (a + 1)), some (some (a + 2)), some (some (a + 3)), some (some (a + 4)), none] := by rw [emS8]; simp (disch := omega) only [va_up_self, va_up_ne, hbmS7]
  have hM : hm D T (rg B (a + 5)) A mS8 mI7 J H := by rw [emS8]; exact hM1
  clear hM1
  refine mz_sz fun hsz => ?_
  clear hz
  have hz : H.size = a + 5 := mz_size hM (by omega) (by omega) hsz
  clear hsz
  refine lv_aload_n hx hb dX0_init_38 rfl (lv_at hl 1 rfl) ?_
  refine lv_iconst (v := 0) hx hb dX0_init_39 (by decide) ?_
  refine mr_puti (TT := TX0) (N := 5) (ci := 0) C0 uX0_init_X0 tyX0 tyX0_ok nmX0 hM hS (rg_in (by omega) (by omega)) (fs := [some (some (a + 1)), some (some (a + 2)), some (some (a + 3)), some (some (a + 4)), none]) hbmS8 rfl 4 (by decide) rfl (List.mem_of_getElem? (i := 13) rfl) rfl rfl (by decide +kernel) dX0_init_40 (fun H locs hM1 hS1 => ?_)
  clear hM hS hz
  have hM := hM1
  have hS := hS1
  clear hM1 hS1
  have hz := hz0
  have hM1 := hM
  clear hM
  obtain ⟨mI9, emI9⟩ : ∃ f : hm_I, f = hm_put mI7 (a) 4 (0) := ⟨_, rfl⟩
  have hM : hm D T (rg B (a + 5)) A mS8 mI9 J H := by rw [emI9]; exact hM1
  clear hM1
  refine mz_sz fun hsz => ?_
  clear hz
  have hz : H.size = a + 5 := mz_size hM (by omega) (by omega) hsz
  clear hsz
  refine mz_cs (c2 := 4) (s2 := 4 * n) (by omega) (by omega) ?_
  refine mr_vret C0 hr hlk hQ0 hS rfl ⟨_, _, ⟨hM, hz⟩, fun b hb => ⟨?_, ?_⟩, ⟨?_, ?_, ?_, ?_, ?_⟩, ?_⟩ (Nat.le_refl _) (Nat.le_refl _) dX0_init_43
  · simp (disch := omega) only [va_up_self, va_up_ne, emS8, emS7, emS6, emS5, emS4, emS3, emS2, emS1]
  · simp (disch := omega) only [va_up_self, va_up_ne, hm_put_ne, emI9, emI7, emI5, emI3, emI1]
  · simp (disch := omega) only [va_up_self, va_up_ne, emS8, emS7, emS6, emS5, emS4, emS3, emS2, emS1]
  · simp (disch := omega) only [va_up_self, va_up_ne, emS8, emS7, emS6, emS5, emS4, emS3, emS2, emS1]
  · simp (disch := omega) only [va_up_self, va_up_ne, emS8, emS7, emS6, emS5, emS4, emS3, emS2, emS1]
  · simp (disch := omega) only [va_up_self, va_up_ne, emS8, emS7, emS6, emS5, emS4, emS3, emS2, emS1]
  · simp (disch := omega) only [va_up_self, va_up_ne, emS8, emS7, emS6, emS5, emS4, emS3, emS2, emS1]
  · rw [emI9]; exact hm_put_at _ _ _ _
theorem uX1_init_X1 : ∀ w ∈ wsX10, w ∈ wsX1_init := fun w h => List.mem_cons_of_mem _ (List.mem_append_right _ h)
set_option maxHeartbeats 4000000 in
set_option maxRecDepth 100000 in
theorem ctX1_init {l : Launch} {D : va_G} {T : Nat → ClassId} {A : Nat → Prop} {B : Nat} {Sh : hm_S} {I : hm_I} {J : hm_J} {a : Nat} (hB : B ≤ a) (hA : ∀ q, B ≤ q → A q) (hs : Sh a = kO 1 [some none, some none]) :
    Ct l yX1_init wsX1_init { frames := 1, cells := 2, slots := 16, locals := 12 } (2) (16) D T A [.ref a] (fun H => hm D T (rg B (a + 1)) A Sh I J H ∧ H.size = a + 1) none (fun H => ∃ (Sh1 : hm_S) (I1 : hm_I), (hm D T (rg B (a + 3)) A Sh1 I1 J H ∧ H.size = a + 3) ∧ smB Sh1 Sh I1 I a ∧ HO Sh1 a ∧ ∀ k, I1 (a + 1) k = 0 ∧ I1 (a + 2) k = 0) := by
  refine Ct.ofW (cc := cX1_init) (maxL := 1) (ret := none) (by decide) rfl (Nat.le_of_ble_eq_true rfl) ?_
  intro p_ e_ s_ m_ args_ below_ meth_ c_ ls R Qq hR hQ0 C0 hr hlk hname hP hl
  obtain ⟨hM, hz⟩ := hP
  have hz0 := hz
  have hx := C0.1.1
  have hb := C0.1.2.1
  have hS : va_S A s_.heap s_.heap [] := va_S.rf
  have hl : lv_has ls 1 [(0, .ref a)] := hl
  refine lv_aload_n hx hb dX1_init_0 rfl (lv_at hl 0 rfl) ?_
  refine W.objInit hx hb C0.1.2.2.2.1 (C0.1.2.2.2.2 _ (List.mem_of_getElem? (i := 1) rfl)) (C0.1.2.2.2.2 _ (List.mem_of_getElem? (i := 2) rfl)) (C0.1.2.2.2.2 _ (List.mem_of_getElem? (i := 3) rfl)) rfl (hl.1.trans C0.1.2.2.1.symm) rfl dX1_init_1 (by rw [hR]; exact Nat.le_of_ble_eq_true rfl) (by rw [hR]; exact Nat.le_of_ble_eq_true rfl) ?_
  refine W.eq (g2 := F0 m_ 4 ls []) rfl ?_
  refine lv_aload_n hx hb dX1_init_4 rfl (lv_at hl 0 rfl) ?_
  refine lv_bipush (v := nI 8) hx hb dX1_init_5 (by decide) ?_
  refine mz_newI (n := 8) C0 (List.mem_of_getElem? (i := 4) rfl) hM hz (by omega) hS hA (by omega) (by rw [hR]; show _ ≤ 2; omega) (by rw [hR]; show _ ≤ 16; omega) dX1_init_7 (fun H hM1 hS1 hz1 => ?_)
  clear hM hS hz
  have hM := hM1
  have hS := hS1
  clear hM1 hS1
  have hz := hz1
  clear hz1
  have hM1 := hM
  clear hM
  obtain ⟨mS1, emS1⟩ : ∃ f : hm_S, f = va_up Sh (a + 1) (kI 8) := ⟨_, rfl⟩
  have hbmS1 : mS1 (a) = kO 1 [some none, some none] := by rw [emS1]; simp (disch := omega) only [va_up_self, va_up_ne, hs]
  obtain ⟨mI1, emI1⟩ : ∃ f : hm_I, f = va_up I (a + 1) (fun _ => 0) := ⟨_, rfl⟩
  have hM : hm D T (rg B (a + 2)) A mS1 mI1 J H := by rw [emS1, emI1]; exact hM1
  clear hM1
  have hz1 := hz
  clear hz
  have hz : H.size = a + 2 := hz1
  clear hz1
  refine mr_putF (TT := TX1) (N := 2) (ci := 1) C0 uX1_init_X1 tyX1 tyX1_ok nmX1 hM hS (rg_in (by omega) (by omega)) (fs := [some none, some none]) hbmS1 rfl 0 (by decide) (v0 := none) rfl (v := a + 1) (List.mem_of_getElem? (i := 5) rfl) rfl rfl rfl hname (ty := .array .int) (by decide +kernel) rfl rfl dX1_init_9 (fun H locs hM1 hS1 => ?_)
  clear hM hS hz
  have hM := hM1
  have hS := hS1
  clear hM1 hS1
  have hz := hz0
  have hM1 := hM
  clear hM
  obtain ⟨mS2, emS2⟩ : ∃ f : hm_S, f = va_up mS1 (a) (kO 1 [some (some (a + 1)), some none]) := ⟨_, rfl⟩
  have hbmS2 : mS2 (a) = kO 1 [some (some (a + 1)), some none] := by rw [emS2]; simp (disch := omega) only [va_up_self, va_up_ne, hbmS1]
  have hM : hm D T (rg B (a + 2)) A mS2 mI1 J H := by rw [emS2]; exact hM1
  clear hM1
  refine mz_sz fun hsz => ?_
  clear hz
  have hz : H.size = a + 2 := mz_size hM (by omega) (by omega) hsz
  clear hsz
  refine lv_aload_n hx hb dX1_init_12 rfl (lv_at hl 0 rfl) ?_
  refine lv_bipush (v := nI 8) hx hb dX1_init_13 (by decide) ?_
  refine mz_newI (n := 8) C0 (List.mem_of_getElem? (i := 4) rfl) hM hz (by omega) hS hA (by omega) (by rw [hR]; show _ ≤ 2; omega) (by rw [hR]; show _ ≤ 16; omega) dX1_init_15 (fun H hM1 hS1 hz1 => ?_)
  clear hM hS hz
  have hM := hM1
  have hS := hS1
  clear hM1 hS1
  have hz := hz1
  clear hz1
  have hM1 := hM
  clear hM
  obtain ⟨mS3, emS3⟩ : ∃ f : hm_S, f = va_up mS2 (a + 2) (kI 8) := ⟨_, rfl⟩
  have hbmS3 : mS3 (a) = kO 1 [some (some (a + 1)), some none] := by rw [emS3]; simp (disch := omega) only [va_up_self, va_up_ne, hbmS2]
  obtain ⟨mI3, emI3⟩ : ∃ f : hm_I, f = va_up mI1 (a + 2) (fun _ => 0) := ⟨_, rfl⟩
  have hM : hm D T (rg B (a + 3)) A mS3 mI3 J H := by rw [emS3, emI3]; exact hM1
  clear hM1
  have hz1 := hz
  clear hz
  have hz : H.size = a + 3 := hz1
  clear hz1
  refine mr_putF (TT := TX1) (N := 2) (ci := 1) C0 uX1_init_X1 tyX1 tyX1_ok nmX1 hM hS (rg_in (by omega) (by omega)) (fs := [some (some (a + 1)), some none]) hbmS3 rfl 1 (by decide) (v0 := none) rfl (v := a + 2) (List.mem_of_getElem? (i := 6) rfl) rfl rfl rfl hname (ty := .array .int) (by decide +kernel) rfl rfl dX1_init_17 (fun H locs hM1 hS1 => ?_)
  clear hM hS hz
  have hM := hM1
  have hS := hS1
  clear hM1 hS1
  have hz := hz0
  have hM1 := hM
  clear hM
  obtain ⟨mS4, emS4⟩ : ∃ f : hm_S, f = va_up mS3 (a) (kO 1 [some (some (a + 1)), some (some (a + 2))]) := ⟨_, rfl⟩
  have hbmS4 : mS4 (a) = kO 1 [some (some (a + 1)), some (some (a + 2))] := by rw [emS4]; simp (disch := omega) only [va_up_self, va_up_ne, hbmS3]
  have hM : hm D T (rg B (a + 3)) A mS4 mI3 J H := by rw [emS4]; exact hM1
  clear hM1
  refine mz_sz fun hsz => ?_
  clear hz
  have hz : H.size = a + 3 := mz_size hM (by omega) (by omega) hsz
  clear hsz
  refine mz_cs (c2 := 2) (s2 := 16) (by omega) (by omega) ?_
  refine mr_vret C0 hr hlk hQ0 hS rfl ⟨_, _, ⟨hM, hz⟩, fun b hb => ⟨?_, ?_⟩, ⟨?_, ?_, ?_⟩, fun k => ⟨?_, ?_⟩⟩ (Nat.le_refl _) (Nat.le_refl _) dX1_init_20
  · simp (disch := omega) only [va_up_self, va_up_ne, emS4, emS3, emS2, emS1]
  · simp (disch := omega) only [va_up_self, va_up_ne, emI3, emI1]
  · simp (disch := omega) only [va_up_self, va_up_ne, emS4, emS3, emS2, emS1]
  · simp (disch := omega) only [va_up_self, va_up_ne, emS4, emS3, emS2, emS1]
  · simp (disch := omega) only [va_up_self, va_up_ne, emS4, emS3, emS2, emS1]
  · simp (disch := omega) only [va_up_self, va_up_ne, emI3, emI1]
  · simp (disch := omega) only [va_up_self, va_up_ne, emI3, emI1]
