set_option maxRecDepth 100000 in
set_option maxHeartbeats 4000000 in
theorem ctX4_lookAtRoot {l : Launch} {D : va_G} {A : Nat → Nat} {n : Nat → Nat} {cI cG cR : ClassId} {aK aV : Nat} {a0 : Int32} {S : Nat → Nat → Int32} {Q : Unit → (Nat → Nat → Int32) → Prop} {QX : String → (Nat → Nat → Int32) → Prop} (hst : l.stackTraces = false) (hi : Apart 32 A)  (h : wX4_lookAtRoot n a0 S Q QX) : Cv l D (tyC cI cG cR) 32 A (ceC A n cI cG cR) (FxC aK aV) yX4_lookAtRoot cX4_lookAtRoot 1 none 6 89 1 6 [.int a0] S rU Q QX := by
  refine Cv.of (by decide +kernel) hFx hi [(0, .int a0)] rfl (Nat.le_of_ble_eq_true rfl) ?_
  intro p e s m args below meth c Acc C hr hlk htab Qf hE
  unfold wX4_lookAtRoot at h
  refine r_iload_n C 0 rfl dX4_lookAtRoot_0 1 rfl ?_
  refine k_RX4_178 C (ctX4_isRoot hi  h) ⟨(Nat.le_of_ble_eq_true rfl), (Nat.le_of_ble_eq_true rfl)⟩ (Nat.le_of_ble_eq_true rfl) ⟨(Nat.le_of_ble_eq_true rfl), (Nat.le_of_ble_eq_true rfl)⟩ dX4_lookAtRoot_1 4 rfl (fun r1 S2 h => ?_)
  rcases bool_or r1 with c3 | c3
  · replace h := h.1 c3
    refine r_if_neF C c3 15 dX4_lookAtRoot_4 7 rfl rfl ?_
    exact rx_throw C hE hlk htab hst (names := ["java/lang/RuntimeException", "java/lang/Exception"]) (by decide +kernel) (by decide +kernel) e_IO_k e_IO_i e_IO_1 e_IO_2 e_IO_3 dX4_lookAtRoot_7 dX4_lookAtRoot_10 dX4_lookAtRoot_11 dX4_lookAtRoot_14 ⟨(Nat.le_of_ble_eq_true rfl), (Nat.le_of_ble_eq_true rfl), (Nat.le_of_ble_eq_true rfl), (Nat.le_of_ble_eq_true rfl)⟩ (Nat.le_of_ble_eq_true rfl) (Nat.le_of_ble_eq_true rfl) h
  · replace h := h.2 c3
    refine r_if_neT C c3 15 dX4_lookAtRoot_4 7 rfl rfl ?_
    exact rx_vret C hE hr hlk (Nat.le_of_ble_eq_true rfl) (Nat.le_of_ble_eq_true rfl) dX4_lookAtRoot_15 h
set_option maxRecDepth 100000 in
set_option maxHeartbeats 4000000 in
theorem ctX4_make {l : Launch} {D : va_G} {A : Nat → Nat} {n : Nat → Nat} {cI cG cR : ClassId} {aK aV : Nat} {a1 : Int32} {a2 : Int32} {a3 : Int32} {a4 : Int32} {S : Nat → Nat → Int32} {Q : Int32 → (Nat → Nat → Int32) → Prop} {QX : String → (Nat → Nat → Int32) → Prop} (hst : l.stackTraces = false) (hi : Apart 32 A)  (h : wX4_make n a1 a2 a3 a4 S Q QX) : Cv l D (tyC cI cG cR) 32 A (ceC A n cI cG cR) (FxC aK aV) yX4_make cX4_make 6 (some .int) 7 148 2 12 [.ref (A 0), .int a1, .int a2, .int a3, .int a4] S rI Q QX := by
  refine Cv.of (by decide +kernel) hFx hi [(0, .ref (A 0)), (1, .int a1), (2, .int a2), (3, .int a3), (4, .int a4)] rfl (Nat.le_of_ble_eq_true rfl) ?_
  intro p e s m args below meth c Acc C hr hlk htab Qf hE
  unfold wX4_make at h
  refine r_iload_n C 1 rfl dX4_make_0 1 rfl ?_
  refine rx_callS C (As := [.int a1]) hE hlk htab [] (ctX4_lookAtRoot hst hi h) b_256 b_44 b_255 b_254 ⟨by decide +kernel, by decide +kernel, (show (parseMethodDescriptor yX4_lookAtRoot.desc).map (fun d => d.parameters.length) = some 1 by decide +kernel)⟩ ⟨(Nat.le_of_ble_eq_true rfl), (Nat.le_of_ble_eq_true rfl)⟩ rfl (Nat.le_of_ble_eq_true rfl) 1 6 rfl rfl (Nat.le_of_ble_eq_true rfl) (Nat.le_of_ble_eq_true rfl) ⟨(Nat.le_of_ble_eq_true rfl), (Nat.le_of_ble_eq_true rfl)⟩ dX4_make_1 4 rfl (fun r1 S2 h => ?_)
  show J p l e { frames := 7, cells := 2, slots := 12, locals := 148 } s m args below meth c 1 6 Qf D 32 A (ceC A n cI cG cR) Acc 6 S2 4 [(0, .ref (A 0)), (1, .int a1), (2, .int a2), (3, .int a3), (4, .int a4)] []
  refine r_iload_n C 2 rfl dX4_make_4 5 rfl ?_
  refine r_if_lt C 14 dX4_make_5 8 rfl rfl (fun c3 => ?_) (fun c3 => ?_)
  · replace h := h.1 c3
    exact rx_throw C hE hlk htab hst (names := ["java/lang/RuntimeException", "java/lang/Exception"]) (by decide +kernel) (by decide +kernel) e_IA_k e_IA_i e_IA_1 e_IA_2 e_IA_3 dX4_make_14 dX4_make_17 dX4_make_18 dX4_make_21 ⟨(Nat.le_of_ble_eq_true rfl), (Nat.le_of_ble_eq_true rfl), (Nat.le_of_ble_eq_true rfl), (Nat.le_of_ble_eq_true rfl)⟩ (Nat.le_of_ble_eq_true rfl) (Nat.le_of_ble_eq_true rfl) h
  · replace h := h.2 c3
    refine r_iload_n C 2 rfl dX4_make_8 9 rfl ?_
    refine r_bipush C 6 rfl dX4_make_9 11 rfl ?_
    refine r_icmp_le C 22 dX4_make_11 14 rfl rfl (fun c4 => ?_) (fun c4 => ?_)
    · replace h := h.1 c4
      refine r_aload_n C 0 rfl dX4_make_22 23 rfl ?_
      refine g_RX4_18 C dX4_make_23 26 rfl ?_
      refine r_iload_n C 2 rfl dX4_make_26 27 rfl ?_
      refine r_iload_n C 3 rfl dX4_make_27 28 rfl ?_
      refine r_iload C 4 rfl dX4_make_28 30 rfl ?_
      refine k_RX4_38 C (ctX1_newObject hi  h) ⟨(Nat.le_of_ble_eq_true rfl), (Nat.le_of_ble_eq_true rfl)⟩ (Nat.le_of_ble_eq_true rfl) ⟨(Nat.le_of_ble_eq_true rfl), (Nat.le_of_ble_eq_true rfl)⟩ dX4_make_30 33 rfl (fun r5 S6 h => ?_)
      refine r_istore C [(5, .int r5), (0, .ref (A 0)), (1, .int a1), (2, .int a2), (3, .int a3), (4, .int a4)] (Nat.le_of_ble_eq_true rfl) rfl dX4_make_33 35 rfl ?_
      refine r_iload C 0 rfl dX4_make_35 37 rfl ?_
      refine r_if_eq C 54 dX4_make_37 40 rfl rfl (fun c7 => ?_) (fun c7 => ?_)
      · replace h := h.1 c7
        refine r_iload C 0 rfl dX4_make_54 56 rfl ?_
        exact rx_iret C hE hr hlk (Nat.le_of_ble_eq_true rfl) (Nat.le_of_ble_eq_true rfl) dX4_make_56 h
      · replace h := h.2 c7
        refine r_aload_n C 1 rfl dX4_make_40 41 rfl ?_
        refine g_RX4_18 C dX4_make_41 44 rfl ?_
        refine g_RX4_42 C dX4_make_44 47 rfl ?_
        refine g_RX4_46 (k := 6) C (Nat.le_of_ble_eq_true rfl) (Nat.le_of_ble_eq_true rfl) dX4_make_47 50 rfl ?_
        refine r_iload_n C 2 rfl dX4_make_50 51 rfl ?_
        refine r_iload C 0 rfl dX4_make_51 53 rfl ?_
        refine s_C (k := 16) C (Nat.le_of_ble_eq_true rfl) (Nat.le_of_ble_eq_true rfl) h.1 dX4_make_53 54 rfl (fun S8 e9 => ?_)
        replace h := h.2
        replace h := h S8 e9
        refine r_iload C 0 rfl dX4_make_54 56 rfl ?_
        exact rx_iret C hE hr hlk (Nat.le_of_ble_eq_true rfl) (Nat.le_of_ble_eq_true rfl) dX4_make_56 h
    · replace h := h.2 c4
      exact rx_throw C hE hlk htab hst (names := ["java/lang/RuntimeException", "java/lang/Exception"]) (by decide +kernel) (by decide +kernel) e_IA_k e_IA_i e_IA_1 e_IA_2 e_IA_3 dX4_make_14 dX4_make_17 dX4_make_18 dX4_make_21 ⟨(Nat.le_of_ble_eq_true rfl), (Nat.le_of_ble_eq_true rfl), (Nat.le_of_ble_eq_true rfl), (Nat.le_of_ble_eq_true rfl)⟩ (Nat.le_of_ble_eq_true rfl) (Nat.le_of_ble_eq_true rfl) h
set_option maxRecDepth 100000 in
set_option maxHeartbeats 4000000 in
theorem ctX4_push {l : Launch} {D : va_G} {A : Nat → Nat} {n : Nat → Nat} {cI cG cR : ClassId} {aK aV : Nat} {a1 : Int32} {a2 : Int32} {a3 : Int32} {S : Nat → Nat → Int32} {Q : Int32 → (Nat → Nat → Int32) → Prop} {QX : String → (Nat → Nat → Int32) → Prop} (hst : l.stackTraces = false) (hi : Apart 32 A)  (h : wX4_push n a1 a2 a3 S Q QX) : Cv l D (tyC cI cG cR) 32 A (ceC A n cI cG cR) (FxC aK aV) yX4_push cX4_push 6 (some .int) 7 148 2 12 [.ref (A 0), .int a1, .int a2, .int a3] S rI Q QX := by
  refine Cv.of (by decide +kernel) hFx hi [(0, .ref (A 0)), (1, .int a1), (2, .int a2), (3, .int a3)] rfl (Nat.le_of_ble_eq_true rfl) ?_
  intro p e s m args below meth c Acc C hr hlk htab Qf hE
  have b26 : ∀ (nn : Nat) (x26_4 : Int32) (S : Nat → Nat → Int32), wX4_push_b26 n a1 a2 a3  nn x26_4 S Q QX → J p l e { frames := 7, cells := 2, slots := 12, locals := 148 } s m args below meth c 1 6 Qf D 32 A (ceC A n cI cG cR) Acc 6 S 26 [(4, .int x26_4), (0, .ref (A 0)), (1, .int a1), (2, .int a2), (3, .int a3)] [] := by
    intro nn
    induction nn with
    | zero => intro x26_4 S h; exact False.elim h
    | succ nn ih =>
      intro x26_4 S h
      rw [wX4_push_b26] at h
      refine r_iload C 0 rfl dX4_push_26 28 rfl ?_
      refine r_iload_n C 4 rfl dX4_push_28 29 rfl ?_
      refine r_icmp_ge C 97 dX4_push_29 32 rfl rfl (fun c6 => ?_) (fun c6 => ?_)
      · replace h := h.1 c6
        refine r_iload_n C 4 rfl dX4_push_97 98 rfl ?_
        exact rx_iret C hE hr hlk (Nat.le_of_ble_eq_true rfl) (Nat.le_of_ble_eq_true rfl) dX4_push_98 h
      · replace h := h.2 c6
        refine r_aload_n C 1 rfl dX4_push_32 33 rfl ?_
        refine g_RX4_18 C dX4_push_33 36 rfl ?_
        refine r_iconst C 2 rfl dX4_push_36 37 rfl ?_
        refine r_iload_n C 3 rfl dX4_push_37 38 rfl ?_
        refine r_iload C 0 rfl dX4_push_38 40 rfl ?_
        refine r_iadd C dX4_push_40 41 rfl ?_
        refine r_iconst C 0 rfl dX4_push_41 42 rfl ?_
        refine k_RX4_38 C (ctX1_newObject hi  h) ⟨(Nat.le_of_ble_eq_true rfl), (Nat.le_of_ble_eq_true rfl)⟩ (Nat.le_of_ble_eq_true rfl) ⟨(Nat.le_of_ble_eq_true rfl), (Nat.le_of_ble_eq_true rfl)⟩ dX4_push_42 45 rfl (fun r7 S8 h => ?_)
        refine r_istore C [(5, .int r7), (4, .int x26_4), (0, .ref (A 0)), (1, .int a1), (2, .int a2), (3, .int a3)] (Nat.le_of_ble_eq_true rfl) rfl dX4_push_45 47 rfl ?_
        refine r_iload C 0 rfl dX4_push_47 49 rfl ?_
        refine r_if_ne C 55 dX4_push_49 52 rfl rfl (fun c9 => ?_) (fun c9 => ?_)
        · replace h := h.1 c9
          refine r_iload C 1 rfl dX4_push_52 54 rfl ?_
          exact rx_iret C hE hr hlk (Nat.le_of_ble_eq_true rfl) (Nat.le_of_ble_eq_true rfl) dX4_push_54 h
        · replace h := h.2 c9
          refine r_aload_n C 2 rfl dX4_push_55 56 rfl ?_
          refine g_RX4_18 C dX4_push_56 59 rfl ?_
          refine r_iload C 0 rfl dX4_push_59 61 rfl ?_
          refine r_iconst C 0 rfl dX4_push_61 62 rfl ?_
          refine r_aload_n C 2 rfl dX4_push_62 63 rfl ?_
          refine g_RX4_18 C dX4_push_63 66 rfl ?_
          refine g_RX4_42 C dX4_push_66 69 rfl ?_
          refine g_RX4_46 (k := 6) C (Nat.le_of_ble_eq_true rfl) (Nat.le_of_ble_eq_true rfl) dX4_push_69 72 rfl ?_
          refine r_iload_n C 3 rfl dX4_push_72 73 rfl ?_
          refine i_C (k := 16) C (Nat.le_of_ble_eq_true rfl) (Nat.le_of_ble_eq_true rfl) h.1 dX4_push_73 74 rfl ?_
          replace h := h.2
          refine k_RX4_52 C (ctX1_store hi  h) ⟨(Nat.le_of_ble_eq_true rfl), (Nat.le_of_ble_eq_true rfl)⟩ (Nat.le_of_ble_eq_true rfl) ⟨(Nat.le_of_ble_eq_true rfl), (Nat.le_of_ble_eq_true rfl)⟩ dX4_push_74 77 rfl (fun S11 h => ?_)
          refine r_aload_n C 2 rfl dX4_push_77 78 rfl ?_
          refine g_RX4_18 C dX4_push_78 81 rfl ?_
          refine g_RX4_42 C dX4_push_81 84 rfl ?_
          refine g_RX4_46 (k := 6) C (Nat.le_of_ble_eq_true rfl) (Nat.le_of_ble_eq_true rfl) dX4_push_84 87 rfl ?_
          refine r_iload_n C 3 rfl dX4_push_87 88 rfl ?_
          refine r_iload C 0 rfl dX4_push_88 90 rfl ?_
          refine s_C (k := 16) C (Nat.le_of_ble_eq_true rfl) (Nat.le_of_ble_eq_true rfl) h.1 dX4_push_90 91 rfl (fun S12 e13 => ?_)
          replace h := h.2
          replace h := h S12 e13
          obtain ⟨x14, e15⟩ : ∃ z : Int32, z = x26_4 + 1 := ⟨_, rfl⟩
          replace h := h x14 e15
          refine r_iinc (n := 1) C 1 rfl x14 (by rw [e15]; rfl) [(4, .int x14), (5, .int r7), (0, .ref (A 0)), (1, .int a1), (2, .int a2), (3, .int a3)] (Nat.le_of_ble_eq_true rfl) rfl dX4_push_91 94 rfl ?_
          refine r_goto C 26 dX4_push_94 rfl ?_
          refine r_sub [(4, .int x14), (0, .ref (A 0)), (1, .int a1), (2, .int a2), (3, .int a3)] [0, 2, 3, 4, 5] rfl ?_
          exact ih x14  S12 h
  unfold wX4_push at h
  refine r_iload_n C 1 rfl dX4_push_0 1 rfl ?_
  refine rx_callS C (As := [.int a1]) hE hlk htab [] (ctX4_lookAtRoot hst hi h) b_256 b_44 b_255 b_254 ⟨by decide +kernel, by decide +kernel, (show (parseMethodDescriptor yX4_lookAtRoot.desc).map (fun d => d.parameters.length) = some 1 by decide +kernel)⟩ ⟨(Nat.le_of_ble_eq_true rfl), (Nat.le_of_ble_eq_true rfl)⟩ rfl (Nat.le_of_ble_eq_true rfl) 1 6 rfl rfl (Nat.le_of_ble_eq_true rfl) (Nat.le_of_ble_eq_true rfl) ⟨(Nat.le_of_ble_eq_true rfl), (Nat.le_of_ble_eq_true rfl)⟩ dX4_push_1 4 rfl (fun r1 S2 h => ?_)
  show J p l e { frames := 7, cells := 2, slots := 12, locals := 148 } s m args below meth c 1 6 Qf D 32 A (ceC A n cI cG cR) Acc 6 S2 4 [(0, .ref (A 0)), (1, .int a1), (2, .int a2), (3, .int a3)] []
  refine r_iload_n C 3 rfl dX4_push_4 5 rfl ?_
  refine r_iconst C 1 rfl dX4_push_5 6 rfl ?_
  refine r_icmp_lt C 15 dX4_push_6 9 rfl rfl (fun c3 => ?_) (fun c3 => ?_)
  · replace h := h.1 c3
    exact rx_throw C hE hlk htab hst (names := ["java/lang/RuntimeException", "java/lang/Exception"]) (by decide +kernel) (by decide +kernel) e_IA_k e_IA_i e_IA_1 e_IA_2 e_IA_3 dX4_push_15 dX4_push_18 dX4_push_19 dX4_push_22 ⟨(Nat.le_of_ble_eq_true rfl), (Nat.le_of_ble_eq_true rfl), (Nat.le_of_ble_eq_true rfl), (Nat.le_of_ble_eq_true rfl)⟩ (Nat.le_of_ble_eq_true rfl) (Nat.le_of_ble_eq_true rfl) h
  · replace h := h.2 c3
    refine r_iload_n C 3 rfl dX4_push_9 10 rfl ?_
    refine r_bipush C 40 rfl dX4_push_10 12 rfl ?_
    refine r_icmp_le C 23 dX4_push_12 15 rfl rfl (fun c4 => ?_) (fun c4 => ?_)
    · replace h := h.1 c4
      refine r_iconst C 0 rfl dX4_push_23 24 rfl ?_
      refine r_istore C [(4, .int 0), (0, .ref (A 0)), (1, .int a1), (2, .int a2), (3, .int a3)] (Nat.le_of_ble_eq_true rfl) rfl dX4_push_24 26 rfl ?_
      refine r_sub [(4, .int 0), (0, .ref (A 0)), (1, .int a1), (2, .int a2), (3, .int a3)] [0, 1, 2, 3, 4] rfl ?_
      obtain ⟨f5, h⟩ := h
      exact b26  f5 0  S2 h
    · replace h := h.2 c4
      exact rx_throw C hE hlk htab hst (names := ["java/lang/RuntimeException", "java/lang/Exception"]) (by decide +kernel) (by decide +kernel) e_IA_k e_IA_i e_IA_1 e_IA_2 e_IA_3 dX4_push_15 dX4_push_18 dX4_push_19 dX4_push_22 ⟨(Nat.le_of_ble_eq_true rfl), (Nat.le_of_ble_eq_true rfl), (Nat.le_of_ble_eq_true rfl), (Nat.le_of_ble_eq_true rfl)⟩ (Nat.le_of_ble_eq_true rfl) (Nat.le_of_ble_eq_true rfl) h
set_option maxRecDepth 100000 in
set_option maxHeartbeats 4000000 in
theorem ctX4_lookAtRootOrNone {l : Launch} {D : va_G} {A : Nat → Nat} {n : Nat → Nat} {cI cG cR : ClassId} {aK aV : Nat} {a0 : Int32} {S : Nat → Nat → Int32} {Q : Unit → (Nat → Nat → Int32) → Prop} {QX : String → (Nat → Nat → Int32) → Prop} (hst : l.stackTraces = false) (hi : Apart 32 A)  (h : wX4_lookAtRootOrNone n a0 S Q QX) : Cv l D (tyC cI cG cR) 32 A (ceC A n cI cG cR) (FxC aK aV) yX4_lookAtRootOrNone cX4_lookAtRootOrNone 1 none 7 109 1 6 [.int a0] S rU Q QX := by
  refine Cv.of (by decide +kernel) hFx hi [(0, .int a0)] rfl (Nat.le_of_ble_eq_true rfl) ?_
  intro p e s m args below meth c Acc C hr hlk htab Qf hE
  unfold wX4_lookAtRootOrNone at h
  refine r_iload_n C 0 rfl dX4_lookAtRootOrNone_0 1 rfl ?_
  refine r_iconst C (-1 : Int32) rfl dX4_lookAtRootOrNone_1 2 rfl ?_
  refine r_icmp_eq C 9 dX4_lookAtRootOrNone_2 5 rfl rfl (fun c1 => ?_) (fun c1 => ?_)
  · replace h := h.1 c1
    exact rx_vret C hE hr hlk (Nat.le_of_ble_eq_true rfl) (Nat.le_of_ble_eq_true rfl) dX4_lookAtRootOrNone_9 h
  · replace h := h.2 c1
    refine r_iload_n C 0 rfl dX4_lookAtRootOrNone_5 6 rfl ?_
    refine rx_callS C (As := [.int a0]) hE hlk htab [] (ctX4_lookAtRoot hst hi h) b_256 b_44 b_255 b_254 ⟨by decide +kernel, by decide +kernel, (show (parseMethodDescriptor yX4_lookAtRoot.desc).map (fun d => d.parameters.length) = some 1 by decide +kernel)⟩ ⟨(Nat.le_of_ble_eq_true rfl), (Nat.le_of_ble_eq_true rfl)⟩ rfl (Nat.le_of_ble_eq_true rfl) 1 6 rfl rfl (Nat.le_of_ble_eq_true rfl) (Nat.le_of_ble_eq_true rfl) ⟨(Nat.le_of_ble_eq_true rfl), (Nat.le_of_ble_eq_true rfl)⟩ dX4_lookAtRootOrNone_6 9 rfl (fun r2 S3 h => ?_)
    show J p l e { frames := 7, cells := 1, slots := 6, locals := 109 } s m args below meth c 1 6 Qf D 32 A (ceC A n cI cG cR) Acc 1 S3 9 [(0, .int a0)] []
    exact rx_vret C hE hr hlk (Nat.le_of_ble_eq_true rfl) (Nat.le_of_ble_eq_true rfl) dX4_lookAtRootOrNone_9 h
set_option maxRecDepth 100000 in
set_option maxHeartbeats 4000000 in
theorem ctX4_objectOf {l : Launch} {D : va_G} {A : Nat → Nat} {n : Nat → Nat} {cI cG cR : ClassId} {aK aV : Nat} {a1 : Int32} {S : Nat → Nat → Int32} {Q : Int32 → (Nat → Nat → Int32) → Prop} {QX : String → (Nat → Nat → Int32) → Prop} (hst : l.stackTraces = false) (hi : Apart 32 A)  (h : wX4_objectOf n a1 S Q QX) : Cv l D (tyC cI cG cR) 32 A (ceC A n cI cG cR) (FxC aK aV) yX4_objectOf cX4_objectOf 3 (some .int) 6 89 1 6 [.ref (A 0), .int a1] S rI Q QX := by
  refine Cv.of (by decide +kernel) hFx hi [(0, .ref (A 0)), (1, .int a1)] rfl (Nat.le_of_ble_eq_true rfl) ?_
  intro p e s m args below meth c Acc C hr hlk htab Qf hE
  unfold wX4_objectOf at h
  refine r_aload_n C 0 rfl dX4_objectOf_0 1 rfl ?_
  refine g_RX4_18 C dX4_objectOf_1 4 rfl ?_
  refine g_RX4_42 C dX4_objectOf_4 7 rfl ?_
  refine g_RX4_46 (k := 6) C (Nat.le_of_ble_eq_true rfl) (Nat.le_of_ble_eq_true rfl) dX4_objectOf_7 10 rfl ?_
  refine r_iload_n C 1 rfl dX4_objectOf_10 11 rfl ?_
  refine i_C (k := 16) C (Nat.le_of_ble_eq_true rfl) (Nat.le_of_ble_eq_true rfl) h.1 dX4_objectOf_11 12 rfl ?_
  replace h := h.2
  refine r_istore_n C [(2, .int (S 16 a1.toNatClampNeg)), (0, .ref (A 0)), (1, .int a1)] (Nat.le_of_ble_eq_true rfl) rfl dX4_objectOf_12 13 rfl ?_
  refine r_iload_n C 0 rfl dX4_objectOf_13 14 rfl ?_
  refine r_if_ne C 25 dX4_objectOf_14 17 rfl rfl (fun c1 => ?_) (fun c1 => ?_)
  · replace h := h.1 c1
    exact rx_throw C hE hlk htab hst (names := ["java/lang/RuntimeException", "java/lang/Exception"]) (by decide +kernel) (by decide +kernel) e_IS_k e_IS_i e_IS_1 e_IS_2 e_IS_3 dX4_objectOf_17 dX4_objectOf_20 dX4_objectOf_21 dX4_objectOf_24 ⟨(Nat.le_of_ble_eq_true rfl), (Nat.le_of_ble_eq_true rfl), (Nat.le_of_ble_eq_true rfl), (Nat.le_of_ble_eq_true rfl)⟩ (Nat.le_of_ble_eq_true rfl) (Nat.le_of_ble_eq_true rfl) h
  · replace h := h.2 c1
    refine r_iload_n C 0 rfl dX4_objectOf_25 26 rfl ?_
    exact rx_iret C hE hr hlk (Nat.le_of_ble_eq_true rfl) (Nat.le_of_ble_eq_true rfl) dX4_objectOf_26 h
set_option maxRecDepth 100000 in
set_option maxHeartbeats 4000000 in
theorem ctX4_lookAtField {l : Launch} {D : va_G} {A : Nat → Nat} {n : Nat → Nat} {cI cG cR : ClassId} {aK aV : Nat} {a1 : Int32} {a2 : Int32} {S : Nat → Nat → Int32} {Q : Unit → (Nat → Nat → Int32) → Prop} {QX : String → (Nat → Nat → Int32) → Prop} (hst : l.stackTraces = false) (hi : Apart 32 A)  (h : wX4_lookAtField n a1 a2 S Q QX) : Cv l D (tyC cI cG cR) 32 A (ceC A n cI cG cR) (FxC aK aV) yX4_lookAtField cX4_lookAtField 3 none 6 89 1 6 [.ref (A 0), .int a1, .int a2] S rU Q QX := by
  refine Cv.of (by decide +kernel) hFx hi [(0, .ref (A 0)), (1, .int a1), (2, .int a2)] rfl (Nat.le_of_ble_eq_true rfl) ?_
  intro p e s m args below meth c Acc C hr hlk htab Qf hE
  unfold wX4_lookAtField at h
  refine r_aload_n C 0 rfl dX4_lookAtField_0 1 rfl ?_
  refine g_RX4_18 C dX4_lookAtField_1 4 rfl ?_
  refine r_iload_n C 1 rfl dX4_lookAtField_4 5 rfl ?_
  refine r_iload_n C 2 rfl dX4_lookAtField_5 6 rfl ?_
  refine k_RX4_181 C (ctX1_hasField hi  h) ⟨(Nat.le_of_ble_eq_true rfl), (Nat.le_of_ble_eq_true rfl)⟩ (Nat.le_of_ble_eq_true rfl) ⟨(Nat.le_of_ble_eq_true rfl), (Nat.le_of_ble_eq_true rfl)⟩ dX4_lookAtField_6 9 rfl (fun r1 S2 h => ?_)
  rcases bool_or r1 with c3 | c3
  · replace h := h.1 c3
    refine r_if_neF C c3 20 dX4_lookAtField_9 12 rfl rfl ?_
    exact rx_throw C hE hlk htab hst (names := ["java/lang/RuntimeException", "java/lang/Exception"]) (by decide +kernel) (by decide +kernel) e_IO_k e_IO_i e_IO_1 e_IO_2 e_IO_3 dX4_lookAtField_12 dX4_lookAtField_15 dX4_lookAtField_16 dX4_lookAtField_19 ⟨(Nat.le_of_ble_eq_true rfl), (Nat.le_of_ble_eq_true rfl), (Nat.le_of_ble_eq_true rfl), (Nat.le_of_ble_eq_true rfl)⟩ (Nat.le_of_ble_eq_true rfl) (Nat.le_of_ble_eq_true rfl) h
  · replace h := h.2 c3
    refine r_if_neT C c3 20 dX4_lookAtField_9 12 rfl rfl ?_
    exact rx_vret C hE hr hlk (Nat.le_of_ble_eq_true rfl) (Nat.le_of_ble_eq_true rfl) dX4_lookAtField_20 h
set_option maxRecDepth 100000 in
set_option maxHeartbeats 4000000 in
theorem ctX4_put {l : Launch} {D : va_G} {A : Nat → Nat} {n : Nat → Nat} {cI cG cR : ClassId} {aK aV : Nat} {a1 : Int32} {a2 : Int32} {a3 : Int32} {S : Nat → Nat → Int32} {Q : Int32 → (Nat → Nat → Int32) → Prop} {QX : String → (Nat → Nat → Int32) → Prop} (hst : l.stackTraces = false) (hi : Apart 32 A)  (h : wX4_put n a1 a2 a3 S Q QX) : Cv l D (tyC cI cG cR) 32 A (ceC A n cI cG cR) (FxC aK aV) yX4_put cX4_put 6 (some .int) 8 129 4 24 [.ref (A 0), .int a1, .int a2, .int a3] S rI Q QX := by
  refine Cv.of (by decide +kernel) hFx hi [(0, .ref (A 0)), (1, .int a1), (2, .int a2), (3, .int a3)] rfl (Nat.le_of_ble_eq_true rfl) ?_
  intro p e s m args below meth c Acc C hr hlk htab Qf hE
  unfold wX4_put at h
  refine r_iload_n C 1 rfl dX4_put_0 1 rfl ?_
  refine rx_callS C (As := [.int a1]) hE hlk htab [] (ctX4_lookAtRoot hst hi h) b_256 b_44 b_255 b_254 ⟨by decide +kernel, by decide +kernel, (show (parseMethodDescriptor yX4_lookAtRoot.desc).map (fun d => d.parameters.length) = some 1 by decide +kernel)⟩ ⟨(Nat.le_of_ble_eq_true rfl), (Nat.le_of_ble_eq_true rfl)⟩ rfl (Nat.le_of_ble_eq_true rfl) 1 6 rfl rfl (Nat.le_of_ble_eq_true rfl) (Nat.le_of_ble_eq_true rfl) ⟨(Nat.le_of_ble_eq_true rfl), (Nat.le_of_ble_eq_true rfl)⟩ dX4_put_1 4 rfl (fun r1 S2 h => ?_)
  show J p l e { frames := 8, cells := 4, slots := 24, locals := 129 } s m args below meth c 1 6 Qf D 32 A (ceC A n cI cG cR) Acc 6 S2 4 [(0, .ref (A 0)), (1, .int a1), (2, .int a2), (3, .int a3)] []
  refine r_iload_n C 3 rfl dX4_put_4 5 rfl ?_
  refine rx_callS C (As := [.int a3]) hE hlk htab [] (ctX4_lookAtRootOrNone hst hi h) b_455 b_44 b_454 b_453 ⟨by decide +kernel, by decide +kernel, (show (parseMethodDescriptor yX4_lookAtRootOrNone.desc).map (fun d => d.parameters.length) = some 1 by decide +kernel)⟩ ⟨(Nat.le_of_ble_eq_true rfl), (Nat.le_of_ble_eq_true rfl)⟩ rfl (Nat.le_of_ble_eq_true rfl) 2 12 rfl rfl (Nat.le_of_ble_eq_true rfl) (Nat.le_of_ble_eq_true rfl) ⟨(Nat.le_of_ble_eq_true rfl), (Nat.le_of_ble_eq_true rfl)⟩ dX4_put_5 8 rfl (fun r3 S4 h => ?_)
  show J p l e { frames := 8, cells := 4, slots := 24, locals := 129 } s m args below meth c 2 12 Qf D 32 A (ceC A n cI cG cR) Acc 6 S4 8 [(0, .ref (A 0)), (1, .int a1), (2, .int a2), (3, .int a3)] []
  refine r_aload_n C 0 rfl dX4_put_8 9 rfl ?_
  refine r_iload_n C 1 rfl dX4_put_9 10 rfl ?_
  refine rx_callV C (As := [.int a1]) (ci := 4) (T := TX4) (nF := 2) hE hlk htab 0 [] (ctX4_objectOf hst hi h) (Nat.le_of_ble_eq_true rfl) (heC_4 _) rfl b_459 b_44 b_458 b_11 b_456 ⟨by decide +kernel, by decide +kernel, (show (parseMethodDescriptor yX4_objectOf.desc).map (fun d => d.parameters.length) = some 1 by decide +kernel)⟩ ⟨(Nat.le_of_ble_eq_true rfl), (Nat.le_of_ble_eq_true rfl)⟩ rfl (Nat.le_of_ble_eq_true rfl) 3 18 rfl rfl (Nat.le_of_ble_eq_true rfl) (Nat.le_of_ble_eq_true rfl) ⟨(Nat.le_of_ble_eq_true rfl), (Nat.le_of_ble_eq_true rfl)⟩ dX4_put_10 13 rfl (fun r5 S6 h => ?_)
  show J p l e { frames := 8, cells := 4, slots := 24, locals := 129 } s m args below meth c 3 18 Qf D 32 A (ceC A n cI cG cR) Acc 6 S6 13 [(0, .ref (A 0)), (1, .int a1), (2, .int a2), (3, .int a3)] [.int r5]
  refine r_istore C [(4, .int r5), (0, .ref (A 0)), (1, .int a1), (2, .int a2), (3, .int a3)] (Nat.le_of_ble_eq_true rfl) rfl dX4_put_13 15 rfl ?_
  refine r_aload_n C 1 rfl dX4_put_15 16 rfl ?_
  refine r_iload C 0 rfl dX4_put_16 18 rfl ?_
  refine r_iload_n C 3 rfl dX4_put_18 19 rfl ?_
  refine rx_callV C (As := [.int r5, .int a2]) (ci := 4) (T := TX4) (nF := 2) hE hlk htab 0 [] (ctX4_lookAtField hst hi h) (Nat.le_of_ble_eq_true rfl) (heC_4 _) rfl b_478 b_44 b_477 b_12 b_475 ⟨by decide +kernel, by decide +kernel, (show (parseMethodDescriptor yX4_lookAtField.desc).map (fun d => d.parameters.length) = some 2 by decide +kernel)⟩ ⟨(Nat.le_of_ble_eq_true rfl), (Nat.le_of_ble_eq_true rfl)⟩ rfl (Nat.le_of_ble_eq_true rfl) 4 24 rfl rfl (Nat.le_of_ble_eq_true rfl) (Nat.le_of_ble_eq_true rfl) ⟨(Nat.le_of_ble_eq_true rfl), (Nat.le_of_ble_eq_true rfl)⟩ dX4_put_19 22 rfl (fun r7 S8 h => ?_)
  show J p l e { frames := 8, cells := 4, slots := 24, locals := 129 } s m args below meth c 4 24 Qf D 32 A (ceC A n cI cG cR) Acc 6 S8 22 [(4, .int r5), (0, .ref (A 0)), (1, .int a1), (2, .int a2), (3, .int a3)] []
  refine r_aload_n C 1 rfl dX4_put_22 23 rfl ?_
  refine g_RX4_18 C dX4_put_23 26 rfl ?_
  refine r_iload C 0 rfl dX4_put_26 28 rfl ?_
  refine r_iload_n C 3 rfl dX4_put_28 29 rfl ?_
  refine k_RX4_67 C (ctX1_fieldOf hi  h) ⟨(Nat.le_of_ble_eq_true rfl), (Nat.le_of_ble_eq_true rfl)⟩ (Nat.le_of_ble_eq_true rfl) ⟨(Nat.le_of_ble_eq_true rfl), (Nat.le_of_ble_eq_true rfl)⟩ dX4_put_29 32 rfl (fun r9 S10 h => ?_)
  refine r_istore C [(5, .int r9), (4, .int r5), (0, .ref (A 0)), (1, .int a1), (2, .int a2), (3, .int a3)] (Nat.le_of_ble_eq_true rfl) rfl dX4_put_32 34 rfl ?_
  refine r_aload_n C 2 rfl dX4_put_34 35 rfl ?_
  refine g_RX4_18 C dX4_put_35 38 rfl ?_
  refine r_iload C 1 rfl dX4_put_38 40 rfl ?_
  refine r_iload_n C 4 rfl dX4_put_40 41 rfl ?_
  refine r_aload_n C 2 rfl dX4_put_41 42 rfl ?_
  refine g_RX4_18 C dX4_put_42 45 rfl ?_
  refine r_iload_n C 5 rfl dX4_put_45 46 rfl ?_
  refine k_RX4_71 C (ctX1_rootOrNull hi  h) ⟨(Nat.le_of_ble_eq_true rfl), (Nat.le_of_ble_eq_true rfl)⟩ (Nat.le_of_ble_eq_true rfl) ⟨(Nat.le_of_ble_eq_true rfl), (Nat.le_of_ble_eq_true rfl)⟩ dX4_put_46 49 rfl (fun r11 S12 h => ?_)
  refine k_RX4_52 C (ctX1_store hi  h) ⟨(Nat.le_of_ble_eq_true rfl), (Nat.le_of_ble_eq_true rfl)⟩ (Nat.le_of_ble_eq_true rfl) ⟨(Nat.le_of_ble_eq_true rfl), (Nat.le_of_ble_eq_true rfl)⟩ dX4_put_49 52 rfl (fun S14 h => ?_)
  refine r_iload C 0 rfl dX4_put_52 54 rfl ?_
  exact rx_iret C hE hr hlk (Nat.le_of_ble_eq_true rfl) (Nat.le_of_ble_eq_true rfl) dX4_put_54 h
set_option maxRecDepth 100000 in
set_option maxHeartbeats 4000000 in
theorem ctX4_get {l : Launch} {D : va_G} {A : Nat → Nat} {n : Nat → Nat} {cI cG cR : ClassId} {aK aV : Nat} {a1 : Int32} {a2 : Int32} {a3 : Int32} {S : Nat → Nat → Int32} {Q : Int32 → (Nat → Nat → Int32) → Prop} {QX : String → (Nat → Nat → Int32) → Prop} (hst : l.stackTraces = false) (hi : Apart 32 A)  (h : wX4_get n a1 a2 a3 S Q QX) : Cv l D (tyC cI cG cR) 32 A (ceC A n cI cG cR) (FxC aK aV) yX4_get cX4_get 5 (some .int) 7 111 4 24 [.ref (A 0), .int a1, .int a2, .int a3] S rI Q QX := by
  refine Cv.of (by decide +kernel) hFx hi [(0, .ref (A 0)), (1, .int a1), (2, .int a2), (3, .int a3)] rfl (Nat.le_of_ble_eq_true rfl) ?_
  intro p e s m args below meth c Acc C hr hlk htab Qf hE
  unfold wX4_get at h
  refine r_iload_n C 1 rfl dX4_get_0 1 rfl ?_
  refine rx_callS C (As := [.int a1]) hE hlk htab [] (ctX4_lookAtRoot hst hi h) b_256 b_44 b_255 b_254 ⟨by decide +kernel, by decide +kernel, (show (parseMethodDescriptor yX4_lookAtRoot.desc).map (fun d => d.parameters.length) = some 1 by decide +kernel)⟩ ⟨(Nat.le_of_ble_eq_true rfl), (Nat.le_of_ble_eq_true rfl)⟩ rfl (Nat.le_of_ble_eq_true rfl) 1 6 rfl rfl (Nat.le_of_ble_eq_true rfl) (Nat.le_of_ble_eq_true rfl) ⟨(Nat.le_of_ble_eq_true rfl), (Nat.le_of_ble_eq_true rfl)⟩ dX4_get_1 4 rfl (fun r1 S2 h => ?_)
  show J p l e { frames := 7, cells := 4, slots := 24, locals := 111 } s m args below meth c 1 6 Qf D 32 A (ceC A n cI cG cR) Acc 5 S2 4 [(0, .ref (A 0)), (1, .int a1), (2, .int a2), (3, .int a3)] []
  refine r_iload_n C 2 rfl dX4_get_4 5 rfl ?_
  refine rx_callS C (As := [.int a2]) hE hlk htab [] (ctX4_lookAtRoot hst hi h) b_256 b_44 b_255 b_254 ⟨by decide +kernel, by decide +kernel, (show (parseMethodDescriptor yX4_lookAtRoot.desc).map (fun d => d.parameters.length) = some 1 by decide +kernel)⟩ ⟨(Nat.le_of_ble_eq_true rfl), (Nat.le_of_ble_eq_true rfl)⟩ rfl (Nat.le_of_ble_eq_true rfl) 2 12 rfl rfl (Nat.le_of_ble_eq_true rfl) (Nat.le_of_ble_eq_true rfl) ⟨(Nat.le_of_ble_eq_true rfl), (Nat.le_of_ble_eq_true rfl)⟩ dX4_get_5 8 rfl (fun r3 S4 h => ?_)
  show J p l e { frames := 7, cells := 4, slots := 24, locals := 111 } s m args below meth c 2 12 Qf D 32 A (ceC A n cI cG cR) Acc 5 S4 8 [(0, .ref (A 0)), (1, .int a1), (2, .int a2), (3, .int a3)] []
  refine r_aload_n C 0 rfl dX4_get_8 9 rfl ?_
  refine r_iload_n C 2 rfl dX4_get_9 10 rfl ?_
  refine rx_callV C (As := [.int a2]) (ci := 4) (T := TX4) (nF := 2) hE hlk htab 0 [] (ctX4_objectOf hst hi h) (Nat.le_of_ble_eq_true rfl) (heC_4 _) rfl b_459 b_44 b_458 b_11 b_456 ⟨by decide +kernel, by decide +kernel, (show (parseMethodDescriptor yX4_objectOf.desc).map (fun d => d.parameters.length) = some 1 by decide +kernel)⟩ ⟨(Nat.le_of_ble_eq_true rfl), (Nat.le_of_ble_eq_true rfl)⟩ rfl (Nat.le_of_ble_eq_true rfl) 3 18 rfl rfl (Nat.le_of_ble_eq_true rfl) (Nat.le_of_ble_eq_true rfl) ⟨(Nat.le_of_ble_eq_true rfl), (Nat.le_of_ble_eq_true rfl)⟩ dX4_get_10 13 rfl (fun r5 S6 h => ?_)
  show J p l e { frames := 7, cells := 4, slots := 24, locals := 111 } s m args below meth c 3 18 Qf D 32 A (ceC A n cI cG cR) Acc 5 S6 13 [(0, .ref (A 0)), (1, .int a1), (2, .int a2), (3, .int a3)] [.int r5]
  refine r_istore C [(4, .int r5), (0, .ref (A 0)), (1, .int a1), (2, .int a2), (3, .int a3)] (Nat.le_of_ble_eq_true rfl) rfl dX4_get_13 15 rfl ?_
  refine r_aload_n C 1 rfl dX4_get_15 16 rfl ?_
  refine r_iload C 0 rfl dX4_get_16 18 rfl ?_
  refine r_iload_n C 4 rfl dX4_get_18 19 rfl ?_
  refine rx_callV C (As := [.int r5, .int a3]) (ci := 4) (T := TX4) (nF := 2) hE hlk htab 0 [] (ctX4_lookAtField hst hi h) (Nat.le_of_ble_eq_true rfl) (heC_4 _) rfl b_478 b_44 b_477 b_12 b_475 ⟨by decide +kernel, by decide +kernel, (show (parseMethodDescriptor yX4_lookAtField.desc).map (fun d => d.parameters.length) = some 2 by decide +kernel)⟩ ⟨(Nat.le_of_ble_eq_true rfl), (Nat.le_of_ble_eq_true rfl)⟩ rfl (Nat.le_of_ble_eq_true rfl) 4 24 rfl rfl (Nat.le_of_ble_eq_true rfl) (Nat.le_of_ble_eq_true rfl) ⟨(Nat.le_of_ble_eq_true rfl), (Nat.le_of_ble_eq_true rfl)⟩ dX4_get_19 22 rfl (fun r7 S8 h => ?_)
  show J p l e { frames := 7, cells := 4, slots := 24, locals := 111 } s m args below meth c 4 24 Qf D 32 A (ceC A n cI cG cR) Acc 5 S8 22 [(4, .int r5), (0, .ref (A 0)), (1, .int a1), (2, .int a2), (3, .int a3)] []
  refine r_aload_n C 1 rfl dX4_get_22 23 rfl ?_
  refine g_RX4_18 C dX4_get_23 26 rfl ?_
  refine g_RX4_42 C dX4_get_26 29 rfl ?_
  refine g_RX4_46 (k := 6) C (Nat.le_of_ble_eq_true rfl) (Nat.le_of_ble_eq_true rfl) dX4_get_29 32 rfl ?_
  refine r_iload_n C 2 rfl dX4_get_32 33 rfl ?_
  refine r_aload_n C 1 rfl dX4_get_33 34 rfl ?_
  refine g_RX4_18 C dX4_get_34 37 rfl ?_
  refine r_iload C 0 rfl dX4_get_37 39 rfl ?_
  refine r_iload_n C 4 rfl dX4_get_39 40 rfl ?_
  refine k_RX4_67 C (ctX1_fieldOf hi  h) ⟨(Nat.le_of_ble_eq_true rfl), (Nat.le_of_ble_eq_true rfl)⟩ (Nat.le_of_ble_eq_true rfl) ⟨(Nat.le_of_ble_eq_true rfl), (Nat.le_of_ble_eq_true rfl)⟩ dX4_get_40 43 rfl (fun r9 S10 h => ?_)
  refine s_C (k := 16) C (Nat.le_of_ble_eq_true rfl) (Nat.le_of_ble_eq_true rfl) h.1 dX4_get_43 44 rfl (fun S11 e12 => ?_)
  replace h := h.2
  replace h := h S11 e12
  refine r_aload_n C 1 rfl dX4_get_44 45 rfl ?_
  refine g_RX4_18 C dX4_get_45 48 rfl ?_
  refine g_RX4_42 C dX4_get_48 51 rfl ?_
  refine g_RX4_46 (k := 6) C (Nat.le_of_ble_eq_true rfl) (Nat.le_of_ble_eq_true rfl) dX4_get_51 54 rfl ?_
  refine r_iload_n C 2 rfl dX4_get_54 55 rfl ?_
  refine i_C (k := 16) C (Nat.le_of_ble_eq_true rfl) (Nat.le_of_ble_eq_true rfl) h.1 dX4_get_55 56 rfl ?_
  replace h := h.2
  exact rx_iret C hE hr hlk (Nat.le_of_ble_eq_true rfl) (Nat.le_of_ble_eq_true rfl) dX4_get_56 h
set_option maxRecDepth 100000 in
set_option maxHeartbeats 4000000 in
theorem ctX4_move {l : Launch} {D : va_G} {A : Nat → Nat} {n : Nat → Nat} {cI cG cR : ClassId} {aK aV : Nat} {a1 : Int32} {a2 : Int32} {S : Nat → Nat → Int32} {Q : Int32 → (Nat → Nat → Int32) → Prop} {QX : String → (Nat → Nat → Int32) → Prop} (hst : l.stackTraces = false) (hi : Apart 32 A)  (h : wX4_move n a1 a2 S Q QX) : Cv l D (tyC cI cG cR) 32 A (ceC A n cI cG cR) (FxC aK aV) yX4_move cX4_move 3 (some .int) 8 129 2 12 [.ref (A 0), .int a1, .int a2] S rI Q QX := by
  refine Cv.of (by decide +kernel) hFx hi [(0, .ref (A 0)), (1, .int a1), (2, .int a2)] rfl (Nat.le_of_ble_eq_true rfl) ?_
  intro p e s m args below meth c Acc C hr hlk htab Qf hE
  unfold wX4_move at h
  refine r_iload_n C 1 rfl dX4_move_0 1 rfl ?_
  refine rx_callS C (As := [.int a1]) hE hlk htab [] (ctX4_lookAtRoot hst hi h) b_256 b_44 b_255 b_254 ⟨by decide +kernel, by decide +kernel, (show (parseMethodDescriptor yX4_lookAtRoot.desc).map (fun d => d.parameters.length) = some 1 by decide +kernel)⟩ ⟨(Nat.le_of_ble_eq_true rfl), (Nat.le_of_ble_eq_true rfl)⟩ rfl (Nat.le_of_ble_eq_true rfl) 1 6 rfl rfl (Nat.le_of_ble_eq_true rfl) (Nat.le_of_ble_eq_true rfl) ⟨(Nat.le_of_ble_eq_true rfl), (Nat.le_of_ble_eq_true rfl)⟩ dX4_move_1 4 rfl (fun r1 S2 h => ?_)
  show J p l e { frames := 8, cells := 2, slots := 12, locals := 129 } s m args below meth c 1 6 Qf D 32 A (ceC A n cI cG cR) Acc 3 S2 4 [(0, .ref (A 0)), (1, .int a1), (2, .int a2)] []
  refine r_iload_n C 2 rfl dX4_move_4 5 rfl ?_
  refine rx_callS C (As := [.int a2]) hE hlk htab [] (ctX4_lookAtRootOrNone hst hi h) b_455 b_44 b_454 b_453 ⟨by decide +kernel, by decide +kernel, (show (parseMethodDescriptor yX4_lookAtRootOrNone.desc).map (fun d => d.parameters.length) = some 1 by decide +kernel)⟩ ⟨(Nat.le_of_ble_eq_true rfl), (Nat.le_of_ble_eq_true rfl)⟩ rfl (Nat.le_of_ble_eq_true rfl) 2 12 rfl rfl (Nat.le_of_ble_eq_true rfl) (Nat.le_of_ble_eq_true rfl) ⟨(Nat.le_of_ble_eq_true rfl), (Nat.le_of_ble_eq_true rfl)⟩ dX4_move_5 8 rfl (fun r3 S4 h => ?_)
  show J p l e { frames := 8, cells := 2, slots := 12, locals := 129 } s m args below meth c 2 12 Qf D 32 A (ceC A n cI cG cR) Acc 3 S4 8 [(0, .ref (A 0)), (1, .int a1), (2, .int a2)] []
  refine r_aload_n C 0 rfl dX4_move_8 9 rfl ?_
  refine g_RX4_18 C dX4_move_9 12 rfl ?_
  refine g_RX4_42 C dX4_move_12 15 rfl ?_
  refine g_RX4_46 (k := 6) C (Nat.le_of_ble_eq_true rfl) (Nat.le_of_ble_eq_true rfl) dX4_move_15 18 rfl ?_
  refine r_iload_n C 1 rfl dX4_move_18 19 rfl ?_
  refine r_aload_n C 0 rfl dX4_move_19 20 rfl ?_
  refine g_RX4_18 C dX4_move_20 23 rfl ?_
  refine r_iload_n C 2 rfl dX4_move_23 24 rfl ?_
  refine k_RX4_71 C (ctX1_rootOrNull hi  h) ⟨(Nat.le_of_ble_eq_true rfl), (Nat.le_of_ble_eq_true rfl)⟩ (Nat.le_of_ble_eq_true rfl) ⟨(Nat.le_of_ble_eq_true rfl), (Nat.le_of_ble_eq_true rfl)⟩ dX4_move_24 27 rfl (fun r5 S6 h => ?_)
  refine s_C (k := 16) C (Nat.le_of_ble_eq_true rfl) (Nat.le_of_ble_eq_true rfl) h.1 dX4_move_27 28 rfl (fun S7 e8 => ?_)
  replace h := h.2
  replace h := h S7 e8
  refine r_aload_n C 0 rfl dX4_move_28 29 rfl ?_
  refine g_RX4_18 C dX4_move_29 32 rfl ?_
  refine g_RX4_42 C dX4_move_32 35 rfl ?_
  refine g_RX4_46 (k := 6) C (Nat.le_of_ble_eq_true rfl) (Nat.le_of_ble_eq_true rfl) dX4_move_35 38 rfl ?_
  refine r_iload_n C 1 rfl dX4_move_38 39 rfl ?_
  refine i_C (k := 16) C (Nat.le_of_ble_eq_true rfl) (Nat.le_of_ble_eq_true rfl) h.1 dX4_move_39 40 rfl ?_
  replace h := h.2
  exact rx_iret C hE hr hlk (Nat.le_of_ble_eq_true rfl) (Nat.le_of_ble_eq_true rfl) dX4_move_40 h
set_option maxRecDepth 100000 in
set_option maxHeartbeats 4000000 in
theorem ctX4_keep {l : Launch} {D : va_G} {A : Nat → Nat} {n : Nat → Nat} {cI cG cR : ClassId} {aK aV : Nat} {a1 : Int32} {S : Nat → Nat → Int32} {Q : Int32 → (Nat → Nat → Int32) → Prop} {QX : String → (Nat → Nat → Int32) → Prop} (hst : l.stackTraces = false) (hi : Apart 32 A)  (h : wX4_keep n a1 S Q QX) : Cv l D (tyC cI cG cR) 32 A (ceC A n cI cG cR) (FxC aK aV) yX4_keep cX4_keep 2 (some .int) 7 109 2 12 [.ref (A 0), .int a1] S rI Q QX := by
  refine Cv.of (by decide +kernel) hFx hi [(0, .ref (A 0)), (1, .int a1)] rfl (Nat.le_of_ble_eq_true rfl) ?_
  intro p e s m args below meth c Acc C hr hlk htab Qf hE
  unfold wX4_keep at h
  refine r_iload_n C 1 rfl dX4_keep_0 1 rfl ?_
  refine rx_callS C (As := [.int a1]) hE hlk htab [] (ctX4_lookAtRoot hst hi h) b_256 b_44 b_255 b_254 ⟨by decide +kernel, by decide +kernel, (show (parseMethodDescriptor yX4_lookAtRoot.desc).map (fun d => d.parameters.length) = some 1 by decide +kernel)⟩ ⟨(Nat.le_of_ble_eq_true rfl), (Nat.le_of_ble_eq_true rfl)⟩ rfl (Nat.le_of_ble_eq_true rfl) 1 6 rfl rfl (Nat.le_of_ble_eq_true rfl) (Nat.le_of_ble_eq_true rfl) ⟨(Nat.le_of_ble_eq_true rfl), (Nat.le_of_ble_eq_true rfl)⟩ dX4_keep_1 4 rfl (fun r1 S2 h => ?_)
  show J p l e { frames := 7, cells := 2, slots := 12, locals := 109 } s m args below meth c 1 6 Qf D 32 A (ceC A n cI cG cR) Acc 2 S2 4 [(0, .ref (A 0)), (1, .int a1)] []
  refine r_aload_n C 0 rfl dX4_keep_4 5 rfl ?_
  refine g_RX4_18 C dX4_keep_5 8 rfl ?_
  refine g_RX4_74 C dX4_keep_8 11 rfl ?_
  refine k_RX4_77 (k := 7) C (Nat.le_of_ble_eq_true rfl) (Nat.le_of_ble_eq_true rfl) (ctX3_isFull hi (Nat.le_of_ble_eq_true rfl) (Nat.le_of_ble_eq_true rfl) h) ⟨(Nat.le_of_ble_eq_true rfl), (Nat.le_of_ble_eq_true rfl)⟩ (Nat.le_of_ble_eq_true rfl) ⟨(Nat.le_of_ble_eq_true rfl), (Nat.le_of_ble_eq_true rfl)⟩ dX4_keep_11 14 rfl (fun r3 S4 h => ?_)
  rcases bool_or r3 with c5 | c5
  · replace h := h.1 c5
    refine r_if_eqF C c5 25 dX4_keep_14 17 rfl rfl ?_
    refine r_aload_n C 0 rfl dX4_keep_25 26 rfl ?_
    refine g_RX4_18 C dX4_keep_26 29 rfl ?_
    refine g_RX4_74 C dX4_keep_29 32 rfl ?_
    refine r_aload_n C 0 rfl dX4_keep_32 33 rfl ?_
    refine g_RX4_18 C dX4_keep_33 36 rfl ?_
    refine g_RX4_42 C dX4_keep_36 39 rfl ?_
    refine g_RX4_46 (k := 6) C (Nat.le_of_ble_eq_true rfl) (Nat.le_of_ble_eq_true rfl) dX4_keep_39 42 rfl ?_
    refine r_iload_n C 1 rfl dX4_keep_42 43 rfl ?_
    refine i_C (k := 16) C (Nat.le_of_ble_eq_true rfl) (Nat.le_of_ble_eq_true rfl) h.1 dX4_keep_43 44 rfl ?_
    replace h := h.2
    refine k_RX4_84 (k := 7) C (Nat.le_of_ble_eq_true rfl) (Nat.le_of_ble_eq_true rfl) (ctX3_add hi (Nat.le_of_ble_eq_true rfl) (Nat.le_of_ble_eq_true rfl) h) ⟨(Nat.le_of_ble_eq_true rfl), (Nat.le_of_ble_eq_true rfl)⟩ (Nat.le_of_ble_eq_true rfl) ⟨(Nat.le_of_ble_eq_true rfl), (Nat.le_of_ble_eq_true rfl)⟩ dX4_keep_44 47 rfl (fun S7 h => ?_)
    refine r_aload_n C 0 rfl dX4_keep_47 48 rfl ?_
    refine g_RX4_18 C dX4_keep_48 51 rfl ?_
    refine g_RX4_74 C dX4_keep_51 54 rfl ?_
    refine g_RX4_87 (k := 7) C (Nat.le_of_ble_eq_true rfl) (Nat.le_of_ble_eq_true rfl) dX4_keep_54 57 rfl ?_
    exact rx_iret C hE hr hlk (Nat.le_of_ble_eq_true rfl) (Nat.le_of_ble_eq_true rfl) dX4_keep_57 h
  · replace h := h.2 c5
    refine r_if_eqT C c5 25 dX4_keep_14 17 rfl rfl ?_
    exact rx_throw C hE hlk htab hst (names := ["java/lang/RuntimeException", "java/lang/Exception"]) (by decide +kernel) (by decide +kernel) e_IS_k e_IS_i e_IS_1 e_IS_2 e_IS_3 dX4_keep_17 dX4_keep_20 dX4_keep_21 dX4_keep_24 ⟨(Nat.le_of_ble_eq_true rfl), (Nat.le_of_ble_eq_true rfl), (Nat.le_of_ble_eq_true rfl), (Nat.le_of_ble_eq_true rfl)⟩ (Nat.le_of_ble_eq_true rfl) (Nat.le_of_ble_eq_true rfl) h
set_option maxRecDepth 100000 in
set_option maxHeartbeats 4000000 in
theorem ctX4_back {l : Launch} {D : va_G} {A : Nat → Nat} {n : Nat → Nat} {cI cG cR : ClassId} {aK aV : Nat} {a1 : Int32} {S : Nat → Nat → Int32} {Q : Int32 → (Nat → Nat → Int32) → Prop} {QX : String → (Nat → Nat → Int32) → Prop} (hst : l.stackTraces = false) (hi : Apart 32 A)  (h : wX4_back n a1 S Q QX) : Cv l D (tyC cI cG cR) 32 A (ceC A n cI cG cR) (FxC aK aV) yX4_back cX4_back 2 (some .int) 7 109 2 12 [.ref (A 0), .int a1] S rI Q QX := by
  refine Cv.of (by decide +kernel) hFx hi [(0, .ref (A 0)), (1, .int a1)] rfl (Nat.le_of_ble_eq_true rfl) ?_
  intro p e s m args below meth c Acc C hr hlk htab Qf hE
  unfold wX4_back at h
  refine r_iload_n C 1 rfl dX4_back_0 1 rfl ?_
  refine rx_callS C (As := [.int a1]) hE hlk htab [] (ctX4_lookAtRoot hst hi h) b_256 b_44 b_255 b_254 ⟨by decide +kernel, by decide +kernel, (show (parseMethodDescriptor yX4_lookAtRoot.desc).map (fun d => d.parameters.length) = some 1 by decide +kernel)⟩ ⟨(Nat.le_of_ble_eq_true rfl), (Nat.le_of_ble_eq_true rfl)⟩ rfl (Nat.le_of_ble_eq_true rfl) 1 6 rfl rfl (Nat.le_of_ble_eq_true rfl) (Nat.le_of_ble_eq_true rfl) ⟨(Nat.le_of_ble_eq_true rfl), (Nat.le_of_ble_eq_true rfl)⟩ dX4_back_1 4 rfl (fun r1 S2 h => ?_)
  show J p l e { frames := 7, cells := 2, slots := 12, locals := 109 } s m args below meth c 1 6 Qf D 32 A (ceC A n cI cG cR) Acc 2 S2 4 [(0, .ref (A 0)), (1, .int a1)] []
  refine r_aload_n C 0 rfl dX4_back_4 5 rfl ?_
  refine g_RX4_18 C dX4_back_5 8 rfl ?_
  refine g_RX4_74 C dX4_back_8 11 rfl ?_
  refine g_RX4_87 (k := 7) C (Nat.le_of_ble_eq_true rfl) (Nat.le_of_ble_eq_true rfl) dX4_back_11 14 rfl ?_
  refine r_if_ne C 25 dX4_back_14 17 rfl rfl (fun c3 => ?_) (fun c3 => ?_)
  · replace h := h.1 c3
    exact rx_throw C hE hlk htab hst (names := ["java/lang/RuntimeException", "java/lang/Exception"]) (by decide +kernel) (by decide +kernel) e_IS_k e_IS_i e_IS_1 e_IS_2 e_IS_3 dX4_back_17 dX4_back_20 dX4_back_21 dX4_back_24 ⟨(Nat.le_of_ble_eq_true rfl), (Nat.le_of_ble_eq_true rfl), (Nat.le_of_ble_eq_true rfl), (Nat.le_of_ble_eq_true rfl)⟩ (Nat.le_of_ble_eq_true rfl) (Nat.le_of_ble_eq_true rfl) h
  · replace h := h.2 c3
    refine r_aload_n C 0 rfl dX4_back_25 26 rfl ?_
    refine g_RX4_18 C dX4_back_26 29 rfl ?_
    refine g_RX4_42 C dX4_back_29 32 rfl ?_
    refine g_RX4_46 (k := 6) C (Nat.le_of_ble_eq_true rfl) (Nat.le_of_ble_eq_true rfl) dX4_back_32 35 rfl ?_
    refine r_iload_n C 1 rfl dX4_back_35 36 rfl ?_
    refine r_aload_n C 0 rfl dX4_back_36 37 rfl ?_
    refine g_RX4_18 C dX4_back_37 40 rfl ?_
    refine g_RX4_74 C dX4_back_40 43 rfl ?_
    refine k_RX4_91 (k := 7) C (Nat.le_of_ble_eq_true rfl) (Nat.le_of_ble_eq_true rfl) (ctX3_takeLast hi (Nat.le_of_ble_eq_true rfl) (Nat.le_of_ble_eq_true rfl) h) ⟨(Nat.le_of_ble_eq_true rfl), (Nat.le_of_ble_eq_true rfl)⟩ (Nat.le_of_ble_eq_true rfl) ⟨(Nat.le_of_ble_eq_true rfl), (Nat.le_of_ble_eq_true rfl)⟩ dX4_back_43 46 rfl (fun r4 S5 h => ?_)
    refine s_C (k := 16) C (Nat.le_of_ble_eq_true rfl) (Nat.le_of_ble_eq_true rfl) h.1 dX4_back_46 47 rfl (fun S6 e7 => ?_)
    replace h := h.2
    replace h := h S6 e7
    refine r_aload_n C 0 rfl dX4_back_47 48 rfl ?_
    refine g_RX4_18 C dX4_back_48 51 rfl ?_
    refine g_RX4_42 C dX4_back_51 54 rfl ?_
    refine g_RX4_46 (k := 6) C (Nat.le_of_ble_eq_true rfl) (Nat.le_of_ble_eq_true rfl) dX4_back_54 57 rfl ?_
    refine r_iload_n C 1 rfl dX4_back_57 58 rfl ?_
    refine i_C (k := 16) C (Nat.le_of_ble_eq_true rfl) (Nat.le_of_ble_eq_true rfl) h.1 dX4_back_58 59 rfl ?_
    replace h := h.2
    exact rx_iret C hE hr hlk (Nat.le_of_ble_eq_true rfl) (Nat.le_of_ble_eq_true rfl) dX4_back_59 h
set_option maxRecDepth 100000 in
set_option maxHeartbeats 4000000 in
theorem ctX4_lookAtWeakPlace {l : Launch} {D : va_G} {A : Nat → Nat} {n : Nat → Nat} {cI cG cR : ClassId} {aK aV : Nat} {a0 : Int32} {S : Nat → Nat → Int32} {Q : Unit → (Nat → Nat → Int32) → Prop} {QX : String → (Nat → Nat → Int32) → Prop} (hst : l.stackTraces = false) (hi : Apart 32 A)  (h : wX4_lookAtWeakPlace n a0 S Q QX) : Cv l D (tyC cI cG cR) 32 A (ceC A n cI cG cR) (FxC aK aV) yX4_lookAtWeakPlace cX4_lookAtWeakPlace 1 none 6 89 1 6 [.int a0] S rU Q QX := by
  refine Cv.of (by decide +kernel) hFx hi [(0, .int a0)] rfl (Nat.le_of_ble_eq_true rfl) ?_
  intro p e s m args below meth c Acc C hr hlk htab Qf hE
  unfold wX4_lookAtWeakPlace at h
  refine r_iload_n C 0 rfl dX4_lookAtWeakPlace_0 1 rfl ?_
  refine r_if_lt C 10 dX4_lookAtWeakPlace_1 4 rfl rfl (fun c1 => ?_) (fun c1 => ?_)
  · replace h := h.1 c1
    exact rx_throw C hE hlk htab hst (names := ["java/lang/RuntimeException", "java/lang/Exception"]) (by decide +kernel) (by decide +kernel) e_IO_k e_IO_i e_IO_1 e_IO_2 e_IO_3 dX4_lookAtWeakPlace_10 dX4_lookAtWeakPlace_13 dX4_lookAtWeakPlace_14 dX4_lookAtWeakPlace_17 ⟨(Nat.le_of_ble_eq_true rfl), (Nat.le_of_ble_eq_true rfl), (Nat.le_of_ble_eq_true rfl), (Nat.le_of_ble_eq_true rfl)⟩ (Nat.le_of_ble_eq_true rfl) (Nat.le_of_ble_eq_true rfl) h
  · replace h := h.2 c1
    refine r_iload_n C 0 rfl dX4_lookAtWeakPlace_4 5 rfl ?_
    refine r_bipush C 8 rfl dX4_lookAtWeakPlace_5 7 rfl ?_
    refine r_icmp_lt C 18 dX4_lookAtWeakPlace_7 10 rfl rfl (fun c2 => ?_) (fun c2 => ?_)
    · replace h := h.1 c2
      exact rx_vret C hE hr hlk (Nat.le_of_ble_eq_true rfl) (Nat.le_of_ble_eq_true rfl) dX4_lookAtWeakPlace_18 h
    · replace h := h.2 c2
      exact rx_throw C hE hlk htab hst (names := ["java/lang/RuntimeException", "java/lang/Exception"]) (by decide +kernel) (by decide +kernel) e_IO_k e_IO_i e_IO_1 e_IO_2 e_IO_3 dX4_lookAtWeakPlace_10 dX4_lookAtWeakPlace_13 dX4_lookAtWeakPlace_14 dX4_lookAtWeakPlace_17 ⟨(Nat.le_of_ble_eq_true rfl), (Nat.le_of_ble_eq_true rfl), (Nat.le_of_ble_eq_true rfl), (Nat.le_of_ble_eq_true rfl)⟩ (Nat.le_of_ble_eq_true rfl) (Nat.le_of_ble_eq_true rfl) h
set_option maxRecDepth 100000 in
set_option maxHeartbeats 4000000 in
theorem ctX4_weak {l : Launch} {D : va_G} {A : Nat → Nat} {n : Nat → Nat} {cI cG cR : ClassId} {aK aV : Nat} {a1 : Int32} {a2 : Int32} {S : Nat → Nat → Int32} {Q : Int32 → (Nat → Nat → Int32) → Prop} {QX : String → (Nat → Nat → Int32) → Prop} (hst : l.stackTraces = false) (hi : Apart 32 A)  (h : wX4_weak n a1 a2 S Q QX) : Cv l D (tyC cI cG cR) 32 A (ceC A n cI cG cR) (FxC aK aV) yX4_weak cX4_weak 4 (some .int) 7 109 2 12 [.ref (A 0), .int a1, .int a2] S rI Q QX := by
  refine Cv.of (by decide +kernel) hFx hi [(0, .ref (A 0)), (1, .int a1), (2, .int a2)] rfl (Nat.le_of_ble_eq_true rfl) ?_
  intro p e s m args below meth c Acc C hr hlk htab Qf hE
  unfold wX4_weak at h
  refine r_iload_n C 1 rfl dX4_weak_0 1 rfl ?_
  refine rx_callS C (As := [.int a1]) hE hlk htab [] (ctX4_lookAtWeakPlace hst hi h) b_534 b_44 b_533 b_532 ⟨by decide +kernel, by decide +kernel, (show (parseMethodDescriptor yX4_lookAtWeakPlace.desc).map (fun d => d.parameters.length) = some 1 by decide +kernel)⟩ ⟨(Nat.le_of_ble_eq_true rfl), (Nat.le_of_ble_eq_true rfl)⟩ rfl (Nat.le_of_ble_eq_true rfl) 1 6 rfl rfl (Nat.le_of_ble_eq_true rfl) (Nat.le_of_ble_eq_true rfl) ⟨(Nat.le_of_ble_eq_true rfl), (Nat.le_of_ble_eq_true rfl)⟩ dX4_weak_1 4 rfl (fun r1 S2 h => ?_)
  show J p l e { frames := 7, cells := 2, slots := 12, locals := 109 } s m args below meth c 1 6 Qf D 32 A (ceC A n cI cG cR) Acc 4 S2 4 [(0, .ref (A 0)), (1, .int a1), (2, .int a2)] []
  refine r_iload_n C 2 rfl dX4_weak_4 5 rfl ?_
  refine rx_callS C (As := [.int a2]) hE hlk htab [] (ctX4_lookAtRoot hst hi h) b_256 b_44 b_255 b_254 ⟨by decide +kernel, by decide +kernel, (show (parseMethodDescriptor yX4_lookAtRoot.desc).map (fun d => d.parameters.length) = some 1 by decide +kernel)⟩ ⟨(Nat.le_of_ble_eq_true rfl), (Nat.le_of_ble_eq_true rfl)⟩ rfl (Nat.le_of_ble_eq_true rfl) 2 12 rfl rfl (Nat.le_of_ble_eq_true rfl) (Nat.le_of_ble_eq_true rfl) ⟨(Nat.le_of_ble_eq_true rfl), (Nat.le_of_ble_eq_true rfl)⟩ dX4_weak_5 8 rfl (fun r3 S4 h => ?_)
  show J p l e { frames := 7, cells := 2, slots := 12, locals := 109 } s m args below meth c 2 12 Qf D 32 A (ceC A n cI cG cR) Acc 4 S4 8 [(0, .ref (A 0)), (1, .int a1), (2, .int a2)] []
  refine r_aload_n C 0 rfl dX4_weak_8 9 rfl ?_
  refine g_RX4_18 C dX4_weak_9 12 rfl ?_
  refine g_RX4_98 C dX4_weak_12 15 rfl ?_
  refine g_RX4_46 (k := 8) C (Nat.le_of_ble_eq_true rfl) (Nat.le_of_ble_eq_true rfl) dX4_weak_15 18 rfl ?_
  refine r_iload_n C 1 rfl dX4_weak_18 19 rfl ?_
  refine i_C (k := 18) C (Nat.le_of_ble_eq_true rfl) (Nat.le_of_ble_eq_true rfl) h.1 dX4_weak_19 20 rfl ?_
  replace h := h.2
  refine r_istore_n C [(3, .int (S4 18 a1.toNatClampNeg)), (0, .ref (A 0)), (1, .int a1), (2, .int a2)] (Nat.le_of_ble_eq_true rfl) rfl dX4_weak_20 21 rfl ?_
  refine r_aload_n C 1 rfl dX4_weak_21 22 rfl ?_
  refine g_RX4_18 C dX4_weak_22 25 rfl ?_
  refine g_RX4_98 C dX4_weak_25 28 rfl ?_
  refine g_RX4_46 (k := 8) C (Nat.le_of_ble_eq_true rfl) (Nat.le_of_ble_eq_true rfl) dX4_weak_28 31 rfl ?_
  refine r_iload_n C 2 rfl dX4_weak_31 32 rfl ?_
  refine r_aload_n C 1 rfl dX4_weak_32 33 rfl ?_
  refine g_RX4_18 C dX4_weak_33 36 rfl ?_
  refine g_RX4_42 C dX4_weak_36 39 rfl ?_
  refine g_RX4_46 (k := 6) C (Nat.le_of_ble_eq_true rfl) (Nat.le_of_ble_eq_true rfl) dX4_weak_39 42 rfl ?_
  refine r_iload_n C 3 rfl dX4_weak_42 43 rfl ?_
  refine i_C (k := 16) C (Nat.le_of_ble_eq_true rfl) (Nat.le_of_ble_eq_true rfl) h.1 dX4_weak_43 44 rfl ?_
  replace h := h.2
  refine s_C (k := 18) C (Nat.le_of_ble_eq_true rfl) (Nat.le_of_ble_eq_true rfl) h.1 dX4_weak_44 45 rfl (fun S5 e6 => ?_)
  replace h := h.2
  replace h := h S5 e6
  refine r_iload_n C 0 rfl dX4_weak_45 46 rfl ?_
  exact rx_iret C hE hr hlk (Nat.le_of_ble_eq_true rfl) (Nat.le_of_ble_eq_true rfl) dX4_weak_46 h
set_option maxRecDepth 100000 in
set_option maxHeartbeats 4000000 in
theorem ctX4_strong {l : Launch} {D : va_G} {A : Nat → Nat} {n : Nat → Nat} {cI cG cR : ClassId} {aK aV : Nat} {a1 : Int32} {a2 : Int32} {S : Nat → Nat → Int32} {Q : Int32 → (Nat → Nat → Int32) → Prop} {QX : String → (Nat → Nat → Int32) → Prop} (hst : l.stackTraces = false) (hi : Apart 32 A)  (h : wX4_strong n a1 a2 S Q QX) : Cv l D (tyC cI cG cR) 32 A (ceC A n cI cG cR) (FxC aK aV) yX4_strong cX4_strong 3 (some .int) 7 109 2 12 [.ref (A 0), .int a1, .int a2] S rI Q QX := by
  refine Cv.of (by decide +kernel) hFx hi [(0, .ref (A 0)), (1, .int a1), (2, .int a2)] rfl (Nat.le_of_ble_eq_true rfl) ?_
  intro p e s m args below meth c Acc C hr hlk htab Qf hE
  unfold wX4_strong at h
  refine r_iload_n C 1 rfl dX4_strong_0 1 rfl ?_
  refine rx_callS C (As := [.int a1]) hE hlk htab [] (ctX4_lookAtRoot hst hi h) b_256 b_44 b_255 b_254 ⟨by decide +kernel, by decide +kernel, (show (parseMethodDescriptor yX4_lookAtRoot.desc).map (fun d => d.parameters.length) = some 1 by decide +kernel)⟩ ⟨(Nat.le_of_ble_eq_true rfl), (Nat.le_of_ble_eq_true rfl)⟩ rfl (Nat.le_of_ble_eq_true rfl) 1 6 rfl rfl (Nat.le_of_ble_eq_true rfl) (Nat.le_of_ble_eq_true rfl) ⟨(Nat.le_of_ble_eq_true rfl), (Nat.le_of_ble_eq_true rfl)⟩ dX4_strong_1 4 rfl (fun r1 S2 h => ?_)
  show J p l e { frames := 7, cells := 2, slots := 12, locals := 109 } s m args below meth c 1 6 Qf D 32 A (ceC A n cI cG cR) Acc 3 S2 4 [(0, .ref (A 0)), (1, .int a1), (2, .int a2)] []
  refine r_iload_n C 2 rfl dX4_strong_4 5 rfl ?_
  refine rx_callS C (As := [.int a2]) hE hlk htab [] (ctX4_lookAtWeakPlace hst hi h) b_534 b_44 b_533 b_532 ⟨by decide +kernel, by decide +kernel, (show (parseMethodDescriptor yX4_lookAtWeakPlace.desc).map (fun d => d.parameters.length) = some 1 by decide +kernel)⟩ ⟨(Nat.le_of_ble_eq_true rfl), (Nat.le_of_ble_eq_true rfl)⟩ rfl (Nat.le_of_ble_eq_true rfl) 2 12 rfl rfl (Nat.le_of_ble_eq_true rfl) (Nat.le_of_ble_eq_true rfl) ⟨(Nat.le_of_ble_eq_true rfl), (Nat.le_of_ble_eq_true rfl)⟩ dX4_strong_5 8 rfl (fun r3 S4 h => ?_)
  show J p l e { frames := 7, cells := 2, slots := 12, locals := 109 } s m args below meth c 2 12 Qf D 32 A (ceC A n cI cG cR) Acc 3 S4 8 [(0, .ref (A 0)), (1, .int a1), (2, .int a2)] []
  refine r_aload_n C 0 rfl dX4_strong_8 9 rfl ?_
  refine g_RX4_18 C dX4_strong_9 12 rfl ?_
  refine g_RX4_42 C dX4_strong_12 15 rfl ?_
  refine g_RX4_46 (k := 6) C (Nat.le_of_ble_eq_true rfl) (Nat.le_of_ble_eq_true rfl) dX4_strong_15 18 rfl ?_
  refine r_iload_n C 1 rfl dX4_strong_18 19 rfl ?_
  refine r_aload_n C 0 rfl dX4_strong_19 20 rfl ?_
  refine g_RX4_18 C dX4_strong_20 23 rfl ?_
  refine g_RX4_98 C dX4_strong_23 26 rfl ?_
  refine g_RX4_46 (k := 8) C (Nat.le_of_ble_eq_true rfl) (Nat.le_of_ble_eq_true rfl) dX4_strong_26 29 rfl ?_
  refine r_iload_n C 2 rfl dX4_strong_29 30 rfl ?_
  refine i_C (k := 18) C (Nat.le_of_ble_eq_true rfl) (Nat.le_of_ble_eq_true rfl) h.1 dX4_strong_30 31 rfl ?_
  replace h := h.2
  refine s_C (k := 16) C (Nat.le_of_ble_eq_true rfl) (Nat.le_of_ble_eq_true rfl) h.1 dX4_strong_31 32 rfl (fun S5 e6 => ?_)
  replace h := h.2
  replace h := h S5 e6
  refine r_aload_n C 0 rfl dX4_strong_32 33 rfl ?_
  refine g_RX4_18 C dX4_strong_33 36 rfl ?_
  refine g_RX4_42 C dX4_strong_36 39 rfl ?_
  refine g_RX4_46 (k := 6) C (Nat.le_of_ble_eq_true rfl) (Nat.le_of_ble_eq_true rfl) dX4_strong_39 42 rfl ?_
  refine r_iload_n C 1 rfl dX4_strong_42 43 rfl ?_
  refine i_C (k := 16) C (Nat.le_of_ble_eq_true rfl) (Nat.le_of_ble_eq_true rfl) h.1 dX4_strong_43 44 rfl ?_
  replace h := h.2
  exact rx_iret C hE hr hlk (Nat.le_of_ble_eq_true rfl) (Nat.le_of_ble_eq_true rfl) dX4_strong_44 h
set_option maxRecDepth 100000 in
set_option maxHeartbeats 4000000 in
theorem ctX4_wish {l : Launch} {D : va_G} {A : Nat → Nat} {n : Nat → Nat} {cI cG cR : ClassId} {aK aV : Nat} {a1 : Int32} {S : Nat → Nat → Int32} {Q : Int32 → (Nat → Nat → Int32) → Prop} {QX : String → (Nat → Nat → Int32) → Prop} (hst : l.stackTraces = false) (hi : Apart 32 A)  (h : wX4_wish n a1 S Q QX) : Cv l D (tyC cI cG cR) 32 A (ceC A n cI cG cR) (FxC aK aV) yX4_wish cX4_wish 2 (some .int) 7 109 1 6 [.ref (A 0), .int a1] S rI Q QX := by
  refine Cv.of (by decide +kernel) hFx hi [(0, .ref (A 0)), (1, .int a1)] rfl (Nat.le_of_ble_eq_true rfl) ?_
  intro p e s m args below meth c Acc C hr hlk htab Qf hE
  unfold wX4_wish at h
  refine r_iload_n C 1 rfl dX4_wish_0 1 rfl ?_
  refine rx_callS C (As := [.int a1]) hE hlk htab [] (ctX4_lookAtRoot hst hi h) b_256 b_44 b_255 b_254 ⟨by decide +kernel, by decide +kernel, (show (parseMethodDescriptor yX4_lookAtRoot.desc).map (fun d => d.parameters.length) = some 1 by decide +kernel)⟩ ⟨(Nat.le_of_ble_eq_true rfl), (Nat.le_of_ble_eq_true rfl)⟩ rfl (Nat.le_of_ble_eq_true rfl) 1 6 rfl rfl (Nat.le_of_ble_eq_true rfl) (Nat.le_of_ble_eq_true rfl) ⟨(Nat.le_of_ble_eq_true rfl), (Nat.le_of_ble_eq_true rfl)⟩ dX4_wish_1 4 rfl (fun r1 S2 h => ?_)
  show J p l e { frames := 7, cells := 1, slots := 6, locals := 109 } s m args below meth c 1 6 Qf D 32 A (ceC A n cI cG cR) Acc 2 S2 4 [(0, .ref (A 0)), (1, .int a1)] []
  refine r_aload_n C 0 rfl dX4_wish_4 5 rfl ?_
  refine g_RX4_18 C dX4_wish_5 8 rfl ?_
  refine g_RX4_101 C dX4_wish_8 11 rfl ?_
  refine g_RX4_87 (k := 10) C (Nat.le_of_ble_eq_true rfl) (Nat.le_of_ble_eq_true rfl) dX4_wish_11 14 rfl ?_
  refine r_if_ne C 19 dX4_wish_14 17 rfl rfl (fun c3 => ?_) (fun c3 => ?_)
  · replace h := h.1 c3
    refine r_iconst C 0 rfl dX4_wish_17 18 rfl ?_
    exact rx_iret C hE hr hlk (Nat.le_of_ble_eq_true rfl) (Nat.le_of_ble_eq_true rfl) dX4_wish_18 h
  · replace h := h.2 c3
    refine r_aload_n C 0 rfl dX4_wish_19 20 rfl ?_
    refine g_RX4_18 C dX4_wish_20 23 rfl ?_
    refine g_RX4_42 C dX4_wish_23 26 rfl ?_
    refine g_RX4_46 (k := 6) C (Nat.le_of_ble_eq_true rfl) (Nat.le_of_ble_eq_true rfl) dX4_wish_26 29 rfl ?_
    refine r_iload_n C 1 rfl dX4_wish_29 30 rfl ?_
    refine r_aload_n C 0 rfl dX4_wish_30 31 rfl ?_
    refine g_RX4_18 C dX4_wish_31 34 rfl ?_
    refine g_RX4_101 C dX4_wish_34 37 rfl ?_
    refine k_RX4_104 (k := 10) C (Nat.le_of_ble_eq_true rfl) (Nat.le_of_ble_eq_true rfl) (ctX3_takeFirst hi (Nat.le_of_ble_eq_true rfl) (Nat.le_of_ble_eq_true rfl) h) ⟨(Nat.le_of_ble_eq_true rfl), (Nat.le_of_ble_eq_true rfl)⟩ (Nat.le_of_ble_eq_true rfl) ⟨(Nat.le_of_ble_eq_true rfl), (Nat.le_of_ble_eq_true rfl)⟩ dX4_wish_37 40 rfl (fun r4 S5 h => ?_)
    refine s_C (k := 16) C (Nat.le_of_ble_eq_true rfl) (Nat.le_of_ble_eq_true rfl) h.1 dX4_wish_40 41 rfl (fun S6 e7 => ?_)
    replace h := h.2
    replace h := h S6 e7
    refine r_aload_n C 0 rfl dX4_wish_41 42 rfl ?_
    refine g_RX4_18 C dX4_wish_42 45 rfl ?_
    refine g_RX4_42 C dX4_wish_45 48 rfl ?_
    refine g_RX4_46 (k := 6) C (Nat.le_of_ble_eq_true rfl) (Nat.le_of_ble_eq_true rfl) dX4_wish_48 51 rfl ?_
    refine r_iload_n C 1 rfl dX4_wish_51 52 rfl ?_
    refine i_C (k := 16) C (Nat.le_of_ble_eq_true rfl) (Nat.le_of_ble_eq_true rfl) h.1 dX4_wish_52 53 rfl ?_
    replace h := h.2
    exact rx_iret C hE hr hlk (Nat.le_of_ble_eq_true rfl) (Nat.le_of_ble_eq_true rfl) dX4_wish_53 h
set_option maxRecDepth 100000 in
set_option maxHeartbeats 4000000 in
theorem ctX4_collect {l : Launch} {D : va_G} {A : Nat → Nat} {n : Nat → Nat} {cI cG cR : ClassId} {aK aV : Nat} {a1 : Int32} {S : Nat → Nat → Int32} {Q : Int32 → (Nat → Nat → Int32) → Prop} {QX : String → (Nat → Nat → Int32) → Prop} (hst : l.stackTraces = false) (hi : Apart 32 A)  (h : wX4_collect n a1 S Q QX) : Cv l D (tyC cI cG cR) 32 A (ceC A n cI cG cR) (FxC aK aV) yX4_collect cX4_collect 2 (some .int) 6 121 1 6 [.ref (A 0), .int a1] S rI Q QX := by
  refine Cv.of (by decide +kernel) hFx hi [(0, .ref (A 0)), (1, .int a1)] rfl (Nat.le_of_ble_eq_true rfl) ?_
  intro p e s m args below meth c Acc C hr hlk htab Qf hE
  unfold wX4_collect at h
  refine r_iload_n C 1 rfl dX4_collect_0 1 rfl ?_
  refine r_if_lt C 9 dX4_collect_1 4 rfl rfl (fun c1 => ?_) (fun c1 => ?_)
  · replace h := h.1 c1
    exact rx_throw C hE hlk htab hst (names := ["java/lang/RuntimeException", "java/lang/Exception"]) (by decide +kernel) (by decide +kernel) e_IA_k e_IA_i e_IA_1 e_IA_2 e_IA_3 dX4_collect_9 dX4_collect_12 dX4_collect_13 dX4_collect_16 ⟨(Nat.le_of_ble_eq_true rfl), (Nat.le_of_ble_eq_true rfl), (Nat.le_of_ble_eq_true rfl), (Nat.le_of_ble_eq_true rfl)⟩ (Nat.le_of_ble_eq_true rfl) (Nat.le_of_ble_eq_true rfl) h
  · replace h := h.2 c1
    refine r_iload_n C 1 rfl dX4_collect_4 5 rfl ?_
    refine r_iconst C 3 rfl dX4_collect_5 6 rfl ?_
    refine r_icmp_lt C 17 dX4_collect_6 9 rfl rfl (fun c2 => ?_) (fun c2 => ?_)
    · replace h := h.1 c2
      refine r_aload_n C 0 rfl dX4_collect_17 18 rfl ?_
      refine g_RX4_18 C dX4_collect_18 21 rfl ?_
      refine r_iload_n C 1 rfl dX4_collect_21 22 rfl ?_
      refine k_RX4_107 C (ctX1_gather hi  h) ⟨(Nat.le_of_ble_eq_true rfl), (Nat.le_of_ble_eq_true rfl)⟩ (Nat.le_of_ble_eq_true rfl) ⟨(Nat.le_of_ble_eq_true rfl), (Nat.le_of_ble_eq_true rfl)⟩ dX4_collect_22 25 rfl (fun r3 S4 h => ?_)
      exact rx_iret C hE hr hlk (Nat.le_of_ble_eq_true rfl) (Nat.le_of_ble_eq_true rfl) dX4_collect_25 h
    · replace h := h.2 c2
      exact rx_throw C hE hlk htab hst (names := ["java/lang/RuntimeException", "java/lang/Exception"]) (by decide +kernel) (by decide +kernel) e_IA_k e_IA_i e_IA_1 e_IA_2 e_IA_3 dX4_collect_9 dX4_collect_12 dX4_collect_13 dX4_collect_16 ⟨(Nat.le_of_ble_eq_true rfl), (Nat.le_of_ble_eq_true rfl), (Nat.le_of_ble_eq_true rfl), (Nat.le_of_ble_eq_true rfl)⟩ (Nat.le_of_ble_eq_true rfl) (Nat.le_of_ble_eq_true rfl) h
set_option maxRecDepth 100000 in
set_option maxHeartbeats 4000000 in
theorem ctX4_root {l : Launch} {D : va_G} {A : Nat → Nat} {n : Nat → Nat} {cI cG cR : ClassId} {aK aV : Nat} {a1 : Int32} {S : Nat → Nat → Int32} {Q : Int32 → (Nat → Nat → Int32) → Prop} {QX : String → (Nat → Nat → Int32) → Prop} (hst : l.stackTraces = false) (hi : Apart 32 A)  (h : wX4_root n a1 S Q QX) : Cv l D (tyC cI cG cR) 32 A (ceC A n cI cG cR) (FxC aK aV) yX4_root cX4_root 2 (some .int) 7 109 1 6 [.ref (A 0), .int a1] S rI Q QX := by
  refine Cv.of (by decide +kernel) hFx hi [(0, .ref (A 0)), (1, .int a1)] rfl (Nat.le_of_ble_eq_true rfl) ?_
  intro p e s m args below meth c Acc C hr hlk htab Qf hE
  unfold wX4_root at h
  refine r_iload_n C 1 rfl dX4_root_0 1 rfl ?_
  refine rx_callS C (As := [.int a1]) hE hlk htab [] (ctX4_lookAtRoot hst hi h) b_256 b_44 b_255 b_254 ⟨by decide +kernel, by decide +kernel, (show (parseMethodDescriptor yX4_lookAtRoot.desc).map (fun d => d.parameters.length) = some 1 by decide +kernel)⟩ ⟨(Nat.le_of_ble_eq_true rfl), (Nat.le_of_ble_eq_true rfl)⟩ rfl (Nat.le_of_ble_eq_true rfl) 1 6 rfl rfl (Nat.le_of_ble_eq_true rfl) (Nat.le_of_ble_eq_true rfl) ⟨(Nat.le_of_ble_eq_true rfl), (Nat.le_of_ble_eq_true rfl)⟩ dX4_root_1 4 rfl (fun r1 S2 h => ?_)
  show J p l e { frames := 7, cells := 1, slots := 6, locals := 109 } s m args below meth c 1 6 Qf D 32 A (ceC A n cI cG cR) Acc 2 S2 4 [(0, .ref (A 0)), (1, .int a1)] []
  refine r_aload_n C 0 rfl dX4_root_4 5 rfl ?_
  refine g_RX4_18 C dX4_root_5 8 rfl ?_
  refine g_RX4_42 C dX4_root_8 11 rfl ?_
  refine g_RX4_46 (k := 6) C (Nat.le_of_ble_eq_true rfl) (Nat.le_of_ble_eq_true rfl) dX4_root_11 14 rfl ?_
  refine r_iload_n C 1 rfl dX4_root_14 15 rfl ?_
  refine i_C (k := 16) C (Nat.le_of_ble_eq_true rfl) (Nat.le_of_ble_eq_true rfl) h.1 dX4_root_15 16 rfl ?_
  replace h := h.2
  exact rx_iret C hE hr hlk (Nat.le_of_ble_eq_true rfl) (Nat.le_of_ble_eq_true rfl) dX4_root_16 h
set_option maxRecDepth 100000 in
set_option maxHeartbeats 4000000 in
theorem ctX4_about {l : Launch} {D : va_G} {A : Nat → Nat} {n : Nat → Nat} {cI cG cR : ClassId} {aK aV : Nat} {a1 : Int32} {a2 : Int32} {S : Nat → Nat → Int32} {Q : Int32 → (Nat → Nat → Int32) → Prop} {QX : String → (Nat → Nat → Int32) → Prop} (hst : l.stackTraces = false) (hi : Apart 32 A)  (h : wX4_about n a1 a2 S Q QX) : Cv l D (tyC cI cG cR) 32 A (ceC A n cI cG cR) (FxC aK aV) yX4_about cX4_about 4 (some .int) 7 111 3 18 [.ref (A 0), .int a1, .int a2] S rI Q QX := by
  refine Cv.of (by decide +kernel) hFx hi [(0, .ref (A 0)), (1, .int a1), (2, .int a2)] rfl (Nat.le_of_ble_eq_true rfl) ?_
  intro p e s m args below meth c Acc C hr hlk htab Qf hE
  unfold wX4_about at h
  refine r_iload_n C 1 rfl dX4_about_0 1 rfl ?_
  refine rx_callS C (As := [.int a1]) hE hlk htab [] (ctX4_lookAtRoot hst hi h) b_256 b_44 b_255 b_254 ⟨by decide +kernel, by decide +kernel, (show (parseMethodDescriptor yX4_lookAtRoot.desc).map (fun d => d.parameters.length) = some 1 by decide +kernel)⟩ ⟨(Nat.le_of_ble_eq_true rfl), (Nat.le_of_ble_eq_true rfl)⟩ rfl (Nat.le_of_ble_eq_true rfl) 1 6 rfl rfl (Nat.le_of_ble_eq_true rfl) (Nat.le_of_ble_eq_true rfl) ⟨(Nat.le_of_ble_eq_true rfl), (Nat.le_of_ble_eq_true rfl)⟩ dX4_about_1 4 rfl (fun r1 S2 h => ?_)
  show J p l e { frames := 7, cells := 3, slots := 18, locals := 111 } s m args below meth c 1 6 Qf D 32 A (ceC A n cI cG cR) Acc 4 S2 4 [(0, .ref (A 0)), (1, .int a1), (2, .int a2)] []
  refine r_aload_n C 0 rfl dX4_about_4 5 rfl ?_
  refine r_iload_n C 1 rfl dX4_about_5 6 rfl ?_
  refine rx_callV C (As := [.int a1]) (ci := 4) (T := TX4) (nF := 2) hE hlk htab 0 [] (ctX4_objectOf hst hi h) (Nat.le_of_ble_eq_true rfl) (heC_4 _) rfl b_459 b_44 b_458 b_11 b_456 ⟨by decide +kernel, by decide +kernel, (show (parseMethodDescriptor yX4_objectOf.desc).map (fun d => d.parameters.length) = some 1 by decide +kernel)⟩ ⟨(Nat.le_of_ble_eq_true rfl), (Nat.le_of_ble_eq_true rfl)⟩ rfl (Nat.le_of_ble_eq_true rfl) 2 12 rfl rfl (Nat.le_of_ble_eq_true rfl) (Nat.le_of_ble_eq_true rfl) ⟨(Nat.le_of_ble_eq_true rfl), (Nat.le_of_ble_eq_true rfl)⟩ dX4_about_6 9 rfl (fun r3 S4 h => ?_)
  show J p l e { frames := 7, cells := 3, slots := 18, locals := 111 } s m args below meth c 2 12 Qf D 32 A (ceC A n cI cG cR) Acc 4 S4 9 [(0, .ref (A 0)), (1, .int a1), (2, .int a2)] [.int r3]
  refine r_istore_n C [(3, .int r3), (0, .ref (A 0)), (1, .int a1), (2, .int a2)] (Nat.le_of_ble_eq_true rfl) rfl dX4_about_9 10 rfl ?_
  refine r_iload_n C 3 rfl dX4_about_10 11 rfl ?_
  by_cases c5 : a2 = 0
  · replace h := h.1 c5
    refine r_sw C 0 c5 44 dX4_about_11 (by decide) (by decide) rfl rfl ?_
    refine r_aload_n C 1 rfl dX4_about_44 45 rfl ?_
    refine g_RX4_18 C dX4_about_45 48 rfl ?_
    refine r_iload_n C 0 rfl dX4_about_48 49 rfl ?_
    refine k_RX4_110 C (ctX1_fieldsOf hi  h) ⟨(Nat.le_of_ble_eq_true rfl), (Nat.le_of_ble_eq_true rfl)⟩ (Nat.le_of_ble_eq_true rfl) ⟨(Nat.le_of_ble_eq_true rfl), (Nat.le_of_ble_eq_true rfl)⟩ dX4_about_49 52 rfl (fun r6 S7 h => ?_)
    exact rx_iret C hE hr hlk (Nat.le_of_ble_eq_true rfl) (Nat.le_of_ble_eq_true rfl) dX4_about_52 h
  · replace h := h.2
    by_cases c8 : a2 = 1
    · replace h := h.1 c8
      refine r_sw C 1 c8 53 dX4_about_11 (by decide) (by decide) rfl rfl ?_
      refine r_aload_n C 1 rfl dX4_about_53 54 rfl ?_
      refine g_RX4_18 C dX4_about_54 57 rfl ?_
      refine r_iload_n C 0 rfl dX4_about_57 58 rfl ?_
      refine k_RX4_113 C (ctX1_ageOf hi  h) ⟨(Nat.le_of_ble_eq_true rfl), (Nat.le_of_ble_eq_true rfl)⟩ (Nat.le_of_ble_eq_true rfl) ⟨(Nat.le_of_ble_eq_true rfl), (Nat.le_of_ble_eq_true rfl)⟩ dX4_about_58 61 rfl (fun r9 S10 h => ?_)
      exact rx_iret C hE hr hlk (Nat.le_of_ble_eq_true rfl) (Nat.le_of_ble_eq_true rfl) dX4_about_61 h
    · replace h := h.2
      by_cases c11 : a2 = 2
      · replace h := h.1 c11
        refine r_sw C 2 c11 62 dX4_about_11 (by decide) (by decide) rfl rfl ?_
        refine r_aload_n C 1 rfl dX4_about_62 63 rfl ?_
        refine g_RX4_18 C dX4_about_63 66 rfl ?_
        refine r_iload_n C 0 rfl dX4_about_66 67 rfl ?_
        refine k_RX4_116 C (ctX1_isKeen hi  h) ⟨(Nat.le_of_ble_eq_true rfl), (Nat.le_of_ble_eq_true rfl)⟩ (Nat.le_of_ble_eq_true rfl) ⟨(Nat.le_of_ble_eq_true rfl), (Nat.le_of_ble_eq_true rfl)⟩ dX4_about_67 70 rfl (fun r12 S13 h => ?_)
        rcases bool_or r12 with c14 | c14
        · replace h := h.1 c14
          refine r_if_eqF C c14 77 dX4_about_70 73 rfl rfl ?_
          refine r_iconst C 0 rfl dX4_about_77 78 rfl ?_
          exact rx_iret C hE hr hlk (Nat.le_of_ble_eq_true rfl) (Nat.le_of_ble_eq_true rfl) dX4_about_78 h
        · replace h := h.2 c14
          refine r_if_eqT C c14 77 dX4_about_70 73 rfl rfl ?_
          refine r_iconst C 1 rfl dX4_about_73 74 rfl ?_
          refine r_goto C 78 dX4_about_74 rfl ?_
          exact rx_iret C hE hr hlk (Nat.le_of_ble_eq_true rfl) (Nat.le_of_ble_eq_true rfl) dX4_about_78 h
      · replace h := h.2
        by_cases c15 : a2 = 3
        · replace h := h.1 c15
          refine r_sw C 3 c15 79 dX4_about_11 (by decide) (by decide) rfl rfl ?_
          refine r_aload_n C 1 rfl dX4_about_79 80 rfl ?_
          refine g_RX4_18 C dX4_about_80 83 rfl ?_
          refine r_iload_n C 0 rfl dX4_about_83 84 rfl ?_
          refine k_RX4_120 C (ctX1_labelOf hi  h) ⟨(Nat.le_of_ble_eq_true rfl), (Nat.le_of_ble_eq_true rfl)⟩ (Nat.le_of_ble_eq_true rfl) ⟨(Nat.le_of_ble_eq_true rfl), (Nat.le_of_ble_eq_true rfl)⟩ dX4_about_84 87 rfl (fun r16 S17 h => ?_)
          exact rx_iret C hE hr hlk (Nat.le_of_ble_eq_true rfl) (Nat.le_of_ble_eq_true rfl) dX4_about_87 h
        · replace h := h.2
          by_cases c18 : a2 = 4
          · replace h := h.1 c18
            refine r_sw C 4 c18 88 dX4_about_11 (by decide) (by decide) rfl rfl ?_
            refine r_aload_n C 1 rfl dX4_about_88 89 rfl ?_
            refine g_RX4_18 C dX4_about_89 92 rfl ?_
            refine r_iload_n C 0 rfl dX4_about_92 93 rfl ?_
            refine k_RX4_123 C (ctX1_homeOf hi  h) ⟨(Nat.le_of_ble_eq_true rfl), (Nat.le_of_ble_eq_true rfl)⟩ (Nat.le_of_ble_eq_true rfl) ⟨(Nat.le_of_ble_eq_true rfl), (Nat.le_of_ble_eq_true rfl)⟩ dX4_about_93 96 rfl (fun r19 S20 h => ?_)
            have hb21 := h.1
            replace h := h.2
            refine g_RX4_127 (k := (3 + r19)) C (Nat.le_add_right 3 r19) (Nat.add_lt_add_left hb21 3) dX4_about_96 99 rfl ?_
            exact rx_iret C hE hr hlk (Nat.le_of_ble_eq_true rfl) (Nat.le_of_ble_eq_true rfl) dX4_about_99 h
          · replace h := h.2
            replace h := h c5 c8 c11 c15 c18
            have hsw : (a2).toInt < 0 ∨ 4 < (a2).toInt := by
              have c5t := lv_neT (k := 0) (a := 0) c5 (by decide)
              have c8t := lv_neT (k := 1) (a := 1) c8 (by decide)
              have c11t := lv_neT (k := 2) (a := 2) c11 (by decide)
              have c15t := lv_neT (k := 3) (a := 3) c15 (by decide)
              have c18t := lv_neT (k := 4) (a := 4) c18 (by decide)
              omega
            refine r_tableOut C 100 dX4_about_11 hsw rfl ?_
            refine r_aload_n C 1 rfl dX4_about_100 101 rfl ?_
            refine r_iload_n C 0 rfl dX4_about_101 102 rfl ?_
            refine r_iload_n C 3 rfl dX4_about_102 103 rfl ?_
            refine r_iconst C 5 rfl dX4_about_103 104 rfl ?_
            refine r_isub C dX4_about_104 105 rfl ?_
            refine rx_callV C (As := [.int r3, .int (a2 - 5)]) (ci := 4) (T := TX4) (nF := 2) hE hlk htab 0 [] (ctX4_lookAtField hst hi h) (Nat.le_of_ble_eq_true rfl) (heC_4 _) rfl b_478 b_44 b_477 b_12 b_475 ⟨by decide +kernel, by decide +kernel, (show (parseMethodDescriptor yX4_lookAtField.desc).map (fun d => d.parameters.length) = some 2 by decide +kernel)⟩ ⟨(Nat.le_of_ble_eq_true rfl), (Nat.le_of_ble_eq_true rfl)⟩ rfl (Nat.le_of_ble_eq_true rfl) 3 18 rfl rfl (Nat.le_of_ble_eq_true rfl) (Nat.le_of_ble_eq_true rfl) ⟨(Nat.le_of_ble_eq_true rfl), (Nat.le_of_ble_eq_true rfl)⟩ dX4_about_105 108 rfl (fun r22 S23 h => ?_)
            show J p l e { frames := 7, cells := 3, slots := 18, locals := 111 } s m args below meth c 3 18 Qf D 32 A (ceC A n cI cG cR) Acc 4 S23 108 [(3, .int r3), (0, .ref (A 0)), (1, .int a1), (2, .int a2)] []
            refine r_aload_n C 1 rfl dX4_about_108 109 rfl ?_
            refine g_RX4_18 C dX4_about_109 112 rfl ?_
            refine r_iload_n C 0 rfl dX4_about_112 113 rfl ?_
            refine r_iload_n C 3 rfl dX4_about_113 114 rfl ?_
            refine r_iconst C 5 rfl dX4_about_114 115 rfl ?_
            refine r_isub C dX4_about_115 116 rfl ?_
            refine k_RX4_67 C (ctX1_fieldOf hi  h) ⟨(Nat.le_of_ble_eq_true rfl), (Nat.le_of_ble_eq_true rfl)⟩ (Nat.le_of_ble_eq_true rfl) ⟨(Nat.le_of_ble_eq_true rfl), (Nat.le_of_ble_eq_true rfl)⟩ dX4_about_116 119 rfl (fun r24 S25 h => ?_)
            exact rx_iret C hE hr hlk (Nat.le_of_ble_eq_true rfl) (Nat.le_of_ble_eq_true rfl) dX4_about_119 h
set_option maxRecDepth 100000 in
set_option maxHeartbeats 4000000 in
theorem ctX4_word {l : Launch} {D : va_G} {A : Nat → Nat} {n : Nat → Nat} {cI cG cR : ClassId} {aK aV : Nat} {a1 : Int32} {S : Nat → Nat → Int32} {Q : Int32 → (Nat → Nat → Int32) → Prop} {QX : String → (Nat → Nat → Int32) → Prop} (hst : l.stackTraces = false) (hi : Apart 32 A)  (h : wX4_word n a1 S Q QX) : Cv l D (tyC cI cG cR) 32 A (ceC A n cI cG cR) (FxC aK aV) yX4_word cX4_word 2 (some .int) 6 89 1 6 [.ref (A 0), .int a1] S rI Q QX := by
  refine Cv.of (by decide +kernel) hFx hi [(0, .ref (A 0)), (1, .int a1)] rfl (Nat.le_of_ble_eq_true rfl) ?_
  intro p e s m args below meth c Acc C hr hlk htab Qf hE
  unfold wX4_word at h
  refine r_aload_n C 0 rfl dX4_word_0 1 rfl ?_
  refine g_RX4_18 C dX4_word_1 4 rfl ?_
  refine r_iload_n C 1 rfl dX4_word_4 5 rfl ?_
  refine k_RX4_132 C (ctX1_isTaken hi  h) ⟨(Nat.le_of_ble_eq_true rfl), (Nat.le_of_ble_eq_true rfl)⟩ (Nat.le_of_ble_eq_true rfl) ⟨(Nat.le_of_ble_eq_true rfl), (Nat.le_of_ble_eq_true rfl)⟩ dX4_word_5 8 rfl (fun r1 S2 h => ?_)
  rcases bool_or r1 with c3 | c3
  · replace h := h.1 c3
    refine r_if_neF C c3 19 dX4_word_8 11 rfl rfl ?_
    exact rx_throw C hE hlk htab hst (names := ["java/lang/RuntimeException", "java/lang/Exception"]) (by decide +kernel) (by decide +kernel) e_IO_k e_IO_i e_IO_1 e_IO_2 e_IO_3 dX4_word_11 dX4_word_14 dX4_word_15 dX4_word_18 ⟨(Nat.le_of_ble_eq_true rfl), (Nat.le_of_ble_eq_true rfl), (Nat.le_of_ble_eq_true rfl), (Nat.le_of_ble_eq_true rfl)⟩ (Nat.le_of_ble_eq_true rfl) (Nat.le_of_ble_eq_true rfl) h
  · replace h := h.2 c3
    refine r_if_neT C c3 19 dX4_word_8 11 rfl rfl ?_
    refine r_aload_n C 0 rfl dX4_word_19 20 rfl ?_
    refine g_RX4_18 C dX4_word_20 23 rfl ?_
    refine g_RX4_138 C dX4_word_23 26 rfl ?_
    refine r_iload_n C 1 rfl dX4_word_26 27 rfl ?_
    refine i_C (k := 26) C (Nat.le_of_ble_eq_true rfl) (Nat.le_of_ble_eq_true rfl) h.1 dX4_word_27 28 rfl ?_
    replace h := h.2
    exact rx_iret C hE hr hlk (Nat.le_of_ble_eq_true rfl) (Nat.le_of_ble_eq_true rfl) dX4_word_28 h
set_option maxRecDepth 100000 in
set_option maxHeartbeats 4000000 in
theorem ctX4_row {l : Launch} {D : va_G} {A : Nat → Nat} {n : Nat → Nat} {cI cG cR : ClassId} {aK aV : Nat} {a1 : Int32} {a2 : Int32} {S : Nat → Nat → Int32} {Q : Int32 → (Nat → Nat → Int32) → Prop} {QX : String → (Nat → Nat → Int32) → Prop} (hst : l.stackTraces = false) (hi : Apart 32 A)  (h : wX4_row n a1 a2 S Q QX) : Cv l D (tyC cI cG cR) 32 A (ceC A n cI cG cR) (FxC aK aV) yX4_row cX4_row 4 (some .int) 6 89 1 6 [.ref (A 0), .int a1, .int a2] S rI Q QX := by
  refine Cv.of (by decide +kernel) hFx hi [(0, .ref (A 0)), (1, .int a1), (2, .int a2)] rfl (Nat.le_of_ble_eq_true rfl) ?_
  intro p e s m args below meth c Acc C hr hlk htab Qf hE
  unfold wX4_row at h
  refine r_aload_n C 0 rfl dX4_row_0 1 rfl ?_
  refine g_RX4_18 C dX4_row_1 4 rfl ?_
  refine r_iload_n C 1 rfl dX4_row_4 5 rfl ?_
  refine k_RX4_141 C (ctX1_rowOf hi  h) ⟨(Nat.le_of_ble_eq_true rfl), (Nat.le_of_ble_eq_true rfl)⟩ (Nat.le_of_ble_eq_true rfl) ⟨(Nat.le_of_ble_eq_true rfl), (Nat.le_of_ble_eq_true rfl)⟩ dX4_row_5 8 rfl (fun r1 S2 h => ?_)
  obtain ⟨hb3, h⟩ := h
  rcases r1 with _ | g4
  · replace h := h.1 rfl
    show J p l e { frames := 6, cells := 1, slots := 6, locals := 89 } s m args below meth c 0 0 Qf D 32 A (ceC A n cI cG cR) Acc 4 S2 8 [(0, .ref (A 0)), (1, .int a1), (2, .int a2)] [.null]
    refine r_astore_nN C [(3, .null), (0, .ref (A 0)), (1, .int a1), (2, .int a2)] (Nat.le_of_ble_eq_true rfl) rfl dX4_row_8 9 rfl ?_
    refine r_aload_nN C 0 rfl dX4_row_9 10 rfl ?_
    refine r_ifnullN C 25 dX4_row_10 rfl ?_
    exact rx_throw C hE hlk htab hst (names := ["java/lang/RuntimeException", "java/lang/Exception"]) (by decide +kernel) (by decide +kernel) e_IO_k e_IO_i e_IO_1 e_IO_2 e_IO_3 dX4_row_25 dX4_row_28 dX4_row_29 dX4_row_32 ⟨(Nat.le_of_ble_eq_true rfl), (Nat.le_of_ble_eq_true rfl), (Nat.le_of_ble_eq_true rfl), (Nat.le_of_ble_eq_true rfl)⟩ (Nat.le_of_ble_eq_true rfl) (Nat.le_of_ble_eq_true rfl) h
  · replace h := h.2 g4 rfl
    replace hb3 := hb3 g4 rfl
    refine r_state0 (g := g4) ?_
    show J p l e { frames := 6, cells := 1, slots := 6, locals := 89 } s m args below meth c 0 0 Qf D 32 A (ceC A n cI cG cR) Acc 4 S2 8 [(0, .ref (A 0)), (1, .int a1), (2, .int a2)] [.ref (A g4)]
    refine r_astore_n C [(3, .ref (A g4)), (0, .ref (A 0)), (1, .int a1), (2, .int a2)] (Nat.le_of_ble_eq_true rfl) rfl dX4_row_8 9 rfl ?_
    refine r_aload_n C 0 rfl dX4_row_9 10 rfl ?_
    refine r_ifnull C dX4_row_10 13 rfl ?_
    refine r_iload_n C 3 rfl dX4_row_13 14 rfl ?_
    refine r_if_lt C 25 dX4_row_14 17 rfl rfl (fun c5 => ?_) (fun c5 => ?_)
    · replace h := h.1 c5
      exact rx_throw C hE hlk htab hst (names := ["java/lang/RuntimeException", "java/lang/Exception"]) (by decide +kernel) (by decide +kernel) e_IO_k e_IO_i e_IO_1 e_IO_2 e_IO_3 dX4_row_25 dX4_row_28 dX4_row_29 dX4_row_32 ⟨(Nat.le_of_ble_eq_true rfl), (Nat.le_of_ble_eq_true rfl), (Nat.le_of_ble_eq_true rfl), (Nat.le_of_ble_eq_true rfl)⟩ (Nat.le_of_ble_eq_true rfl) (Nat.le_of_ble_eq_true rfl) h
    · replace h := h.2 c5
      refine r_iload_n C 3 rfl dX4_row_17 18 rfl ?_
      refine r_aload_n C 0 rfl dX4_row_18 19 rfl ?_
      refine g_RX4_87 (k := g4) C hb3.1 hb3.2 dX4_row_19 22 rfl ?_
      refine r_icmp_lt C 33 dX4_row_22 25 rfl rfl (fun c6 => ?_) (fun c6 => ?_)
      · replace h := h.1 c6
        refine r_aload_n C 0 rfl dX4_row_33 34 rfl ?_
        refine g_RX4_46 (k := g4) C hb3.1 hb3.2 dX4_row_34 37 rfl ?_
        refine r_iload_n C 3 rfl dX4_row_37 38 rfl ?_
        refine i_C (k := (g4 + 10)) C (Nat.add_le_add_right hb3.1 10) (Nat.lt_of_lt_of_le (Nat.add_lt_add_right hb3.2 10) (Nat.le_of_ble_eq_true rfl)) h.1 dX4_row_38 39 rfl ?_
        replace h := h.2
        exact rx_iret C hE hr hlk (Nat.le_of_ble_eq_true rfl) (Nat.le_of_ble_eq_true rfl) dX4_row_39 h
      · replace h := h.2 c6
        exact rx_throw C hE hlk htab hst (names := ["java/lang/RuntimeException", "java/lang/Exception"]) (by decide +kernel) (by decide +kernel) e_IO_k e_IO_i e_IO_1 e_IO_2 e_IO_3 dX4_row_25 dX4_row_28 dX4_row_29 dX4_row_32 ⟨(Nat.le_of_ble_eq_true rfl), (Nat.le_of_ble_eq_true rfl), (Nat.le_of_ble_eq_true rfl), (Nat.le_of_ble_eq_true rfl)⟩ (Nat.le_of_ble_eq_true rfl) (Nat.le_of_ble_eq_true rfl) h
set_option maxRecDepth 100000 in
set_option maxHeartbeats 4000000 in
theorem ctX4_code {l : Launch} {D : va_G} {A : Nat → Nat} {n : Nat → Nat} {cI cG cR : ClassId} {aK aV : Nat} {a1 : Int32} {a2 : Int32} {a3 : Int32} {a4 : Int32} {S : Nat → Nat → Int32} {Q : Int32 → (Nat → Nat → Int32) → Prop} {QX : String → (Nat → Nat → Int32) → Prop} (hst : l.stackTraces = false) (hi : Apart 32 A)  (h : wX4_code n a1 a2 a3 a4 S Q QX) : Cv l D (tyC cI cG cR) 32 A (ceC A n cI cG cR) (FxC aK aV) yX4_code cX4_code 5 (some .int) 6 89 1 6 [.ref (A 0), .int a1, .int a2, .int a3, .int a4] S rI Q QX := by
  refine Cv.of (by decide +kernel) hFx hi [(0, .ref (A 0)), (1, .int a1), (2, .int a2), (3, .int a3), (4, .int a4)] rfl (Nat.le_of_ble_eq_true rfl) ?_
  intro p e s m args below meth c Acc C hr hlk htab Qf hE
  unfold wX4_code at h
  refine r_aload_n C 0 rfl dX4_code_0 1 rfl ?_
  refine g_RX4_27 C dX4_code_1 4 rfl ?_
  refine g_RX4_145 C dX4_code_4 7 rfl ?_
  refine r_bipush C 64 rfl dX4_code_7 9 rfl ?_
  refine r_icmp_ne C 20 dX4_code_9 12 rfl rfl (fun c1 => ?_) (fun c1 => ?_)
  · replace h := h.1 c1
    exact rx_throw C hE hlk htab hst (names := ["java/lang/RuntimeException", "java/lang/Exception"]) (by decide +kernel) (by decide +kernel) e_IS_k e_IS_i e_IS_1 e_IS_2 e_IS_3 dX4_code_12 dX4_code_15 dX4_code_16 dX4_code_19 ⟨(Nat.le_of_ble_eq_true rfl), (Nat.le_of_ble_eq_true rfl), (Nat.le_of_ble_eq_true rfl), (Nat.le_of_ble_eq_true rfl)⟩ (Nat.le_of_ble_eq_true rfl) (Nat.le_of_ble_eq_true rfl) h
  · replace h := h.2 c1
    refine r_aload_n C 0 rfl dX4_code_20 21 rfl ?_
    refine g_RX4_27 C dX4_code_21 24 rfl ?_
    refine r_iload_n C 1 rfl dX4_code_24 25 rfl ?_
    refine r_iload_n C 2 rfl dX4_code_25 26 rfl ?_
    refine r_iload_n C 3 rfl dX4_code_26 27 rfl ?_
    refine r_iload C 4 rfl dX4_code_27 29 rfl ?_
    refine k_RX4_148 C (ctX2_append hi  h) ⟨(Nat.le_of_ble_eq_true rfl), (Nat.le_of_ble_eq_true rfl)⟩ (Nat.le_of_ble_eq_true rfl) ⟨(Nat.le_of_ble_eq_true rfl), (Nat.le_of_ble_eq_true rfl)⟩ dX4_code_29 32 rfl (fun S3 h => ?_)
    refine r_aload_n C 0 rfl dX4_code_32 33 rfl ?_
    refine g_RX4_27 C dX4_code_33 36 rfl ?_
    refine g_RX4_145 C dX4_code_36 39 rfl ?_
    exact rx_iret C hE hr hlk (Nat.le_of_ble_eq_true rfl) (Nat.le_of_ble_eq_true rfl) dX4_code_39 h
set_option maxRecDepth 100000 in
set_option maxHeartbeats 4000000 in
theorem ctX4_run {l : Launch} {D : va_G} {A : Nat → Nat} {n : Nat → Nat} {cI cG cR : ClassId} {aK aV : Nat} {a1 : Int32} {a2 : Int32} {S : Nat → Nat → Int32} {Q : Int32 → (Nat → Nat → Int32) → Prop} {QX : String → (Nat → Nat → Int32) → Prop} (hst : l.stackTraces = false) (hi : Apart 32 A)  (h : wX4_run n a1 a2 S Q QX) : Cv l D (tyC cI cG cR) 32 A (ceC A n cI cG cR) (FxC aK aV) yX4_run cX4_run 5 (some .int) 6 173 2 12 [.ref (A 0), .int a1, .int a2] S rI Q QX := by
  refine Cv.of (by decide +kernel) hFx hi [(0, .ref (A 0)), (1, .int a1), (2, .int a2)] rfl (Nat.le_of_ble_eq_true rfl) ?_
  intro p e s m args below meth c Acc C hr hlk htab Qf hE
  have b98 : ∀ (K55 : Int32 → Int32 → (Nat → Nat → Int32) → Prop) (hK55 : ∀ (x55_4 : Int32) (x55_3 : Int32) (S : Nat → Nat → Int32), K55 x55_4 x55_3 S → J p l e { frames := 6, cells := 2, slots := 12, locals := 173 } s m args below meth c 0 0 Qf D 32 A (ceC A n cI cG cR) Acc 5 S 55 [(4, .int x55_4), (3, .int x55_3), (0, .ref (A 0)), (2, .int a2)] []) (x98_3 : Int32) (x98_4 : Int32) (S : Nat → Nat → Int32), wX4_run_b98 n a1 a2 K55 x98_3 x98_4 S Q QX → J p l e { frames := 6, cells := 2, slots := 12, locals := 173 } s m args below meth c 0 0 Qf D 32 A (ceC A n cI cG cR) Acc 5 S 98 [(3, .int x98_3), (4, .int x98_4), (0, .ref (A 0)), (2, .int a2)] [] := by
    intro K55 hK55 x98_3 x98_4 S h
    unfold wX4_run_b98 at h
    obtain ⟨x18, e19⟩ : ∃ z : Int32, z = x98_4 + 1 := ⟨_, rfl⟩
    replace h := h x18 e19
    refine r_iinc (n := 1) C 1 rfl x18 (by rw [e19]; rfl) [(4, .int x18), (3, .int x98_3), (0, .ref (A 0)), (2, .int a2)] (Nat.le_of_ble_eq_true rfl) rfl dX4_run_98 101 rfl ?_
    refine r_goto C 55 dX4_run_101 rfl ?_
    refine r_sub [(4, .int x18), (3, .int x98_3), (0, .ref (A 0)), (2, .int a2)] [0, 1, 2, 3] rfl ?_
    exact hK55 x18 x98_3  S h
  have b81 : ∀ (K55 : Int32 → Int32 → (Nat → Nat → Int32) → Prop) (hK55 : ∀ (x55_4 : Int32) (x55_3 : Int32) (S : Nat → Nat → Int32), K55 x55_4 x55_3 S → J p l e { frames := 6, cells := 2, slots := 12, locals := 173 } s m args below meth c 0 0 Qf D 32 A (ceC A n cI cG cR) Acc 5 S 55 [(4, .int x55_4), (3, .int x55_3), (0, .ref (A 0)), (2, .int a2)] []) (x81_4 : Int32) (y81_0 : Int32) (S : Nat → Nat → Int32), wX4_run_b81 n a1 a2 K55 x81_4 y81_0 S Q QX → J p l e { frames := 6, cells := 2, slots := 12, locals := 173 } s m args below meth c 0 0 Qf D 32 A (ceC A n cI cG cR) Acc 5 S 81 [(4, .int x81_4), (0, .ref (A 0)), (2, .int a2)] [.int y81_0, .ref (A 2)] := by
    intro K55 hK55 x81_4 y81_0 S h
    unfold wX4_run_b81 at h
    refine k_RX4_154 C (ctX2_endBefore hi  h) ⟨(Nat.le_of_ble_eq_true rfl), (Nat.le_of_ble_eq_true rfl)⟩ (Nat.le_of_ble_eq_true rfl) ⟨(Nat.le_of_ble_eq_true rfl), (Nat.le_of_ble_eq_true rfl)⟩ dX4_run_81 84 rfl (fun r13 S14 h => ?_)
    refine r_istore_n C [(3, .int r13), (4, .int x81_4), (0, .ref (A 0)), (2, .int a2)] (Nat.le_of_ble_eq_true rfl) rfl dX4_run_84 85 rfl ?_
    refine r_iload_n C 0 rfl dX4_run_85 86 rfl ?_
    refine r_iconst C (-1 : Int32) rfl dX4_run_86 87 rfl ?_
    refine r_icmp_ne C 98 dX4_run_87 90 rfl rfl (fun c15 => ?_) (fun c15 => ?_)
    · replace h := h.1 c15
      refine r_aload_n C 2 rfl dX4_run_90 91 rfl ?_
      refine g_RX4_27 C dX4_run_91 94 rfl ?_
      refine k_RX4_158 C (ctX2_step hi  h) ⟨(Nat.le_of_ble_eq_true rfl), (Nat.le_of_ble_eq_true rfl)⟩ (Nat.le_of_ble_eq_true rfl) ⟨(Nat.le_of_ble_eq_true rfl), (Nat.le_of_ble_eq_true rfl)⟩ dX4_run_94 97 rfl (fun r16 S17 h => ?_)
      refine r_istore_n C [(3, .int r16), (4, .int x81_4), (0, .ref (A 0)), (2, .int a2)] (Nat.le_of_ble_eq_true rfl) rfl dX4_run_97 98 rfl ?_
      refine r_sub [(3, .int r16), (4, .int x81_4), (0, .ref (A 0)), (2, .int a2)] [0, 1, 2, 3] rfl ?_
      exact b98 K55 hK55 r16 x81_4  S17 h
    · replace h := h.2 c15
      refine r_sub [(3, .int r13), (4, .int x81_4), (0, .ref (A 0)), (2, .int a2)] [0, 1, 2, 3] rfl ?_
      exact b98 K55 hK55 r13 x81_4  S14 h
  have b55 : ∀ (nn : Nat) (x55_4 : Int32) (x55_3 : Int32) (S : Nat → Nat → Int32), wX4_run_b55 n a1 a2  nn x55_4 x55_3 S Q QX → J p l e { frames := 6, cells := 2, slots := 12, locals := 173 } s m args below meth c 0 0 Qf D 32 A (ceC A n cI cG cR) Acc 5 S 55 [(4, .int x55_4), (3, .int x55_3), (0, .ref (A 0)), (2, .int a2)] [] := by
    intro nn
    induction nn with
    | zero => intro x55_4 x55_3 S h; exact False.elim h
    | succ nn ih =>
      intro x55_4 x55_3 S h
      rw [wX4_run_b55] at h
      refine r_iload C 0 rfl dX4_run_55 57 rfl ?_
      refine r_iload_n C 3 rfl dX4_run_57 58 rfl ?_
      refine r_icmp_gt C 104 dX4_run_58 61 rfl rfl (fun c10 => ?_) (fun c10 => ?_)
      · replace h := h.1 c10
        refine r_iload_n C 1 rfl dX4_run_104 105 rfl ?_
        exact rx_iret C hE hr hlk (Nat.le_of_ble_eq_true rfl) (Nat.le_of_ble_eq_true rfl) dX4_run_105 h
      · replace h := h.2 c10
        refine r_iload_n C 1 rfl dX4_run_61 62 rfl ?_
        refine r_iconst C (-1 : Int32) rfl dX4_run_62 63 rfl ?_
        refine r_icmp_ne C 104 dX4_run_63 66 rfl rfl (fun c11 => ?_) (fun c11 => ?_)
        · replace h := h.1 c11
          refine r_aload_n C 2 rfl dX4_run_66 67 rfl ?_
          refine g_RX4_27 C dX4_run_67 70 rfl ?_
          refine r_iload C 0 rfl dX4_run_70 72 rfl ?_
          refine r_iload_n C 3 rfl dX4_run_72 73 rfl ?_
          refine r_icmp_ne C 80 dX4_run_73 76 rfl rfl (fun c12 => ?_) (fun c12 => ?_)
          · replace h := h.1 c12
            refine r_iconst C 1 rfl dX4_run_76 77 rfl ?_
            refine r_goto C 81 dX4_run_77 rfl ?_
            refine r_sub [(4, .int x55_4), (0, .ref (A 0)), (2, .int a2)] [0, 2, 3] rfl ?_
            exact b81 (fun z0 z1 T => wX4_run_b55 n a1 a2  nn z0 z1 T Q QX) ih x55_4 1  S h
          · replace h := h.2 c12
            refine r_iconst C 0 rfl dX4_run_80 81 rfl ?_
            refine r_sub [(4, .int x55_4), (0, .ref (A 0)), (2, .int a2)] [0, 2, 3] rfl ?_
            exact b81 (fun z0 z1 T => wX4_run_b55 n a1 a2  nn z0 z1 T Q QX) ih x55_4 0  S h
        · replace h := h.2 c11
          refine r_iload_n C 1 rfl dX4_run_104 105 rfl ?_
          exact rx_iret C hE hr hlk (Nat.le_of_ble_eq_true rfl) (Nat.le_of_ble_eq_true rfl) dX4_run_105 h
  unfold wX4_run at h
  refine r_iload_n C 1 rfl dX4_run_0 1 rfl ?_
  refine r_if_lt C 15 dX4_run_1 4 rfl rfl (fun c1 => ?_) (fun c1 => ?_)
  · replace h := h.1 c1
    exact rx_throw C hE hlk htab hst (names := ["java/lang/RuntimeException", "java/lang/Exception"]) (by decide +kernel) (by decide +kernel) e_IO_k e_IO_i e_IO_1 e_IO_2 e_IO_3 dX4_run_15 dX4_run_18 dX4_run_19 dX4_run_22 ⟨(Nat.le_of_ble_eq_true rfl), (Nat.le_of_ble_eq_true rfl), (Nat.le_of_ble_eq_true rfl), (Nat.le_of_ble_eq_true rfl)⟩ (Nat.le_of_ble_eq_true rfl) (Nat.le_of_ble_eq_true rfl) h
  · replace h := h.2 c1
    refine r_iload_n C 1 rfl dX4_run_4 5 rfl ?_
    refine r_aload_n C 0 rfl dX4_run_5 6 rfl ?_
    refine g_RX4_27 C dX4_run_6 9 rfl ?_
    refine g_RX4_145 C dX4_run_9 12 rfl ?_
    refine r_icmp_le C 23 dX4_run_12 15 rfl rfl (fun c2 => ?_) (fun c2 => ?_)
    · replace h := h.1 c2
      refine r_iload_n C 2 rfl dX4_run_23 24 rfl ?_
      refine r_if_lt C 34 dX4_run_24 27 rfl rfl (fun c3 => ?_) (fun c3 => ?_)
      · replace h := h.1 c3
        exact rx_throw C hE hlk htab hst (names := ["java/lang/RuntimeException", "java/lang/Exception"]) (by decide +kernel) (by decide +kernel) e_IA_k e_IA_i e_IA_1 e_IA_2 e_IA_3 dX4_run_34 dX4_run_37 dX4_run_38 dX4_run_41 ⟨(Nat.le_of_ble_eq_true rfl), (Nat.le_of_ble_eq_true rfl), (Nat.le_of_ble_eq_true rfl), (Nat.le_of_ble_eq_true rfl)⟩ (Nat.le_of_ble_eq_true rfl) (Nat.le_of_ble_eq_true rfl) h
      · replace h := h.2 c3
        refine r_iload_n C 2 rfl dX4_run_27 28 rfl ?_
        refine r_sipush C 400 rfl dX4_run_28 31 rfl ?_
        refine r_icmp_le C 42 dX4_run_31 34 rfl rfl (fun c4 => ?_) (fun c4 => ?_)
        · replace h := h.1 c4
          refine r_aload_n C 0 rfl dX4_run_42 43 rfl ?_
          refine g_RX4_27 C dX4_run_43 46 rfl ?_
          refine r_iload_n C 1 rfl dX4_run_46 47 rfl ?_
          refine p_RX4_151 C (x := a1) dX4_run_47 50 rfl (fun S5 e6 => ?_)
          replace h := h S5 e6
          refine r_iconst C (-1 : Int32) rfl dX4_run_50 51 rfl ?_
          refine r_topi (fun x7 e8 => ?_)
          replace h := h x7 e8
          refine r_istore_n C [(3, .int x7), (0, .ref (A 0)), (1, .int a1), (2, .int a2)] (Nat.le_of_ble_eq_true rfl) rfl dX4_run_51 52 rfl ?_
          refine r_iconst C 0 rfl dX4_run_52 53 rfl ?_
          refine r_istore C [(4, .int 0), (3, .int x7), (0, .ref (A 0)), (1, .int a1), (2, .int a2)] (Nat.le_of_ble_eq_true rfl) rfl dX4_run_53 55 rfl ?_
          refine r_sub [(4, .int 0), (3, .int x7), (0, .ref (A 0)), (2, .int a2)] [0, 1, 2, 4] rfl ?_
          obtain ⟨f9, h⟩ := h
          exact b55  f9 0 x7  S5 h
        · replace h := h.2 c4
          exact rx_throw C hE hlk htab hst (names := ["java/lang/RuntimeException", "java/lang/Exception"]) (by decide +kernel) (by decide +kernel) e_IA_k e_IA_i e_IA_1 e_IA_2 e_IA_3 dX4_run_34 dX4_run_37 dX4_run_38 dX4_run_41 ⟨(Nat.le_of_ble_eq_true rfl), (Nat.le_of_ble_eq_true rfl), (Nat.le_of_ble_eq_true rfl), (Nat.le_of_ble_eq_true rfl)⟩ (Nat.le_of_ble_eq_true rfl) (Nat.le_of_ble_eq_true rfl) h
    · replace h := h.2 c2
      exact rx_throw C hE hlk htab hst (names := ["java/lang/RuntimeException", "java/lang/Exception"]) (by decide +kernel) (by decide +kernel) e_IO_k e_IO_i e_IO_1 e_IO_2 e_IO_3 dX4_run_15 dX4_run_18 dX4_run_19 dX4_run_22 ⟨(Nat.le_of_ble_eq_true rfl), (Nat.le_of_ble_eq_true rfl), (Nat.le_of_ble_eq_true rfl), (Nat.le_of_ble_eq_true rfl)⟩ (Nat.le_of_ble_eq_true rfl) (Nat.le_of_ble_eq_true rfl) h
set_option maxRecDepth 100000 in
set_option maxHeartbeats 4000000 in
theorem ctX4_count {l : Launch} {D : va_G} {A : Nat → Nat} {n : Nat → Nat} {cI cG cR : ClassId} {aK aV : Nat} {a1 : Int32} {S : Nat → Nat → Int32} {Q : Int32 → (Nat → Nat → Int32) → Prop} {QX : String → (Nat → Nat → Int32) → Prop} (hst : l.stackTraces = false) (hi : Apart 32 A)  (h : wX4_count n a1 S Q QX) : Cv l D (tyC cI cG cR) 32 A (ceC A n cI cG cR) (FxC aK aV) yX4_count cX4_count 2 (some .int) 6 89 1 6 [.ref (A 0), .int a1] S rI Q QX := by
  refine Cv.of (by decide +kernel) hFx hi [(0, .ref (A 0)), (1, .int a1)] rfl (Nat.le_of_ble_eq_true rfl) ?_
  intro p e s m args below meth c Acc C hr hlk htab Qf hE
  unfold wX4_count at h
  refine r_iload_n C 1 rfl dX4_count_0 1 rfl ?_
  refine r_if_lt C 10 dX4_count_1 4 rfl rfl (fun c1 => ?_) (fun c1 => ?_)
  · replace h := h.1 c1
    exact rx_throw C hE hlk htab hst (names := ["java/lang/RuntimeException", "java/lang/Exception"]) (by decide +kernel) (by decide +kernel) e_IO_k e_IO_i e_IO_1 e_IO_2 e_IO_3 dX4_count_10 dX4_count_13 dX4_count_14 dX4_count_17 ⟨(Nat.le_of_ble_eq_true rfl), (Nat.le_of_ble_eq_true rfl), (Nat.le_of_ble_eq_true rfl), (Nat.le_of_ble_eq_true rfl)⟩ (Nat.le_of_ble_eq_true rfl) (Nat.le_of_ble_eq_true rfl) h
  · replace h := h.2 c1
    refine r_iload_n C 1 rfl dX4_count_4 5 rfl ?_
    refine r_bipush C 24 rfl dX4_count_5 7 rfl ?_
    refine r_icmp_le C 18 dX4_count_7 10 rfl rfl (fun c2 => ?_) (fun c2 => ?_)
    · replace h := h.1 c2
      refine r_iload_n C 1 rfl dX4_count_18 19 rfl ?_
      refine r_bipush C 17 rfl dX4_count_19 21 rfl ?_
      refine r_icmp_lt C 37 dX4_count_21 24 rfl rfl (fun c3 => ?_) (fun c3 => ?_)
      · replace h := h.1 c3
        refine r_iload_n C 1 rfl dX4_count_37 38 rfl ?_
        by_cases c4 : a1 = 15
        · replace h := h.1 c4
          refine r_lsw C 15 c4 64 dX4_count_38 (by decide) rfl rfl ?_
          refine r_aload_n C 0 rfl dX4_count_64 65 rfl ?_
          refine g_RX4_27 C dX4_count_65 68 rfl ?_
          refine g_RX4_164 C dX4_count_68 71 rfl ?_
          exact rx_iret C hE hr hlk (Nat.le_of_ble_eq_true rfl) (Nat.le_of_ble_eq_true rfl) dX4_count_71 h
        · replace h := h.2
          by_cases c5 : a1 = 16
          · replace h := h.1 c5
            refine r_lsw C 16 c5 72 dX4_count_38 (by decide) rfl rfl ?_
            refine r_aload_n C 0 rfl dX4_count_72 73 rfl ?_
            refine g_RX4_27 C dX4_count_73 76 rfl ?_
            refine g_RX4_151 C dX4_count_76 79 rfl ?_
            exact rx_iret C hE hr hlk (Nat.le_of_ble_eq_true rfl) (Nat.le_of_ble_eq_true rfl) dX4_count_79 h
          · replace h := h.2
            replace h := h c4 c5
            refine r_lookup (off := 42) C 80 dX4_count_38 (by decide) ((lv_osw (a := 15) (k := 15) c4 (by decide)).trans ((lv_osw (a := 16) (k := 16) c5 (by decide)).trans rfl)) rfl ?_
            refine r_aload_n C 0 rfl dX4_count_80 81 rfl ?_
            refine g_RX4_18 C dX4_count_81 84 rfl ?_
            refine r_iload_n C 1 rfl dX4_count_84 85 rfl ?_
            refine k_RX4_167 C (ctX1_countOf hi  h) ⟨(Nat.le_of_ble_eq_true rfl), (Nat.le_of_ble_eq_true rfl)⟩ (Nat.le_of_ble_eq_true rfl) ⟨(Nat.le_of_ble_eq_true rfl), (Nat.le_of_ble_eq_true rfl)⟩ dX4_count_85 88 rfl (fun r6 S7 h => ?_)
            exact rx_iret C hE hr hlk (Nat.le_of_ble_eq_true rfl) (Nat.le_of_ble_eq_true rfl) dX4_count_88 h
      · replace h := h.2 c3
        refine r_aload_n C 0 rfl dX4_count_24 25 rfl ?_
        refine g_RX4_27 C dX4_count_25 28 rfl ?_
        refine g_RX4_161 C dX4_count_28 31 rfl ?_
        refine r_iload_n C 1 rfl dX4_count_31 32 rfl ?_
        refine r_bipush C 17 rfl dX4_count_32 34 rfl ?_
        refine r_isub C dX4_count_34 35 rfl ?_
        refine i_C (k := 28) C (Nat.le_of_ble_eq_true rfl) (Nat.le_of_ble_eq_true rfl) h.1 dX4_count_35 36 rfl ?_
        replace h := h.2
        exact rx_iret C hE hr hlk (Nat.le_of_ble_eq_true rfl) (Nat.le_of_ble_eq_true rfl) dX4_count_36 h
    · replace h := h.2 c2
      exact rx_throw C hE hlk htab hst (names := ["java/lang/RuntimeException", "java/lang/Exception"]) (by decide +kernel) (by decide +kernel) e_IO_k e_IO_i e_IO_1 e_IO_2 e_IO_3 dX4_count_10 dX4_count_13 dX4_count_14 dX4_count_17 ⟨(Nat.le_of_ble_eq_true rfl), (Nat.le_of_ble_eq_true rfl), (Nat.le_of_ble_eq_true rfl), (Nat.le_of_ble_eq_true rfl)⟩ (Nat.le_of_ble_eq_true rfl) (Nat.le_of_ble_eq_true rfl) h
