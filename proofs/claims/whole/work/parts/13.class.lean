set_option maxRecDepth 100000 in
set_option maxHeartbeats 4000000 in
theorem ctX0_isTaken {l : Launch} {D : va_G} {A : Nat → Nat} {n : Nat → Nat} {cI cG cR : ClassId} {aK aV : Nat} {g0 : Nat} {a1 : Int32} {S : Nat → Nat → Int32} {Q : Bool → (Nat → Nat → Int32) → Prop} (hi : Apart 32 A) (hg0 : g0 < 3) (h : wX0_isTaken n g0 a1 S Q) : Ct l D (tyC cI cG cR) 32 A (ceC A n cI cG cR) (FxC aK aV) yX0_isTaken cX0_isTaken 2 (some .boolean) 0 0 [.ref (A (3 + g0)), .int a1] S rZ Q := by
  refine Ct.of (by decide +kernel) hFx hi [(0, .ref (A (3 + g0))), (1, .int a1)] rfl (Nat.le_of_ble_eq_true rfl) ?_
  intro p e s m args below meth c Acc C hr hlk Qf hE
  unfold wX0_isTaken at h
  refine r_iload_n C 1 rfl dX0_isTaken_0 1 rfl ?_
  refine r_aload_n C 0 rfl dX0_isTaken_1 2 rfl ?_
  refine g_RX0_24 (k := (3 + g0)) C (Nat.le_add_right 3 g0) (Nat.add_lt_add_left hg0 3) dX0_isTaken_2 5 rfl ?_
  refine r_icmp_lt C 25 dX0_isTaken_5 8 rfl rfl (fun c1 => ?_) (fun c1 => ?_)
  · replace h := h.1 c1
    refine r_iconst C 0 rfl dX0_isTaken_25 26 rfl ?_
    exact r_zret C hE hr hlk (r := false) dX0_isTaken_26 h
  · replace h := h.2 c1
    refine r_iload_n C 1 rfl dX0_isTaken_8 9 rfl ?_
    refine r_aload_n C 0 rfl dX0_isTaken_9 10 rfl ?_
    refine g_RX0_24 (k := (3 + g0)) C (Nat.le_add_right 3 g0) (Nat.add_lt_add_left hg0 3) dX0_isTaken_10 13 rfl ?_
    refine r_aload_n C 0 rfl dX0_isTaken_13 14 rfl ?_
    refine g_RX0_27 (k := (3 + g0)) C (Nat.le_add_right 3 g0) (Nat.add_lt_add_left hg0 3) dX0_isTaken_14 17 rfl ?_
    refine r_iadd C dX0_isTaken_17 18 rfl ?_
    refine r_icmp_ge C 25 dX0_isTaken_18 21 rfl rfl (fun c2 => ?_) (fun c2 => ?_)
    · replace h := h.1 c2
      refine r_iconst C 0 rfl dX0_isTaken_25 26 rfl ?_
      exact r_zret C hE hr hlk (r := false) dX0_isTaken_26 h
    · replace h := h.2 c2
      refine r_iconst C 1 rfl dX0_isTaken_21 22 rfl ?_
      refine r_goto C 26 dX0_isTaken_22 rfl ?_
      exact r_zret C hE hr hlk (r := true) dX0_isTaken_26 h
set_option maxRecDepth 100000 in
set_option maxHeartbeats 4000000 in
theorem ctX0_isInFrom {l : Launch} {D : va_G} {A : Nat → Nat} {n : Nat → Nat} {cI cG cR : ClassId} {aK aV : Nat} {g0 : Nat} {a1 : Int32} {S : Nat → Nat → Int32} {Q : Bool → (Nat → Nat → Int32) → Prop} (hi : Apart 32 A) (hg0 : g0 < 3) (h : wX0_isInFrom n g0 a1 S Q) : Ct l D (tyC cI cG cR) 32 A (ceC A n cI cG cR) (FxC aK aV) yX0_isInFrom cX0_isInFrom 2 (some .boolean) 0 0 [.ref (A (3 + g0)), .int a1] S rZ Q := by
  refine Ct.of (by decide +kernel) hFx hi [(0, .ref (A (3 + g0))), (1, .int a1)] rfl (Nat.le_of_ble_eq_true rfl) ?_
  intro p e s m args below meth c Acc C hr hlk Qf hE
  unfold wX0_isInFrom at h
  refine r_aload_n C 0 rfl dX0_isInFrom_0 1 rfl ?_
  refine g_RX0_30 (k := (3 + g0)) C (Nat.le_add_right 3 g0) (Nat.add_lt_add_left hg0 3) dX0_isInFrom_1 4 rfl ?_
  refine r_if_eq C 32 dX0_isInFrom_4 7 rfl rfl (fun c1 => ?_) (fun c1 => ?_)
  · replace h := h.1 c1
    refine r_iconst C 0 rfl dX0_isInFrom_32 33 rfl ?_
    exact r_zret C hE hr hlk (r := false) dX0_isInFrom_33 h
  · replace h := h.2 c1
    refine r_iload_n C 1 rfl dX0_isInFrom_7 8 rfl ?_
    refine r_aload_n C 0 rfl dX0_isInFrom_8 9 rfl ?_
    refine g_RX0_30 (k := (3 + g0)) C (Nat.le_add_right 3 g0) (Nat.add_lt_add_left hg0 3) dX0_isInFrom_9 12 rfl ?_
    refine r_icmp_lt C 32 dX0_isInFrom_12 15 rfl rfl (fun c2 => ?_) (fun c2 => ?_)
    · replace h := h.1 c2
      refine r_iconst C 0 rfl dX0_isInFrom_32 33 rfl ?_
      exact r_zret C hE hr hlk (r := false) dX0_isInFrom_33 h
    · replace h := h.2 c2
      refine r_iload_n C 1 rfl dX0_isInFrom_15 16 rfl ?_
      refine r_aload_n C 0 rfl dX0_isInFrom_16 17 rfl ?_
      refine g_RX0_30 (k := (3 + g0)) C (Nat.le_add_right 3 g0) (Nat.add_lt_add_left hg0 3) dX0_isInFrom_17 20 rfl ?_
      refine r_aload_n C 0 rfl dX0_isInFrom_20 21 rfl ?_
      refine g_RX0_18 (k := (3 + g0)) C (Nat.le_add_right 3 g0) (Nat.add_lt_add_left hg0 3) dX0_isInFrom_21 24 rfl ?_
      refine r_iadd C dX0_isInFrom_24 25 rfl ?_
      refine r_icmp_ge C 32 dX0_isInFrom_25 28 rfl rfl (fun c3 => ?_) (fun c3 => ?_)
      · replace h := h.1 c3
        refine r_iconst C 0 rfl dX0_isInFrom_32 33 rfl ?_
        exact r_zret C hE hr hlk (r := false) dX0_isInFrom_33 h
      · replace h := h.2 c3
        refine r_iconst C 1 rfl dX0_isInFrom_28 29 rfl ?_
        refine r_goto C 33 dX0_isInFrom_29 rfl ?_
        exact r_zret C hE hr hlk (r := true) dX0_isInFrom_33 h
set_option maxRecDepth 100000 in
set_option maxHeartbeats 4000000 in
theorem ctX0_fits {l : Launch} {D : va_G} {A : Nat → Nat} {n : Nat → Nat} {cI cG cR : ClassId} {aK aV : Nat} {g0 : Nat} {a1 : Int32} {S : Nat → Nat → Int32} {Q : Bool → (Nat → Nat → Int32) → Prop} (hi : Apart 32 A) (hg0 : g0 < 3) (h : wX0_fits n g0 a1 S Q) : Ct l D (tyC cI cG cR) 32 A (ceC A n cI cG cR) (FxC aK aV) yX0_fits cX0_fits 2 (some .boolean) 0 0 [.ref (A (3 + g0)), .int a1] S rZ Q := by
  refine Ct.of (by decide +kernel) hFx hi [(0, .ref (A (3 + g0))), (1, .int a1)] rfl (Nat.le_of_ble_eq_true rfl) ?_
  intro p e s m args below meth c Acc C hr hlk Qf hE
  unfold wX0_fits at h
  refine r_aload_n C 0 rfl dX0_fits_0 1 rfl ?_
  refine g_RX0_27 (k := (3 + g0)) C (Nat.le_add_right 3 g0) (Nat.add_lt_add_left hg0 3) dX0_fits_1 4 rfl ?_
  refine r_aload_n C 0 rfl dX0_fits_4 5 rfl ?_
  refine g_RX0_33 (k := (3 + g0)) C (Nat.le_add_right 3 g0) (Nat.add_lt_add_left hg0 3) dX0_fits_5 8 rfl ?_
  refine r_iadd C dX0_fits_8 9 rfl ?_
  refine r_iload_n C 1 rfl dX0_fits_9 10 rfl ?_
  refine r_iadd C dX0_fits_10 11 rfl ?_
  refine r_aload_n C 0 rfl dX0_fits_11 12 rfl ?_
  refine g_RX0_18 (k := (3 + g0)) C (Nat.le_add_right 3 g0) (Nat.add_lt_add_left hg0 3) dX0_fits_12 15 rfl ?_
  refine r_icmp_gt C 22 dX0_fits_15 18 rfl rfl (fun c1 => ?_) (fun c1 => ?_)
  · replace h := h.1 c1
    refine r_iconst C 0 rfl dX0_fits_22 23 rfl ?_
    exact r_zret C hE hr hlk (r := false) dX0_fits_23 h
  · replace h := h.2 c1
    refine r_iconst C 1 rfl dX0_fits_18 19 rfl ?_
    refine r_goto C 23 dX0_fits_19 rfl ?_
    exact r_zret C hE hr hlk (r := true) dX0_fits_23 h
set_option maxRecDepth 100000 in
set_option maxHeartbeats 4000000 in
theorem ctX0_take {l : Launch} {D : va_G} {A : Nat → Nat} {n : Nat → Nat} {cI cG cR : ClassId} {aK aV : Nat} {g0 : Nat} {a1 : Int32} {S : Nat → Nat → Int32} {Q : Int32 → (Nat → Nat → Int32) → Prop} (hi : Apart 32 A) (hg0 : g0 < 3) (h : wX0_take n g0 a1 S Q) : Ct l D (tyC cI cG cR) 32 A (ceC A n cI cG cR) (FxC aK aV) yX0_take cX0_take 3 (some .int) 0 0 [.ref (A (3 + g0)), .int a1] S rI Q := by
  refine Ct.of (by decide +kernel) hFx hi [(0, .ref (A (3 + g0))), (1, .int a1)] rfl (Nat.le_of_ble_eq_true rfl) ?_
  intro p e s m args below meth c Acc C hr hlk Qf hE
  unfold wX0_take at h
  refine r_aload_n C 0 rfl dX0_take_0 1 rfl ?_
  refine g_RX0_24 (k := (3 + g0)) C (Nat.le_add_right 3 g0) (Nat.add_lt_add_left hg0 3) dX0_take_1 4 rfl ?_
  refine r_aload_n C 0 rfl dX0_take_4 5 rfl ?_
  refine g_RX0_27 (k := (3 + g0)) C (Nat.le_add_right 3 g0) (Nat.add_lt_add_left hg0 3) dX0_take_5 8 rfl ?_
  refine r_iadd C dX0_take_8 9 rfl ?_
  refine r_topi (fun x1 e2 => ?_)
  replace h := h x1 e2
  refine r_istore_n C [(2, .int x1), (0, .ref (A (3 + g0))), (1, .int a1)] (Nat.le_of_ble_eq_true rfl) rfl dX0_take_9 10 rfl ?_
  refine r_aload_n C 1 rfl dX0_take_10 11 rfl ?_
  refine r_dup C rfl dX0_take_11 12 rfl ?_
  refine g_RX0_27 (k := (3 + g0)) C (Nat.le_add_right 3 g0) (Nat.add_lt_add_left hg0 3) dX0_take_12 15 rfl ?_
  refine r_iload_n C 2 rfl dX0_take_15 16 rfl ?_
  refine r_iadd C dX0_take_16 17 rfl ?_
  refine p_RX0_27 (k := (3 + g0)) C (Nat.le_add_right 3 g0) (Nat.add_lt_add_left hg0 3) (x := ((S (3 + g0) 5) + a1)) dX0_take_17 20 rfl (fun S3 e4 => ?_)
  replace h := h S3 e4
  refine r_iload_n C 0 rfl dX0_take_20 21 rfl ?_
  exact r_iret C hE hr hlk dX0_take_21 h
set_option maxRecDepth 100000 in
set_option maxHeartbeats 4000000 in
theorem ctX0_begin {l : Launch} {D : va_G} {A : Nat → Nat} {n : Nat → Nat} {cI cG cR : ClassId} {aK aV : Nat} {g0 : Nat} {a1 : Int32} {S : Nat → Nat → Int32} {Q : Unit → (Nat → Nat → Int32) → Prop} (hi : Apart 32 A) (hg0 : g0 < 3) (h : wX0_begin n g0 a1 S Q) : Ct l D (tyC cI cG cR) 32 A (ceC A n cI cG cR) (FxC aK aV) yX0_begin cX0_begin 2 none 0 0 [.ref (A (3 + g0)), .int a1] S rU Q := by
  refine Ct.of (by decide +kernel) hFx hi [(0, .ref (A (3 + g0))), (1, .int a1)] rfl (Nat.le_of_ble_eq_true rfl) ?_
  intro p e s m args below meth c Acc C hr hlk Qf hE
  have b56 : ∀  (S : Nat → Nat → Int32), wX0_begin_b56 n g0 a1   S Q → J p l e { frames := 0, cells := 0, slots := 0, locals := 0 } s m args below meth c 0 0 Qf D 32 A (ceC A n cI cG cR) Acc 2 S 56 [(0, .ref (A (3 + g0)))] [] := by
    intro   S h
    unfold wX0_begin_b56 at h
    refine r_aload_n C 0 rfl dX0_begin_56 57 rfl ?_
    refine r_aload_n C 0 rfl dX0_begin_57 58 rfl ?_
    refine g_RX0_27 (k := (3 + g0)) C (Nat.le_add_right 3 g0) (Nat.add_lt_add_left hg0 3) dX0_begin_58 61 rfl ?_
    refine p_RX0_36 (k := (3 + g0)) C (Nat.le_add_right 3 g0) (Nat.add_lt_add_left hg0 3) (x := (S (3 + g0) 5)) dX0_begin_61 64 rfl (fun S7 e8 => ?_)
    replace h := h S7 e8
    exact r_vret C hE hr hlk dX0_begin_64 h
  have b48 : ∀ (y48_0 : Int32) (y48_1 : Nat) (hb_y48_1 : y48_1 < 3) (S : Nat → Nat → Int32), wX0_begin_b48 n g0 a1  y48_0 y48_1 S Q → J p l e { frames := 0, cells := 0, slots := 0, locals := 0 } s m args below meth c 0 0 Qf D 32 A (ceC A n cI cG cR) Acc 2 S 48 [(0, .ref (A (3 + g0)))] [.int y48_0, .ref (A (3 + y48_1))] := by
    intro  y48_0 y48_1 hb_y48_1 S h
    unfold wX0_begin_b48 at h
    refine p_RX0_24 (k := (3 + y48_1)) C (Nat.le_add_right 3 y48_1) (Nat.add_lt_add_left hb_y48_1 3) (x := y48_0) dX0_begin_48 51 rfl (fun S9 e10 => ?_)
    replace h := h S9 e10
    refine r_aload_n C 0 rfl dX0_begin_51 52 rfl ?_
    refine r_iconst C 0 rfl dX0_begin_52 53 rfl ?_
    refine p_RX0_27 (k := (3 + g0)) C (Nat.le_add_right 3 g0) (Nat.add_lt_add_left hg0 3) (x := 0) dX0_begin_53 56 rfl (fun S11 e12 => ?_)
    replace h := h S11 e12
    refine r_sub [(0, .ref (A (3 + g0)))] [0] rfl ?_
    exact b56    S11 h
  unfold wX0_begin at h
  refine r_iload_n C 1 rfl dX0_begin_0 1 rfl ?_
  refine r_if_eq C 56 dX0_begin_1 4 rfl rfl (fun c1 => ?_) (fun c1 => ?_)
  · replace h := h.1 c1
    refine r_sub [(0, .ref (A (3 + g0)))] [0] rfl ?_
    exact b56    S h
  · replace h := h.2 c1
    refine r_aload_n C 0 rfl dX0_begin_4 5 rfl ?_
    refine r_aload_n C 0 rfl dX0_begin_5 6 rfl ?_
    refine g_RX0_24 (k := (3 + g0)) C (Nat.le_add_right 3 g0) (Nat.add_lt_add_left hg0 3) dX0_begin_6 9 rfl ?_
    refine p_RX0_30 (k := (3 + g0)) C (Nat.le_add_right 3 g0) (Nat.add_lt_add_left hg0 3) (x := (S (3 + g0) 4)) dX0_begin_9 12 rfl (fun S2 e3 => ?_)
    replace h := h S2 e3
    refine r_aload_n C 0 rfl dX0_begin_12 13 rfl ?_
    refine r_aload_n C 0 rfl dX0_begin_13 14 rfl ?_
    refine g_RX0_27 (k := (3 + g0)) C (Nat.le_add_right 3 g0) (Nat.add_lt_add_left hg0 3) dX0_begin_14 17 rfl ?_
    refine p_RX0_33 (k := (3 + g0)) C (Nat.le_add_right 3 g0) (Nat.add_lt_add_left hg0 3) (x := (S2 (3 + g0) 5)) dX0_begin_17 20 rfl (fun S4 e5 => ?_)
    replace h := h S4 e5
    refine r_aload_n C 0 rfl dX0_begin_20 21 rfl ?_
    refine r_aload_n C 0 rfl dX0_begin_21 22 rfl ?_
    refine g_RX0_30 (k := (3 + g0)) C (Nat.le_add_right 3 g0) (Nat.add_lt_add_left hg0 3) dX0_begin_22 25 rfl ?_
    refine r_aload_n C 0 rfl dX0_begin_25 26 rfl ?_
    refine g_RX0_15 (k := (3 + g0)) C (Nat.le_add_right 3 g0) (Nat.add_lt_add_left hg0 3) dX0_begin_26 29 rfl ?_
    refine r_icmp_ne C 44 dX0_begin_29 32 rfl rfl (fun c6 => ?_) (fun c6 => ?_)
    · replace h := h.1 c6
      refine r_aload_n C 0 rfl dX0_begin_32 33 rfl ?_
      refine g_RX0_15 (k := (3 + g0)) C (Nat.le_add_right 3 g0) (Nat.add_lt_add_left hg0 3) dX0_begin_33 36 rfl ?_
      refine r_aload_n C 0 rfl dX0_begin_36 37 rfl ?_
      refine g_RX0_18 (k := (3 + g0)) C (Nat.le_add_right 3 g0) (Nat.add_lt_add_left hg0 3) dX0_begin_37 40 rfl ?_
      refine r_iadd C dX0_begin_40 41 rfl ?_
      refine r_goto C 48 dX0_begin_41 rfl ?_
      refine r_sub [(0, .ref (A (3 + g0)))] [0] rfl ?_
      exact b48  ((S4 (3 + g0) 1) + (S4 (3 + g0) 2)) g0 hg0 S4 h
    · replace h := h.2 c6
      refine r_aload_n C 0 rfl dX0_begin_44 45 rfl ?_
      refine g_RX0_15 (k := (3 + g0)) C (Nat.le_add_right 3 g0) (Nat.add_lt_add_left hg0 3) dX0_begin_45 48 rfl ?_
      refine r_sub [(0, .ref (A (3 + g0)))] [0] rfl ?_
      exact b48  (S4 (3 + g0) 1) g0 hg0 S4 h
set_option maxRecDepth 100000 in
set_option maxHeartbeats 4000000 in
theorem ctX0_end {l : Launch} {D : va_G} {A : Nat → Nat} {n : Nat → Nat} {cI cG cR : ClassId} {aK aV : Nat} {g0 : Nat} {S : Nat → Nat → Int32} {Q : Unit → (Nat → Nat → Int32) → Prop} (hi : Apart 32 A) (hg0 : g0 < 3) (h : wX0_end n g0 S Q) : Ct l D (tyC cI cG cR) 32 A (ceC A n cI cG cR) (FxC aK aV) yX0_end cX0_end 1 none 0 0 [.ref (A (3 + g0))] S rU Q := by
  refine Ct.of (by decide +kernel) hFx hi [(0, .ref (A (3 + g0)))] rfl (Nat.le_of_ble_eq_true rfl) ?_
  intro p e s m args below meth c Acc C hr hlk Qf hE
  unfold wX0_end at h
  refine r_aload_n C 0 rfl dX0_end_0 1 rfl ?_
  refine r_iconst C 0 rfl dX0_end_1 2 rfl ?_
  refine p_RX0_30 (k := (3 + g0)) C (Nat.le_add_right 3 g0) (Nat.add_lt_add_left hg0 3) (x := 0) dX0_end_2 5 rfl (fun S1 e2 => ?_)
  replace h := h S1 e2
  refine r_aload_n C 0 rfl dX0_end_5 6 rfl ?_
  refine r_iconst C 0 rfl dX0_end_6 7 rfl ?_
  refine p_RX0_33 (k := (3 + g0)) C (Nat.le_add_right 3 g0) (Nat.add_lt_add_left hg0 3) (x := 0) dX0_end_7 10 rfl (fun S3 e4 => ?_)
  replace h := h S3 e4
  exact r_vret C hE hr hlk dX0_end_10 h
set_option maxRecDepth 100000 in
set_option maxHeartbeats 4000000 in
theorem ctX1_fieldsOf {l : Launch} {D : va_G} {A : Nat → Nat} {n : Nat → Nat} {cI cG cR : ClassId} {aK aV : Nat} {a1 : Int32} {S : Nat → Nat → Int32} {Q : Int32 → (Nat → Nat → Int32) → Prop} (hi : Apart 32 A)  (h : wX1_fieldsOf n a1 S Q) : Ct l D (tyC cI cG cR) 32 A (ceC A n cI cG cR) (FxC aK aV) yX1_fieldsOf cX1_fieldsOf 2 (some .int) 0 0 [.ref (A 1), .int a1] S rI Q := by
  refine Ct.of (by decide +kernel) hFx hi [(0, .ref (A 1)), (1, .int a1)] rfl (Nat.le_of_ble_eq_true rfl) ?_
  intro p e s m args below meth c Acc C hr hlk Qf hE
  unfold wX1_fieldsOf at h
  refine r_aload_n C 0 rfl dX1_fieldsOf_0 1 rfl ?_
  refine g_RX1_32 C dX1_fieldsOf_1 4 rfl ?_
  refine r_iload_n C 1 rfl dX1_fieldsOf_4 5 rfl ?_
  refine i_C (k := 26) C (Nat.le_of_ble_eq_true rfl) (Nat.le_of_ble_eq_true rfl) h.1 dX1_fieldsOf_5 6 rfl ?_
  replace h := h.2
  refine r_bipush C 7 rfl dX1_fieldsOf_6 8 rfl ?_
  refine r_iand C dX1_fieldsOf_8 9 rfl ?_
  exact r_iret C hE hr hlk dX1_fieldsOf_9 h
set_option maxRecDepth 100000 in
set_option maxHeartbeats 4000000 in
theorem ctX1_ageOf {l : Launch} {D : va_G} {A : Nat → Nat} {n : Nat → Nat} {cI cG cR : ClassId} {aK aV : Nat} {a1 : Int32} {S : Nat → Nat → Int32} {Q : Int32 → (Nat → Nat → Int32) → Prop} (hi : Apart 32 A)  (h : wX1_ageOf n a1 S Q) : Ct l D (tyC cI cG cR) 32 A (ceC A n cI cG cR) (FxC aK aV) yX1_ageOf cX1_ageOf 2 (some .int) 0 0 [.ref (A 1), .int a1] S rI Q := by
  refine Ct.of (by decide +kernel) hFx hi [(0, .ref (A 1)), (1, .int a1)] rfl (Nat.le_of_ble_eq_true rfl) ?_
  intro p e s m args below meth c Acc C hr hlk Qf hE
  unfold wX1_ageOf at h
  refine r_aload_n C 0 rfl dX1_ageOf_0 1 rfl ?_
  refine g_RX1_32 C dX1_ageOf_1 4 rfl ?_
  refine r_iload_n C 1 rfl dX1_ageOf_4 5 rfl ?_
  refine i_C (k := 26) C (Nat.le_of_ble_eq_true rfl) (Nat.le_of_ble_eq_true rfl) h.1 dX1_ageOf_5 6 rfl ?_
  replace h := h.2
  refine r_iconst C 3 rfl dX1_ageOf_6 7 rfl ?_
  refine r_ishr C dX1_ageOf_7 8 rfl ?_
  refine r_bipush C 7 rfl dX1_ageOf_8 10 rfl ?_
  refine r_iand C dX1_ageOf_10 11 rfl ?_
  exact r_iret C hE hr hlk dX1_ageOf_11 h
set_option maxRecDepth 100000 in
set_option maxHeartbeats 4000000 in
theorem ctX1_isKeen {l : Launch} {D : va_G} {A : Nat → Nat} {n : Nat → Nat} {cI cG cR : ClassId} {aK aV : Nat} {a1 : Int32} {S : Nat → Nat → Int32} {Q : Bool → (Nat → Nat → Int32) → Prop} (hi : Apart 32 A)  (h : wX1_isKeen n a1 S Q) : Ct l D (tyC cI cG cR) 32 A (ceC A n cI cG cR) (FxC aK aV) yX1_isKeen cX1_isKeen 2 (some .boolean) 0 0 [.ref (A 1), .int a1] S rZ Q := by
  refine Ct.of (by decide +kernel) hFx hi [(0, .ref (A 1)), (1, .int a1)] rfl (Nat.le_of_ble_eq_true rfl) ?_
  intro p e s m args below meth c Acc C hr hlk Qf hE
  unfold wX1_isKeen at h
  refine r_aload_n C 0 rfl dX1_isKeen_0 1 rfl ?_
  refine g_RX1_32 C dX1_isKeen_1 4 rfl ?_
  refine r_iload_n C 1 rfl dX1_isKeen_4 5 rfl ?_
  refine i_C (k := 26) C (Nat.le_of_ble_eq_true rfl) (Nat.le_of_ble_eq_true rfl) h.1 dX1_isKeen_5 6 rfl ?_
  replace h := h.2
  refine r_bipush C 64 rfl dX1_isKeen_6 8 rfl ?_
  refine r_iand C dX1_isKeen_8 9 rfl ?_
  refine r_if_eq C 16 dX1_isKeen_9 12 rfl rfl (fun c1 => ?_) (fun c1 => ?_)
  · replace h := h.1 c1
    refine r_iconst C 0 rfl dX1_isKeen_16 17 rfl ?_
    exact r_zret C hE hr hlk (r := false) dX1_isKeen_17 h
  · replace h := h.2 c1
    refine r_iconst C 1 rfl dX1_isKeen_12 13 rfl ?_
    refine r_goto C 17 dX1_isKeen_13 rfl ?_
    exact r_zret C hE hr hlk (r := true) dX1_isKeen_17 h
set_option maxRecDepth 100000 in
set_option maxHeartbeats 4000000 in
theorem ctX1_labelOf {l : Launch} {D : va_G} {A : Nat → Nat} {n : Nat → Nat} {cI cG cR : ClassId} {aK aV : Nat} {a1 : Int32} {S : Nat → Nat → Int32} {Q : Int32 → (Nat → Nat → Int32) → Prop} (hi : Apart 32 A)  (h : wX1_labelOf n a1 S Q) : Ct l D (tyC cI cG cR) 32 A (ceC A n cI cG cR) (FxC aK aV) yX1_labelOf cX1_labelOf 2 (some .int) 0 0 [.ref (A 1), .int a1] S rI Q := by
  refine Ct.of (by decide +kernel) hFx hi [(0, .ref (A 1)), (1, .int a1)] rfl (Nat.le_of_ble_eq_true rfl) ?_
  intro p e s m args below meth c Acc C hr hlk Qf hE
  unfold wX1_labelOf at h
  refine r_aload_n C 0 rfl dX1_labelOf_0 1 rfl ?_
  refine g_RX1_32 C dX1_labelOf_1 4 rfl ?_
  refine r_iload_n C 1 rfl dX1_labelOf_4 5 rfl ?_
  refine r_iconst C 1 rfl dX1_labelOf_5 6 rfl ?_
  refine r_iadd C dX1_labelOf_6 7 rfl ?_
  refine i_C (k := 26) C (Nat.le_of_ble_eq_true rfl) (Nat.le_of_ble_eq_true rfl) h.1 dX1_labelOf_7 8 rfl ?_
  replace h := h.2
  exact r_iret C hE hr hlk dX1_labelOf_8 h
set_option maxRecDepth 100000 in
set_option maxHeartbeats 4000000 in
theorem ctX1_hasField {l : Launch} {D : va_G} {A : Nat → Nat} {n : Nat → Nat} {cI cG cR : ClassId} {aK aV : Nat} {a1 : Int32} {a2 : Int32} {S : Nat → Nat → Int32} {Q : Bool → (Nat → Nat → Int32) → Prop} (hi : Apart 32 A)  (h : wX1_hasField n a1 a2 S Q) : Ct l D (tyC cI cG cR) 32 A (ceC A n cI cG cR) (FxC aK aV) yX1_hasField cX1_hasField 3 (some .boolean) 1 21 [.ref (A 1), .int a1, .int a2] S rZ Q := by
  refine Ct.of (by decide +kernel) hFx hi [(0, .ref (A 1)), (1, .int a1), (2, .int a2)] rfl (Nat.le_of_ble_eq_true rfl) ?_
  intro p e s m args below meth c Acc C hr hlk Qf hE
  unfold wX1_hasField at h
  refine r_iload_n C 2 rfl dX1_hasField_0 1 rfl ?_
  refine r_if_lt C 17 dX1_hasField_1 4 rfl rfl (fun c1 => ?_) (fun c1 => ?_)
  · replace h := h.1 c1
    refine r_iconst C 0 rfl dX1_hasField_17 18 rfl ?_
    exact r_zret C hE hr hlk (r := false) dX1_hasField_18 h
  · replace h := h.2 c1
    refine r_iload_n C 2 rfl dX1_hasField_4 5 rfl ?_
    refine r_aload_n C 0 rfl dX1_hasField_5 6 rfl ?_
    refine r_iload_n C 1 rfl dX1_hasField_6 7 rfl ?_
    refine k_RX1_59 C (ctX1_fieldsOf hi  h) ⟨(Nat.le_of_ble_eq_true rfl), (Nat.le_of_ble_eq_true rfl)⟩ (Nat.le_of_ble_eq_true rfl) ⟨Nat.le_refl 0, Nat.le_refl 0⟩ dX1_hasField_7 10 rfl (fun r2 S3 h => ?_)
    refine r_icmp_ge C 17 dX1_hasField_10 13 rfl rfl (fun c4 => ?_) (fun c4 => ?_)
    · replace h := h.1 c4
      refine r_iconst C 0 rfl dX1_hasField_17 18 rfl ?_
      exact r_zret C hE hr hlk (r := false) dX1_hasField_18 h
    · replace h := h.2 c4
      refine r_iconst C 1 rfl dX1_hasField_13 14 rfl ?_
      refine r_goto C 18 dX1_hasField_14 rfl ?_
      exact r_zret C hE hr hlk (r := true) dX1_hasField_18 h
set_option maxRecDepth 100000 in
set_option maxHeartbeats 4000000 in
theorem ctX1_fieldOf {l : Launch} {D : va_G} {A : Nat → Nat} {n : Nat → Nat} {cI cG cR : ClassId} {aK aV : Nat} {a1 : Int32} {a2 : Int32} {S : Nat → Nat → Int32} {Q : Int32 → (Nat → Nat → Int32) → Prop} (hi : Apart 32 A)  (h : wX1_fieldOf n a1 a2 S Q) : Ct l D (tyC cI cG cR) 32 A (ceC A n cI cG cR) (FxC aK aV) yX1_fieldOf cX1_fieldOf 3 (some .int) 0 0 [.ref (A 1), .int a1, .int a2] S rI Q := by
  refine Ct.of (by decide +kernel) hFx hi [(0, .ref (A 1)), (1, .int a1), (2, .int a2)] rfl (Nat.le_of_ble_eq_true rfl) ?_
  intro p e s m args below meth c Acc C hr hlk Qf hE
  unfold wX1_fieldOf at h
  refine r_aload_n C 0 rfl dX1_fieldOf_0 1 rfl ?_
  refine g_RX1_32 C dX1_fieldOf_1 4 rfl ?_
  refine r_iload_n C 1 rfl dX1_fieldOf_4 5 rfl ?_
  refine r_iconst C 2 rfl dX1_fieldOf_5 6 rfl ?_
  refine r_iadd C dX1_fieldOf_6 7 rfl ?_
  refine r_iload_n C 2 rfl dX1_fieldOf_7 8 rfl ?_
  refine r_iadd C dX1_fieldOf_8 9 rfl ?_
  refine i_C (k := 26) C (Nat.le_of_ble_eq_true rfl) (Nat.le_of_ble_eq_true rfl) h.1 dX1_fieldOf_9 10 rfl ?_
  replace h := h.2
  exact r_iret C hE hr hlk dX1_fieldOf_10 h
set_option maxRecDepth 100000 in
set_option maxHeartbeats 4000000 in
theorem ctX1_rootOrNull {l : Launch} {D : va_G} {A : Nat → Nat} {n : Nat → Nat} {cI cG cR : ClassId} {aK aV : Nat} {a1 : Int32} {S : Nat → Nat → Int32} {Q : Int32 → (Nat → Nat → Int32) → Prop} (hi : Apart 32 A)  (h : wX1_rootOrNull n a1 S Q) : Ct l D (tyC cI cG cR) 32 A (ceC A n cI cG cR) (FxC aK aV) yX1_rootOrNull cX1_rootOrNull 2 (some .int) 0 0 [.ref (A 1), .int a1] S rI Q := by
  refine Ct.of (by decide +kernel) hFx hi [(0, .ref (A 1)), (1, .int a1)] rfl (Nat.le_of_ble_eq_true rfl) ?_
  intro p e s m args below meth c Acc C hr hlk Qf hE
  unfold wX1_rootOrNull at h
  refine r_iload_n C 1 rfl dX1_rootOrNull_0 1 rfl ?_
  refine r_iconst C (-1 : Int32) rfl dX1_rootOrNull_1 2 rfl ?_
  refine r_icmp_ne C 9 dX1_rootOrNull_2 5 rfl rfl (fun c1 => ?_) (fun c1 => ?_)
  · replace h := h.1 c1
    refine r_iconst C 0 rfl dX1_rootOrNull_5 6 rfl ?_
    refine r_goto C 18 dX1_rootOrNull_6 rfl ?_
    exact r_iret C hE hr hlk dX1_rootOrNull_18 h
  · replace h := h.2 c1
    refine r_aload_n C 0 rfl dX1_rootOrNull_9 10 rfl ?_
    refine g_RX1_22 C dX1_rootOrNull_10 13 rfl ?_
    refine g_RX1_63 (k := 6) C (Nat.le_of_ble_eq_true rfl) (Nat.le_of_ble_eq_true rfl) dX1_rootOrNull_13 16 rfl ?_
    refine r_iload_n C 1 rfl dX1_rootOrNull_16 17 rfl ?_
    refine i_C (k := 16) C (Nat.le_of_ble_eq_true rfl) (Nat.le_of_ble_eq_true rfl) h.1 dX1_rootOrNull_17 18 rfl ?_
    replace h := h.2
    exact r_iret C hE hr hlk dX1_rootOrNull_18 h
set_option maxRecDepth 100000 in
set_option maxHeartbeats 4000000 in
theorem ctX1_homeOf {l : Launch} {D : va_G} {A : Nat → Nat} {n : Nat → Nat} {cI cG cR : ClassId} {aK aV : Nat} {a1 : Int32} {S : Nat → Nat → Int32} {Q : Nat → (Nat → Nat → Int32) → Prop} (hi : Apart 32 A)  (h : wX1_homeOf n a1 S Q) : Ct l D (tyC cI cG cR) 32 A (ceC A n cI cG cR) (FxC aK aV) yX1_homeOf cX1_homeOf 3 (some (.object "StoreNotes$Generation")) 0 0 [.ref (A 1), .int a1] S (rA A 3) (fun g S => g < 3 ∧ Q g S) := by
  refine Ct.of (by decide +kernel) hFx hi [(0, .ref (A 1)), (1, .int a1)] rfl (Nat.le_of_ble_eq_true rfl) ?_
  intro p e s m args below meth c Acc C hr hlk Qf hE
  have b2 : ∀ (nn : Nat) (x2_2 : Int32) (S : Nat → Nat → Int32), wX1_homeOf_b2 n a1  nn x2_2 S Q → J p l e { frames := 0, cells := 0, slots := 0, locals := 0 } s m args below meth c 0 0 Qf D 32 A (ceC A n cI cG cR) Acc 3 S 2 [(2, .int x2_2), (0, .ref (A 1)), (1, .int a1)] [] := by
    intro nn
    induction nn with
    | zero => intro x2_2 S h; exact False.elim h
    | succ nn ih =>
      intro x2_2 S h
      rw [wX1_homeOf_b2] at h
      refine r_iload_n C 0 rfl dX1_homeOf_2 3 rfl ?_
      refine r_if_le C 32 dX1_homeOf_3 6 rfl rfl (fun c2 => ?_) (fun c2 => ?_)
      · replace h := h.1 c2
        refine r_aload_n C 1 rfl dX1_homeOf_32 33 rfl ?_
        refine g_RX1_11 C dX1_homeOf_33 36 rfl ?_
        refine r_iconst C 0 rfl dX1_homeOf_36 37 rfl ?_
        have hb3 : 0 < 3 := (Nat.le_of_ble_eq_true rfl)
        refine a_Gk C 0 rfl (show vp_in 0 3 by unfold vp_in; decide) dX1_homeOf_37 38 rfl ?_
        exact r_aret C hE hr hlk dX1_homeOf_38 ⟨hb3, h⟩
      · replace h := h.2 c2
        refine r_iload_n C 2 rfl dX1_homeOf_6 7 rfl ?_
        refine r_aload_n C 1 rfl dX1_homeOf_7 8 rfl ?_
        refine g_RX1_11 C dX1_homeOf_8 11 rfl ?_
        refine r_iload_n C 0 rfl dX1_homeOf_11 12 rfl ?_
        have hb4 : x2_2.toNatClampNeg < 3 := vp_lt h.1
        refine a_G C h.1 dX1_homeOf_12 13 rfl ?_
        replace h := h.2
        refine g_RX1_66 (k := (3 + x2_2.toNatClampNeg)) C (Nat.le_add_right 3 x2_2.toNatClampNeg) (Nat.add_lt_add_left hb4 3) dX1_homeOf_13 16 rfl ?_
        refine r_icmp_lt C 26 dX1_homeOf_16 19 rfl rfl (fun c5 => ?_) (fun c5 => ?_)
        · replace h := h.1 c5
          obtain ⟨x6, e7⟩ : ∃ z : Int32, z = x2_2 + (-1) := ⟨_, rfl⟩
          replace h := h x6 e7
          refine r_iinc (n := -1) C 0 rfl x6 (by rw [e7]; rfl) [(2, .int x6), (0, .ref (A 1)), (1, .int a1)] (Nat.le_of_ble_eq_true rfl) rfl dX1_homeOf_26 29 rfl ?_
          refine r_goto C 2 dX1_homeOf_29 rfl ?_
          refine r_sub [(2, .int x6), (0, .ref (A 1)), (1, .int a1)] [0, 1, 2] rfl ?_
          exact ih x6  S h
        · replace h := h.2 c5
          refine r_aload_n C 1 rfl dX1_homeOf_19 20 rfl ?_
          refine g_RX1_11 C dX1_homeOf_20 23 rfl ?_
          refine r_iload_n C 0 rfl dX1_homeOf_23 24 rfl ?_
          have hb8 : x2_2.toNatClampNeg < 3 := vp_lt h.1
          refine a_G C h.1 dX1_homeOf_24 25 rfl ?_
          replace h := h.2
          exact r_aret C hE hr hlk dX1_homeOf_25 ⟨hb8, h⟩
  unfold wX1_homeOf at h
  refine r_iconst C 2 rfl dX1_homeOf_0 1 rfl ?_
  refine r_istore_n C [(2, .int 2), (0, .ref (A 1)), (1, .int a1)] (Nat.le_of_ble_eq_true rfl) rfl dX1_homeOf_1 2 rfl ?_
  refine r_sub [(2, .int 2), (0, .ref (A 1)), (1, .int a1)] [0, 1, 2] rfl ?_
  obtain ⟨f1, h⟩ := h
  exact b2  f1 2  S h
set_option maxRecDepth 100000 in
set_option maxHeartbeats 4000000 in
theorem ctX1_isTaken {l : Launch} {D : va_G} {A : Nat → Nat} {n : Nat → Nat} {cI cG cR : ClassId} {aK aV : Nat} {a1 : Int32} {S : Nat → Nat → Int32} {Q : Bool → (Nat → Nat → Int32) → Prop} (hi : Apart 32 A)  (h : wX1_isTaken n a1 S Q) : Ct l D (tyC cI cG cR) 32 A (ceC A n cI cG cR) (FxC aK aV) yX1_isTaken cX1_isTaken 2 (some .boolean) 1 22 [.ref (A 1), .int a1] S rZ Q := by
  refine Ct.of (by decide +kernel) hFx hi [(0, .ref (A 1)), (1, .int a1)] rfl (Nat.le_of_ble_eq_true rfl) ?_
  intro p e s m args below meth c Acc C hr hlk Qf hE
  unfold wX1_isTaken at h
  refine r_aload_n C 0 rfl dX1_isTaken_0 1 rfl ?_
  refine r_iload_n C 1 rfl dX1_isTaken_1 2 rfl ?_
  refine k_RX1_70 C (ctX1_homeOf hi  h) ⟨(Nat.le_of_ble_eq_true rfl), (Nat.le_of_ble_eq_true rfl)⟩ (Nat.le_of_ble_eq_true rfl) ⟨Nat.le_refl 0, Nat.le_refl 0⟩ dX1_isTaken_2 5 rfl (fun r1 S2 h => ?_)
  have hb3 := h.1
  replace h := h.2
  refine r_iload_n C 1 rfl dX1_isTaken_5 6 rfl ?_
  refine k_RX1_74 (k := (3 + r1)) C (Nat.le_add_right 3 r1) (Nat.add_lt_add_left hb3 3) (ctX0_isTaken hi hb3 h) ⟨(Nat.le_of_ble_eq_true rfl), (Nat.le_of_ble_eq_true rfl)⟩ (Nat.le_of_ble_eq_true rfl) ⟨Nat.le_refl 0, Nat.le_refl 0⟩ dX1_isTaken_6 9 rfl (fun r4 S5 h => ?_)
  exact r_zret C hE hr hlk (r := r4) dX1_isTaken_9 h
set_option maxRecDepth 100000 in
set_option maxHeartbeats 4000000 in
theorem ctX1_rowOf {l : Launch} {D : va_G} {A : Nat → Nat} {n : Nat → Nat} {cI cG cR : ClassId} {aK aV : Nat} {a1 : Int32} {S : Nat → Nat → Int32} {Q : Option Nat → (Nat → Nat → Int32) → Prop} (hi : Apart 32 A)  (h : wX1_rowOf n a1 S Q) : Ct l D (tyC cI cG cR) 32 A (ceC A n cI cG cR) (FxC aK aV) yX1_rowOf cX1_rowOf 2 (some (.object "StoreNotes$Row")) 0 0 [.ref (A 1), .int a1] S (rO A 0) (fun o S => (∀ k, o = some k → 6 ≤ k ∧ k < 16) ∧ Q o S) := by
  refine Ct.of (by decide +kernel) hFx hi [(0, .ref (A 1)), (1, .int a1)] rfl (Nat.le_of_ble_eq_true rfl) ?_
  intro p e s m args below meth c Acc C hr hlk Qf hE
  unfold wX1_rowOf at h
  refine r_iload_n C 1 rfl dX1_rowOf_0 1 rfl ?_
  by_cases c1 : a1 = 0
  · replace h := h.1 c1
    refine r_sw C 0 c1 44 dX1_rowOf_1 (by decide) (by decide) rfl rfl ?_
    refine r_aload_n C 0 rfl dX1_rowOf_44 45 rfl ?_
    refine g_RX1_52 C dX1_rowOf_45 48 rfl ?_
    refine r_iload_n C 1 rfl dX1_rowOf_48 49 rfl ?_
    have hb2 : a1.toNatClampNeg < 2 := vp_lt h.1
    refine a_RA (x := (S 1 8)) C h.1 dX1_rowOf_49 50 rfl ?_
    replace h := h.2
    exact r_oret C hE hr hlk (some (rrow (S 1 8) a1.toNatClampNeg)) (congrArg (fun z => Value.ref (A z)) (Nat.zero_add _)) dX1_rowOf_50 ⟨fun _ e => by cases e; exact ⟨(rrow_lo (S 1 8) a1.toNatClampNeg), (rrow_hi (S 1 8) hb2)⟩, h⟩
  · replace h := h.2
    by_cases c3 : a1 = 1
    · replace h := h.1 c3
      refine r_sw C 1 c3 44 dX1_rowOf_1 (by decide) (by decide) rfl rfl ?_
      refine r_aload_n C 0 rfl dX1_rowOf_44 45 rfl ?_
      refine g_RX1_52 C dX1_rowOf_45 48 rfl ?_
      refine r_iload_n C 1 rfl dX1_rowOf_48 49 rfl ?_
      have hb4 : a1.toNatClampNeg < 2 := vp_lt h.1
      refine a_RA (x := (S 1 8)) C h.1 dX1_rowOf_49 50 rfl ?_
      replace h := h.2
      exact r_oret C hE hr hlk (some (rrow (S 1 8) a1.toNatClampNeg)) (congrArg (fun z => Value.ref (A z)) (Nat.zero_add _)) dX1_rowOf_50 ⟨fun _ e => by cases e; exact ⟨(rrow_lo (S 1 8) a1.toNatClampNeg), (rrow_hi (S 1 8) hb4)⟩, h⟩
    · replace h := h.2
      by_cases c5 : a1 = 2
      · replace h := h.1 c5
        refine r_sw C 2 c5 51 dX1_rowOf_1 (by decide) (by decide) rfl rfl ?_
        refine r_aload_n C 0 rfl dX1_rowOf_51 52 rfl ?_
        refine g_RX1_45 C dX1_rowOf_52 55 rfl ?_
        exact r_oret C hE hr hlk (some 11) (congrArg (fun z => Value.ref (A z)) (Nat.zero_add _)) dX1_rowOf_55 ⟨fun _ e => by cases e; exact ⟨(Nat.le_of_ble_eq_true rfl), (Nat.le_of_ble_eq_true rfl)⟩, h⟩
      · replace h := h.2
        by_cases c6 : a1 = 3
        · replace h := h.1 c6
          refine r_sw C 3 c6 56 dX1_rowOf_1 (by decide) (by decide) rfl rfl ?_
          refine r_aload_n C 0 rfl dX1_rowOf_56 57 rfl ?_
          refine g_RX1_26 C dX1_rowOf_57 60 rfl ?_
          exact r_oret C hE hr hlk (some 7) (congrArg (fun z => Value.ref (A z)) (Nat.zero_add _)) dX1_rowOf_60 ⟨fun _ e => by cases e; exact ⟨(Nat.le_of_ble_eq_true rfl), (Nat.le_of_ble_eq_true rfl)⟩, h⟩
        · replace h := h.2
          by_cases c7 : a1 = 4
          · replace h := h.1 c7
            refine r_sw C 4 c7 61 dX1_rowOf_1 (by decide) (by decide) rfl rfl ?_
            refine r_aload_n C 0 rfl dX1_rowOf_61 62 rfl ?_
            refine g_RX1_39 C dX1_rowOf_62 65 rfl ?_
            exact r_oret C hE hr hlk (some 9) (congrArg (fun z => Value.ref (A z)) (Nat.zero_add _)) dX1_rowOf_65 ⟨fun _ e => by cases e; exact ⟨(Nat.le_of_ble_eq_true rfl), (Nat.le_of_ble_eq_true rfl)⟩, h⟩
          · replace h := h.2
            by_cases c8 : a1 = 5
            · replace h := h.1 c8
              refine r_sw C 5 c8 66 dX1_rowOf_1 (by decide) (by decide) rfl rfl ?_
              refine r_aload_n C 0 rfl dX1_rowOf_66 67 rfl ?_
              refine g_RX1_42 C dX1_rowOf_67 70 rfl ?_
              exact r_oret C hE hr hlk (some 10) (congrArg (fun z => Value.ref (A z)) (Nat.zero_add _)) dX1_rowOf_70 ⟨fun _ e => by cases e; exact ⟨(Nat.le_of_ble_eq_true rfl), (Nat.le_of_ble_eq_true rfl)⟩, h⟩
            · replace h := h.2
              by_cases c9 : a1 = 6
              · replace h := h.1 c9
                refine r_sw C 6 c9 71 dX1_rowOf_1 (by decide) (by decide) rfl rfl ?_
                refine r_aload_n C 0 rfl dX1_rowOf_71 72 rfl ?_
                refine g_RX1_29 C dX1_rowOf_72 75 rfl ?_
                exact r_oret C hE hr hlk (some 8) (congrArg (fun z => Value.ref (A z)) (Nat.zero_add _)) dX1_rowOf_75 ⟨fun _ e => by cases e; exact ⟨(Nat.le_of_ble_eq_true rfl), (Nat.le_of_ble_eq_true rfl)⟩, h⟩
              · replace h := h.2
                replace h := h c1 c3 c5 c6 c7 c8 c9
                have hsw : (a1).toInt < 0 ∨ 6 < (a1).toInt := by
                  have c1t := lv_neT (k := 0) (a := 0) c1 (by decide)
                  have c3t := lv_neT (k := 1) (a := 1) c3 (by decide)
                  have c5t := lv_neT (k := 2) (a := 2) c5 (by decide)
                  have c6t := lv_neT (k := 3) (a := 3) c6 (by decide)
                  have c7t := lv_neT (k := 4) (a := 4) c7 (by decide)
                  have c8t := lv_neT (k := 5) (a := 5) c8 (by decide)
                  have c9t := lv_neT (k := 6) (a := 6) c9 (by decide)
                  omega
                refine r_tableOut C 76 dX1_rowOf_1 hsw rfl ?_
                refine r_null C dX1_rowOf_76 77 rfl ?_
                exact r_oret C hE hr hlk none rfl dX1_rowOf_77 ⟨fun _ e => (nomatch e), h⟩
set_option maxRecDepth 100000 in
set_option maxHeartbeats 4000000 in
theorem ctX1_countOf {l : Launch} {D : va_G} {A : Nat → Nat} {n : Nat → Nat} {cI cG cR : ClassId} {aK aV : Nat} {a1 : Int32} {S : Nat → Nat → Int32} {Q : Int32 → (Nat → Nat → Int32) → Prop} (hi : Apart 32 A)  (h : wX1_countOf n a1 S Q) : Ct l D (tyC cI cG cR) 32 A (ceC A n cI cG cR) (FxC aK aV) yX1_countOf cX1_countOf 3 (some .int) 1 21 [.ref (A 1), .int a1] S rI Q := by
  refine Ct.of (by decide +kernel) hFx hi [(0, .ref (A 1)), (1, .int a1)] rfl (Nat.le_of_ble_eq_true rfl) ?_
  intro p e s m args below meth c Acc C hr hlk Qf hE
  unfold wX1_countOf at h
  refine r_iload_n C 1 rfl dX1_countOf_0 1 rfl ?_
  by_cases c1 : a1 = 0
  · replace h := h.1 c1
    refine r_sw C 0 c1 76 dX1_countOf_1 (by decide) (by decide) rfl rfl ?_
    refine r_aload_n C 0 rfl dX1_countOf_76 77 rfl ?_
    refine g_RX1_11 C dX1_countOf_77 80 rfl ?_
    refine r_iload_n C 1 rfl dX1_countOf_80 81 rfl ?_
    have hb2 : a1.toNatClampNeg < 3 := vp_lt h.1
    refine a_G C h.1 dX1_countOf_81 82 rfl ?_
    replace h := h.2
    refine g_RX1_78 (k := (3 + a1.toNatClampNeg)) C (Nat.le_add_right 3 a1.toNatClampNeg) (Nat.add_lt_add_left hb2 3) dX1_countOf_82 85 rfl ?_
    exact r_iret C hE hr hlk dX1_countOf_85 h
  · replace h := h.2
    by_cases c3 : a1 = 1
    · replace h := h.1 c3
      refine r_sw C 1 c3 76 dX1_countOf_1 (by decide) (by decide) rfl rfl ?_
      refine r_aload_n C 0 rfl dX1_countOf_76 77 rfl ?_
      refine g_RX1_11 C dX1_countOf_77 80 rfl ?_
      refine r_iload_n C 1 rfl dX1_countOf_80 81 rfl ?_
      have hb4 : a1.toNatClampNeg < 3 := vp_lt h.1
      refine a_G C h.1 dX1_countOf_81 82 rfl ?_
      replace h := h.2
      refine g_RX1_78 (k := (3 + a1.toNatClampNeg)) C (Nat.le_add_right 3 a1.toNatClampNeg) (Nat.add_lt_add_left hb4 3) dX1_countOf_82 85 rfl ?_
      exact r_iret C hE hr hlk dX1_countOf_85 h
    · replace h := h.2
      by_cases c5 : a1 = 2
      · replace h := h.1 c5
        refine r_sw C 2 c5 76 dX1_countOf_1 (by decide) (by decide) rfl rfl ?_
        refine r_aload_n C 0 rfl dX1_countOf_76 77 rfl ?_
        refine g_RX1_11 C dX1_countOf_77 80 rfl ?_
        refine r_iload_n C 1 rfl dX1_countOf_80 81 rfl ?_
        have hb6 : a1.toNatClampNeg < 3 := vp_lt h.1
        refine a_G C h.1 dX1_countOf_81 82 rfl ?_
        replace h := h.2
        refine g_RX1_78 (k := (3 + a1.toNatClampNeg)) C (Nat.le_add_right 3 a1.toNatClampNeg) (Nat.add_lt_add_left hb6 3) dX1_countOf_82 85 rfl ?_
        exact r_iret C hE hr hlk dX1_countOf_85 h
      · replace h := h.2
        by_cases c7 : a1 = 3
        · replace h := h.1 c7
          refine r_sw C 3 c7 114 dX1_countOf_1 (by decide) (by decide) rfl rfl ?_
          refine r_aload_n C 0 rfl dX1_countOf_114 115 rfl ?_
          refine r_iload_n C 1 rfl dX1_countOf_115 116 rfl ?_
          refine r_iconst C 3 rfl dX1_countOf_116 117 rfl ?_
          refine r_isub C dX1_countOf_117 118 rfl ?_
          refine k_RX1_93 C (ctX1_rowOf hi  h) ⟨(Nat.le_of_ble_eq_true rfl), (Nat.le_of_ble_eq_true rfl)⟩ (Nat.le_of_ble_eq_true rfl) ⟨Nat.le_refl 0, Nat.le_refl 0⟩ dX1_countOf_118 121 rfl (fun r8 S9 h => ?_)
          obtain ⟨hb10, h⟩ := h
          rcases r8 with _ | g11
          · replace h := h.1 rfl
            show J p l e { frames := 1, cells := 0, slots := 0, locals := 21 } s m args below meth c 0 0 Qf D 32 A (ceC A n cI cG cR) Acc 3 S9 121 [(0, .ref (A 1)), (1, .int a1)] [.null]
            refine r_astore_nN C [(2, .null), (0, .ref (A 1)), (1, .int a1)] (Nat.le_of_ble_eq_true rfl) rfl dX1_countOf_121 122 rfl ?_
            refine r_aload_nN C 0 rfl dX1_countOf_122 123 rfl ?_
            refine r_ifnonnullN C dX1_countOf_123 126 rfl ?_
            refine r_iconst C 0 rfl dX1_countOf_126 127 rfl ?_
            refine r_goto C 134 dX1_countOf_127 rfl ?_
            exact r_iret C hE hr hlk dX1_countOf_134 h
          · replace h := h.2 g11 rfl
            replace hb10 := hb10 g11 rfl
            refine r_state0 (g := g11) ?_
            show J p l e { frames := 1, cells := 0, slots := 0, locals := 21 } s m args below meth c 0 0 Qf D 32 A (ceC A n cI cG cR) Acc 3 S9 121 [(0, .ref (A 1)), (1, .int a1)] [.ref (A g11)]
            refine r_astore_n C [(2, .ref (A g11)), (0, .ref (A 1)), (1, .int a1)] (Nat.le_of_ble_eq_true rfl) rfl dX1_countOf_121 122 rfl ?_
            refine r_aload_n C 0 rfl dX1_countOf_122 123 rfl ?_
            refine r_ifnonnull C 130 dX1_countOf_123 rfl ?_
            refine r_aload_n C 0 rfl dX1_countOf_130 131 rfl ?_
            refine g_RX1_97 (k := g11) C hb10.1 hb10.2 dX1_countOf_131 134 rfl ?_
            exact r_iret C hE hr hlk dX1_countOf_134 h
        · replace h := h.2
          by_cases c12 : a1 = 4
          · replace h := h.1 c12
            refine r_sw C 4 c12 114 dX1_countOf_1 (by decide) (by decide) rfl rfl ?_
            refine r_aload_n C 0 rfl dX1_countOf_114 115 rfl ?_
            refine r_iload_n C 1 rfl dX1_countOf_115 116 rfl ?_
            refine r_iconst C 3 rfl dX1_countOf_116 117 rfl ?_
            refine r_isub C dX1_countOf_117 118 rfl ?_
            refine k_RX1_93 C (ctX1_rowOf hi  h) ⟨(Nat.le_of_ble_eq_true rfl), (Nat.le_of_ble_eq_true rfl)⟩ (Nat.le_of_ble_eq_true rfl) ⟨Nat.le_refl 0, Nat.le_refl 0⟩ dX1_countOf_118 121 rfl (fun r13 S14 h => ?_)
            obtain ⟨hb15, h⟩ := h
            rcases r13 with _ | g16
            · replace h := h.1 rfl
              show J p l e { frames := 1, cells := 0, slots := 0, locals := 21 } s m args below meth c 0 0 Qf D 32 A (ceC A n cI cG cR) Acc 3 S14 121 [(0, .ref (A 1)), (1, .int a1)] [.null]
              refine r_astore_nN C [(2, .null), (0, .ref (A 1)), (1, .int a1)] (Nat.le_of_ble_eq_true rfl) rfl dX1_countOf_121 122 rfl ?_
              refine r_aload_nN C 0 rfl dX1_countOf_122 123 rfl ?_
              refine r_ifnonnullN C dX1_countOf_123 126 rfl ?_
              refine r_iconst C 0 rfl dX1_countOf_126 127 rfl ?_
              refine r_goto C 134 dX1_countOf_127 rfl ?_
              exact r_iret C hE hr hlk dX1_countOf_134 h
            · replace h := h.2 g16 rfl
              replace hb15 := hb15 g16 rfl
              refine r_state0 (g := g16) ?_
              show J p l e { frames := 1, cells := 0, slots := 0, locals := 21 } s m args below meth c 0 0 Qf D 32 A (ceC A n cI cG cR) Acc 3 S14 121 [(0, .ref (A 1)), (1, .int a1)] [.ref (A g16)]
              refine r_astore_n C [(2, .ref (A g16)), (0, .ref (A 1)), (1, .int a1)] (Nat.le_of_ble_eq_true rfl) rfl dX1_countOf_121 122 rfl ?_
              refine r_aload_n C 0 rfl dX1_countOf_122 123 rfl ?_
              refine r_ifnonnull C 130 dX1_countOf_123 rfl ?_
              refine r_aload_n C 0 rfl dX1_countOf_130 131 rfl ?_
              refine g_RX1_97 (k := g16) C hb15.1 hb15.2 dX1_countOf_131 134 rfl ?_
              exact r_iret C hE hr hlk dX1_countOf_134 h
          · replace h := h.2
            by_cases c17 : a1 = 5
            · replace h := h.1 c17
              refine r_sw C 5 c17 114 dX1_countOf_1 (by decide) (by decide) rfl rfl ?_
              refine r_aload_n C 0 rfl dX1_countOf_114 115 rfl ?_
              refine r_iload_n C 1 rfl dX1_countOf_115 116 rfl ?_
              refine r_iconst C 3 rfl dX1_countOf_116 117 rfl ?_
              refine r_isub C dX1_countOf_117 118 rfl ?_
              refine k_RX1_93 C (ctX1_rowOf hi  h) ⟨(Nat.le_of_ble_eq_true rfl), (Nat.le_of_ble_eq_true rfl)⟩ (Nat.le_of_ble_eq_true rfl) ⟨Nat.le_refl 0, Nat.le_refl 0⟩ dX1_countOf_118 121 rfl (fun r18 S19 h => ?_)
              obtain ⟨hb20, h⟩ := h
              rcases r18 with _ | g21
              · replace h := h.1 rfl
                show J p l e { frames := 1, cells := 0, slots := 0, locals := 21 } s m args below meth c 0 0 Qf D 32 A (ceC A n cI cG cR) Acc 3 S19 121 [(0, .ref (A 1)), (1, .int a1)] [.null]
                refine r_astore_nN C [(2, .null), (0, .ref (A 1)), (1, .int a1)] (Nat.le_of_ble_eq_true rfl) rfl dX1_countOf_121 122 rfl ?_
                refine r_aload_nN C 0 rfl dX1_countOf_122 123 rfl ?_
                refine r_ifnonnullN C dX1_countOf_123 126 rfl ?_
                refine r_iconst C 0 rfl dX1_countOf_126 127 rfl ?_
                refine r_goto C 134 dX1_countOf_127 rfl ?_
                exact r_iret C hE hr hlk dX1_countOf_134 h
              · replace h := h.2 g21 rfl
                replace hb20 := hb20 g21 rfl
                refine r_state0 (g := g21) ?_
                show J p l e { frames := 1, cells := 0, slots := 0, locals := 21 } s m args below meth c 0 0 Qf D 32 A (ceC A n cI cG cR) Acc 3 S19 121 [(0, .ref (A 1)), (1, .int a1)] [.ref (A g21)]
                refine r_astore_n C [(2, .ref (A g21)), (0, .ref (A 1)), (1, .int a1)] (Nat.le_of_ble_eq_true rfl) rfl dX1_countOf_121 122 rfl ?_
                refine r_aload_n C 0 rfl dX1_countOf_122 123 rfl ?_
                refine r_ifnonnull C 130 dX1_countOf_123 rfl ?_
                refine r_aload_n C 0 rfl dX1_countOf_130 131 rfl ?_
                refine g_RX1_97 (k := g21) C hb20.1 hb20.2 dX1_countOf_131 134 rfl ?_
                exact r_iret C hE hr hlk dX1_countOf_134 h
            · replace h := h.2
              by_cases c22 : a1 = 6
              · replace h := h.1 c22
                refine r_sw C 6 c22 114 dX1_countOf_1 (by decide) (by decide) rfl rfl ?_
                refine r_aload_n C 0 rfl dX1_countOf_114 115 rfl ?_
                refine r_iload_n C 1 rfl dX1_countOf_115 116 rfl ?_
                refine r_iconst C 3 rfl dX1_countOf_116 117 rfl ?_
                refine r_isub C dX1_countOf_117 118 rfl ?_
                refine k_RX1_93 C (ctX1_rowOf hi  h) ⟨(Nat.le_of_ble_eq_true rfl), (Nat.le_of_ble_eq_true rfl)⟩ (Nat.le_of_ble_eq_true rfl) ⟨Nat.le_refl 0, Nat.le_refl 0⟩ dX1_countOf_118 121 rfl (fun r23 S24 h => ?_)
                obtain ⟨hb25, h⟩ := h
                rcases r23 with _ | g26
                · replace h := h.1 rfl
                  show J p l e { frames := 1, cells := 0, slots := 0, locals := 21 } s m args below meth c 0 0 Qf D 32 A (ceC A n cI cG cR) Acc 3 S24 121 [(0, .ref (A 1)), (1, .int a1)] [.null]
                  refine r_astore_nN C [(2, .null), (0, .ref (A 1)), (1, .int a1)] (Nat.le_of_ble_eq_true rfl) rfl dX1_countOf_121 122 rfl ?_
                  refine r_aload_nN C 0 rfl dX1_countOf_122 123 rfl ?_
                  refine r_ifnonnullN C dX1_countOf_123 126 rfl ?_
                  refine r_iconst C 0 rfl dX1_countOf_126 127 rfl ?_
                  refine r_goto C 134 dX1_countOf_127 rfl ?_
                  exact r_iret C hE hr hlk dX1_countOf_134 h
                · replace h := h.2 g26 rfl
                  replace hb25 := hb25 g26 rfl
                  refine r_state0 (g := g26) ?_
                  show J p l e { frames := 1, cells := 0, slots := 0, locals := 21 } s m args below meth c 0 0 Qf D 32 A (ceC A n cI cG cR) Acc 3 S24 121 [(0, .ref (A 1)), (1, .int a1)] [.ref (A g26)]
                  refine r_astore_n C [(2, .ref (A g26)), (0, .ref (A 1)), (1, .int a1)] (Nat.le_of_ble_eq_true rfl) rfl dX1_countOf_121 122 rfl ?_
                  refine r_aload_n C 0 rfl dX1_countOf_122 123 rfl ?_
                  refine r_ifnonnull C 130 dX1_countOf_123 rfl ?_
                  refine r_aload_n C 0 rfl dX1_countOf_130 131 rfl ?_
                  refine g_RX1_97 (k := g26) C hb25.1 hb25.2 dX1_countOf_131 134 rfl ?_
                  exact r_iret C hE hr hlk dX1_countOf_134 h
              · replace h := h.2
                by_cases c27 : a1 = 7
                · replace h := h.1 c27
                  refine r_sw C 7 c27 114 dX1_countOf_1 (by decide) (by decide) rfl rfl ?_
                  refine r_aload_n C 0 rfl dX1_countOf_114 115 rfl ?_
                  refine r_iload_n C 1 rfl dX1_countOf_115 116 rfl ?_
                  refine r_iconst C 3 rfl dX1_countOf_116 117 rfl ?_
                  refine r_isub C dX1_countOf_117 118 rfl ?_
                  refine k_RX1_93 C (ctX1_rowOf hi  h) ⟨(Nat.le_of_ble_eq_true rfl), (Nat.le_of_ble_eq_true rfl)⟩ (Nat.le_of_ble_eq_true rfl) ⟨Nat.le_refl 0, Nat.le_refl 0⟩ dX1_countOf_118 121 rfl (fun r28 S29 h => ?_)
                  obtain ⟨hb30, h⟩ := h
                  rcases r28 with _ | g31
                  · replace h := h.1 rfl
                    show J p l e { frames := 1, cells := 0, slots := 0, locals := 21 } s m args below meth c 0 0 Qf D 32 A (ceC A n cI cG cR) Acc 3 S29 121 [(0, .ref (A 1)), (1, .int a1)] [.null]
                    refine r_astore_nN C [(2, .null), (0, .ref (A 1)), (1, .int a1)] (Nat.le_of_ble_eq_true rfl) rfl dX1_countOf_121 122 rfl ?_
                    refine r_aload_nN C 0 rfl dX1_countOf_122 123 rfl ?_
                    refine r_ifnonnullN C dX1_countOf_123 126 rfl ?_
                    refine r_iconst C 0 rfl dX1_countOf_126 127 rfl ?_
                    refine r_goto C 134 dX1_countOf_127 rfl ?_
                    exact r_iret C hE hr hlk dX1_countOf_134 h
                  · replace h := h.2 g31 rfl
                    replace hb30 := hb30 g31 rfl
                    refine r_state0 (g := g31) ?_
                    show J p l e { frames := 1, cells := 0, slots := 0, locals := 21 } s m args below meth c 0 0 Qf D 32 A (ceC A n cI cG cR) Acc 3 S29 121 [(0, .ref (A 1)), (1, .int a1)] [.ref (A g31)]
                    refine r_astore_n C [(2, .ref (A g31)), (0, .ref (A 1)), (1, .int a1)] (Nat.le_of_ble_eq_true rfl) rfl dX1_countOf_121 122 rfl ?_
                    refine r_aload_n C 0 rfl dX1_countOf_122 123 rfl ?_
                    refine r_ifnonnull C 130 dX1_countOf_123 rfl ?_
                    refine r_aload_n C 0 rfl dX1_countOf_130 131 rfl ?_
                    refine g_RX1_97 (k := g31) C hb30.1 hb30.2 dX1_countOf_131 134 rfl ?_
                    exact r_iret C hE hr hlk dX1_countOf_134 h
                · replace h := h.2
                  by_cases c32 : a1 = 8
                  · replace h := h.1 c32
                    refine r_sw C 8 c32 114 dX1_countOf_1 (by decide) (by decide) rfl rfl ?_
                    refine r_aload_n C 0 rfl dX1_countOf_114 115 rfl ?_
                    refine r_iload_n C 1 rfl dX1_countOf_115 116 rfl ?_
                    refine r_iconst C 3 rfl dX1_countOf_116 117 rfl ?_
                    refine r_isub C dX1_countOf_117 118 rfl ?_
                    refine k_RX1_93 C (ctX1_rowOf hi  h) ⟨(Nat.le_of_ble_eq_true rfl), (Nat.le_of_ble_eq_true rfl)⟩ (Nat.le_of_ble_eq_true rfl) ⟨Nat.le_refl 0, Nat.le_refl 0⟩ dX1_countOf_118 121 rfl (fun r33 S34 h => ?_)
                    obtain ⟨hb35, h⟩ := h
                    rcases r33 with _ | g36
                    · replace h := h.1 rfl
                      show J p l e { frames := 1, cells := 0, slots := 0, locals := 21 } s m args below meth c 0 0 Qf D 32 A (ceC A n cI cG cR) Acc 3 S34 121 [(0, .ref (A 1)), (1, .int a1)] [.null]
                      refine r_astore_nN C [(2, .null), (0, .ref (A 1)), (1, .int a1)] (Nat.le_of_ble_eq_true rfl) rfl dX1_countOf_121 122 rfl ?_
                      refine r_aload_nN C 0 rfl dX1_countOf_122 123 rfl ?_
                      refine r_ifnonnullN C dX1_countOf_123 126 rfl ?_
                      refine r_iconst C 0 rfl dX1_countOf_126 127 rfl ?_
                      refine r_goto C 134 dX1_countOf_127 rfl ?_
                      exact r_iret C hE hr hlk dX1_countOf_134 h
                    · replace h := h.2 g36 rfl
                      replace hb35 := hb35 g36 rfl
                      refine r_state0 (g := g36) ?_
                      show J p l e { frames := 1, cells := 0, slots := 0, locals := 21 } s m args below meth c 0 0 Qf D 32 A (ceC A n cI cG cR) Acc 3 S34 121 [(0, .ref (A 1)), (1, .int a1)] [.ref (A g36)]
                      refine r_astore_n C [(2, .ref (A g36)), (0, .ref (A 1)), (1, .int a1)] (Nat.le_of_ble_eq_true rfl) rfl dX1_countOf_121 122 rfl ?_
                      refine r_aload_n C 0 rfl dX1_countOf_122 123 rfl ?_
                      refine r_ifnonnull C 130 dX1_countOf_123 rfl ?_
                      refine r_aload_n C 0 rfl dX1_countOf_130 131 rfl ?_
                      refine g_RX1_97 (k := g36) C hb35.1 hb35.2 dX1_countOf_131 134 rfl ?_
                      exact r_iret C hE hr hlk dX1_countOf_134 h
                  · replace h := h.2
                    by_cases c37 : a1 = 9
                    · replace h := h.1 c37
                      refine r_sw C 9 c37 86 dX1_countOf_1 (by decide) (by decide) rfl rfl ?_
                      refine r_aload_n C 0 rfl dX1_countOf_86 87 rfl ?_
                      refine g_RX1_11 C dX1_countOf_87 90 rfl ?_
                      refine r_iload_n C 1 rfl dX1_countOf_90 91 rfl ?_
                      refine r_bipush C 9 rfl dX1_countOf_91 93 rfl ?_
                      refine r_isub C dX1_countOf_93 94 rfl ?_
                      have hb38 : (a1 - 9).toNatClampNeg < 3 := vp_lt h.1
                      refine a_G C h.1 dX1_countOf_94 95 rfl ?_
                      replace h := h.2
                      refine g_RX1_81 (k := (3 + ((a1 - 9).toNatClampNeg))) C (Nat.le_add_right 3 ((a1 - 9).toNatClampNeg)) (Nat.add_lt_add_left hb38 3) dX1_countOf_95 98 rfl ?_
                      exact r_iret C hE hr hlk dX1_countOf_98 h
                    · replace h := h.2
                      by_cases c39 : a1 = 10
                      · replace h := h.1 c39
                        refine r_sw C 10 c39 86 dX1_countOf_1 (by decide) (by decide) rfl rfl ?_
                        refine r_aload_n C 0 rfl dX1_countOf_86 87 rfl ?_
                        refine g_RX1_11 C dX1_countOf_87 90 rfl ?_
                        refine r_iload_n C 1 rfl dX1_countOf_90 91 rfl ?_
                        refine r_bipush C 9 rfl dX1_countOf_91 93 rfl ?_
                        refine r_isub C dX1_countOf_93 94 rfl ?_
                        have hb40 : (a1 - 9).toNatClampNeg < 3 := vp_lt h.1
                        refine a_G C h.1 dX1_countOf_94 95 rfl ?_
                        replace h := h.2
                        refine g_RX1_81 (k := (3 + ((a1 - 9).toNatClampNeg))) C (Nat.le_add_right 3 ((a1 - 9).toNatClampNeg)) (Nat.add_lt_add_left hb40 3) dX1_countOf_95 98 rfl ?_
                        exact r_iret C hE hr hlk dX1_countOf_98 h
                      · replace h := h.2
                        by_cases c41 : a1 = 11
                        · replace h := h.1 c41
                          refine r_sw C 11 c41 86 dX1_countOf_1 (by decide) (by decide) rfl rfl ?_
                          refine r_aload_n C 0 rfl dX1_countOf_86 87 rfl ?_
                          refine g_RX1_11 C dX1_countOf_87 90 rfl ?_
                          refine r_iload_n C 1 rfl dX1_countOf_90 91 rfl ?_
                          refine r_bipush C 9 rfl dX1_countOf_91 93 rfl ?_
                          refine r_isub C dX1_countOf_93 94 rfl ?_
                          have hb42 : (a1 - 9).toNatClampNeg < 3 := vp_lt h.1
                          refine a_G C h.1 dX1_countOf_94 95 rfl ?_
                          replace h := h.2
                          refine g_RX1_81 (k := (3 + ((a1 - 9).toNatClampNeg))) C (Nat.le_add_right 3 ((a1 - 9).toNatClampNeg)) (Nat.add_lt_add_left hb42 3) dX1_countOf_95 98 rfl ?_
                          exact r_iret C hE hr hlk dX1_countOf_98 h
                        · replace h := h.2
                          by_cases c43 : a1 = 12
                          · replace h := h.1 c43
                            refine r_sw C 12 c43 99 dX1_countOf_1 (by decide) (by decide) rfl rfl ?_
                            refine r_aload_n C 0 rfl dX1_countOf_99 100 rfl ?_
                            refine g_RX1_84 C dX1_countOf_100 103 rfl ?_
                            exact r_iret C hE hr hlk dX1_countOf_103 h
                          · replace h := h.2
                            by_cases c44 : a1 = 13
                            · replace h := h.1 c44
                              refine r_sw C 13 c44 104 dX1_countOf_1 (by decide) (by decide) rfl rfl ?_
                              refine r_aload_n C 0 rfl dX1_countOf_104 105 rfl ?_
                              refine g_RX1_87 C dX1_countOf_105 108 rfl ?_
                              exact r_iret C hE hr hlk dX1_countOf_108 h
                            · replace h := h.2
                              by_cases c45 : a1 = 14
                              · replace h := h.1 c45
                                refine r_sw C 14 c45 109 dX1_countOf_1 (by decide) (by decide) rfl rfl ?_
                                refine r_aload_n C 0 rfl dX1_countOf_109 110 rfl ?_
                                refine g_RX1_90 C dX1_countOf_110 113 rfl ?_
                                exact r_iret C hE hr hlk dX1_countOf_113 h
                              · replace h := h.2
                                replace h := h c1 c3 c5 c7 c12 c17 c22 c27 c32 c37 c39 c41 c43 c44 c45
                                have hsw : (a1).toInt < 0 ∨ 14 < (a1).toInt := by
                                  have c1t := lv_neT (k := 0) (a := 0) c1 (by decide)
                                  have c3t := lv_neT (k := 1) (a := 1) c3 (by decide)
                                  have c5t := lv_neT (k := 2) (a := 2) c5 (by decide)
                                  have c7t := lv_neT (k := 3) (a := 3) c7 (by decide)
                                  have c12t := lv_neT (k := 4) (a := 4) c12 (by decide)
                                  have c17t := lv_neT (k := 5) (a := 5) c17 (by decide)
                                  have c22t := lv_neT (k := 6) (a := 6) c22 (by decide)
                                  have c27t := lv_neT (k := 7) (a := 7) c27 (by decide)
                                  have c32t := lv_neT (k := 8) (a := 8) c32 (by decide)
                                  have c37t := lv_neT (k := 9) (a := 9) c37 (by decide)
                                  have c39t := lv_neT (k := 10) (a := 10) c39 (by decide)
                                  have c41t := lv_neT (k := 11) (a := 11) c41 (by decide)
                                  have c43t := lv_neT (k := 12) (a := 12) c43 (by decide)
                                  have c44t := lv_neT (k := 13) (a := 13) c44 (by decide)
                                  have c45t := lv_neT (k := 14) (a := 14) c45 (by decide)
                                  omega
                                refine r_tableOut C 114 dX1_countOf_1 hsw rfl ?_
                                refine r_aload_n C 0 rfl dX1_countOf_114 115 rfl ?_
                                refine r_iload_n C 1 rfl dX1_countOf_115 116 rfl ?_
                                refine r_iconst C 3 rfl dX1_countOf_116 117 rfl ?_
                                refine r_isub C dX1_countOf_117 118 rfl ?_
                                refine k_RX1_93 C (ctX1_rowOf hi  h) ⟨(Nat.le_of_ble_eq_true rfl), (Nat.le_of_ble_eq_true rfl)⟩ (Nat.le_of_ble_eq_true rfl) ⟨Nat.le_refl 0, Nat.le_refl 0⟩ dX1_countOf_118 121 rfl (fun r46 S47 h => ?_)
                                obtain ⟨hb48, h⟩ := h
                                rcases r46 with _ | g49
                                · replace h := h.1 rfl
                                  show J p l e { frames := 1, cells := 0, slots := 0, locals := 21 } s m args below meth c 0 0 Qf D 32 A (ceC A n cI cG cR) Acc 3 S47 121 [(0, .ref (A 1)), (1, .int a1)] [.null]
                                  refine r_astore_nN C [(2, .null), (0, .ref (A 1)), (1, .int a1)] (Nat.le_of_ble_eq_true rfl) rfl dX1_countOf_121 122 rfl ?_
                                  refine r_aload_nN C 0 rfl dX1_countOf_122 123 rfl ?_
                                  refine r_ifnonnullN C dX1_countOf_123 126 rfl ?_
                                  refine r_iconst C 0 rfl dX1_countOf_126 127 rfl ?_
                                  refine r_goto C 134 dX1_countOf_127 rfl ?_
                                  exact r_iret C hE hr hlk dX1_countOf_134 h
                                · replace h := h.2 g49 rfl
                                  replace hb48 := hb48 g49 rfl
                                  refine r_state0 (g := g49) ?_
                                  show J p l e { frames := 1, cells := 0, slots := 0, locals := 21 } s m args below meth c 0 0 Qf D 32 A (ceC A n cI cG cR) Acc 3 S47 121 [(0, .ref (A 1)), (1, .int a1)] [.ref (A g49)]
                                  refine r_astore_n C [(2, .ref (A g49)), (0, .ref (A 1)), (1, .int a1)] (Nat.le_of_ble_eq_true rfl) rfl dX1_countOf_121 122 rfl ?_
                                  refine r_aload_n C 0 rfl dX1_countOf_122 123 rfl ?_
                                  refine r_ifnonnull C 130 dX1_countOf_123 rfl ?_
                                  refine r_aload_n C 0 rfl dX1_countOf_130 131 rfl ?_
                                  refine g_RX1_97 (k := g49) C hb48.1 hb48.2 dX1_countOf_131 134 rfl ?_
                                  exact r_iret C hE hr hlk dX1_countOf_134 h
set_option maxRecDepth 100000 in
set_option maxHeartbeats 4000000 in
theorem ctX3_has {l : Launch} {D : va_G} {A : Nat → Nat} {n : Nat → Nat} {cI cG cR : ClassId} {aK aV : Nat} {r0 : Nat} {a1 : Int32} {S : Nat → Nat → Int32} {Q : Bool → (Nat → Nat → Int32) → Prop} (hi : Apart 32 A) (h60 : 6 ≤ r0) (h160 : r0 < 16) (h : wX3_has n r0 a1 S Q) : Ct l D (tyC cI cG cR) 32 A (ceC A n cI cG cR) (FxC aK aV) yX3_has cX3_has 3 (some .boolean) 0 0 [.ref (A r0), .int a1] S rZ Q := by
  refine Ct.of (by decide +kernel) hFx hi [(0, .ref (A r0)), (1, .int a1)] rfl (Nat.le_of_ble_eq_true rfl) ?_
  intro p e s m args below meth c Acc C hr hlk Qf hE
  have b2 : ∀ (nn : Nat) (x2_2 : Int32) (S : Nat → Nat → Int32), wX3_has_b2 n r0 a1  nn x2_2 S Q → J p l e { frames := 0, cells := 0, slots := 0, locals := 0 } s m args below meth c 0 0 Qf D 32 A (ceC A n cI cG cR) Acc 3 S 2 [(2, .int x2_2), (0, .ref (A r0)), (1, .int a1)] [] := by
    intro nn
    induction nn with
    | zero => intro x2_2 S h; exact False.elim h
    | succ nn ih =>
      intro x2_2 S h
      rw [wX3_has_b2] at h
      refine r_iload_n C 0 rfl dX3_has_2 3 rfl ?_
      refine r_aload_n C 1 rfl dX3_has_3 4 rfl ?_
      refine g_RX3_15 (k := r0) C h60 h160 dX3_has_4 7 rfl ?_
      refine r_icmp_ge C 28 dX3_has_7 10 rfl rfl (fun c2 => ?_) (fun c2 => ?_)
      · replace h := h.1 c2
        refine r_iconst C 0 rfl dX3_has_28 29 rfl ?_
        exact r_zret C hE hr hlk (r := false) dX3_has_29 h
      · replace h := h.2 c2
        refine r_aload_n C 1 rfl dX3_has_10 11 rfl ?_
        refine g_RX3_9 (k := r0) C h60 h160 dX3_has_11 14 rfl ?_
        refine r_iload_n C 0 rfl dX3_has_14 15 rfl ?_
        refine i_C (k := (r0 + 10)) C (Nat.add_le_add_right h60 10) (Nat.lt_of_lt_of_le (Nat.add_lt_add_right h160 10) (Nat.le_of_ble_eq_true rfl)) h.1 dX3_has_15 16 rfl ?_
        replace h := h.2
        refine r_iload_n C 2 rfl dX3_has_16 17 rfl ?_
        refine r_icmp_ne C 22 dX3_has_17 20 rfl rfl (fun c3 => ?_) (fun c3 => ?_)
        · replace h := h.1 c3
          refine r_iconst C 1 rfl dX3_has_20 21 rfl ?_
          exact r_zret C hE hr hlk (r := true) dX3_has_21 h
        · replace h := h.2 c3
          obtain ⟨x4, e5⟩ : ∃ z : Int32, z = x2_2 + 1 := ⟨_, rfl⟩
          replace h := h x4 e5
          refine r_iinc (n := 1) C 0 rfl x4 (by rw [e5]; rfl) [(2, .int x4), (0, .ref (A r0)), (1, .int a1)] (Nat.le_of_ble_eq_true rfl) rfl dX3_has_22 25 rfl ?_
          refine r_goto C 2 dX3_has_25 rfl ?_
          refine r_sub [(2, .int x4), (0, .ref (A r0)), (1, .int a1)] [0, 1, 2] rfl ?_
          exact ih x4  S h
  unfold wX3_has at h
  refine r_iconst C 0 rfl dX3_has_0 1 rfl ?_
  refine r_istore_n C [(2, .int 0), (0, .ref (A r0)), (1, .int a1)] (Nat.le_of_ble_eq_true rfl) rfl dX3_has_1 2 rfl ?_
  refine r_sub [(2, .int 0), (0, .ref (A r0)), (1, .int a1)] [0, 1, 2] rfl ?_
  obtain ⟨f1, h⟩ := h
  exact b2  f1 0  S h
set_option maxRecDepth 100000 in
set_option maxHeartbeats 4000000 in
theorem ctX3_add {l : Launch} {D : va_G} {A : Nat → Nat} {n : Nat → Nat} {cI cG cR : ClassId} {aK aV : Nat} {r0 : Nat} {a1 : Int32} {S : Nat → Nat → Int32} {Q : Unit → (Nat → Nat → Int32) → Prop} (hi : Apart 32 A) (h60 : 6 ≤ r0) (h160 : r0 < 16) (h : wX3_add n r0 a1 S Q) : Ct l D (tyC cI cG cR) 32 A (ceC A n cI cG cR) (FxC aK aV) yX3_add cX3_add 2 none 0 0 [.ref (A r0), .int a1] S rU Q := by
  refine Ct.of (by decide +kernel) hFx hi [(0, .ref (A r0)), (1, .int a1)] rfl (Nat.le_of_ble_eq_true rfl) ?_
  intro p e s m args below meth c Acc C hr hlk Qf hE
  unfold wX3_add at h
  refine r_aload_n C 0 rfl dX3_add_0 1 rfl ?_
  refine g_RX3_15 (k := r0) C h60 h160 dX3_add_1 4 rfl ?_
  refine r_aload_n C 0 rfl dX3_add_4 5 rfl ?_
  refine g_RX3_9 (k := r0) C h60 h160 dX3_add_5 8 rfl ?_
  refine l_C (k := (r0 + 10)) C (Nat.add_le_add_right h60 10) (Nat.lt_of_lt_of_le (Nat.add_lt_add_right h160 10) (Nat.le_of_ble_eq_true rfl)) dX3_add_8 9 rfl ?_
  refine r_icmp_ge C 32 dX3_add_9 12 rfl rfl (fun c1 => ?_) (fun c1 => ?_)
  · replace h := h.1 c1
    exact r_vret C hE hr hlk dX3_add_32 h
  · replace h := h.2 c1
    refine r_aload_n C 0 rfl dX3_add_12 13 rfl ?_
    refine g_RX3_9 (k := r0) C h60 h160 dX3_add_13 16 rfl ?_
    refine r_aload_n C 0 rfl dX3_add_16 17 rfl ?_
    refine g_RX3_15 (k := r0) C h60 h160 dX3_add_17 20 rfl ?_
    refine r_iload_n C 1 rfl dX3_add_20 21 rfl ?_
    refine s_C (k := (r0 + 10)) C (Nat.add_le_add_right h60 10) (Nat.lt_of_lt_of_le (Nat.add_lt_add_right h160 10) (Nat.le_of_ble_eq_true rfl)) h.1 dX3_add_21 22 rfl (fun S2 e3 => ?_)
    replace h := h.2
    replace h := h S2 e3
    refine r_aload_n C 0 rfl dX3_add_22 23 rfl ?_
    refine r_dup C rfl dX3_add_23 24 rfl ?_
    refine g_RX3_15 (k := r0) C h60 h160 dX3_add_24 27 rfl ?_
    refine r_iconst C 1 rfl dX3_add_27 28 rfl ?_
    refine r_iadd C dX3_add_28 29 rfl ?_
    refine p_RX3_15 (k := r0) C h60 h160 (x := ((S2 r0 1) + 1)) dX3_add_29 32 rfl (fun S4 e5 => ?_)
    replace h := h S4 e5
    exact r_vret C hE hr hlk dX3_add_32 h
set_option maxRecDepth 100000 in
set_option maxHeartbeats 4000000 in
theorem ctX1_remember {l : Launch} {D : va_G} {A : Nat → Nat} {n : Nat → Nat} {cI cG cR : ClassId} {aK aV : Nat} {a1 : Int32} {S : Nat → Nat → Int32} {Q : Unit → (Nat → Nat → Int32) → Prop} (hi : Apart 32 A)  (h : wX1_remember n a1 S Q) : Ct l D (tyC cI cG cR) 32 A (ceC A n cI cG cR) (FxC aK aV) yX1_remember cX1_remember 4 none 1 22 [.ref (A 1), .int a1] S rU Q := by
  refine Ct.of (by decide +kernel) hFx hi [(0, .ref (A 1)), (1, .int a1)] rfl (Nat.le_of_ble_eq_true rfl) ?_
  intro p e s m args below meth c Acc C hr hlk Qf hE
  unfold wX1_remember at h
  refine r_aload_n C 0 rfl dX1_remember_0 1 rfl ?_
  refine g_RX1_32 C dX1_remember_1 4 rfl ?_
  refine r_iload_n C 1 rfl dX1_remember_4 5 rfl ?_
  refine i_C (k := 26) C (Nat.le_of_ble_eq_true rfl) (Nat.le_of_ble_eq_true rfl) h.1 dX1_remember_5 6 rfl ?_
  replace h := h.2
  refine r_istore_n C [(2, .int (S 26 a1.toNatClampNeg)), (0, .ref (A 1)), (1, .int a1)] (Nat.le_of_ble_eq_true rfl) rfl dX1_remember_6 7 rfl ?_
  refine r_iload_n C 0 rfl dX1_remember_7 8 rfl ?_
  refine r_if_ne C 12 dX1_remember_8 11 rfl rfl (fun c1 => ?_) (fun c1 => ?_)
  · replace h := h.1 c1
    exact r_vret C hE hr hlk dX1_remember_11 h
  · replace h := h.2 c1
    refine r_aload_n C 1 rfl dX1_remember_12 13 rfl ?_
    refine r_iload_n C 0 rfl dX1_remember_13 14 rfl ?_
    refine k_RX1_70 C (ctX1_homeOf hi  h) ⟨(Nat.le_of_ble_eq_true rfl), (Nat.le_of_ble_eq_true rfl)⟩ (Nat.le_of_ble_eq_true rfl) ⟨Nat.le_refl 0, Nat.le_refl 0⟩ dX1_remember_14 17 rfl (fun r2 S3 h => ?_)
    have hb4 := h.1
    replace h := h.2
    refine g_RX1_123 (k := (3 + r2)) C (Nat.le_add_right 3 r2) (Nat.add_lt_add_left hb4 3) dX1_remember_17 20 rfl ?_
    refine r_topi (fun x5 e6 => ?_)
    replace h := h x5 e6
    refine r_istore_n C [(3, .int x5), (2, .int (S 26 a1.toNatClampNeg)), (0, .ref (A 1)), (1, .int a1)] (Nat.le_of_ble_eq_true rfl) rfl dX1_remember_20 21 rfl ?_
    refine r_iload_n C 0 rfl dX1_remember_21 22 rfl ?_
    refine r_aload_n C 2 rfl dX1_remember_22 23 rfl ?_
    refine r_iload_n C 3 rfl dX1_remember_23 24 rfl ?_
    refine k_RX1_70 C (ctX1_homeOf hi  h) ⟨(Nat.le_of_ble_eq_true rfl), (Nat.le_of_ble_eq_true rfl)⟩ (Nat.le_of_ble_eq_true rfl) ⟨Nat.le_refl 0, Nat.le_refl 0⟩ dX1_remember_24 27 rfl (fun r7 S8 h => ?_)
    have hb9 := h.1
    replace h := h.2
    refine g_RX1_123 (k := (3 + r7)) C (Nat.le_add_right 3 r7) (Nat.add_lt_add_left hb9 3) dX1_remember_27 30 rfl ?_
    refine r_icmp_ge C 56 dX1_remember_30 33 rfl rfl (fun c10 => ?_) (fun c10 => ?_)
    · replace h := h.1 c10
      exact r_vret C hE hr hlk dX1_remember_56 h
    · replace h := h.2 c10
      refine r_aload_n C 2 rfl dX1_remember_33 34 rfl ?_
      refine g_RX1_52 C dX1_remember_34 37 rfl ?_
      refine r_iload_n C 0 rfl dX1_remember_37 38 rfl ?_
      have hb11 : x5.toNatClampNeg < 2 := vp_lt h.1
      refine a_RA (x := (S8 1 8)) C h.1 dX1_remember_38 39 rfl ?_
      replace h := h.2
      refine r_iload_n C 3 rfl dX1_remember_39 40 rfl ?_
      refine k_RX1_126 (k := (rrow (S8 1 8) x5.toNatClampNeg)) C (rrow_lo (S8 1 8) x5.toNatClampNeg) (rrow_hi (S8 1 8) hb11) (ctX3_has hi (rrow_lo (S8 1 8) x5.toNatClampNeg) (rrow_hi (S8 1 8) hb11) h) ⟨(Nat.le_of_ble_eq_true rfl), (Nat.le_of_ble_eq_true rfl)⟩ (Nat.le_of_ble_eq_true rfl) ⟨Nat.le_refl 0, Nat.le_refl 0⟩ dX1_remember_40 43 rfl (fun r12 S13 h => ?_)
      rcases bool_or r12 with c14 | c14
      · replace h := h.1 c14
        refine r_if_neF C c14 56 dX1_remember_43 46 rfl rfl ?_
        refine r_aload_n C 2 rfl dX1_remember_46 47 rfl ?_
        refine g_RX1_52 C dX1_remember_47 50 rfl ?_
        refine r_iload_n C 0 rfl dX1_remember_50 51 rfl ?_
        have hb15 : x5.toNatClampNeg < 2 := vp_lt h.1
        refine a_RA (x := (S13 1 8)) C h.1 dX1_remember_51 52 rfl ?_
        replace h := h.2
        refine r_iload_n C 3 rfl dX1_remember_52 53 rfl ?_
        refine k_RX1_109 (k := (rrow (S13 1 8) x5.toNatClampNeg)) C (rrow_lo (S13 1 8) x5.toNatClampNeg) (rrow_hi (S13 1 8) hb15) (ctX3_add hi (rrow_lo (S13 1 8) x5.toNatClampNeg) (rrow_hi (S13 1 8) hb15) h) ⟨(Nat.le_of_ble_eq_true rfl), (Nat.le_of_ble_eq_true rfl)⟩ (Nat.le_of_ble_eq_true rfl) ⟨Nat.le_refl 0, Nat.le_refl 0⟩ dX1_remember_53 56 rfl (fun S17 h => ?_)
        exact r_vret C hE hr hlk dX1_remember_56 h
      · replace h := h.2 c14
        refine r_if_neT C c14 56 dX1_remember_43 46 rfl rfl ?_
        exact r_vret C hE hr hlk dX1_remember_56 h
set_option maxRecDepth 100000 in
set_option maxHeartbeats 4000000 in
theorem ctX1_filter {l : Launch} {D : va_G} {A : Nat → Nat} {n : Nat → Nat} {cI cG cR : ClassId} {aK aV : Nat}  {S : Nat → Nat → Int32} {Q : Unit → (Nat → Nat → Int32) → Prop} (hi : Apart 32 A)  (h : wX1_filter n  S Q) : Ct l D (tyC cI cG cR) 32 A (ceC A n cI cG cR) (FxC aK aV) yX1_filter cX1_filter 2 none 2 45 [.ref (A 1)] S rU Q := by
  refine Ct.of (by decide +kernel) hFx hi [(0, .ref (A 1))] rfl (Nat.le_of_ble_eq_true rfl) ?_
  intro p e s m args below meth c Acc C hr hlk Qf hE
  have b2 : ∀ (nn : Nat) (x2_1 : Int32) (S : Nat → Nat → Int32), wX1_filter_b2 n   nn x2_1 S Q → J p l e { frames := 2, cells := 0, slots := 0, locals := 45 } s m args below meth c 0 0 Qf D 32 A (ceC A n cI cG cR) Acc 2 S 2 [(1, .int x2_1), (0, .ref (A 1))] [] := by
    intro nn
    induction nn with
    | zero => intro x2_1 S h; exact False.elim h
    | succ nn ih =>
      intro x2_1 S h
      rw [wX1_filter_b2] at h
      refine r_iload_n C 0 rfl dX1_filter_2 3 rfl ?_
      refine r_aload_n C 1 rfl dX1_filter_3 4 rfl ?_
      refine g_RX1_45 C dX1_filter_4 7 rfl ?_
      refine g_RX1_97 (k := 11) C (Nat.le_of_ble_eq_true rfl) (Nat.le_of_ble_eq_true rfl) dX1_filter_7 10 rfl ?_
      refine r_icmp_ge C 32 dX1_filter_10 13 rfl rfl (fun c2 => ?_) (fun c2 => ?_)
      · replace h := h.1 c2
        refine r_aload_n C 1 rfl dX1_filter_32 33 rfl ?_
        refine g_RX1_45 C dX1_filter_33 36 rfl ?_
        refine r_iconst C 0 rfl dX1_filter_36 37 rfl ?_
        refine p_RX1_97 (k := 11) C (Nat.le_of_ble_eq_true rfl) (Nat.le_of_ble_eq_true rfl) (x := 0) dX1_filter_37 40 rfl (fun S3 e4 => ?_)
        replace h := h S3 e4
        exact r_vret C hE hr hlk dX1_filter_40 h
      · replace h := h.2 c2
        refine r_aload_n C 1 rfl dX1_filter_13 14 rfl ?_
        refine r_aload_n C 1 rfl dX1_filter_14 15 rfl ?_
        refine g_RX1_45 C dX1_filter_15 18 rfl ?_
        refine g_RX1_63 (k := 11) C (Nat.le_of_ble_eq_true rfl) (Nat.le_of_ble_eq_true rfl) dX1_filter_18 21 rfl ?_
        refine r_iload_n C 0 rfl dX1_filter_21 22 rfl ?_
        refine i_C (k := 21) C (Nat.le_of_ble_eq_true rfl) (Nat.le_of_ble_eq_true rfl) h.1 dX1_filter_22 23 rfl ?_
        replace h := h.2
        refine k_RX1_120 C (ctX1_remember hi  h) ⟨(Nat.le_of_ble_eq_true rfl), (Nat.le_of_ble_eq_true rfl)⟩ (Nat.le_of_ble_eq_true rfl) ⟨Nat.le_refl 0, Nat.le_refl 0⟩ dX1_filter_23 26 rfl (fun S6 h => ?_)
        obtain ⟨x7, e8⟩ : ∃ z : Int32, z = x2_1 + 1 := ⟨_, rfl⟩
        replace h := h x7 e8
        refine r_iinc (n := 1) C 0 rfl x7 (by rw [e8]; rfl) [(1, .int x7), (0, .ref (A 1))] (Nat.le_of_ble_eq_true rfl) rfl dX1_filter_26 29 rfl ?_
        refine r_goto C 2 dX1_filter_29 rfl ?_
        refine r_sub [(1, .int x7), (0, .ref (A 1))] [0, 1] rfl ?_
        exact ih x7  S6 h
  unfold wX1_filter at h
  refine r_iconst C 0 rfl dX1_filter_0 1 rfl ?_
  refine r_istore_n C [(1, .int 0), (0, .ref (A 1))] (Nat.le_of_ble_eq_true rfl) rfl dX1_filter_1 2 rfl ?_
  refine r_sub [(1, .int 0), (0, .ref (A 1))] [0, 1] rfl ?_
  obtain ⟨f1, h⟩ := h
  exact b2  f1 0  S h
set_option maxRecDepth 100000 in
set_option maxHeartbeats 4000000 in
theorem ctX1_putRowsAside {l : Launch} {D : va_G} {A : Nat → Nat} {n : Nat → Nat} {cI cG cR : ClassId} {aK aV : Nat}  {S : Nat → Nat → Int32} {Q : Unit → (Nat → Nat → Int32) → Prop} (hi : Apart 32 A)  (h : wX1_putRowsAside n  S Q) : Ct l D (tyC cI cG cR) 32 A (ceC A n cI cG cR) (FxC aK aV) yX1_putRowsAside cX1_putRowsAside 2 none 0 0 [.ref (A 1)] S rU Q := by
  refine Ct.of (by decide +kernel) hFx hi [(0, .ref (A 1))] rfl (Nat.le_of_ble_eq_true rfl) ?_
  intro p e s m args below meth c Acc C hr hlk Qf hE
  unfold wX1_putRowsAside at h
  refine r_aload_n C 0 rfl dX1_putRowsAside_0 1 rfl ?_
  refine g_RX1_56 C dX1_putRowsAside_1 4 rfl ?_
  refine r_astore_n C [(1, .ref (A (if S 1 9 = 0 then 30 else 31))), (0, .ref (A 1))] (Nat.le_of_ble_eq_true rfl) rfl dX1_putRowsAside_4 5 rfl ?_
  refine r_aload_n C 1 rfl dX1_putRowsAside_5 6 rfl ?_
  refine r_aload_n C 1 rfl dX1_putRowsAside_6 7 rfl ?_
  refine g_RX1_52 C dX1_putRowsAside_7 10 rfl ?_
  refine p_RX1_56 C (x := (S 1 8)) dX1_putRowsAside_10 13 rfl (fun S1 e2 => ?_)
  replace h := h S1 e2
  refine r_aload_n C 1 rfl dX1_putRowsAside_13 14 rfl ?_
  refine r_aload_n C 0 rfl dX1_putRowsAside_14 15 rfl ?_
  refine p_RX1_52 C (x := (S 1 9)) dX1_putRowsAside_15 18 rfl (fun S3 e4 => ?_)
  replace h := h S3 e4
  refine r_aload_n C 1 rfl dX1_putRowsAside_18 19 rfl ?_
  refine g_RX1_52 C dX1_putRowsAside_19 22 rfl ?_
  refine r_iconst C 0 rfl dX1_putRowsAside_22 23 rfl ?_
  have hb5 : 0 < 2 := (Nat.le_of_ble_eq_true rfl)
  refine a_RAk (x := (S3 1 8)) C 0 rfl (show vp_in 0 2 by unfold vp_in; decide) dX1_putRowsAside_23 24 rfl ?_
  refine r_iconst C 0 rfl dX1_putRowsAside_24 25 rfl ?_
  refine p_RX1_97 (k := (rrow (S3 1 8) 0)) C (rrow_lo (S3 1 8) 0) (rrow_hi (S3 1 8) hb5) (x := 0) dX1_putRowsAside_25 28 rfl (fun S6 e7 => ?_)
  replace h := h S6 e7
  refine r_aload_n C 1 rfl dX1_putRowsAside_28 29 rfl ?_
  refine g_RX1_52 C dX1_putRowsAside_29 32 rfl ?_
  refine r_iconst C 1 rfl dX1_putRowsAside_32 33 rfl ?_
  have hb8 : 1 < 2 := (Nat.le_of_ble_eq_true rfl)
  refine a_RAk (x := (S6 1 8)) C 1 rfl (show vp_in 1 2 by unfold vp_in; decide) dX1_putRowsAside_33 34 rfl ?_
  refine r_iconst C 0 rfl dX1_putRowsAside_34 35 rfl ?_
  refine p_RX1_97 (k := (rrow (S6 1 8) 1)) C (rrow_lo (S6 1 8) 1) (rrow_hi (S6 1 8) hb8) (x := 0) dX1_putRowsAside_35 38 rfl (fun S9 e10 => ?_)
  replace h := h S9 e10
  exact r_vret C hE hr hlk dX1_putRowsAside_38 h
set_option maxRecDepth 100000 in
set_option maxHeartbeats 4000000 in
theorem ctX1_brought {l : Launch} {D : va_G} {A : Nat → Nat} {n : Nat → Nat} {cI cG cR : ClassId} {aK aV : Nat} {a1 : Int32} {S : Nat → Nat → Int32} {Q : Int32 → (Nat → Nat → Int32) → Prop} (hi : Apart 32 A)  (h : wX1_brought n a1 S Q) : Ct l D (tyC cI cG cR) 32 A (ceC A n cI cG cR) (FxC aK aV) yX1_brought cX1_brought 6 (some .int) 1 48 [.ref (A 1), .int a1] S rI Q := by
  refine Ct.of (by decide +kernel) hFx hi [(0, .ref (A 1)), (1, .int a1)] rfl (Nat.le_of_ble_eq_true rfl) ?_
  intro p e s m args below meth c Acc C hr hlk Qf hE
  have b125 : ∀ (x125_4 : Int32) (x125_3 : Int32) (x125_2 : Nat) (hb_x125_2 : x125_2 < 3) (S : Nat → Nat → Int32), wX1_brought_b125 n a1  x125_4 x125_3 x125_2 S Q → J p l e { frames := 1, cells := 0, slots := 0, locals := 48 } s m args below meth c 0 0 Qf D 32 A (ceC A n cI cG cR) Acc 6 S 125 [(4, .int x125_4), (3, .int x125_3), (2, .ref (A (3 + x125_2))), (0, .ref (A 1)), (1, .int a1)] [] := by
    intro  x125_4 x125_3 x125_2 hb_x125_2 S h
    unfold wX1_brought_b125 at h
    refine r_aload_n C 2 rfl dX1_brought_125 126 rfl ?_
    refine r_iload_n C 1 rfl dX1_brought_126 127 rfl ?_
    refine k_RX1_106 (k := (3 + x125_2)) C (Nat.le_add_right 3 x125_2) (Nat.add_lt_add_left hb_x125_2 3) (ctX0_take hi hb_x125_2 h) ⟨(Nat.le_of_ble_eq_true rfl), (Nat.le_of_ble_eq_true rfl)⟩ (Nat.le_of_ble_eq_true rfl) ⟨Nat.le_refl 0, Nat.le_refl 0⟩ dX1_brought_127 130 rfl (fun r27 S28 h => ?_)
    refine r_istore C [(5, .int r27), (4, .int x125_4), (3, .int x125_3), (2, .ref (A (3 + x125_2))), (0, .ref (A 1)), (1, .int a1)] (Nat.le_of_ble_eq_true rfl) rfl dX1_brought_130 132 rfl ?_
    refine r_aload_n C 4 rfl dX1_brought_132 133 rfl ?_
    refine g_RX1_32 C dX1_brought_133 136 rfl ?_
    refine r_iload_n C 5 rfl dX1_brought_136 137 rfl ?_
    refine r_aload_n C 4 rfl dX1_brought_137 138 rfl ?_
    refine g_RX1_32 C dX1_brought_138 141 rfl ?_
    refine r_iload C 0 rfl dX1_brought_141 143 rfl ?_
    refine r_iload_n C 2 rfl dX1_brought_143 144 rfl ?_
    refine r_copy (n0 := n 26) (n1 := n 26) C 26 26 0 0 b_403 b_405 b_404 b_56 (lt32 (Nat.le_of_ble_eq_true rfl)) (lt32 (Nat.le_of_ble_eq_true rfl)) (heC_i (Nat.le_of_ble_eq_true rfl) (Nat.le_of_ble_eq_true rfl) _) (heC_i (Nat.le_of_ble_eq_true rfl) (Nat.le_of_ble_eq_true rfl)) rfl rfl h.1 ⟨(Nat.le_of_ble_eq_true rfl), (by decide)⟩ dX1_brought_144 147 rfl (fun S29 e30 => ?_)
    replace h := h.2 S29 e30
    refine r_aload_n C 4 rfl dX1_brought_147 148 rfl ?_
    refine g_RX1_32 C dX1_brought_148 151 rfl ?_
    refine r_iload C 0 rfl dX1_brought_151 153 rfl ?_
    refine r_aload_n C 4 rfl dX1_brought_153 154 rfl ?_
    refine g_RX1_32 C dX1_brought_154 157 rfl ?_
    refine r_iload_n C 5 rfl dX1_brought_157 158 rfl ?_
    refine i_C (k := 26) C (Nat.le_of_ble_eq_true rfl) (Nat.le_of_ble_eq_true rfl) h.1 dX1_brought_158 159 rfl ?_
    replace h := h.2
    refine r_bipush C (-57 : Int32) rfl dX1_brought_159 161 rfl ?_
    refine r_iand C dX1_brought_161 162 rfl ?_
    refine r_iload C 1 rfl dX1_brought_162 164 rfl ?_
    refine r_iconst C 3 rfl dX1_brought_164 165 rfl ?_
    refine r_ishl C dX1_brought_165 166 rfl ?_
    refine r_ior C dX1_brought_166 167 rfl ?_
    refine s_C (k := 26) C (Nat.le_of_ble_eq_true rfl) (Nat.le_of_ble_eq_true rfl) h.1 dX1_brought_167 168 rfl (fun S31 e32 => ?_)
    replace h := h.2
    replace h := h S31 e32
    refine r_aload_n C 4 rfl dX1_brought_168 169 rfl ?_
    refine g_RX1_32 C dX1_brought_169 172 rfl ?_
    refine r_iload_n C 5 rfl dX1_brought_172 173 rfl ?_
    refine r_iload C 0 rfl dX1_brought_173 175 rfl ?_
    refine r_ineg C dX1_brought_175 176 rfl ?_
    refine s_C (k := 26) C (Nat.le_of_ble_eq_true rfl) (Nat.le_of_ble_eq_true rfl) h.1 dX1_brought_176 177 rfl (fun S33 e34 => ?_)
    replace h := h.2
    replace h := h S33 e34
    refine r_aload_n C 4 rfl dX1_brought_177 178 rfl ?_
    refine r_dup C rfl dX1_brought_178 179 rfl ?_
    refine g_RX1_87 C dX1_brought_179 182 rfl ?_
    refine r_iload_n C 2 rfl dX1_brought_182 183 rfl ?_
    refine r_iadd C dX1_brought_183 184 rfl ?_
    refine p_RX1_87 C (x := ((S33 1 11) + x125_3)) dX1_brought_184 187 rfl (fun S35 e36 => ?_)
    replace h := h S35 e36
    refine r_iload C 0 rfl dX1_brought_187 189 rfl ?_
    exact r_iret C hE hr hlk dX1_brought_189 h
  unfold wX1_brought at h
  refine r_aload_n C 0 rfl dX1_brought_0 1 rfl ?_
  refine r_iload_n C 1 rfl dX1_brought_1 2 rfl ?_
  refine k_RX1_70 C (ctX1_homeOf hi  h) ⟨(Nat.le_of_ble_eq_true rfl), (Nat.le_of_ble_eq_true rfl)⟩ (Nat.le_of_ble_eq_true rfl) ⟨Nat.le_refl 0, Nat.le_refl 0⟩ dX1_brought_2 5 rfl (fun r1 S2 h => ?_)
  have hb3 := h.1
  replace h := h.2
  refine r_astore_n C [(2, .ref (A (3 + r1))), (0, .ref (A 1)), (1, .int a1)] (Nat.le_of_ble_eq_true rfl) rfl dX1_brought_5 6 rfl ?_
  refine r_aload_n C 0 rfl dX1_brought_6 7 rfl ?_
  refine r_iload_n C 2 rfl dX1_brought_7 8 rfl ?_
  refine k_RX1_159 (k := (3 + r1)) C (Nat.le_add_right 3 r1) (Nat.add_lt_add_left hb3 3) (ctX0_isInFrom hi hb3 h) ⟨(Nat.le_of_ble_eq_true rfl), (Nat.le_of_ble_eq_true rfl)⟩ (Nat.le_of_ble_eq_true rfl) ⟨Nat.le_refl 0, Nat.le_refl 0⟩ dX1_brought_8 11 rfl (fun r4 S5 h => ?_)
  rcases bool_or r4 with c6 | c6
  · replace h := h.1 c6
    refine r_if_neF C c6 16 dX1_brought_11 14 rfl rfl ?_
    refine r_iload_n C 2 rfl dX1_brought_14 15 rfl ?_
    exact r_iret C hE hr hlk dX1_brought_15 h
  · replace h := h.2 c6
    refine r_if_neT C c6 16 dX1_brought_11 14 rfl rfl ?_
    refine r_aload_n C 1 rfl dX1_brought_16 17 rfl ?_
    refine g_RX1_32 C dX1_brought_17 20 rfl ?_
    refine r_iload_n C 2 rfl dX1_brought_20 21 rfl ?_
    refine i_C (k := 26) C (Nat.le_of_ble_eq_true rfl) (Nat.le_of_ble_eq_true rfl) h.1 dX1_brought_21 22 rfl ?_
    replace h := h.2
    refine r_if_ge C 33 dX1_brought_22 25 rfl rfl (fun c7 => ?_) (fun c7 => ?_)
    · replace h := h.1 c7
      refine r_iconst C 2 rfl dX1_brought_33 34 rfl ?_
      refine r_aload_n C 1 rfl dX1_brought_34 35 rfl ?_
      refine r_iload_n C 2 rfl dX1_brought_35 36 rfl ?_
      refine k_RX1_59 C (ctX1_fieldsOf hi  h) ⟨(Nat.le_of_ble_eq_true rfl), (Nat.le_of_ble_eq_true rfl)⟩ (Nat.le_of_ble_eq_true rfl) ⟨Nat.le_refl 0, Nat.le_refl 0⟩ dX1_brought_36 39 rfl (fun r8 S9 h => ?_)
      refine r_iadd C dX1_brought_39 40 rfl ?_
      refine r_topi (fun x10 e11 => ?_)
      replace h := h x10 e11
      refine r_istore_n C [(3, .int x10), (2, .ref (A (3 + r1))), (0, .ref (A 1)), (1, .int a1)] (Nat.le_of_ble_eq_true rfl) rfl dX1_brought_40 41 rfl ?_
      refine r_aload_n C 2 rfl dX1_brought_41 42 rfl ?_
      refine r_iload_n C 3 rfl dX1_brought_42 43 rfl ?_
      refine k_RX1_162 C (ctX1_ageOf hi  h) ⟨(Nat.le_of_ble_eq_true rfl), (Nat.le_of_ble_eq_true rfl)⟩ (Nat.le_of_ble_eq_true rfl) ⟨Nat.le_refl 0, Nat.le_refl 0⟩ dX1_brought_43 46 rfl (fun r12 S13 h => ?_)
      refine r_iconst C 1 rfl dX1_brought_46 47 rfl ?_
      refine r_iadd C dX1_brought_47 48 rfl ?_
      refine r_bipush C 7 rfl dX1_brought_48 50 rfl ?_
      refine r_min C b_398 b_76 b_46 b_77 ⟨(Nat.le_of_ble_eq_true rfl), (Nat.le_of_ble_eq_true rfl), (Nat.le_of_ble_eq_true rfl), (Nat.le_of_ble_eq_true rfl)⟩ dX1_brought_50 53 rfl ?_
      refine r_topi (fun x14 e15 => ?_)
      replace h := h x14 e15
      refine r_istore C [(4, .int x14), (3, .int x10), (2, .ref (A (3 + r1))), (0, .ref (A 1)), (1, .int a1)] (Nat.le_of_ble_eq_true rfl) rfl dX1_brought_53 55 rfl ?_
      refine r_aload_n C 2 rfl dX1_brought_55 56 rfl ?_
      refine r_dup C rfl dX1_brought_56 57 rfl ?_
      refine g_RX1_171 (k := (3 + r1)) C (Nat.le_add_right 3 r1) (Nat.add_lt_add_left hb3 3) dX1_brought_57 60 rfl ?_
      refine r_iload_n C 1 rfl dX1_brought_60 61 rfl ?_
      refine r_isub C dX1_brought_61 62 rfl ?_
      refine p_RX1_171 (k := (3 + r1)) C (Nat.le_add_right 3 r1) (Nat.add_lt_add_left hb3 3) (x := ((S13 (3 + r1) 7) - x10)) dX1_brought_62 65 rfl (fun S16 e17 => ?_)
      replace h := h S16 e17
      refine r_aload_n C 2 rfl dX1_brought_65 66 rfl ?_
      refine g_RX1_123 (k := (3 + r1)) C (Nat.le_add_right 3 r1) (Nat.add_lt_add_left hb3 3) dX1_brought_66 69 rfl ?_
      refine r_iconst C 2 rfl dX1_brought_69 70 rfl ?_
      refine r_icmp_ge C 125 dX1_brought_70 73 rfl rfl (fun c18 => ?_) (fun c18 => ?_)
      · replace h := h.1 c18
        refine r_sub [(4, .int x14), (3, .int x10), (2, .ref (A (3 + r1))), (0, .ref (A 1)), (1, .int a1)] [0, 1, 2, 3, 4] rfl ?_
        exact b125  x14 x10 r1 hb3 S16 h
      · replace h := h.2 c18
        refine r_iload C 0 rfl dX1_brought_73 75 rfl ?_
        refine r_aload_n C 2 rfl dX1_brought_75 76 rfl ?_
        refine g_RX1_174 (k := (3 + r1)) C (Nat.le_add_right 3 r1) (Nat.add_lt_add_left hb3 3) dX1_brought_76 79 rfl ?_
        refine r_icmp_le C 125 dX1_brought_79 82 rfl rfl (fun c19 => ?_) (fun c19 => ?_)
        · replace h := h.1 c19
          refine r_sub [(4, .int x14), (3, .int x10), (2, .ref (A (3 + r1))), (0, .ref (A 1)), (1, .int a1)] [0, 1, 2, 3, 4] rfl ?_
          exact b125  x14 x10 r1 hb3 S16 h
        · replace h := h.2 c19
          refine r_aload_n C 3 rfl dX1_brought_82 83 rfl ?_
          refine g_RX1_11 C dX1_brought_83 86 rfl ?_
          refine r_aload_n C 2 rfl dX1_brought_86 87 rfl ?_
          refine g_RX1_123 (k := (3 + r1)) C (Nat.le_add_right 3 r1) (Nat.add_lt_add_left hb3 3) dX1_brought_87 90 rfl ?_
          refine r_iconst C 1 rfl dX1_brought_90 91 rfl ?_
          refine r_iadd C dX1_brought_91 92 rfl ?_
          have hb20 : ((S16 (3 + r1) 0) + 1).toNatClampNeg < 3 := vp_lt h.1
          refine a_G C h.1 dX1_brought_92 93 rfl ?_
          replace h := h.2
          refine r_iload_n C 1 rfl dX1_brought_93 94 rfl ?_
          refine k_RX1_100 (k := (3 + (((S16 (3 + r1) 0) + 1).toNatClampNeg))) C (Nat.le_add_right 3 (((S16 (3 + r1) 0) + 1).toNatClampNeg)) (Nat.add_lt_add_left hb20 3) (ctX0_fits hi hb20 h) ⟨(Nat.le_of_ble_eq_true rfl), (Nat.le_of_ble_eq_true rfl)⟩ (Nat.le_of_ble_eq_true rfl) ⟨Nat.le_refl 0, Nat.le_refl 0⟩ dX1_brought_94 97 rfl (fun r21 S22 h => ?_)
          rcases bool_or r21 with c23 | c23
          · replace h := h.1 c23
            refine r_if_eqF C c23 125 dX1_brought_97 100 rfl rfl ?_
            refine r_sub [(4, .int x14), (3, .int x10), (2, .ref (A (3 + r1))), (0, .ref (A 1)), (1, .int a1)] [0, 1, 2, 3, 4] rfl ?_
            exact b125  x14 x10 r1 hb3 S22 h
          · replace h := h.2 c23
            refine r_if_eqT C c23 125 dX1_brought_97 100 rfl rfl ?_
            refine r_aload_n C 3 rfl dX1_brought_100 101 rfl ?_
            refine g_RX1_11 C dX1_brought_101 104 rfl ?_
            refine r_aload_n C 2 rfl dX1_brought_104 105 rfl ?_
            refine g_RX1_123 (k := (3 + r1)) C (Nat.le_add_right 3 r1) (Nat.add_lt_add_left hb3 3) dX1_brought_105 108 rfl ?_
            refine r_iconst C 1 rfl dX1_brought_108 109 rfl ?_
            refine r_iadd C dX1_brought_109 110 rfl ?_
            have hb24 : ((S22 (3 + r1) 0) + 1).toNatClampNeg < 3 := vp_lt h.1
            refine a_G C h.1 dX1_brought_110 111 rfl ?_
            replace h := h.2
            refine r_astore_n C [(2, .ref (A (3 + (((S22 (3 + r1) 0) + 1).toNatClampNeg)))), (4, .int x14), (3, .int x10), (0, .ref (A 1)), (1, .int a1)] (Nat.le_of_ble_eq_true rfl) rfl dX1_brought_111 112 rfl ?_
            refine r_iconst C 0 rfl dX1_brought_112 113 rfl ?_
            refine r_istore C [(4, .int 0), (2, .ref (A (3 + (((S22 (3 + r1) 0) + 1).toNatClampNeg)))), (3, .int x10), (0, .ref (A 1)), (1, .int a1)] (Nat.le_of_ble_eq_true rfl) rfl dX1_brought_113 115 rfl ?_
            refine r_aload_n C 3 rfl dX1_brought_115 116 rfl ?_
            refine r_dup C rfl dX1_brought_116 117 rfl ?_
            refine g_RX1_90 C dX1_brought_117 120 rfl ?_
            refine r_iconst C 1 rfl dX1_brought_120 121 rfl ?_
            refine r_iadd C dX1_brought_121 122 rfl ?_
            refine p_RX1_90 C (x := ((S22 1 12) + 1)) dX1_brought_122 125 rfl (fun S25 e26 => ?_)
            replace h := h S25 e26
            refine r_sub [(4, .int 0), (3, .int x10), (2, .ref (A (3 + (((S22 (3 + r1) 0) + 1).toNatClampNeg)))), (0, .ref (A 1)), (1, .int a1)] [0, 2, 1, 3, 4] rfl ?_
            exact b125  0 x10 (((S22 (3 + r1) 0) + 1).toNatClampNeg) hb24 S25 h
    · replace h := h.2 c7
      refine r_aload_n C 1 rfl dX1_brought_25 26 rfl ?_
      refine g_RX1_32 C dX1_brought_26 29 rfl ?_
      refine r_iload_n C 2 rfl dX1_brought_29 30 rfl ?_
      refine i_C (k := 26) C (Nat.le_of_ble_eq_true rfl) (Nat.le_of_ble_eq_true rfl) h.1 dX1_brought_30 31 rfl ?_
      replace h := h.2
      refine r_ineg C dX1_brought_31 32 rfl ?_
      exact r_iret C hE hr hlk dX1_brought_32 h
set_option maxRecDepth 100000 in
set_option maxHeartbeats 4000000 in
theorem ctX1_bringAll {l : Launch} {D : va_G} {A : Nat → Nat} {n : Nat → Nat} {cI cG cR : ClassId} {aK aV : Nat} {r1 : Nat} {S : Nat → Nat → Int32} {Q : Unit → (Nat → Nat → Int32) → Prop} (hi : Apart 32 A) (h61 : 6 ≤ r1) (h161 : r1 < 16) (h : wX1_bringAll n r1 S Q) : Ct l D (tyC cI cG cR) 32 A (ceC A n cI cG cR) (FxC aK aV) yX1_bringAll cX1_bringAll 3 none 2 73 [.ref (A 1), .ref (A r1)] S rU Q := by
  refine Ct.of (by decide +kernel) hFx hi [(0, .ref (A 1)), (1, .ref (A r1))] rfl (Nat.le_of_ble_eq_true rfl) ?_
  intro p e s m args below meth c Acc C hr hlk Qf hE
  have b2 : ∀ (nn : Nat) (x2_2 : Int32) (S : Nat → Nat → Int32), wX1_bringAll_b2 n r1  nn x2_2 S Q → J p l e { frames := 2, cells := 0, slots := 0, locals := 73 } s m args below meth c 0 0 Qf D 32 A (ceC A n cI cG cR) Acc 3 S 2 [(2, .int x2_2), (0, .ref (A 1)), (1, .ref (A r1))] [] := by
    intro nn
    induction nn with
    | zero => intro x2_2 S h; exact False.elim h
    | succ nn ih =>
      intro x2_2 S h
      rw [wX1_bringAll_b2] at h
      refine r_iload_n C 0 rfl dX1_bringAll_2 3 rfl ?_
      refine r_aload_n C 2 rfl dX1_bringAll_3 4 rfl ?_
      refine g_RX1_97 (k := r1) C h61 h161 dX1_bringAll_4 7 rfl ?_
      refine r_icmp_ge C 32 dX1_bringAll_7 10 rfl rfl (fun c2 => ?_) (fun c2 => ?_)
      · replace h := h.1 c2
        exact r_vret C hE hr hlk dX1_bringAll_32 h
      · replace h := h.2 c2
        refine r_aload_n C 2 rfl dX1_bringAll_10 11 rfl ?_
        refine g_RX1_63 (k := r1) C h61 h161 dX1_bringAll_11 14 rfl ?_
        refine r_iload_n C 0 rfl dX1_bringAll_14 15 rfl ?_
        refine r_aload_n C 1 rfl dX1_bringAll_15 16 rfl ?_
        refine r_aload_n C 2 rfl dX1_bringAll_16 17 rfl ?_
        refine g_RX1_63 (k := r1) C h61 h161 dX1_bringAll_17 20 rfl ?_
        refine r_iload_n C 0 rfl dX1_bringAll_20 21 rfl ?_
        refine i_C (k := (r1 + 10)) C (Nat.add_le_add_right h61 10) (Nat.lt_of_lt_of_le (Nat.add_lt_add_right h161 10) (Nat.le_of_ble_eq_true rfl)) h.1 dX1_bringAll_21 22 rfl ?_
        replace h := h.2
        refine k_RX1_156 C (ctX1_brought hi  h) ⟨(Nat.le_of_ble_eq_true rfl), (Nat.le_of_ble_eq_true rfl)⟩ (Nat.le_of_ble_eq_true rfl) ⟨Nat.le_refl 0, Nat.le_refl 0⟩ dX1_bringAll_22 25 rfl (fun r3 S4 h => ?_)
        refine s_C (k := (r1 + 10)) C (Nat.add_le_add_right h61 10) (Nat.lt_of_lt_of_le (Nat.add_lt_add_right h161 10) (Nat.le_of_ble_eq_true rfl)) h.1 dX1_bringAll_25 26 rfl (fun S5 e6 => ?_)
        replace h := h.2
        replace h := h S5 e6
        obtain ⟨x7, e8⟩ : ∃ z : Int32, z = x2_2 + 1 := ⟨_, rfl⟩
        replace h := h x7 e8
        refine r_iinc (n := 1) C 0 rfl x7 (by rw [e8]; rfl) [(2, .int x7), (0, .ref (A 1)), (1, .ref (A r1))] (Nat.le_of_ble_eq_true rfl) rfl dX1_bringAll_26 29 rfl ?_
        refine r_goto C 2 dX1_bringAll_29 rfl ?_
        refine r_sub [(2, .int x7), (0, .ref (A 1)), (1, .ref (A r1))] [0, 1, 2] rfl ?_
        exact ih x7  S5 h
  unfold wX1_bringAll at h
  refine r_iconst C 0 rfl dX1_bringAll_0 1 rfl ?_
  refine r_istore_n C [(2, .int 0), (0, .ref (A 1)), (1, .ref (A r1))] (Nat.le_of_ble_eq_true rfl) rfl dX1_bringAll_1 2 rfl ?_
  refine r_sub [(2, .int 0), (0, .ref (A 1)), (1, .ref (A r1))] [0, 1, 2] rfl ?_
  obtain ⟨f1, h⟩ := h
  exact b2  f1 0  S h
set_option maxRecDepth 100000 in
set_option maxHeartbeats 4000000 in
theorem ctX1_bringRemembered {l : Launch} {D : va_G} {A : Nat → Nat} {n : Nat → Nat} {cI cG cR : ClassId} {aK aV : Nat} {r1 : Nat} {a2 : Int32} {S : Nat → Nat → Int32} {Q : Unit → (Nat → Nat → Int32) → Prop} (hi : Apart 32 A) (h61 : 6 ≤ r1) (h161 : r1 < 16) (h : wX1_bringRemembered n r1 a2 S Q) : Ct l D (tyC cI cG cR) 32 A (ceC A n cI cG cR) (FxC aK aV) yX1_bringRemembered cX1_bringRemembered 5 none 2 73 [.ref (A 1), .ref (A r1), .int a2] S rU Q := by
  refine Ct.of (by decide +kernel) hFx hi [(0, .ref (A 1)), (1, .ref (A r1)), (2, .int a2)] rfl (Nat.le_of_ble_eq_true rfl) ?_
  intro p e s m args below meth c Acc C hr hlk Qf hE
  have b55 : ∀ (K2 : Int32 → (Nat → Nat → Int32) → Prop) (hK2 : ∀ (x2_3 : Int32) (S : Nat → Nat → Int32), K2 x2_3 S → J p l e { frames := 2, cells := 0, slots := 0, locals := 73 } s m args below meth c 0 0 Qf D 32 A (ceC A n cI cG cR) Acc 5 S 2 [(3, .int x2_3), (0, .ref (A 1)), (1, .ref (A r1)), (2, .int a2)] []) (x55_3 : Int32) (S : Nat → Nat → Int32), wX1_bringRemembered_b55 n r1 a2 K2 x55_3 S Q → J p l e { frames := 2, cells := 0, slots := 0, locals := 73 } s m args below meth c 0 0 Qf D 32 A (ceC A n cI cG cR) Acc 5 S 55 [(3, .int x55_3), (0, .ref (A 1)), (1, .ref (A r1)), (2, .int a2)] [] := by
    intro K2 hK2 x55_3 S h
    unfold wX1_bringRemembered_b55 at h
    obtain ⟨x15, e16⟩ : ∃ z : Int32, z = x55_3 + 1 := ⟨_, rfl⟩
    replace h := h x15 e16
    refine r_iinc (n := 1) C 0 rfl x15 (by rw [e16]; rfl) [(3, .int x15), (0, .ref (A 1)), (1, .ref (A r1)), (2, .int a2)] (Nat.le_of_ble_eq_true rfl) rfl dX1_bringRemembered_55 58 rfl ?_
    refine r_goto C 2 dX1_bringRemembered_58 rfl ?_
    refine r_sub [(3, .int x15), (0, .ref (A 1)), (1, .ref (A r1)), (2, .int a2)] [0, 1, 2, 3] rfl ?_
    exact hK2 x15  S h
  have b2 : ∀ (nn : Nat) (x2_3 : Int32) (S : Nat → Nat → Int32), wX1_bringRemembered_b2 n r1 a2  nn x2_3 S Q → J p l e { frames := 2, cells := 0, slots := 0, locals := 73 } s m args below meth c 0 0 Qf D 32 A (ceC A n cI cG cR) Acc 5 S 2 [(3, .int x2_3), (0, .ref (A 1)), (1, .ref (A r1)), (2, .int a2)] [] := by
    intro nn
    induction nn with
    | zero => intro x2_3 S h; exact False.elim h
    | succ nn ih =>
      intro x2_3 S h
      rw [wX1_bringRemembered_b2] at h
      refine r_iload_n C 0 rfl dX1_bringRemembered_2 3 rfl ?_
      refine r_aload_n C 2 rfl dX1_bringRemembered_3 4 rfl ?_
      refine g_RX1_97 (k := r1) C h61 h161 dX1_bringRemembered_4 7 rfl ?_
      refine r_icmp_ge C 61 dX1_bringRemembered_7 10 rfl rfl (fun c2 => ?_) (fun c2 => ?_)
      · replace h := h.1 c2
        exact r_vret C hE hr hlk dX1_bringRemembered_61 h
      · replace h := h.2 c2
        refine r_aload_n C 2 rfl dX1_bringRemembered_10 11 rfl ?_
        refine g_RX1_63 (k := r1) C h61 h161 dX1_bringRemembered_11 14 rfl ?_
        refine r_iload_n C 0 rfl dX1_bringRemembered_14 15 rfl ?_
        refine i_C (k := (r1 + 10)) C (Nat.add_le_add_right h61 10) (Nat.lt_of_lt_of_le (Nat.add_lt_add_right h161 10) (Nat.le_of_ble_eq_true rfl)) h.1 dX1_bringRemembered_15 16 rfl ?_
        replace h := h.2
        refine r_topi (fun x3 e4 => ?_)
        replace h := h x3 e4
        refine r_istore C [(4, .int x3), (3, .int x2_3), (0, .ref (A 1)), (1, .ref (A r1)), (2, .int a2)] (Nat.le_of_ble_eq_true rfl) rfl dX1_bringRemembered_16 18 rfl ?_
        refine r_aload_n C 2 rfl dX1_bringRemembered_18 19 rfl ?_
        refine r_iload C 0 rfl dX1_bringRemembered_19 21 rfl ?_
        refine k_RX1_70 C (ctX1_homeOf hi  h) ⟨(Nat.le_of_ble_eq_true rfl), (Nat.le_of_ble_eq_true rfl)⟩ (Nat.le_of_ble_eq_true rfl) ⟨Nat.le_refl 0, Nat.le_refl 0⟩ dX1_bringRemembered_21 24 rfl (fun r5 S6 h => ?_)
        have hb7 := h.1
        replace h := h.2
        refine g_RX1_123 (k := (3 + r5)) C (Nat.le_add_right 3 r5) (Nat.add_lt_add_left hb7 3) dX1_bringRemembered_24 27 rfl ?_
        refine r_iload_n C 4 rfl dX1_bringRemembered_27 28 rfl ?_
        refine r_icmp_le C 55 dX1_bringRemembered_28 31 rfl rfl (fun c8 => ?_) (fun c8 => ?_)
        · replace h := h.1 c8
          refine r_sub [(3, .int x2_3), (0, .ref (A 1)), (1, .ref (A r1)), (2, .int a2)] [1, 2, 3, 4] rfl ?_
          exact b55 (fun z0 T => wX1_bringRemembered_b2 n r1 a2  nn z0 T Q) ih x2_3  S6 h
        · replace h := h.2 c8
          refine r_aload_n C 2 rfl dX1_bringRemembered_31 32 rfl ?_
          refine g_RX1_32 C dX1_bringRemembered_32 35 rfl ?_
          refine r_iload C 0 rfl dX1_bringRemembered_35 37 rfl ?_
          refine r_aload_n C 2 rfl dX1_bringRemembered_37 38 rfl ?_
          refine r_aload_n C 2 rfl dX1_bringRemembered_38 39 rfl ?_
          refine g_RX1_32 C dX1_bringRemembered_39 42 rfl ?_
          refine r_iload C 0 rfl dX1_bringRemembered_42 44 rfl ?_
          refine i_C (k := 26) C (Nat.le_of_ble_eq_true rfl) (Nat.le_of_ble_eq_true rfl) h.1 dX1_bringRemembered_44 45 rfl ?_
          replace h := h.2
          refine k_RX1_156 C (ctX1_brought hi  h) ⟨(Nat.le_of_ble_eq_true rfl), (Nat.le_of_ble_eq_true rfl)⟩ (Nat.le_of_ble_eq_true rfl) ⟨Nat.le_refl 0, Nat.le_refl 0⟩ dX1_bringRemembered_45 48 rfl (fun r9 S10 h => ?_)
          refine s_C (k := 26) C (Nat.le_of_ble_eq_true rfl) (Nat.le_of_ble_eq_true rfl) h.1 dX1_bringRemembered_48 49 rfl (fun S11 e12 => ?_)
          replace h := h.2
          replace h := h S11 e12
          refine r_aload_n C 2 rfl dX1_bringRemembered_49 50 rfl ?_
          refine r_iload C 0 rfl dX1_bringRemembered_50 52 rfl ?_
          refine k_RX1_120 C (ctX1_remember hi  h) ⟨(Nat.le_of_ble_eq_true rfl), (Nat.le_of_ble_eq_true rfl)⟩ (Nat.le_of_ble_eq_true rfl) ⟨Nat.le_refl 0, Nat.le_refl 0⟩ dX1_bringRemembered_52 55 rfl (fun S14 h => ?_)
          refine r_sub [(3, .int x2_3), (0, .ref (A 1)), (1, .ref (A r1)), (2, .int a2)] [1, 2, 3, 4] rfl ?_
          exact b55 (fun z0 T => wX1_bringRemembered_b2 n r1 a2  nn z0 T Q) ih x2_3  S14 h
  unfold wX1_bringRemembered at h
  refine r_iconst C 0 rfl dX1_bringRemembered_0 1 rfl ?_
  refine r_istore_n C [(3, .int 0), (0, .ref (A 1)), (1, .ref (A r1)), (2, .int a2)] (Nat.le_of_ble_eq_true rfl) rfl dX1_bringRemembered_1 2 rfl ?_
  refine r_sub [(3, .int 0), (0, .ref (A 1)), (1, .ref (A r1)), (2, .int a2)] [0, 1, 2, 3] rfl ?_
  obtain ⟨f1, h⟩ := h
  exact b2  f1 0  S h
set_option maxRecDepth 100000 in
set_option maxHeartbeats 4000000 in
theorem ctX1_leastUnscanned {l : Launch} {D : va_G} {A : Nat → Nat} {n : Nat → Nat} {cI cG cR : ClassId} {aK aV : Nat}  {S : Nat → Nat → Int32} {Q : Option Nat → (Nat → Nat → Int32) → Prop} (hi : Apart 32 A)  (h : wX1_leastUnscanned n  S Q) : Ct l D (tyC cI cG cR) 32 A (ceC A n cI cG cR) (FxC aK aV) yX1_leastUnscanned cX1_leastUnscanned 2 (some (.object "StoreNotes$Generation")) 0 0 [.ref (A 1)] S (rO A 3) (fun o S => (∀ g, o = some g → g < 3) ∧ Q o S) := by
  refine Ct.of (by decide +kernel) hFx hi [(0, .ref (A 1))] rfl (Nat.le_of_ble_eq_true rfl) ?_
  intro p e s m args below meth c Acc C hr hlk Qf hE
  have b2 : ∀ (nn : Nat) (x2_1 : Int32) (S : Nat → Nat → Int32), wX1_leastUnscanned_b2 n   nn x2_1 S Q → J p l e { frames := 0, cells := 0, slots := 0, locals := 0 } s m args below meth c 0 0 Qf D 32 A (ceC A n cI cG cR) Acc 2 S 2 [(1, .int x2_1), (0, .ref (A 1))] [] := by
    intro nn
    induction nn with
    | zero => intro x2_1 S h; exact False.elim h
    | succ nn ih =>
      intro x2_1 S h
      rw [wX1_leastUnscanned_b2] at h
      refine r_iload_n C 0 rfl dX1_leastUnscanned_2 3 rfl ?_
      refine r_iconst C 3 rfl dX1_leastUnscanned_3 4 rfl ?_
      refine r_icmp_ge C 41 dX1_leastUnscanned_4 7 rfl rfl (fun c2 => ?_) (fun c2 => ?_)
      · replace h := h.1 c2
        refine r_null C dX1_leastUnscanned_41 42 rfl ?_
        exact r_oret C hE hr hlk none rfl dX1_leastUnscanned_42 ⟨fun _ e => (nomatch e), h⟩
      · replace h := h.2 c2
        refine r_aload_n C 1 rfl dX1_leastUnscanned_7 8 rfl ?_
        refine g_RX1_11 C dX1_leastUnscanned_8 11 rfl ?_
        refine r_iload_n C 0 rfl dX1_leastUnscanned_11 12 rfl ?_
        have hb3 : x2_1.toNatClampNeg < 3 := vp_lt h.1
        refine a_G C h.1 dX1_leastUnscanned_12 13 rfl ?_
        replace h := h.2
        refine g_RX1_190 (k := (3 + x2_1.toNatClampNeg)) C (Nat.le_add_right 3 x2_1.toNatClampNeg) (Nat.add_lt_add_left hb3 3) dX1_leastUnscanned_13 16 rfl ?_
        refine r_aload_n C 1 rfl dX1_leastUnscanned_16 17 rfl ?_
        refine g_RX1_11 C dX1_leastUnscanned_17 20 rfl ?_
        refine r_iload_n C 0 rfl dX1_leastUnscanned_20 21 rfl ?_
        have hb4 : x2_1.toNatClampNeg < 3 := vp_lt h.1
        refine a_G C h.1 dX1_leastUnscanned_21 22 rfl ?_
        replace h := h.2
        refine g_RX1_78 (k := (3 + x2_1.toNatClampNeg)) C (Nat.le_add_right 3 x2_1.toNatClampNeg) (Nat.add_lt_add_left hb4 3) dX1_leastUnscanned_22 25 rfl ?_
        refine r_icmp_ge C 35 dX1_leastUnscanned_25 28 rfl rfl (fun c5 => ?_) (fun c5 => ?_)
        · replace h := h.1 c5
          obtain ⟨x6, e7⟩ : ∃ z : Int32, z = x2_1 + 1 := ⟨_, rfl⟩
          replace h := h x6 e7
          refine r_iinc (n := 1) C 0 rfl x6 (by rw [e7]; rfl) [(1, .int x6), (0, .ref (A 1))] (Nat.le_of_ble_eq_true rfl) rfl dX1_leastUnscanned_35 38 rfl ?_
          refine r_goto C 2 dX1_leastUnscanned_38 rfl ?_
          refine r_sub [(1, .int x6), (0, .ref (A 1))] [0, 1] rfl ?_
          exact ih x6  S h
        · replace h := h.2 c5
          refine r_aload_n C 1 rfl dX1_leastUnscanned_28 29 rfl ?_
          refine g_RX1_11 C dX1_leastUnscanned_29 32 rfl ?_
          refine r_iload_n C 0 rfl dX1_leastUnscanned_32 33 rfl ?_
          have hb8 : x2_1.toNatClampNeg < 3 := vp_lt h.1
          refine a_G C h.1 dX1_leastUnscanned_33 34 rfl ?_
          replace h := h.2
          exact r_oret C hE hr hlk (some x2_1.toNatClampNeg) rfl dX1_leastUnscanned_34 ⟨fun _ e => by cases e; exact hb8, h⟩
  unfold wX1_leastUnscanned at h
  refine r_iconst C 0 rfl dX1_leastUnscanned_0 1 rfl ?_
  refine r_istore_n C [(1, .int 0), (0, .ref (A 1))] (Nat.le_of_ble_eq_true rfl) rfl dX1_leastUnscanned_1 2 rfl ?_
  refine r_sub [(1, .int 0), (0, .ref (A 1))] [0, 1] rfl ?_
  obtain ⟨f1, h⟩ := h
  exact b2  f1 0  S h
set_option maxRecDepth 100000 in
set_option maxHeartbeats 4000000 in
theorem ctX1_scan {l : Launch} {D : va_G} {A : Nat → Nat} {n : Nat → Nat} {cI cG cR : ClassId} {aK aV : Nat}  {S : Nat → Nat → Int32} {Q : Unit → (Nat → Nat → Int32) → Prop} (hi : Apart 32 A)  (h : wX1_scan n  S Q) : Ct l D (tyC cI cG cR) 32 A (ceC A n cI cG cR) (FxC aK aV) yX1_scan cX1_scan 6 none 2 73 [.ref (A 1)] S rU Q := by
  refine Ct.of (by decide +kernel) hFx hi [(0, .ref (A 1))] rfl (Nat.le_of_ble_eq_true rfl) ?_
  intro p e s m args below meth c Acc C hr hlk Qf hE
  have b47 : ∀ (K2 : Int32 → (Nat → Nat → Int32) → Prop) (hK2 : ∀ (x2_1 : Int32) (S : Nat → Nat → Int32), K2 x2_1 S → J p l e { frames := 2, cells := 0, slots := 0, locals := 73 } s m args below meth c 0 0 Qf D 32 A (ceC A n cI cG cR) Acc 6 S 2 [(1, .int x2_1), (0, .ref (A 1))] []) (nn : Nat) (x47_5 : Int32) (x47_4 : Int32) (x47_3 : Int32) (x47_2 : Nat) (x47_1 : Int32) (hb_x47_2 : x47_2 < 3) (S : Nat → Nat → Int32), wX1_scan_b47 n  K2 nn x47_5 x47_4 x47_3 x47_2 x47_1 S Q → J p l e { frames := 2, cells := 0, slots := 0, locals := 73 } s m args below meth c 0 0 Qf D 32 A (ceC A n cI cG cR) Acc 6 S 47 [(5, .int x47_5), (4, .int x47_4), (3, .int x47_3), (2, .ref (A (3 + x47_2))), (1, .int x47_1), (0, .ref (A 1))] [] := by
    intro K2 hK2
    intro nn
    induction nn with
    | zero => intro x47_5 x47_4 x47_3 x47_2 x47_1 hb_x47_2 S h; exact False.elim h
    | succ nn ih =>
      intro x47_5 x47_4 x47_3 x47_2 x47_1 hb_x47_2 S h
      rw [wX1_scan_b47] at h
      refine r_iload C 0 rfl dX1_scan_47 49 rfl ?_
      refine r_iload C 1 rfl dX1_scan_49 51 rfl ?_
      refine r_icmp_ge C 84 dX1_scan_51 54 rfl rfl (fun c16 => ?_) (fun c16 => ?_)
      · replace h := h.1 c16
        refine r_aload_n C 3 rfl dX1_scan_84 85 rfl ?_
        refine r_dup C rfl dX1_scan_85 86 rfl ?_
        refine g_RX1_190 (k := (3 + x47_2)) C (Nat.le_add_right 3 x47_2) (Nat.add_lt_add_left hb_x47_2 3) dX1_scan_86 89 rfl ?_
        refine r_iload C 1 rfl dX1_scan_89 91 rfl ?_
        refine r_iload_n C 2 rfl dX1_scan_91 92 rfl ?_
        refine r_isub C dX1_scan_92 93 rfl ?_
        refine r_iadd C dX1_scan_93 94 rfl ?_
        refine p_RX1_190 (k := (3 + x47_2)) C (Nat.le_add_right 3 x47_2) (Nat.add_lt_add_left hb_x47_2 3) (x := ((S (3 + x47_2) 8) + (x47_4 - x47_3))) dX1_scan_94 97 rfl (fun S17 e18 => ?_)
        replace h := h S17 e18
        obtain ⟨x19, e20⟩ : ∃ z : Int32, z = x47_1 + 1 := ⟨_, rfl⟩
        replace h := h x19 e20
        refine r_iinc (n := 1) C 4 rfl x19 (by rw [e20]; rfl) [(1, .int x19), (5, .int x47_5), (4, .int x47_4), (3, .int x47_3), (2, .ref (A (3 + x47_2))), (0, .ref (A 1))] (Nat.le_of_ble_eq_true rfl) rfl dX1_scan_97 100 rfl ?_
        refine r_goto C 2 dX1_scan_100 rfl ?_
        refine r_sub [(1, .int x19), (0, .ref (A 1))] [0, 5] rfl ?_
        exact hK2 x19  S17 h
      · replace h := h.2 c16
        refine r_aload_n C 5 rfl dX1_scan_54 55 rfl ?_
        refine g_RX1_32 C dX1_scan_55 58 rfl ?_
        refine r_iload C 0 rfl dX1_scan_58 60 rfl ?_
        refine r_aload_n C 5 rfl dX1_scan_60 61 rfl ?_
        refine r_aload_n C 5 rfl dX1_scan_61 62 rfl ?_
        refine g_RX1_32 C dX1_scan_62 65 rfl ?_
        refine r_iload C 0 rfl dX1_scan_65 67 rfl ?_
        refine i_C (k := 26) C (Nat.le_of_ble_eq_true rfl) (Nat.le_of_ble_eq_true rfl) h.1 dX1_scan_67 68 rfl ?_
        replace h := h.2
        refine k_RX1_156 C (ctX1_brought hi  h) ⟨(Nat.le_of_ble_eq_true rfl), (Nat.le_of_ble_eq_true rfl)⟩ (Nat.le_of_ble_eq_true rfl) ⟨Nat.le_refl 0, Nat.le_refl 0⟩ dX1_scan_68 71 rfl (fun r21 S22 h => ?_)
        refine s_C (k := 26) C (Nat.le_of_ble_eq_true rfl) (Nat.le_of_ble_eq_true rfl) h.1 dX1_scan_71 72 rfl (fun S23 e24 => ?_)
        replace h := h.2
        replace h := h S23 e24
        refine r_aload_n C 5 rfl dX1_scan_72 73 rfl ?_
        refine r_iload C 0 rfl dX1_scan_73 75 rfl ?_
        refine k_RX1_120 C (ctX1_remember hi  h) ⟨(Nat.le_of_ble_eq_true rfl), (Nat.le_of_ble_eq_true rfl)⟩ (Nat.le_of_ble_eq_true rfl) ⟨Nat.le_refl 0, Nat.le_refl 0⟩ dX1_scan_75 78 rfl (fun S26 h => ?_)
        obtain ⟨x27, e28⟩ : ∃ z : Int32, z = x47_5 + 1 := ⟨_, rfl⟩
        replace h := h x27 e28
        refine r_iinc (n := 1) C 0 rfl x27 (by rw [e28]; rfl) [(5, .int x27), (4, .int x47_4), (3, .int x47_3), (2, .ref (A (3 + x47_2))), (1, .int x47_1), (0, .ref (A 1))] (Nat.le_of_ble_eq_true rfl) rfl dX1_scan_78 81 rfl ?_
        refine r_goto C 47 dX1_scan_81 rfl ?_
        refine r_sub [(5, .int x27), (4, .int x47_4), (3, .int x47_3), (2, .ref (A (3 + x47_2))), (1, .int x47_1), (0, .ref (A 1))] [0, 1, 2, 3, 4, 5] rfl ?_
        exact ih x27 x47_4 x47_3 x47_2 x47_1 hb_x47_2 S26 h
  have b2 : ∀ (nn : Nat) (x2_1 : Int32) (S : Nat → Nat → Int32), wX1_scan_b2 n   nn x2_1 S Q → J p l e { frames := 2, cells := 0, slots := 0, locals := 73 } s m args below meth c 0 0 Qf D 32 A (ceC A n cI cG cR) Acc 6 S 2 [(1, .int x2_1), (0, .ref (A 1))] [] := by
    intro nn
    induction nn with
    | zero => intro x2_1 S h; exact False.elim h
    | succ nn ih =>
      intro x2_1 S h
      rw [wX1_scan_b2] at h
      refine r_iload_n C 0 rfl dX1_scan_2 3 rfl ?_
      refine r_aload_n C 1 rfl dX1_scan_3 4 rfl ?_
      refine g_RX1_32 C dX1_scan_4 7 rfl ?_
      refine l_C (k := 26) C (Nat.le_of_ble_eq_true rfl) (Nat.le_of_ble_eq_true rfl) dX1_scan_7 8 rfl ?_
      refine r_icmp_ge C 103 dX1_scan_8 11 rfl rfl (fun c2 => ?_) (fun c2 => ?_)
      · replace h := h.1 c2
        exact r_vret C hE hr hlk dX1_scan_103 h
      · replace h := h.2 c2
        refine r_aload_n C 1 rfl dX1_scan_11 12 rfl ?_
        refine k_RX1_183 C (ctX1_leastUnscanned hi  h) ⟨(Nat.le_of_ble_eq_true rfl), (Nat.le_of_ble_eq_true rfl)⟩ (Nat.le_of_ble_eq_true rfl) ⟨Nat.le_refl 0, Nat.le_refl 0⟩ dX1_scan_12 15 rfl (fun r3 S4 h => ?_)
        obtain ⟨hb5, h⟩ := h
        rcases r3 with _ | g6
        · replace h := h.1 rfl
          show J p l e { frames := 2, cells := 0, slots := 0, locals := 73 } s m args below meth c 0 0 Qf D 32 A (ceC A n cI cG cR) Acc 6 S4 15 [(1, .int x2_1), (0, .ref (A 1))] [.null]
          refine r_astore_nN C [(2, .null), (1, .int x2_1), (0, .ref (A 1))] (Nat.le_of_ble_eq_true rfl) rfl dX1_scan_15 16 rfl ?_
          refine r_aload_nN C 0 rfl dX1_scan_16 17 rfl ?_
          refine r_ifnonnullN C dX1_scan_17 20 rfl ?_
          exact r_vret C hE hr hlk dX1_scan_20 h
        · replace h := h.2 g6 rfl
          replace hb5 := hb5 g6 rfl
          show J p l e { frames := 2, cells := 0, slots := 0, locals := 73 } s m args below meth c 0 0 Qf D 32 A (ceC A n cI cG cR) Acc 6 S4 15 [(1, .int x2_1), (0, .ref (A 1))] [.ref (A (3 + g6))]
          refine r_astore_n C [(2, .ref (A (3 + g6))), (1, .int x2_1), (0, .ref (A 1))] (Nat.le_of_ble_eq_true rfl) rfl dX1_scan_15 16 rfl ?_
          refine r_aload_n C 0 rfl dX1_scan_16 17 rfl ?_
          refine r_ifnonnull C 21 dX1_scan_17 rfl ?_
          refine r_aload_n C 0 rfl dX1_scan_21 22 rfl ?_
          refine g_RX1_187 (k := (3 + g6)) C (Nat.le_add_right 3 g6) (Nat.add_lt_add_left hb5 3) dX1_scan_22 25 rfl ?_
          refine r_aload_n C 0 rfl dX1_scan_25 26 rfl ?_
          refine g_RX1_190 (k := (3 + g6)) C (Nat.le_add_right 3 g6) (Nat.add_lt_add_left hb5 3) dX1_scan_26 29 rfl ?_
          refine r_iadd C dX1_scan_29 30 rfl ?_
          refine r_topi (fun x7 e8 => ?_)
          replace h := h x7 e8
          refine r_istore_n C [(3, .int x7), (2, .ref (A (3 + g6))), (1, .int x2_1), (0, .ref (A 1))] (Nat.le_of_ble_eq_true rfl) rfl dX1_scan_30 31 rfl ?_
          refine r_iload_n C 0 rfl dX1_scan_31 32 rfl ?_
          refine r_iconst C 2 rfl dX1_scan_32 33 rfl ?_
          refine r_iadd C dX1_scan_33 34 rfl ?_
          refine r_aload_n C 3 rfl dX1_scan_34 35 rfl ?_
          refine r_iload_n C 0 rfl dX1_scan_35 36 rfl ?_
          refine k_RX1_59 C (ctX1_fieldsOf hi  h) ⟨(Nat.le_of_ble_eq_true rfl), (Nat.le_of_ble_eq_true rfl)⟩ (Nat.le_of_ble_eq_true rfl) ⟨Nat.le_refl 0, Nat.le_refl 0⟩ dX1_scan_36 39 rfl (fun r9 S10 h => ?_)
          refine r_iadd C dX1_scan_39 40 rfl ?_
          refine r_topi (fun x11 e12 => ?_)
          replace h := h x11 e12
          refine r_istore C [(4, .int x11), (3, .int x7), (2, .ref (A (3 + g6))), (1, .int x2_1), (0, .ref (A 1))] (Nat.le_of_ble_eq_true rfl) rfl dX1_scan_40 42 rfl ?_
          refine r_iload_n C 1 rfl dX1_scan_42 43 rfl ?_
          refine r_iconst C 2 rfl dX1_scan_43 44 rfl ?_
          refine r_iadd C dX1_scan_44 45 rfl ?_
          refine r_topi (fun x13 e14 => ?_)
          replace h := h x13 e14
          refine r_istore C [(5, .int x13), (4, .int x11), (3, .int x7), (2, .ref (A (3 + g6))), (1, .int x2_1), (0, .ref (A 1))] (Nat.le_of_ble_eq_true rfl) rfl dX1_scan_45 47 rfl ?_
          refine r_sub [(5, .int x13), (4, .int x11), (3, .int x7), (2, .ref (A (3 + g6))), (1, .int x2_1), (0, .ref (A 1))] [0, 1, 2, 3, 4, 5] rfl ?_
          obtain ⟨f15, h⟩ := h
          exact b47 (fun z0 T => wX1_scan_b2 n   nn z0 T Q) ih f15 x13 x11 x7 g6 x2_1 hb5 S10 h
  unfold wX1_scan at h
  refine r_iconst C 0 rfl dX1_scan_0 1 rfl ?_
  refine r_istore_n C [(1, .int 0), (0, .ref (A 1))] (Nat.le_of_ble_eq_true rfl) rfl dX1_scan_1 2 rfl ?_
  refine r_sub [(1, .int 0), (0, .ref (A 1))] [0, 1] rfl ?_
  obtain ⟨f1, h⟩ := h
  exact b2  f1 0  S h
set_option maxRecDepth 100000 in
set_option maxHeartbeats 4000000 in
theorem ctX1_grantWishes {l : Launch} {D : va_G} {A : Nat → Nat} {n : Nat → Nat} {cI cG cR : ClassId} {aK aV : Nat}  {S : Nat → Nat → Int32} {Q : Unit → (Nat → Nat → Int32) → Prop} (hi : Apart 32 A)  (h : wX1_grantWishes n  S Q) : Ct l D (tyC cI cG cR) 32 A (ceC A n cI cG cR) (FxC aK aV) yX1_grantWishes cX1_grantWishes 6 none 2 73 [.ref (A 1)] S rU Q := by
  refine Ct.of (by decide +kernel) hFx hi [(0, .ref (A 1))] rfl (Nat.le_of_ble_eq_true rfl) ?_
  intro p e s m args below meth c Acc C hr hlk Qf hE
  have b103 : ∀ (K4 : Int32 → Int32 → (Nat → Nat → Int32) → Prop) (hK4 : ∀ (x4_2 : Int32) (x4_1 : Int32) (S : Nat → Nat → Int32), K4 x4_2 x4_1 S → J p l e { frames := 2, cells := 0, slots := 0, locals := 73 } s m args below meth c 0 0 Qf D 32 A (ceC A n cI cG cR) Acc 6 S 4 [(2, .int x4_2), (1, .int x4_1), (0, .ref (A 1))] []) (x103_1 : Int32) (x103_2 : Int32) (S : Nat → Nat → Int32), wX1_grantWishes_b103 n  K4 x103_1 x103_2 S Q → J p l e { frames := 2, cells := 0, slots := 0, locals := 73 } s m args below meth c 0 0 Qf D 32 A (ceC A n cI cG cR) Acc 6 S 103 [(1, .int x103_1), (2, .int x103_2), (0, .ref (A 1))] [] := by
    intro K4 hK4 x103_1 x103_2 S h
    unfold wX1_grantWishes_b103 at h
    obtain ⟨x23, e24⟩ : ∃ z : Int32, z = x103_2 + 1 := ⟨_, rfl⟩
    replace h := h x23 e24
    refine r_iinc (n := 1) C 1 rfl x23 (by rw [e24]; rfl) [(2, .int x23), (1, .int x103_1), (0, .ref (A 1))] (Nat.le_of_ble_eq_true rfl) rfl dX1_grantWishes_103 106 rfl ?_
    refine r_goto C 4 dX1_grantWishes_106 rfl ?_
    refine r_sub [(2, .int x23), (1, .int x103_1), (0, .ref (A 1))] [0, 1, 2] rfl ?_
    exact hK4 x23 x103_1  S h
  have b51 : ∀ (K4 : Int32 → Int32 → (Nat → Nat → Int32) → Prop) (hK4 : ∀ (x4_2 : Int32) (x4_1 : Int32) (S : Nat → Nat → Int32), K4 x4_2 x4_1 S → J p l e { frames := 2, cells := 0, slots := 0, locals := 73 } s m args below meth c 0 0 Qf D 32 A (ceC A n cI cG cR) Acc 6 S 4 [(2, .int x4_2), (1, .int x4_1), (0, .ref (A 1))] []) (x51_3 : Int32) (x51_2 : Int32) (x51_1 : Int32) (y51_0 : Int32) (S : Nat → Nat → Int32), wX1_grantWishes_b51 n  K4 x51_3 x51_2 x51_1 y51_0 S Q → J p l e { frames := 2, cells := 0, slots := 0, locals := 73 } s m args below meth c 0 0 Qf D 32 A (ceC A n cI cG cR) Acc 6 S 51 [(3, .int x51_3), (2, .int x51_2), (1, .int x51_1), (0, .ref (A 1))] [.int y51_0] := by
    intro K4 hK4 x51_3 x51_2 x51_1 y51_0 S h
    unfold wX1_grantWishes_b51 at h
    refine r_istore C [(4, .int y51_0), (3, .int x51_3), (2, .int x51_2), (1, .int x51_1), (0, .ref (A 1))] (Nat.le_of_ble_eq_true rfl) rfl dX1_grantWishes_51 53 rfl ?_
    refine r_aload_n C 4 rfl dX1_grantWishes_53 54 rfl ?_
    refine r_iload_n C 1 rfl dX1_grantWishes_54 55 rfl ?_
    refine k_RX1_156 C (ctX1_brought hi  h) ⟨(Nat.le_of_ble_eq_true rfl), (Nat.le_of_ble_eq_true rfl)⟩ (Nat.le_of_ble_eq_true rfl) ⟨Nat.le_refl 0, Nat.le_refl 0⟩ dX1_grantWishes_55 58 rfl (fun r12 S13 h => ?_)
    refine r_istore C [(5, .int r12), (4, .int y51_0), (3, .int x51_3), (2, .int x51_2), (1, .int x51_1), (0, .ref (A 1))] (Nat.le_of_ble_eq_true rfl) rfl dX1_grantWishes_58 60 rfl ?_
    refine r_iload C 1 rfl dX1_grantWishes_60 62 rfl ?_
    refine r_if_eq C 89 dX1_grantWishes_62 65 rfl rfl (fun c14 => ?_) (fun c14 => ?_)
    · replace h := h.1 c14
      refine r_aload_n C 5 rfl dX1_grantWishes_89 90 rfl ?_
      refine g_RX1_39 C dX1_grantWishes_90 93 rfl ?_
      refine g_RX1_63 (k := 9) C (Nat.le_of_ble_eq_true rfl) (Nat.le_of_ble_eq_true rfl) dX1_grantWishes_93 96 rfl ?_
      refine r_iload_n C 4 rfl dX1_grantWishes_96 97 rfl ?_
      refine r_iload C 0 rfl dX1_grantWishes_97 99 rfl ?_
      refine s_C (k := 19) C (Nat.le_of_ble_eq_true rfl) (Nat.le_of_ble_eq_true rfl) h.1 dX1_grantWishes_99 100 rfl (fun S15 e16 => ?_)
      replace h := h.2
      replace h := h S15 e16
      obtain ⟨x17, e18⟩ : ∃ z : Int32, z = x51_1 + 1 := ⟨_, rfl⟩
      replace h := h x17 e18
      refine r_iinc (n := 1) C 4 rfl x17 (by rw [e18]; rfl) [(1, .int x17), (5, .int r12), (4, .int y51_0), (3, .int x51_3), (2, .int x51_2), (0, .ref (A 1))] (Nat.le_of_ble_eq_true rfl) rfl dX1_grantWishes_100 103 rfl ?_
      refine r_sub [(1, .int x17), (2, .int x51_2), (0, .ref (A 1))] [0, 4, 5] rfl ?_
      exact b103 K4 hK4 x17 x51_2  S15 h
    · replace h := h.2 c14
      refine r_aload_n C 5 rfl dX1_grantWishes_65 66 rfl ?_
      refine g_RX1_32 C dX1_grantWishes_66 69 rfl ?_
      refine r_iload C 0 rfl dX1_grantWishes_69 71 rfl ?_
      refine r_dup2 C rfl rfl dX1_grantWishes_71 72 rfl ?_
      refine i_C (k := 26) C (Nat.le_of_ble_eq_true rfl) (Nat.le_of_ble_eq_true rfl) h.1 dX1_grantWishes_72 73 rfl ?_
      replace h := h.2
      refine r_bipush C (-65 : Int32) rfl dX1_grantWishes_73 75 rfl ?_
      refine r_iand C dX1_grantWishes_75 76 rfl ?_
      refine s_C (k := 26) C (Nat.le_of_ble_eq_true rfl) (Nat.le_of_ble_eq_true rfl) h.1 dX1_grantWishes_76 77 rfl (fun S19 e20 => ?_)
      replace h := h.2
      replace h := h S19 e20
      refine r_aload_n C 5 rfl dX1_grantWishes_77 78 rfl ?_
      refine g_RX1_42 C dX1_grantWishes_78 81 rfl ?_
      refine r_iload C 0 rfl dX1_grantWishes_81 83 rfl ?_
      refine k_RX1_109 (k := 10) C (Nat.le_of_ble_eq_true rfl) (Nat.le_of_ble_eq_true rfl) (ctX3_add hi (Nat.le_of_ble_eq_true rfl) (Nat.le_of_ble_eq_true rfl) h) ⟨(Nat.le_of_ble_eq_true rfl), (Nat.le_of_ble_eq_true rfl)⟩ (Nat.le_of_ble_eq_true rfl) ⟨Nat.le_refl 0, Nat.le_refl 0⟩ dX1_grantWishes_83 86 rfl (fun S22 h => ?_)
      refine r_goto C 103 dX1_grantWishes_86 rfl ?_
      refine r_sub [(1, .int x51_1), (2, .int x51_2), (0, .ref (A 1))] [4, 3, 5] rfl ?_
      exact b103 K4 hK4 x51_1 x51_2  S22 h
  have b50 : ∀ (K4 : Int32 → Int32 → (Nat → Nat → Int32) → Prop) (hK4 : ∀ (x4_2 : Int32) (x4_1 : Int32) (S : Nat → Nat → Int32), K4 x4_2 x4_1 S → J p l e { frames := 2, cells := 0, slots := 0, locals := 73 } s m args below meth c 0 0 Qf D 32 A (ceC A n cI cG cR) Acc 6 S 4 [(2, .int x4_2), (1, .int x4_1), (0, .ref (A 1))] []) (x50_3 : Int32) (x50_2 : Int32) (x50_1 : Int32) (S : Nat → Nat → Int32), wX1_grantWishes_b50 n  K4 x50_3 x50_2 x50_1 S Q → J p l e { frames := 2, cells := 0, slots := 0, locals := 73 } s m args below meth c 0 0 Qf D 32 A (ceC A n cI cG cR) Acc 6 S 50 [(3, .int x50_3), (2, .int x50_2), (1, .int x50_1), (0, .ref (A 1))] [] := by
    intro K4 hK4 x50_3 x50_2 x50_1 S h
    unfold wX1_grantWishes_b50 at h
    refine r_iconst C 0 rfl dX1_grantWishes_50 51 rfl ?_
    refine r_sub [(3, .int x50_3), (2, .int x50_2), (1, .int x50_1), (0, .ref (A 1))] [0, 1, 2, 3] rfl ?_
    exact b51 K4 hK4 x50_3 x50_2 x50_1 0  S h
  have b4 : ∀ (nn : Nat) (x4_2 : Int32) (x4_1 : Int32) (S : Nat → Nat → Int32), wX1_grantWishes_b4 n   nn x4_2 x4_1 S Q → J p l e { frames := 2, cells := 0, slots := 0, locals := 73 } s m args below meth c 0 0 Qf D 32 A (ceC A n cI cG cR) Acc 6 S 4 [(2, .int x4_2), (1, .int x4_1), (0, .ref (A 1))] [] := by
    intro nn
    induction nn with
    | zero => intro x4_2 x4_1 S h; exact False.elim h
    | succ nn ih =>
      intro x4_2 x4_1 S h
      rw [wX1_grantWishes_b4] at h
      refine r_iload_n C 0 rfl dX1_grantWishes_4 5 rfl ?_
      refine r_aload_n C 2 rfl dX1_grantWishes_5 6 rfl ?_
      refine g_RX1_39 C dX1_grantWishes_6 9 rfl ?_
      refine g_RX1_97 (k := 9) C (Nat.le_of_ble_eq_true rfl) (Nat.le_of_ble_eq_true rfl) dX1_grantWishes_9 12 rfl ?_
      refine r_icmp_ge C 109 dX1_grantWishes_12 15 rfl rfl (fun c2 => ?_) (fun c2 => ?_)
      · replace h := h.1 c2
        refine r_aload_n C 2 rfl dX1_grantWishes_109 110 rfl ?_
        refine g_RX1_39 C dX1_grantWishes_110 113 rfl ?_
        refine r_iload_n C 1 rfl dX1_grantWishes_113 114 rfl ?_
        refine p_RX1_97 (k := 9) C (Nat.le_of_ble_eq_true rfl) (Nat.le_of_ble_eq_true rfl) (x := x4_1) dX1_grantWishes_114 117 rfl (fun S3 e4 => ?_)
        replace h := h S3 e4
        exact r_vret C hE hr hlk dX1_grantWishes_117 h
      · replace h := h.2 c2
        refine r_aload_n C 2 rfl dX1_grantWishes_15 16 rfl ?_
        refine g_RX1_39 C dX1_grantWishes_16 19 rfl ?_
        refine g_RX1_63 (k := 9) C (Nat.le_of_ble_eq_true rfl) (Nat.le_of_ble_eq_true rfl) dX1_grantWishes_19 22 rfl ?_
        refine r_iload_n C 0 rfl dX1_grantWishes_22 23 rfl ?_
        refine i_C (k := 19) C (Nat.le_of_ble_eq_true rfl) (Nat.le_of_ble_eq_true rfl) h.1 dX1_grantWishes_23 24 rfl ?_
        replace h := h.2
        refine r_istore_n C [(3, .int (S 19 x4_2.toNatClampNeg)), (2, .int x4_2), (1, .int x4_1), (0, .ref (A 1))] (Nat.le_of_ble_eq_true rfl) rfl dX1_grantWishes_24 25 rfl ?_
        refine r_aload_n C 3 rfl dX1_grantWishes_25 26 rfl ?_
        refine r_iload_n C 0 rfl dX1_grantWishes_26 27 rfl ?_
        refine k_RX1_70 C (ctX1_homeOf hi  h) ⟨(Nat.le_of_ble_eq_true rfl), (Nat.le_of_ble_eq_true rfl)⟩ (Nat.le_of_ble_eq_true rfl) ⟨Nat.le_refl 0, Nat.le_refl 0⟩ dX1_grantWishes_27 30 rfl (fun r5 S6 h => ?_)
        have hb7 := h.1
        replace h := h.2
        refine r_iload_n C 0 rfl dX1_grantWishes_30 31 rfl ?_
        refine k_RX1_159 (k := (3 + r5)) C (Nat.le_add_right 3 r5) (Nat.add_lt_add_left hb7 3) (ctX0_isInFrom hi hb7 h) ⟨(Nat.le_of_ble_eq_true rfl), (Nat.le_of_ble_eq_true rfl)⟩ (Nat.le_of_ble_eq_true rfl) ⟨Nat.le_refl 0, Nat.le_refl 0⟩ dX1_grantWishes_31 34 rfl (fun r8 S9 h => ?_)
        rcases bool_or r8 with c10 | c10
        · replace h := h.1 c10
          refine r_if_eqF C c10 50 dX1_grantWishes_34 37 rfl rfl ?_
          refine r_sub [(3, .int (S 19 x4_2.toNatClampNeg)), (2, .int x4_2), (1, .int x4_1), (0, .ref (A 1))] [0, 1, 2, 3] rfl ?_
          exact b50 (fun z0 z1 T => wX1_grantWishes_b4 n   nn z0 z1 T Q) ih (S 19 x4_2.toNatClampNeg) x4_2 x4_1  S9 h
        · replace h := h.2 c10
          refine r_if_eqT C c10 50 dX1_grantWishes_34 37 rfl rfl ?_
          refine r_aload_n C 3 rfl dX1_grantWishes_37 38 rfl ?_
          refine g_RX1_32 C dX1_grantWishes_38 41 rfl ?_
          refine r_iload_n C 0 rfl dX1_grantWishes_41 42 rfl ?_
          refine i_C (k := 26) C (Nat.le_of_ble_eq_true rfl) (Nat.le_of_ble_eq_true rfl) h.1 dX1_grantWishes_42 43 rfl ?_
          replace h := h.2
          refine r_if_lt C 50 dX1_grantWishes_43 46 rfl rfl (fun c11 => ?_) (fun c11 => ?_)
          · replace h := h.1 c11
            refine r_sub [(3, .int (S 19 x4_2.toNatClampNeg)), (2, .int x4_2), (1, .int x4_1), (0, .ref (A 1))] [0, 1, 2, 3] rfl ?_
            exact b50 (fun z0 z1 T => wX1_grantWishes_b4 n   nn z0 z1 T Q) ih (S 19 x4_2.toNatClampNeg) x4_2 x4_1  S9 h
          · replace h := h.2 c11
            refine r_iconst C 1 rfl dX1_grantWishes_46 47 rfl ?_
            refine r_goto C 51 dX1_grantWishes_47 rfl ?_
            refine r_sub [(3, .int (S 19 x4_2.toNatClampNeg)), (2, .int x4_2), (1, .int x4_1), (0, .ref (A 1))] [0, 1, 2, 3] rfl ?_
            exact b51 (fun z0 z1 T => wX1_grantWishes_b4 n   nn z0 z1 T Q) ih (S 19 x4_2.toNatClampNeg) x4_2 x4_1 1  S9 h
  unfold wX1_grantWishes at h
  refine r_iconst C 0 rfl dX1_grantWishes_0 1 rfl ?_
  refine r_istore_n C [(1, .int 0), (0, .ref (A 1))] (Nat.le_of_ble_eq_true rfl) rfl dX1_grantWishes_1 2 rfl ?_
  refine r_iconst C 0 rfl dX1_grantWishes_2 3 rfl ?_
  refine r_istore_n C [(2, .int 0), (1, .int 0), (0, .ref (A 1))] (Nat.le_of_ble_eq_true rfl) rfl dX1_grantWishes_3 4 rfl ?_
  refine r_sub [(2, .int 0), (1, .int 0), (0, .ref (A 1))] [0, 1, 2] rfl ?_
  obtain ⟨f1, h⟩ := h
  exact b4  f1 0 0  S h
set_option maxRecDepth 100000 in
set_option maxHeartbeats 4000000 in
theorem ctX1_clearWeakPlaces {l : Launch} {D : va_G} {A : Nat → Nat} {n : Nat → Nat} {cI cG cR : ClassId} {aK aV : Nat}  {S : Nat → Nat → Int32} {Q : Unit → (Nat → Nat → Int32) → Prop} (hi : Apart 32 A)  (h : wX1_clearWeakPlaces n  S Q) : Ct l D (tyC cI cG cR) 32 A (ceC A n cI cG cR) (FxC aK aV) yX1_clearWeakPlaces cX1_clearWeakPlaces 3 none 1 22 [.ref (A 1)] S rU Q := by
  refine Ct.of (by decide +kernel) hFx hi [(0, .ref (A 1))] rfl (Nat.le_of_ble_eq_true rfl) ?_
  intro p e s m args below meth c Acc C hr hlk Qf hE
  have b64 : ∀ (K2 : Int32 → (Nat → Nat → Int32) → Prop) (hK2 : ∀ (x2_1 : Int32) (S : Nat → Nat → Int32), K2 x2_1 S → J p l e { frames := 1, cells := 0, slots := 0, locals := 22 } s m args below meth c 0 0 Qf D 32 A (ceC A n cI cG cR) Acc 3 S 2 [(1, .int x2_1), (0, .ref (A 1))] []) (x64_1 : Int32) (S : Nat → Nat → Int32), wX1_clearWeakPlaces_b64 n  K2 x64_1 S Q → J p l e { frames := 1, cells := 0, slots := 0, locals := 22 } s m args below meth c 0 0 Qf D 32 A (ceC A n cI cG cR) Acc 3 S 64 [(1, .int x64_1), (0, .ref (A 1))] [] := by
    intro K2 hK2 x64_1 S h
    unfold wX1_clearWeakPlaces_b64 at h
    obtain ⟨x10, e11⟩ : ∃ z : Int32, z = x64_1 + 1 := ⟨_, rfl⟩
    replace h := h x10 e11
    refine r_iinc (n := 1) C 0 rfl x10 (by rw [e11]; rfl) [(1, .int x10), (0, .ref (A 1))] (Nat.le_of_ble_eq_true rfl) rfl dX1_clearWeakPlaces_64 67 rfl ?_
    refine r_goto C 2 dX1_clearWeakPlaces_67 rfl ?_
    refine r_sub [(1, .int x10), (0, .ref (A 1))] [0, 1] rfl ?_
    exact hK2 x10  S h
  have b63 : ∀ (K2 : Int32 → (Nat → Nat → Int32) → Prop) (hK2 : ∀ (x2_1 : Int32) (S : Nat → Nat → Int32), K2 x2_1 S → J p l e { frames := 1, cells := 0, slots := 0, locals := 22 } s m args below meth c 0 0 Qf D 32 A (ceC A n cI cG cR) Acc 3 S 2 [(1, .int x2_1), (0, .ref (A 1))] []) (x63_1 : Int32) (y63_0 : Int32) (y63_1 : Int32) (S : Nat → Nat → Int32), wX1_clearWeakPlaces_b63 n  K2 x63_1 y63_0 y63_1 S Q → J p l e { frames := 1, cells := 0, slots := 0, locals := 22 } s m args below meth c 0 0 Qf D 32 A (ceC A n cI cG cR) Acc 3 S 63 [(1, .int x63_1), (0, .ref (A 1))] [.int y63_0, .int y63_1, .ref (A 18)] := by
    intro K2 hK2 x63_1 y63_0 y63_1 S h
    unfold wX1_clearWeakPlaces_b63 at h
    refine s_C (k := 18) C (Nat.le_of_ble_eq_true rfl) (Nat.le_of_ble_eq_true rfl) h.1 dX1_clearWeakPlaces_63 64 rfl (fun S12 e13 => ?_)
    replace h := h.2
    replace h := h S12 e13
    refine r_sub [(1, .int x63_1), (0, .ref (A 1))] [0, 1] rfl ?_
    exact b64 K2 hK2 x63_1  S12 h
  have b2 : ∀ (nn : Nat) (x2_1 : Int32) (S : Nat → Nat → Int32), wX1_clearWeakPlaces_b2 n   nn x2_1 S Q → J p l e { frames := 1, cells := 0, slots := 0, locals := 22 } s m args below meth c 0 0 Qf D 32 A (ceC A n cI cG cR) Acc 3 S 2 [(1, .int x2_1), (0, .ref (A 1))] [] := by
    intro nn
    induction nn with
    | zero => intro x2_1 S h; exact False.elim h
    | succ nn ih =>
      intro x2_1 S h
      rw [wX1_clearWeakPlaces_b2] at h
      refine r_iload_n C 0 rfl dX1_clearWeakPlaces_2 3 rfl ?_
      refine r_aload_n C 1 rfl dX1_clearWeakPlaces_3 4 rfl ?_
      refine g_RX1_29 C dX1_clearWeakPlaces_4 7 rfl ?_
      refine g_RX1_97 (k := 8) C (Nat.le_of_ble_eq_true rfl) (Nat.le_of_ble_eq_true rfl) dX1_clearWeakPlaces_7 10 rfl ?_
      refine r_icmp_ge C 70 dX1_clearWeakPlaces_10 13 rfl rfl (fun c2 => ?_) (fun c2 => ?_)
      · replace h := h.1 c2
        exact r_vret C hE hr hlk dX1_clearWeakPlaces_70 h
      · replace h := h.2 c2
        refine r_aload_n C 1 rfl dX1_clearWeakPlaces_13 14 rfl ?_
        refine g_RX1_29 C dX1_clearWeakPlaces_14 17 rfl ?_
        refine g_RX1_63 (k := 8) C (Nat.le_of_ble_eq_true rfl) (Nat.le_of_ble_eq_true rfl) dX1_clearWeakPlaces_17 20 rfl ?_
        refine r_iload_n C 0 rfl dX1_clearWeakPlaces_20 21 rfl ?_
        refine i_C (k := 18) C (Nat.le_of_ble_eq_true rfl) (Nat.le_of_ble_eq_true rfl) h.1 dX1_clearWeakPlaces_21 22 rfl ?_
        replace h := h.2
        refine r_istore_n C [(2, .int (S 18 x2_1.toNatClampNeg)), (1, .int x2_1), (0, .ref (A 1))] (Nat.le_of_ble_eq_true rfl) rfl dX1_clearWeakPlaces_22 23 rfl ?_
        refine r_aload_n C 2 rfl dX1_clearWeakPlaces_23 24 rfl ?_
        refine r_iload_n C 0 rfl dX1_clearWeakPlaces_24 25 rfl ?_
        refine k_RX1_70 C (ctX1_homeOf hi  h) ⟨(Nat.le_of_ble_eq_true rfl), (Nat.le_of_ble_eq_true rfl)⟩ (Nat.le_of_ble_eq_true rfl) ⟨Nat.le_refl 0, Nat.le_refl 0⟩ dX1_clearWeakPlaces_25 28 rfl (fun r3 S4 h => ?_)
        have hb5 := h.1
        replace h := h.2
        refine r_iload_n C 0 rfl dX1_clearWeakPlaces_28 29 rfl ?_
        refine k_RX1_159 (k := (3 + r3)) C (Nat.le_add_right 3 r3) (Nat.add_lt_add_left hb5 3) (ctX0_isInFrom hi hb5 h) ⟨(Nat.le_of_ble_eq_true rfl), (Nat.le_of_ble_eq_true rfl)⟩ (Nat.le_of_ble_eq_true rfl) ⟨Nat.le_refl 0, Nat.le_refl 0⟩ dX1_clearWeakPlaces_29 32 rfl (fun r6 S7 h => ?_)
        rcases bool_or r6 with c8 | c8
        · replace h := h.1 c8
          refine r_if_eqF C c8 64 dX1_clearWeakPlaces_32 35 rfl rfl ?_
          refine r_sub [(1, .int x2_1), (0, .ref (A 1))] [1, 2] rfl ?_
          exact b64 (fun z0 T => wX1_clearWeakPlaces_b2 n   nn z0 T Q) ih x2_1  S7 h
        · replace h := h.2 c8
          refine r_if_eqT C c8 64 dX1_clearWeakPlaces_32 35 rfl rfl ?_
          refine r_aload_n C 2 rfl dX1_clearWeakPlaces_35 36 rfl ?_
          refine g_RX1_29 C dX1_clearWeakPlaces_36 39 rfl ?_
          refine g_RX1_63 (k := 8) C (Nat.le_of_ble_eq_true rfl) (Nat.le_of_ble_eq_true rfl) dX1_clearWeakPlaces_39 42 rfl ?_
          refine r_iload_n C 1 rfl dX1_clearWeakPlaces_42 43 rfl ?_
          refine r_aload_n C 2 rfl dX1_clearWeakPlaces_43 44 rfl ?_
          refine g_RX1_32 C dX1_clearWeakPlaces_44 47 rfl ?_
          refine r_iload_n C 0 rfl dX1_clearWeakPlaces_47 48 rfl ?_
          refine i_C (k := 26) C (Nat.le_of_ble_eq_true rfl) (Nat.le_of_ble_eq_true rfl) h.1 dX1_clearWeakPlaces_48 49 rfl ?_
          replace h := h.2
          refine r_if_ge C 62 dX1_clearWeakPlaces_49 52 rfl rfl (fun c9 => ?_) (fun c9 => ?_)
          · replace h := h.1 c9
            refine r_iconst C 0 rfl dX1_clearWeakPlaces_62 63 rfl ?_
            refine r_sub [(1, .int x2_1), (0, .ref (A 1))] [1, 2] rfl ?_
            exact b63 (fun z0 T => wX1_clearWeakPlaces_b2 n   nn z0 T Q) ih x2_1 0 x2_1  S7 h
          · replace h := h.2 c9
            refine r_aload_n C 2 rfl dX1_clearWeakPlaces_52 53 rfl ?_
            refine g_RX1_32 C dX1_clearWeakPlaces_53 56 rfl ?_
            refine r_iload_n C 0 rfl dX1_clearWeakPlaces_56 57 rfl ?_
            refine i_C (k := 26) C (Nat.le_of_ble_eq_true rfl) (Nat.le_of_ble_eq_true rfl) h.1 dX1_clearWeakPlaces_57 58 rfl ?_
            replace h := h.2
            refine r_ineg C dX1_clearWeakPlaces_58 59 rfl ?_
            refine r_goto C 63 dX1_clearWeakPlaces_59 rfl ?_
            refine r_sub [(1, .int x2_1), (0, .ref (A 1))] [1, 2] rfl ?_
            exact b63 (fun z0 T => wX1_clearWeakPlaces_b2 n   nn z0 T Q) ih x2_1 (-(S7 26 ((S 18 x2_1.toNatClampNeg).toNatClampNeg))) x2_1  S7 h
  unfold wX1_clearWeakPlaces at h
  refine r_iconst C 0 rfl dX1_clearWeakPlaces_0 1 rfl ?_
  refine r_istore_n C [(1, .int 0), (0, .ref (A 1))] (Nat.le_of_ble_eq_true rfl) rfl dX1_clearWeakPlaces_1 2 rfl ?_
  refine r_sub [(1, .int 0), (0, .ref (A 1))] [0, 1] rfl ?_
  obtain ⟨f1, h⟩ := h
  exact b2  f1 0  S h
set_option maxRecDepth 100000 in
set_option maxHeartbeats 4000000 in
theorem ctX1_gather {l : Launch} {D : va_G} {A : Nat → Nat} {n : Nat → Nat} {cI cG cR : ClassId} {aK aV : Nat} {a1 : Int32} {S : Nat → Nat → Int32} {Q : Int32 → (Nat → Nat → Int32) → Prop} (hi : Apart 32 A)  (h : wX1_gather n a1 S Q) : Ct l D (tyC cI cG cR) 32 A (ceC A n cI cG cR) (FxC aK aV) yX1_gather cX1_gather 4 (some .int) 3 98 [.ref (A 1), .int a1] S rI Q := by
  refine Ct.of (by decide +kernel) hFx hi [(0, .ref (A 1)), (1, .int a1)] rfl (Nat.le_of_ble_eq_true rfl) ?_
  intro p e s m args below meth c Acc C hr hlk Qf hE
  have b32 : ∀ (K11 : Int32 → Int32 → (Nat → Nat → Int32) → Prop) (hK11 : ∀ (x11_3 : Int32) (x11_2 : Int32) (S : Nat → Nat → Int32), K11 x11_3 x11_2 S → J p l e { frames := 3, cells := 0, slots := 0, locals := 98 } s m args below meth c 0 0 Qf D 32 A (ceC A n cI cG cR) Acc 4 S 11 [(3, .int x11_3), (2, .int x11_2), (0, .ref (A 1)), (1, .int a1)] []) (x32_3 : Int32) (x32_2 : Int32) (y32_0 : Int32) (y32_1 : Nat) (hb_y32_1 : y32_1 < 3) (S : Nat → Nat → Int32), wX1_gather_b32 n a1 K11 x32_3 x32_2 y32_0 y32_1 S Q → J p l e { frames := 3, cells := 0, slots := 0, locals := 98 } s m args below meth c 0 0 Qf D 32 A (ceC A n cI cG cR) Acc 4 S 32 [(3, .int x32_3), (2, .int x32_2), (0, .ref (A 1)), (1, .int a1)] [.int y32_0, .ref (A (3 + y32_1))] := by
    intro K11 hK11 x32_3 x32_2 y32_0 y32_1 hb_y32_1 S h
    unfold wX1_gather_b32 at h
    refine k_RX1_129 (k := (3 + y32_1)) C (Nat.le_add_right 3 y32_1) (Nat.add_lt_add_left hb_y32_1 3) (ctX0_begin hi hb_y32_1 h) ⟨(Nat.le_of_ble_eq_true rfl), (Nat.le_of_ble_eq_true rfl)⟩ (Nat.le_of_ble_eq_true rfl) ⟨Nat.le_refl 0, Nat.le_refl 0⟩ dX1_gather_32 35 rfl (fun S40 h => ?_)
    obtain ⟨x41, e42⟩ : ∃ z : Int32, z = x32_3 + 1 := ⟨_, rfl⟩
    replace h := h x41 e42
    refine r_iinc (n := 1) C 0 rfl x41 (by rw [e42]; rfl) [(3, .int x41), (2, .int x32_2), (0, .ref (A 1)), (1, .int a1)] (Nat.le_of_ble_eq_true rfl) rfl dX1_gather_35 38 rfl ?_
    refine r_goto C 11 dX1_gather_38 rfl ?_
    refine r_sub [(3, .int x41), (2, .int x32_2), (0, .ref (A 1)), (1, .int a1)] [0, 1, 2, 3] rfl ?_
    exact hK11 x41 x32_2  S40 h
  have b109 : ∀ (nn : Nat) (x109_3 : Int32) (x109_2 : Int32) (S : Nat → Nat → Int32), wX1_gather_b109 n a1  nn x109_3 x109_2 S Q → J p l e { frames := 3, cells := 0, slots := 0, locals := 98 } s m args below meth c 0 0 Qf D 32 A (ceC A n cI cG cR) Acc 4 S 109 [(3, .int x109_3), (2, .int x109_2), (0, .ref (A 1)), (1, .int a1)] [] := by
    intro nn
    induction nn with
    | zero => intro x109_3 x109_2 S h; exact False.elim h
    | succ nn ih =>
      intro x109_3 x109_2 S h
      rw [wX1_gather_b109] at h
      refine r_iload_n C 0 rfl dX1_gather_109 110 rfl ?_
      refine r_iload_n C 3 rfl dX1_gather_110 111 rfl ?_
      refine r_icmp_gt C 129 dX1_gather_111 114 rfl rfl (fun c30 => ?_) (fun c30 => ?_)
      · replace h := h.1 c30
        refine r_aload_n C 2 rfl dX1_gather_129 130 rfl ?_
        refine g_RX1_11 C dX1_gather_130 133 rfl ?_
        refine r_iload_n C 3 rfl dX1_gather_133 134 rfl ?_
        have hb31 : a1.toNatClampNeg < 3 := vp_lt h.1
        refine a_G C h.1 dX1_gather_134 135 rfl ?_
        replace h := h.2
        refine r_dup C rfl dX1_gather_135 136 rfl ?_
        refine g_RX1_81 (k := (3 + a1.toNatClampNeg)) C (Nat.le_add_right 3 a1.toNatClampNeg) (Nat.add_lt_add_left hb31 3) dX1_gather_136 139 rfl ?_
        refine r_iconst C 1 rfl dX1_gather_139 140 rfl ?_
        refine r_iadd C dX1_gather_140 141 rfl ?_
        refine p_RX1_81 (k := (3 + a1.toNatClampNeg)) C (Nat.le_add_right 3 a1.toNatClampNeg) (Nat.add_lt_add_left hb31 3) (x := ((S (3 + a1.toNatClampNeg) 9) + 1)) dX1_gather_141 144 rfl (fun S32 e33 => ?_)
        replace h := h S32 e33
        refine r_aload_n C 2 rfl dX1_gather_144 145 rfl ?_
        refine g_RX1_87 C dX1_gather_145 148 rfl ?_
        refine r_iload_n C 1 rfl dX1_gather_148 149 rfl ?_
        refine r_isub C dX1_gather_149 150 rfl ?_
        exact r_iret C hE hr hlk dX1_gather_150 h
      · replace h := h.2 c30
        refine r_aload_n C 2 rfl dX1_gather_114 115 rfl ?_
        refine g_RX1_11 C dX1_gather_115 118 rfl ?_
        refine r_iload_n C 0 rfl dX1_gather_118 119 rfl ?_
        have hb34 : x109_3.toNatClampNeg < 3 := vp_lt h.1
        refine a_G C h.1 dX1_gather_119 120 rfl ?_
        replace h := h.2
        refine k_RX1_153 (k := (3 + x109_3.toNatClampNeg)) C (Nat.le_add_right 3 x109_3.toNatClampNeg) (Nat.add_lt_add_left hb34 3) (ctX0_end hi hb34 h) ⟨(Nat.le_of_ble_eq_true rfl), (Nat.le_of_ble_eq_true rfl)⟩ (Nat.le_of_ble_eq_true rfl) ⟨Nat.le_refl 0, Nat.le_refl 0⟩ dX1_gather_120 123 rfl (fun S36 h => ?_)
        obtain ⟨x37, e38⟩ : ∃ z : Int32, z = x109_3 + 1 := ⟨_, rfl⟩
        replace h := h x37 e38
        refine r_iinc (n := 1) C 0 rfl x37 (by rw [e38]; rfl) [(3, .int x37), (2, .int x109_2), (0, .ref (A 1)), (1, .int a1)] (Nat.le_of_ble_eq_true rfl) rfl dX1_gather_123 126 rfl ?_
        refine r_goto C 109 dX1_gather_126 rfl ?_
        refine r_sub [(3, .int x37), (2, .int x109_2), (0, .ref (A 1)), (1, .int a1)] [0, 1, 2, 3] rfl ?_
        exact ih x37 x109_2  S36 h
  have b11 : ∀ (nn : Nat) (x11_3 : Int32) (x11_2 : Int32) (S : Nat → Nat → Int32), wX1_gather_b11 n a1  nn x11_3 x11_2 S Q → J p l e { frames := 3, cells := 0, slots := 0, locals := 98 } s m args below meth c 0 0 Qf D 32 A (ceC A n cI cG cR) Acc 4 S 11 [(3, .int x11_3), (2, .int x11_2), (0, .ref (A 1)), (1, .int a1)] [] := by
    intro nn
    induction nn with
    | zero => intro x11_3 x11_2 S h; exact False.elim h
    | succ nn ih =>
      intro x11_3 x11_2 S h
      rw [wX1_gather_b11] at h
      refine r_iload_n C 0 rfl dX1_gather_11 12 rfl ?_
      refine r_iconst C 3 rfl dX1_gather_12 13 rfl ?_
      refine r_icmp_ge C 41 dX1_gather_13 16 rfl rfl (fun c4 => ?_) (fun c4 => ?_)
      · replace h := h.1 c4
        refine r_aload_n C 2 rfl dX1_gather_41 42 rfl ?_
        refine k_RX1_133 C (ctX1_putRowsAside hi  h) ⟨(Nat.le_of_ble_eq_true rfl), (Nat.le_of_ble_eq_true rfl)⟩ (Nat.le_of_ble_eq_true rfl) ⟨Nat.le_refl 0, Nat.le_refl 0⟩ dX1_gather_42 45 rfl (fun S6 h => ?_)
        refine r_aload_n C 2 rfl dX1_gather_45 46 rfl ?_
        refine r_aload_n C 2 rfl dX1_gather_46 47 rfl ?_
        refine g_RX1_22 C dX1_gather_47 50 rfl ?_
        refine k_RX1_136 C (ctX1_bringAll hi (Nat.le_of_ble_eq_true rfl) (Nat.le_of_ble_eq_true rfl) h) ⟨(Nat.le_of_ble_eq_true rfl), (Nat.le_of_ble_eq_true rfl)⟩ (Nat.le_of_ble_eq_true rfl) ⟨Nat.le_refl 0, Nat.le_refl 0⟩ dX1_gather_50 53 rfl (fun S8 h => ?_)
        refine r_aload_n C 2 rfl dX1_gather_53 54 rfl ?_
        refine r_aload_n C 2 rfl dX1_gather_54 55 rfl ?_
        refine g_RX1_26 C dX1_gather_55 58 rfl ?_
        refine k_RX1_136 C (ctX1_bringAll hi (Nat.le_of_ble_eq_true rfl) (Nat.le_of_ble_eq_true rfl) h) ⟨(Nat.le_of_ble_eq_true rfl), (Nat.le_of_ble_eq_true rfl)⟩ (Nat.le_of_ble_eq_true rfl) ⟨Nat.le_refl 0, Nat.le_refl 0⟩ dX1_gather_58 61 rfl (fun S10 h => ?_)
        refine r_aload_n C 2 rfl dX1_gather_61 62 rfl ?_
        refine r_aload_n C 2 rfl dX1_gather_62 63 rfl ?_
        refine g_RX1_42 C dX1_gather_63 66 rfl ?_
        refine k_RX1_136 C (ctX1_bringAll hi (Nat.le_of_ble_eq_true rfl) (Nat.le_of_ble_eq_true rfl) h) ⟨(Nat.le_of_ble_eq_true rfl), (Nat.le_of_ble_eq_true rfl)⟩ (Nat.le_of_ble_eq_true rfl) ⟨Nat.le_refl 0, Nat.le_refl 0⟩ dX1_gather_66 69 rfl (fun S12 h => ?_)
        refine r_aload_n C 2 rfl dX1_gather_69 70 rfl ?_
        refine r_aload_n C 2 rfl dX1_gather_70 71 rfl ?_
        refine g_RX1_56 C dX1_gather_71 74 rfl ?_
        refine r_iconst C 0 rfl dX1_gather_74 75 rfl ?_
        have hb13 : 0 < 2 := (Nat.le_of_ble_eq_true rfl)
        refine a_RAk (x := (S12 1 9)) C 0 rfl (show vp_in 0 2 by unfold vp_in; decide) dX1_gather_75 76 rfl ?_
        refine r_iload_n C 3 rfl dX1_gather_76 77 rfl ?_
        refine k_RX1_140 C (ctX1_bringRemembered hi (rrow_lo (S12 1 9) 0) (rrow_hi (S12 1 9) hb13) h) ⟨(Nat.le_of_ble_eq_true rfl), (Nat.le_of_ble_eq_true rfl)⟩ (Nat.le_of_ble_eq_true rfl) ⟨Nat.le_refl 0, Nat.le_refl 0⟩ dX1_gather_77 80 rfl (fun S15 h => ?_)
        refine r_aload_n C 2 rfl dX1_gather_80 81 rfl ?_
        refine r_aload_n C 2 rfl dX1_gather_81 82 rfl ?_
        refine g_RX1_56 C dX1_gather_82 85 rfl ?_
        refine r_iconst C 1 rfl dX1_gather_85 86 rfl ?_
        have hb16 : 1 < 2 := (Nat.le_of_ble_eq_true rfl)
        refine a_RAk (x := (S15 1 9)) C 1 rfl (show vp_in 1 2 by unfold vp_in; decide) dX1_gather_86 87 rfl ?_
        refine r_iload_n C 3 rfl dX1_gather_87 88 rfl ?_
        refine k_RX1_140 C (ctX1_bringRemembered hi (rrow_lo (S15 1 9) 1) (rrow_hi (S15 1 9) hb16) h) ⟨(Nat.le_of_ble_eq_true rfl), (Nat.le_of_ble_eq_true rfl)⟩ (Nat.le_of_ble_eq_true rfl) ⟨Nat.le_refl 0, Nat.le_refl 0⟩ dX1_gather_88 91 rfl (fun S18 h => ?_)
        refine r_aload_n C 2 rfl dX1_gather_91 92 rfl ?_
        refine k_RX1_144 C (ctX1_scan hi  h) ⟨(Nat.le_of_ble_eq_true rfl), (Nat.le_of_ble_eq_true rfl)⟩ (Nat.le_of_ble_eq_true rfl) ⟨Nat.le_refl 0, Nat.le_refl 0⟩ dX1_gather_92 95 rfl (fun S20 h => ?_)
        refine r_aload_n C 2 rfl dX1_gather_95 96 rfl ?_
        refine k_RX1_147 C (ctX1_grantWishes hi  h) ⟨(Nat.le_of_ble_eq_true rfl), (Nat.le_of_ble_eq_true rfl)⟩ (Nat.le_of_ble_eq_true rfl) ⟨Nat.le_refl 0, Nat.le_refl 0⟩ dX1_gather_96 99 rfl (fun S22 h => ?_)
        refine r_aload_n C 2 rfl dX1_gather_99 100 rfl ?_
        refine k_RX1_144 C (ctX1_scan hi  h) ⟨(Nat.le_of_ble_eq_true rfl), (Nat.le_of_ble_eq_true rfl)⟩ (Nat.le_of_ble_eq_true rfl) ⟨Nat.le_refl 0, Nat.le_refl 0⟩ dX1_gather_100 103 rfl (fun S24 h => ?_)
        refine r_aload_n C 2 rfl dX1_gather_103 104 rfl ?_
        refine k_RX1_150 C (ctX1_clearWeakPlaces hi  h) ⟨(Nat.le_of_ble_eq_true rfl), (Nat.le_of_ble_eq_true rfl)⟩ (Nat.le_of_ble_eq_true rfl) ⟨Nat.le_refl 0, Nat.le_refl 0⟩ dX1_gather_104 107 rfl (fun S26 h => ?_)
        refine r_iconst C 0 rfl dX1_gather_107 108 rfl ?_
        refine r_istore_n C [(3, .int 0), (2, .int x11_2), (0, .ref (A 1)), (1, .int a1)] (Nat.le_of_ble_eq_true rfl) rfl dX1_gather_108 109 rfl ?_
        refine r_sub [(3, .int 0), (2, .int x11_2), (0, .ref (A 1)), (1, .int a1)] [0, 1, 2, 3] rfl ?_
        obtain ⟨f27, h⟩ := h
        exact b109  f27 0 x11_2  S26 h
      · replace h := h.2 c4
        refine r_aload_n C 2 rfl dX1_gather_16 17 rfl ?_
        refine g_RX1_11 C dX1_gather_17 20 rfl ?_
        refine r_iload_n C 0 rfl dX1_gather_20 21 rfl ?_
        have hb28 : x11_3.toNatClampNeg < 3 := vp_lt h.1
        refine a_G C h.1 dX1_gather_21 22 rfl ?_
        replace h := h.2
        refine r_iload_n C 0 rfl dX1_gather_22 23 rfl ?_
        refine r_iload_n C 3 rfl dX1_gather_23 24 rfl ?_
        refine r_icmp_gt C 31 dX1_gather_24 27 rfl rfl (fun c29 => ?_) (fun c29 => ?_)
        · replace h := h.1 c29
          refine r_iconst C 0 rfl dX1_gather_31 32 rfl ?_
          refine r_sub [(3, .int x11_3), (2, .int x11_2), (0, .ref (A 1)), (1, .int a1)] [0, 1, 2, 3] rfl ?_
          exact b32 (fun z0 z1 T => wX1_gather_b11 n a1  nn z0 z1 T Q) ih x11_3 x11_2 0 x11_3.toNatClampNeg hb28 S h
        · replace h := h.2 c29
          refine r_iconst C 1 rfl dX1_gather_27 28 rfl ?_
          refine r_goto C 32 dX1_gather_28 rfl ?_
          refine r_sub [(3, .int x11_3), (2, .int x11_2), (0, .ref (A 1)), (1, .int a1)] [0, 1, 2, 3] rfl ?_
          exact b32 (fun z0 z1 T => wX1_gather_b11 n a1  nn z0 z1 T Q) ih x11_3 x11_2 1 x11_3.toNatClampNeg hb28 S h
  unfold wX1_gather at h
  refine r_aload_n C 0 rfl dX1_gather_0 1 rfl ?_
  refine g_RX1_87 C dX1_gather_1 4 rfl ?_
  refine r_istore_n C [(2, .int (S 1 11)), (0, .ref (A 1)), (1, .int a1)] (Nat.le_of_ble_eq_true rfl) rfl dX1_gather_4 5 rfl ?_
  refine r_aload_n C 1 rfl dX1_gather_5 6 rfl ?_
  refine k_RX1_117 C (ctX1_filter hi  h) ⟨(Nat.le_of_ble_eq_true rfl), (Nat.le_of_ble_eq_true rfl)⟩ (Nat.le_of_ble_eq_true rfl) ⟨Nat.le_refl 0, Nat.le_refl 0⟩ dX1_gather_6 9 rfl (fun S2 h => ?_)
  refine r_iconst C 0 rfl dX1_gather_9 10 rfl ?_
  refine r_istore_n C [(3, .int 0), (2, .int (S 1 11)), (0, .ref (A 1)), (1, .int a1)] (Nat.le_of_ble_eq_true rfl) rfl dX1_gather_10 11 rfl ?_
  refine r_sub [(3, .int 0), (2, .int (S 1 11)), (0, .ref (A 1)), (1, .int a1)] [0, 1, 2, 3] rfl ?_
  obtain ⟨f3, h⟩ := h
  exact b11  f3 0 (S 1 11)  S2 h
set_option maxRecDepth 100000 in
set_option maxHeartbeats 4000000 in
theorem ctX1_newObject {l : Launch} {D : va_G} {A : Nat → Nat} {n : Nat → Nat} {cI cG cR : ClassId} {aK aV : Nat} {a1 : Int32} {a2 : Int32} {a3 : Int32} {S : Nat → Nat → Int32} {Q : Int32 → (Nat → Nat → Int32) → Prop} (hi : Apart 32 A)  (h : wX1_newObject n a1 a2 a3 S Q) : Ct l D (tyC cI cG cR) 32 A (ceC A n cI cG cR) (FxC aK aV) yX1_newObject cX1_newObject 8 (some .int) 4 121 [.ref (A 1), .int a1, .int a2, .int a3] S rI Q := by
  refine Ct.of (by decide +kernel) hFx hi [(0, .ref (A 1)), (1, .int a1), (2, .int a2), (3, .int a3)] rfl (Nat.le_of_ble_eq_true rfl) ?_
  intro p e s m args below meth c Acc C hr hlk Qf hE
  have b98 : ∀ (nn : Nat) (x98_7 : Int32) (x98_6 : Int32) (S : Nat → Nat → Int32), wX1_newObject_b98 n a1 a2 a3  nn x98_7 x98_6 S Q → J p l e { frames := 4, cells := 0, slots := 0, locals := 121 } s m args below meth c 0 0 Qf D 32 A (ceC A n cI cG cR) Acc 8 S 98 [(7, .int x98_7), (6, .int x98_6), (0, .ref (A 1)), (1, .int a1), (3, .int a3)] [] := by
    intro nn
    induction nn with
    | zero => intro x98_7 x98_6 S h; exact False.elim h
    | succ nn ih =>
      intro x98_7 x98_6 S h
      rw [wX1_newObject_b98] at h
      refine r_iload C 0 rfl dX1_newObject_98 100 rfl ?_
      refine r_iload_n C 3 rfl dX1_newObject_100 101 rfl ?_
      refine r_icmp_ge C 123 dX1_newObject_101 104 rfl rfl (fun c24 => ?_) (fun c24 => ?_)
      · replace h := h.1 c24
        refine r_iload_n C 4 rfl dX1_newObject_123 124 rfl ?_
        refine r_if_eq C 136 dX1_newObject_124 127 rfl rfl (fun c25 => ?_) (fun c25 => ?_)
        · replace h := h.1 c25
          refine r_iload C 1 rfl dX1_newObject_136 138 rfl ?_
          exact r_iret C hE hr hlk dX1_newObject_138 h
        · replace h := h.2 c25
          refine r_aload_n C 2 rfl dX1_newObject_127 128 rfl ?_
          refine g_RX1_39 C dX1_newObject_128 131 rfl ?_
          refine r_iload C 1 rfl dX1_newObject_131 133 rfl ?_
          refine k_RX1_109 (k := 9) C (Nat.le_of_ble_eq_true rfl) (Nat.le_of_ble_eq_true rfl) (ctX3_add hi (Nat.le_of_ble_eq_true rfl) (Nat.le_of_ble_eq_true rfl) h) ⟨(Nat.le_of_ble_eq_true rfl), (Nat.le_of_ble_eq_true rfl)⟩ (Nat.le_of_ble_eq_true rfl) ⟨Nat.le_refl 0, Nat.le_refl 0⟩ dX1_newObject_133 136 rfl (fun S27 h => ?_)
          refine r_iload C 1 rfl dX1_newObject_136 138 rfl ?_
          exact r_iret C hE hr hlk dX1_newObject_138 h
      · replace h := h.2 c24
        refine r_aload_n C 2 rfl dX1_newObject_104 105 rfl ?_
        refine g_RX1_32 C dX1_newObject_105 108 rfl ?_
        refine r_iload C 1 rfl dX1_newObject_108 110 rfl ?_
        refine r_iconst C 2 rfl dX1_newObject_110 111 rfl ?_
        refine r_iadd C dX1_newObject_111 112 rfl ?_
        refine r_iload C 0 rfl dX1_newObject_112 114 rfl ?_
        refine r_iadd C dX1_newObject_114 115 rfl ?_
        refine r_iconst C 0 rfl dX1_newObject_115 116 rfl ?_
        refine s_C (k := 26) C (Nat.le_of_ble_eq_true rfl) (Nat.le_of_ble_eq_true rfl) h.1 dX1_newObject_116 117 rfl (fun S28 e29 => ?_)
        replace h := h.2
        replace h := h S28 e29
        obtain ⟨x30, e31⟩ : ∃ z : Int32, z = x98_7 + 1 := ⟨_, rfl⟩
        replace h := h x30 e31
        refine r_iinc (n := 1) C 0 rfl x30 (by rw [e31]; rfl) [(7, .int x30), (6, .int x98_6), (0, .ref (A 1)), (1, .int a1), (3, .int a3)] (Nat.le_of_ble_eq_true rfl) rfl dX1_newObject_117 120 rfl ?_
        refine r_goto C 98 dX1_newObject_120 rfl ?_
        refine r_sub [(7, .int x30), (6, .int x98_6), (0, .ref (A 1)), (1, .int a1), (3, .int a3)] [0, 1, 2, 3, 4] rfl ?_
        exact ih x30 x98_6  S28 h
  have b84 : ∀ (x84_6 : Int32) (y84_0 : Int32) (y84_1 : Int32) (S : Nat → Nat → Int32), wX1_newObject_b84 n a1 a2 a3  x84_6 y84_0 y84_1 S Q → J p l e { frames := 4, cells := 0, slots := 0, locals := 121 } s m args below meth c 0 0 Qf D 32 A (ceC A n cI cG cR) Acc 8 S 84 [(6, .int x84_6), (0, .ref (A 1)), (1, .int a1), (2, .int a2), (3, .int a3)] [.int y84_0, .int y84_1, .ref (A 26)] := by
    intro  x84_6 y84_0 y84_1 S h
    unfold wX1_newObject_b84 at h
    refine s_C (k := 26) C (Nat.le_of_ble_eq_true rfl) (Nat.le_of_ble_eq_true rfl) h.1 dX1_newObject_84 85 rfl (fun S19 e20 => ?_)
    replace h := h.2
    replace h := h S19 e20
    refine r_aload_n C 1 rfl dX1_newObject_85 86 rfl ?_
    refine g_RX1_32 C dX1_newObject_86 89 rfl ?_
    refine r_iload C 0 rfl dX1_newObject_89 91 rfl ?_
    refine r_iconst C 1 rfl dX1_newObject_91 92 rfl ?_
    refine r_iadd C dX1_newObject_92 93 rfl ?_
    refine r_iload_n C 3 rfl dX1_newObject_93 94 rfl ?_
    refine s_C (k := 26) C (Nat.le_of_ble_eq_true rfl) (Nat.le_of_ble_eq_true rfl) h.1 dX1_newObject_94 95 rfl (fun S21 e22 => ?_)
    replace h := h.2
    replace h := h S21 e22
    refine r_iconst C 0 rfl dX1_newObject_95 96 rfl ?_
    refine r_istore C [(7, .int 0), (6, .int x84_6), (0, .ref (A 1)), (1, .int a1), (2, .int a2), (3, .int a3)] (Nat.le_of_ble_eq_true rfl) rfl dX1_newObject_96 98 rfl ?_
    refine r_sub [(7, .int 0), (6, .int x84_6), (0, .ref (A 1)), (1, .int a1), (3, .int a3)] [0, 1, 2, 3, 5] rfl ?_
    obtain ⟨f23, h⟩ := h
    exact b98  f23 0 x84_6  S21 h
  have b45 : ∀ (x45_5 : Nat) (x45_4 : Int32) (hb_x45_5 : x45_5 < 3) (S : Nat → Nat → Int32), wX1_newObject_b45 n a1 a2 a3  x45_5 x45_4 S Q → J p l e { frames := 4, cells := 0, slots := 0, locals := 121 } s m args below meth c 0 0 Qf D 32 A (ceC A n cI cG cR) Acc 8 S 45 [(5, .ref (A (3 + x45_5))), (4, .int x45_4), (0, .ref (A 1)), (1, .int a1), (2, .int a2), (3, .int a3)] [] := by
    intro  x45_5 x45_4 hb_x45_5 S h
    unfold wX1_newObject_b45 at h
    refine r_aload C 0 rfl dX1_newObject_45 47 rfl ?_
    refine r_iload C 1 rfl dX1_newObject_47 49 rfl ?_
    refine k_RX1_100 (k := (3 + x45_5)) C (Nat.le_add_right 3 x45_5) (Nat.add_lt_add_left hb_x45_5 3) (ctX0_fits hi hb_x45_5 h) ⟨(Nat.le_of_ble_eq_true rfl), (Nat.le_of_ble_eq_true rfl)⟩ (Nat.le_of_ble_eq_true rfl) ⟨Nat.le_refl 0, Nat.le_refl 0⟩ dX1_newObject_49 52 rfl (fun r13 S14 h => ?_)
    rcases bool_or r13 with c15 | c15
    · replace h := h.1 c15
      refine r_if_neF C c15 57 dX1_newObject_52 55 rfl rfl ?_
      refine r_iconst C 0 rfl dX1_newObject_55 56 rfl ?_
      exact r_iret C hE hr hlk dX1_newObject_56 h
    · replace h := h.2 c15
      refine r_if_neT C c15 57 dX1_newObject_52 55 rfl rfl ?_
      refine r_aload C 0 rfl dX1_newObject_57 59 rfl ?_
      refine r_iload C 1 rfl dX1_newObject_59 61 rfl ?_
      refine k_RX1_106 (k := (3 + x45_5)) C (Nat.le_add_right 3 x45_5) (Nat.add_lt_add_left hb_x45_5 3) (ctX0_take hi hb_x45_5 h) ⟨(Nat.le_of_ble_eq_true rfl), (Nat.le_of_ble_eq_true rfl)⟩ (Nat.le_of_ble_eq_true rfl) ⟨Nat.le_refl 0, Nat.le_refl 0⟩ dX1_newObject_61 64 rfl (fun r16 S17 h => ?_)
      refine r_istore C [(6, .int r16), (5, .ref (A (3 + x45_5))), (4, .int x45_4), (0, .ref (A 1)), (1, .int a1), (2, .int a2), (3, .int a3)] (Nat.le_of_ble_eq_true rfl) rfl dX1_newObject_64 66 rfl ?_
      refine r_aload_n C 3 rfl dX1_newObject_66 67 rfl ?_
      refine g_RX1_32 C dX1_newObject_67 70 rfl ?_
      refine r_iload C 0 rfl dX1_newObject_70 72 rfl ?_
      refine r_iload_n C 6 rfl dX1_newObject_72 73 rfl ?_
      refine r_if_eq C 83 dX1_newObject_73 76 rfl rfl (fun c18 => ?_) (fun c18 => ?_)
      · replace h := h.1 c18
        refine r_iload_n C 4 rfl dX1_newObject_83 84 rfl ?_
        refine r_sub [(6, .int r16), (0, .ref (A 1)), (1, .int a1), (2, .int a2), (3, .int a3)] [0, 3, 4, 5, 6] rfl ?_
        exact b84  r16 a1 r16  S17 h
      · replace h := h.2 c18
        refine r_iload_n C 4 rfl dX1_newObject_76 77 rfl ?_
        refine r_bipush C 64 rfl dX1_newObject_77 79 rfl ?_
        refine r_iadd C dX1_newObject_79 80 rfl ?_
        refine r_goto C 84 dX1_newObject_80 rfl ?_
        refine r_sub [(6, .int r16), (0, .ref (A 1)), (1, .int a1), (2, .int a2), (3, .int a3)] [0, 3, 4, 5, 6] rfl ?_
        exact b84  r16 (a1 + 64) r16  S17 h
  have b16 : ∀ (nn : Nat) (x16_6 : Int32) (x16_5 : Nat) (x16_4 : Int32) (hb_x16_5 : x16_5 < 3) (S : Nat → Nat → Int32), wX1_newObject_b16 n a1 a2 a3  nn x16_6 x16_5 x16_4 S Q → J p l e { frames := 4, cells := 0, slots := 0, locals := 121 } s m args below meth c 0 0 Qf D 32 A (ceC A n cI cG cR) Acc 8 S 16 [(6, .int x16_6), (5, .ref (A (3 + x16_5))), (4, .int x16_4), (0, .ref (A 1)), (1, .int a1), (2, .int a2), (3, .int a3)] [] := by
    intro nn
    induction nn with
    | zero => intro x16_6 x16_5 x16_4 hb_x16_5 S h; exact False.elim h
    | succ nn ih =>
      intro x16_6 x16_5 x16_4 hb_x16_5 S h
      rw [wX1_newObject_b16] at h
      refine r_iload C 0 rfl dX1_newObject_16 18 rfl ?_
      refine r_iconst C 3 rfl dX1_newObject_18 19 rfl ?_
      refine r_icmp_ge C 45 dX1_newObject_19 22 rfl rfl (fun c5 => ?_) (fun c5 => ?_)
      · replace h := h.1 c5
        refine r_sub [(5, .ref (A (3 + x16_5))), (4, .int x16_4), (0, .ref (A 1)), (1, .int a1), (2, .int a2), (3, .int a3)] [1, 2, 3, 4, 5, 6] rfl ?_
        exact b45  x16_5 x16_4 hb_x16_5 S h
      · replace h := h.2 c5
        refine r_aload C 1 rfl dX1_newObject_22 24 rfl ?_
        refine r_iload C 2 rfl dX1_newObject_24 26 rfl ?_
        refine k_RX1_100 (k := (3 + x16_5)) C (Nat.le_add_right 3 x16_5) (Nat.add_lt_add_left hb_x16_5 3) (ctX0_fits hi hb_x16_5 h) ⟨(Nat.le_of_ble_eq_true rfl), (Nat.le_of_ble_eq_true rfl)⟩ (Nat.le_of_ble_eq_true rfl) ⟨Nat.le_refl 0, Nat.le_refl 0⟩ dX1_newObject_26 29 rfl (fun r6 S7 h => ?_)
        rcases bool_or r6 with c8 | c8
        · replace h := h.1 c8
          refine r_if_neF C c8 45 dX1_newObject_29 32 rfl rfl ?_
          refine r_aload_n C 3 rfl dX1_newObject_32 33 rfl ?_
          refine r_iload C 0 rfl dX1_newObject_33 35 rfl ?_
          refine k_RX1_103 C (ctX1_gather hi  h) ⟨(Nat.le_of_ble_eq_true rfl), (Nat.le_of_ble_eq_true rfl)⟩ (Nat.le_of_ble_eq_true rfl) ⟨Nat.le_refl 0, Nat.le_refl 0⟩ dX1_newObject_35 38 rfl (fun r9 S10 h => ?_)
          refine r_pop C rfl dX1_newObject_38 39 rfl ?_
          obtain ⟨x11, e12⟩ : ∃ z : Int32, z = x16_6 + 1 := ⟨_, rfl⟩
          replace h := h x11 e12
          refine r_iinc (n := 1) C 0 rfl x11 (by rw [e12]; rfl) [(6, .int x11), (5, .ref (A (3 + x16_5))), (4, .int x16_4), (0, .ref (A 1)), (1, .int a1), (2, .int a2), (3, .int a3)] (Nat.le_of_ble_eq_true rfl) rfl dX1_newObject_39 42 rfl ?_
          refine r_goto C 16 dX1_newObject_42 rfl ?_
          refine r_sub [(6, .int x11), (5, .ref (A (3 + x16_5))), (4, .int x16_4), (0, .ref (A 1)), (1, .int a1), (2, .int a2), (3, .int a3)] [0, 1, 2, 3, 4, 5, 6] rfl ?_
          exact ih x11 x16_5 x16_4 hb_x16_5 S10 h
        · replace h := h.2 c8
          refine r_if_neT C c8 45 dX1_newObject_29 32 rfl rfl ?_
          refine r_sub [(5, .ref (A (3 + x16_5))), (4, .int x16_4), (0, .ref (A 1)), (1, .int a1), (2, .int a2), (3, .int a3)] [1, 2, 3, 4, 5, 6] rfl ?_
          exact b45  x16_5 x16_4 hb_x16_5 S7 h
  unfold wX1_newObject at h
  refine r_iconst C 2 rfl dX1_newObject_0 1 rfl ?_
  refine r_iload_n C 1 rfl dX1_newObject_1 2 rfl ?_
  refine r_iadd C dX1_newObject_2 3 rfl ?_
  refine r_topi (fun x1 e2 => ?_)
  replace h := h x1 e2
  refine r_istore C [(4, .int x1), (0, .ref (A 1)), (1, .int a1), (2, .int a2), (3, .int a3)] (Nat.le_of_ble_eq_true rfl) rfl dX1_newObject_3 5 rfl ?_
  refine r_aload_n C 1 rfl dX1_newObject_5 6 rfl ?_
  refine g_RX1_11 C dX1_newObject_6 9 rfl ?_
  refine r_iconst C 0 rfl dX1_newObject_9 10 rfl ?_
  have hb3 : 0 < 3 := (Nat.le_of_ble_eq_true rfl)
  refine a_Gk C 0 rfl (show vp_in 0 3 by unfold vp_in; decide) dX1_newObject_10 11 rfl ?_
  refine r_astore C [(5, .ref (A (3 + 0))), (4, .int x1), (0, .ref (A 1)), (1, .int a1), (2, .int a2), (3, .int a3)] (Nat.le_of_ble_eq_true rfl) rfl dX1_newObject_11 13 rfl ?_
  refine r_iconst C 0 rfl dX1_newObject_13 14 rfl ?_
  refine r_istore C [(6, .int 0), (5, .ref (A (3 + 0))), (4, .int x1), (0, .ref (A 1)), (1, .int a1), (2, .int a2), (3, .int a3)] (Nat.le_of_ble_eq_true rfl) rfl dX1_newObject_14 16 rfl ?_
  refine r_sub [(6, .int 0), (5, .ref (A (3 + 0))), (4, .int x1), (0, .ref (A 1)), (1, .int a1), (2, .int a2), (3, .int a3)] [0, 1, 2, 3, 4, 5, 6] rfl ?_
  obtain ⟨f4, h⟩ := h
  exact b16  f4 0 0 x1 hb3 S h
set_option maxRecDepth 100000 in
set_option maxHeartbeats 4000000 in
theorem ctX3_isFull {l : Launch} {D : va_G} {A : Nat → Nat} {n : Nat → Nat} {cI cG cR : ClassId} {aK aV : Nat} {r0 : Nat} {S : Nat → Nat → Int32} {Q : Bool → (Nat → Nat → Int32) → Prop} (hi : Apart 32 A) (h60 : 6 ≤ r0) (h160 : r0 < 16) (h : wX3_isFull n r0 S Q) : Ct l D (tyC cI cG cR) 32 A (ceC A n cI cG cR) (FxC aK aV) yX3_isFull cX3_isFull 1 (some .boolean) 0 0 [.ref (A r0)] S rZ Q := by
  refine Ct.of (by decide +kernel) hFx hi [(0, .ref (A r0))] rfl (Nat.le_of_ble_eq_true rfl) ?_
  intro p e s m args below meth c Acc C hr hlk Qf hE
  unfold wX3_isFull at h
  refine r_aload_n C 0 rfl dX3_isFull_0 1 rfl ?_
  refine g_RX3_15 (k := r0) C h60 h160 dX3_isFull_1 4 rfl ?_
  refine r_aload_n C 0 rfl dX3_isFull_4 5 rfl ?_
  refine g_RX3_9 (k := r0) C h60 h160 dX3_isFull_5 8 rfl ?_
  refine l_C (k := (r0 + 10)) C (Nat.add_le_add_right h60 10) (Nat.lt_of_lt_of_le (Nat.add_lt_add_right h160 10) (Nat.le_of_ble_eq_true rfl)) dX3_isFull_8 9 rfl ?_
  refine r_icmp_ne C 16 dX3_isFull_9 12 rfl rfl (fun c1 => ?_) (fun c1 => ?_)
  · replace h := h.1 c1
    refine r_iconst C 1 rfl dX3_isFull_12 13 rfl ?_
    refine r_goto C 17 dX3_isFull_13 rfl ?_
    exact r_zret C hE hr hlk (r := true) dX3_isFull_17 h
  · replace h := h.2 c1
    refine r_iconst C 0 rfl dX3_isFull_16 17 rfl ?_
    exact r_zret C hE hr hlk (r := false) dX3_isFull_17 h
set_option maxRecDepth 100000 in
set_option maxHeartbeats 4000000 in
theorem ctX1_store {l : Launch} {D : va_G} {A : Nat → Nat} {n : Nat → Nat} {cI cG cR : ClassId} {aK aV : Nat} {a1 : Int32} {a2 : Int32} {a3 : Int32} {S : Nat → Nat → Int32} {Q : Unit → (Nat → Nat → Int32) → Prop} (hi : Apart 32 A)  (h : wX1_store n a1 a2 a3 S Q) : Ct l D (tyC cI cG cR) 32 A (ceC A n cI cG cR) (FxC aK aV) yX1_store cX1_store 5 none 3 66 [.ref (A 1), .int a1, .int a2, .int a3] S rU Q := by
  refine Ct.of (by decide +kernel) hFx hi [(0, .ref (A 1)), (1, .int a1), (2, .int a2), (3, .int a3)] rfl (Nat.le_of_ble_eq_true rfl) ?_
  intro p e s m args below meth c Acc C hr hlk Qf hE
  have b44 : ∀ (x44_4 : Int32) (S : Nat → Nat → Int32), wX1_store_b44 n a1 a2 a3  x44_4 S Q → J p l e { frames := 3, cells := 0, slots := 0, locals := 66 } s m args below meth c 0 0 Qf D 32 A (ceC A n cI cG cR) Acc 5 S 44 [(4, .int x44_4), (0, .ref (A 1))] [] := by
    intro  x44_4 S h
    unfold wX1_store_b44 at h
    refine r_aload_n C 1 rfl dX1_store_44 45 rfl ?_
    refine g_RX1_45 C dX1_store_45 48 rfl ?_
    refine r_iload C 0 rfl dX1_store_48 50 rfl ?_
    refine k_RX1_109 (k := 11) C (Nat.le_of_ble_eq_true rfl) (Nat.le_of_ble_eq_true rfl) (ctX3_add hi (Nat.le_of_ble_eq_true rfl) (Nat.le_of_ble_eq_true rfl) h) ⟨(Nat.le_of_ble_eq_true rfl), (Nat.le_of_ble_eq_true rfl)⟩ (Nat.le_of_ble_eq_true rfl) ⟨Nat.le_refl 0, Nat.le_refl 0⟩ dX1_store_50 53 rfl (fun S14 h => ?_)
    exact r_vret C hE hr hlk dX1_store_53 h
  unfold wX1_store at h
  refine r_iload_n C 1 rfl dX1_store_0 1 rfl ?_
  refine r_iconst C 2 rfl dX1_store_1 2 rfl ?_
  refine r_iadd C dX1_store_2 3 rfl ?_
  refine r_iload_n C 2 rfl dX1_store_3 4 rfl ?_
  refine r_iadd C dX1_store_4 5 rfl ?_
  refine r_topi (fun x1 e2 => ?_)
  replace h := h x1 e2
  refine r_istore C [(4, .int x1), (0, .ref (A 1)), (1, .int a1), (2, .int a2), (3, .int a3)] (Nat.le_of_ble_eq_true rfl) rfl dX1_store_5 7 rfl ?_
  refine r_aload_n C 1 rfl dX1_store_7 8 rfl ?_
  refine g_RX1_32 C dX1_store_8 11 rfl ?_
  refine r_iload C 0 rfl dX1_store_11 13 rfl ?_
  refine r_iload_n C 4 rfl dX1_store_13 14 rfl ?_
  refine s_C (k := 26) C (Nat.le_of_ble_eq_true rfl) (Nat.le_of_ble_eq_true rfl) h.1 dX1_store_14 15 rfl (fun S3 e4 => ?_)
  replace h := h.2
  replace h := h S3 e4
  refine r_iload_n C 4 rfl dX1_store_15 16 rfl ?_
  refine r_if_ne C 20 dX1_store_16 19 rfl rfl (fun c5 => ?_) (fun c5 => ?_)
  · replace h := h.1 c5
    exact r_vret C hE hr hlk dX1_store_19 h
  · replace h := h.2 c5
    refine r_aload_n C 1 rfl dX1_store_20 21 rfl ?_
    refine g_RX1_45 C dX1_store_21 24 rfl ?_
    refine k_RX1_113 (k := 11) C (Nat.le_of_ble_eq_true rfl) (Nat.le_of_ble_eq_true rfl) (ctX3_isFull hi (Nat.le_of_ble_eq_true rfl) (Nat.le_of_ble_eq_true rfl) h) ⟨(Nat.le_of_ble_eq_true rfl), (Nat.le_of_ble_eq_true rfl)⟩ (Nat.le_of_ble_eq_true rfl) ⟨Nat.le_refl 0, Nat.le_refl 0⟩ dX1_store_24 27 rfl (fun r6 S7 h => ?_)
    rcases bool_or r6 with c8 | c8
    · replace h := h.1 c8
      refine r_if_eqF C c8 44 dX1_store_27 30 rfl rfl ?_
      refine r_sub [(4, .int x1), (0, .ref (A 1))] [0, 1] rfl ?_
      exact b44  x1  S7 h
    · replace h := h.2 c8
      refine r_if_eqT C c8 44 dX1_store_27 30 rfl rfl ?_
      refine r_aload_n C 1 rfl dX1_store_30 31 rfl ?_
      refine r_dup C rfl dX1_store_31 32 rfl ?_
      refine g_RX1_84 C dX1_store_32 35 rfl ?_
      refine r_iconst C 1 rfl dX1_store_35 36 rfl ?_
      refine r_iadd C dX1_store_36 37 rfl ?_
      refine p_RX1_84 C (x := ((S7 1 10) + 1)) dX1_store_37 40 rfl (fun S9 e10 => ?_)
      replace h := h S9 e10
      refine r_aload_n C 1 rfl dX1_store_40 41 rfl ?_
      refine k_RX1_117 C (ctX1_filter hi  h) ⟨(Nat.le_of_ble_eq_true rfl), (Nat.le_of_ble_eq_true rfl)⟩ (Nat.le_of_ble_eq_true rfl) ⟨Nat.le_refl 0, Nat.le_refl 0⟩ dX1_store_41 44 rfl (fun S12 h => ?_)
      refine r_sub [(4, .int x1), (0, .ref (A 1))] [0, 1] rfl ?_
      exact b44  x1  S12 h
set_option maxRecDepth 100000 in
set_option maxHeartbeats 4000000 in
theorem ctX2_append {l : Launch} {D : va_G} {A : Nat → Nat} {n : Nat → Nat} {cI cG cR : ClassId} {aK aV : Nat} {a1 : Int32} {a2 : Int32} {a3 : Int32} {a4 : Int32} {S : Nat → Nat → Int32} {Q : Unit → (Nat → Nat → Int32) → Prop} (hi : Apart 32 A)  (h : wX2_append n a1 a2 a3 a4 S Q) : Ct l D (tyC cI cG cR) 32 A (ceC A n cI cG cR) (FxC aK aV) yX2_append cX2_append 6 none 0 0 [.ref (A 2), .int a1, .int a2, .int a3, .int a4] S rU Q := by
  refine Ct.of (by decide +kernel) hFx hi [(0, .ref (A 2)), (1, .int a1), (2, .int a2), (3, .int a3), (4, .int a4)] rfl (Nat.le_of_ble_eq_true rfl) ?_
  intro p e s m args below meth c Acc C hr hlk Qf hE
  unfold wX2_append at h
  refine r_aload_n C 0 rfl dX2_append_0 1 rfl ?_
  refine g_RX2_22 C dX2_append_1 4 rfl ?_
  refine r_bipush C 64 rfl dX2_append_4 6 rfl ?_
  refine r_icmp_ge C 66 dX2_append_6 9 rfl rfl (fun c1 => ?_) (fun c1 => ?_)
  · replace h := h.1 c1
    exact r_vret C hE hr hlk dX2_append_66 h
  · replace h := h.2 c1
    refine r_iconst C 4 rfl dX2_append_9 10 rfl ?_
    refine r_aload_n C 0 rfl dX2_append_10 11 rfl ?_
    refine g_RX2_22 C dX2_append_11 14 rfl ?_
    refine r_imul C dX2_append_14 15 rfl ?_
    refine r_topi (fun x2 e3 => ?_)
    replace h := h x2 e3
    refine r_istore C [(5, .int x2), (0, .ref (A 2)), (1, .int a1), (2, .int a2), (3, .int a3), (4, .int a4)] (Nat.le_of_ble_eq_true rfl) rfl dX2_append_15 17 rfl ?_
    refine r_aload_n C 1 rfl dX2_append_17 18 rfl ?_
    refine g_RX2_11 C dX2_append_18 21 rfl ?_
    refine r_iload C 0 rfl dX2_append_21 23 rfl ?_
    refine r_iload_n C 2 rfl dX2_append_23 24 rfl ?_
    refine s_C (k := 27) C (Nat.le_of_ble_eq_true rfl) (Nat.le_of_ble_eq_true rfl) h.1 dX2_append_24 25 rfl (fun S4 e5 => ?_)
    replace h := h.2
    replace h := h S4 e5
    refine r_aload_n C 1 rfl dX2_append_25 26 rfl ?_
    refine g_RX2_11 C dX2_append_26 29 rfl ?_
    refine r_iload C 0 rfl dX2_append_29 31 rfl ?_
    refine r_iconst C 1 rfl dX2_append_31 32 rfl ?_
    refine r_iadd C dX2_append_32 33 rfl ?_
    refine r_iload_n C 3 rfl dX2_append_33 34 rfl ?_
    refine s_C (k := 27) C (Nat.le_of_ble_eq_true rfl) (Nat.le_of_ble_eq_true rfl) h.1 dX2_append_34 35 rfl (fun S6 e7 => ?_)
    replace h := h.2
    replace h := h S6 e7
    refine r_aload_n C 1 rfl dX2_append_35 36 rfl ?_
    refine g_RX2_11 C dX2_append_36 39 rfl ?_
    refine r_iload C 0 rfl dX2_append_39 41 rfl ?_
    refine r_iconst C 2 rfl dX2_append_41 42 rfl ?_
    refine r_iadd C dX2_append_42 43 rfl ?_
    refine r_iload_n C 4 rfl dX2_append_43 44 rfl ?_
    refine s_C (k := 27) C (Nat.le_of_ble_eq_true rfl) (Nat.le_of_ble_eq_true rfl) h.1 dX2_append_44 45 rfl (fun S8 e9 => ?_)
    replace h := h.2
    replace h := h S8 e9
    refine r_aload_n C 1 rfl dX2_append_45 46 rfl ?_
    refine g_RX2_11 C dX2_append_46 49 rfl ?_
    refine r_iload C 0 rfl dX2_append_49 51 rfl ?_
    refine r_iconst C 3 rfl dX2_append_51 52 rfl ?_
    refine r_iadd C dX2_append_52 53 rfl ?_
    refine r_iload C 5 rfl dX2_append_53 55 rfl ?_
    refine s_C (k := 27) C (Nat.le_of_ble_eq_true rfl) (Nat.le_of_ble_eq_true rfl) h.1 dX2_append_55 56 rfl (fun S10 e11 => ?_)
    replace h := h.2
    replace h := h S10 e11
    refine r_aload_n C 1 rfl dX2_append_56 57 rfl ?_
    refine r_dup C rfl dX2_append_57 58 rfl ?_
    refine g_RX2_22 C dX2_append_58 61 rfl ?_
    refine r_iconst C 1 rfl dX2_append_61 62 rfl ?_
    refine r_iadd C dX2_append_62 63 rfl ?_
    refine p_RX2_22 C (x := ((S10 2 3) + 1)) dX2_append_63 66 rfl (fun S12 e13 => ?_)
    replace h := h S12 e13
    exact r_vret C hE hr hlk dX2_append_66 h
set_option maxRecDepth 100000 in
set_option maxHeartbeats 4000000 in
theorem ctX4_isRoot {l : Launch} {D : va_G} {A : Nat → Nat} {n : Nat → Nat} {cI cG cR : ClassId} {aK aV : Nat} {a0 : Int32} {S : Nat → Nat → Int32} {Q : Bool → (Nat → Nat → Int32) → Prop} (hi : Apart 32 A)  (h : wX4_isRoot n a0 S Q) : Ct l D (tyC cI cG cR) 32 A (ceC A n cI cG cR) (FxC aK aV) yX4_isRoot cX4_isRoot 1 (some .boolean) 0 0 [.int a0] S rZ Q := by
  refine Ct.of (by decide +kernel) hFx hi [(0, .int a0)] rfl (Nat.le_of_ble_eq_true rfl) ?_
  intro p e s m args below meth c Acc C hr hlk Qf hE
  unfold wX4_isRoot at h
  refine r_iload_n C 0 rfl dX4_isRoot_0 1 rfl ?_
  refine r_if_lt C 14 dX4_isRoot_1 4 rfl rfl (fun c1 => ?_) (fun c1 => ?_)
  · replace h := h.1 c1
    refine r_iconst C 0 rfl dX4_isRoot_14 15 rfl ?_
    exact r_zret C hE hr hlk (r := false) dX4_isRoot_15 h
  · replace h := h.2 c1
    refine r_iload_n C 0 rfl dX4_isRoot_4 5 rfl ?_
    refine r_bipush C 16 rfl dX4_isRoot_5 7 rfl ?_
    refine r_icmp_ge C 14 dX4_isRoot_7 10 rfl rfl (fun c2 => ?_) (fun c2 => ?_)
    · replace h := h.1 c2
      refine r_iconst C 0 rfl dX4_isRoot_14 15 rfl ?_
      exact r_zret C hE hr hlk (r := false) dX4_isRoot_15 h
    · replace h := h.2 c2
      refine r_iconst C 1 rfl dX4_isRoot_10 11 rfl ?_
      refine r_goto C 15 dX4_isRoot_11 rfl ?_
      exact r_zret C hE hr hlk (r := true) dX4_isRoot_15 h
set_option maxRecDepth 100000 in
set_option maxHeartbeats 4000000 in
theorem ctX2_isAsTold {l : Launch} {D : va_G} {A : Nat → Nat} {n : Nat → Nat} {cI cG cR : ClassId} {aK aV : Nat} {a1 : Int32} {a2 : Int32} {S : Nat → Nat → Int32} {Q : Bool → (Nat → Nat → Int32) → Prop} (hi : Apart 32 A)  (h : wX2_isAsTold n a1 a2 S Q) : Ct l D (tyC cI cG cR) 32 A (ceC A n cI cG cR) (FxC aK aV) yX2_isAsTold cX2_isAsTold 3 (some .boolean) 1 20 [.ref (A 2), .int a1, .int a2] S rZ Q := by
  refine Ct.of (by decide +kernel) hFx hi [(0, .ref (A 2)), (1, .int a1), (2, .int a2)] rfl (Nat.le_of_ble_eq_true rfl) ?_
  intro p e s m args below meth c Acc C hr hlk Qf hE
  have b85 : ∀  (S : Nat → Nat → Int32), wX2_isAsTold_b85 n a1 a2   S Q → J p l e { frames := 1, cells := 0, slots := 0, locals := 20 } s m args below meth c 0 0 Qf D 32 A (ceC A n cI cG cR) Acc 3 S 85 [] [] := by
    intro   S h
    unfold wX2_isAsTold_b85 at h
    refine r_iconst C 1 rfl dX2_isAsTold_85 86 rfl ?_
    refine r_goto C 90 dX2_isAsTold_86 rfl ?_
    exact r_zret C hE hr hlk (r := true) dX2_isAsTold_90 h
  unfold wX2_isAsTold at h
  refine r_iload_n C 1 rfl dX2_isAsTold_0 1 rfl ?_
  by_cases c1 : a1 = 102
  · replace h := h.1 c1
    refine r_sw C 102 c1 107 dX2_isAsTold_1 (by decide) (by decide) rfl rfl ?_
    refine r_iload_n C 2 rfl dX2_isAsTold_107 108 rfl ?_
    refine r_if_lt C 121 dX2_isAsTold_108 111 rfl rfl (fun c2 => ?_) (fun c2 => ?_)
    · replace h := h.1 c2
      refine r_iconst C 0 rfl dX2_isAsTold_121 122 rfl ?_
      exact r_zret C hE hr hlk (r := false) dX2_isAsTold_122 h
    · replace h := h.2 c2
      refine r_iload_n C 2 rfl dX2_isAsTold_111 112 rfl ?_
      refine r_bipush C 6 rfl dX2_isAsTold_112 114 rfl ?_
      refine r_icmp_ge C 121 dX2_isAsTold_114 117 rfl rfl (fun c3 => ?_) (fun c3 => ?_)
      · replace h := h.1 c3
        refine r_iconst C 0 rfl dX2_isAsTold_121 122 rfl ?_
        exact r_zret C hE hr hlk (r := false) dX2_isAsTold_122 h
      · replace h := h.2 c3
        refine r_iconst C 1 rfl dX2_isAsTold_117 118 rfl ?_
        refine r_goto C 122 dX2_isAsTold_118 rfl ?_
        exact r_zret C hE hr hlk (r := true) dX2_isAsTold_122 h
  · replace h := h.2
    by_cases c4 : a1 = 103
    · replace h := h.1 c4
      refine r_sw C 103 c4 157 dX2_isAsTold_1 (by decide) (by decide) rfl rfl ?_
      refine r_iconst C 1 rfl dX2_isAsTold_157 158 rfl ?_
      exact r_zret C hE hr hlk (r := true) dX2_isAsTold_158 h
    · replace h := h.2
      by_cases c5 : a1 = 104
      · replace h := h.1 c5
        refine r_sw C 104 c5 157 dX2_isAsTold_1 (by decide) (by decide) rfl rfl ?_
        refine r_iconst C 1 rfl dX2_isAsTold_157 158 rfl ?_
        exact r_zret C hE hr hlk (r := true) dX2_isAsTold_158 h
      · replace h := h.2
        by_cases c6 : a1 = 105
        · replace h := h.1 c6
          refine r_sw C 105 c6 123 dX2_isAsTold_1 (by decide) (by decide) rfl rfl ?_
          refine r_iload_n C 2 rfl dX2_isAsTold_123 124 rfl ?_
          refine r_if_lt C 137 dX2_isAsTold_124 127 rfl rfl (fun c7 => ?_) (fun c7 => ?_)
          · replace h := h.1 c7
            refine r_iconst C 0 rfl dX2_isAsTold_137 138 rfl ?_
            exact r_zret C hE hr hlk (r := false) dX2_isAsTold_138 h
          · replace h := h.2 c7
            refine r_iload_n C 2 rfl dX2_isAsTold_127 128 rfl ?_
            refine r_bipush C 8 rfl dX2_isAsTold_128 130 rfl ?_
            refine r_icmp_ge C 137 dX2_isAsTold_130 133 rfl rfl (fun c8 => ?_) (fun c8 => ?_)
            · replace h := h.1 c8
              refine r_iconst C 0 rfl dX2_isAsTold_137 138 rfl ?_
              exact r_zret C hE hr hlk (r := false) dX2_isAsTold_138 h
            · replace h := h.2 c8
              refine r_iconst C 1 rfl dX2_isAsTold_133 134 rfl ?_
              refine r_goto C 138 dX2_isAsTold_134 rfl ?_
              exact r_zret C hE hr hlk (r := true) dX2_isAsTold_138 h
        · replace h := h.2
          by_cases c9 : a1 = 106
          · replace h := h.1 c9
            refine r_sw C 106 c9 157 dX2_isAsTold_1 (by decide) (by decide) rfl rfl ?_
            refine r_iconst C 1 rfl dX2_isAsTold_157 158 rfl ?_
            exact r_zret C hE hr hlk (r := true) dX2_isAsTold_158 h
          · replace h := h.2
            by_cases c10 : a1 = 107
            · replace h := h.1 c10
              refine r_sw C 107 c10 157 dX2_isAsTold_1 (by decide) (by decide) rfl rfl ?_
              refine r_iconst C 1 rfl dX2_isAsTold_157 158 rfl ?_
              exact r_zret C hE hr hlk (r := true) dX2_isAsTold_158 h
            · replace h := h.2
              by_cases c11 : a1 = 108
              · replace h := h.1 c11
                refine r_sw C 108 c11 157 dX2_isAsTold_1 (by decide) (by decide) rfl rfl ?_
                refine r_iconst C 1 rfl dX2_isAsTold_157 158 rfl ?_
                exact r_zret C hE hr hlk (r := true) dX2_isAsTold_158 h
              · replace h := h.2
                by_cases c12 : a1 = 109
                · replace h := h.1 c12
                  refine r_sw C 109 c12 157 dX2_isAsTold_1 (by decide) (by decide) rfl rfl ?_
                  refine r_iconst C 1 rfl dX2_isAsTold_157 158 rfl ?_
                  exact r_zret C hE hr hlk (r := true) dX2_isAsTold_158 h
                · replace h := h.2
                  by_cases c13 : a1 = 110
                  · replace h := h.1 c13
                    refine r_sw C 110 c13 91 dX2_isAsTold_1 (by decide) (by decide) rfl rfl ?_
                    refine r_iload_n C 2 rfl dX2_isAsTold_91 92 rfl ?_
                    refine r_if_lt C 105 dX2_isAsTold_92 95 rfl rfl (fun c14 => ?_) (fun c14 => ?_)
                    · replace h := h.1 c14
                      refine r_iconst C 0 rfl dX2_isAsTold_105 106 rfl ?_
                      exact r_zret C hE hr hlk (r := false) dX2_isAsTold_106 h
                    · replace h := h.2 c14
                      refine r_iload_n C 2 rfl dX2_isAsTold_95 96 rfl ?_
                      refine r_bipush C 6 rfl dX2_isAsTold_96 98 rfl ?_
                      refine r_icmp_gt C 105 dX2_isAsTold_98 101 rfl rfl (fun c15 => ?_) (fun c15 => ?_)
                      · replace h := h.1 c15
                        refine r_iconst C 0 rfl dX2_isAsTold_105 106 rfl ?_
                        exact r_zret C hE hr hlk (r := false) dX2_isAsTold_106 h
                      · replace h := h.2 c15
                        refine r_iconst C 1 rfl dX2_isAsTold_101 102 rfl ?_
                        refine r_goto C 106 dX2_isAsTold_102 rfl ?_
                        exact r_zret C hE hr hlk (r := true) dX2_isAsTold_106 h
                  · replace h := h.2
                    by_cases c16 : a1 = 111
                    · replace h := h.1 c16
                      refine r_sw C 111 c16 157 dX2_isAsTold_1 (by decide) (by decide) rfl rfl ?_
                      refine r_iconst C 1 rfl dX2_isAsTold_157 158 rfl ?_
                      exact r_zret C hE hr hlk (r := true) dX2_isAsTold_158 h
                    · replace h := h.2
                      by_cases c17 : a1 = 112
                      · replace h := h.1 c17
                        refine r_sw C 112 c17 139 dX2_isAsTold_1 (by decide) (by decide) rfl rfl ?_
                        refine r_iload_n C 2 rfl dX2_isAsTold_139 140 rfl ?_
                        refine r_if_lt C 155 dX2_isAsTold_140 143 rfl rfl (fun c18 => ?_) (fun c18 => ?_)
                        · replace h := h.1 c18
                          refine r_iconst C 0 rfl dX2_isAsTold_155 156 rfl ?_
                          exact r_zret C hE hr hlk (r := false) dX2_isAsTold_156 h
                        · replace h := h.2 c18
                          refine r_iload_n C 2 rfl dX2_isAsTold_143 144 rfl ?_
                          refine r_aload_n C 0 rfl dX2_isAsTold_144 145 rfl ?_
                          refine g_RX2_22 C dX2_isAsTold_145 148 rfl ?_
                          refine r_icmp_gt C 155 dX2_isAsTold_148 151 rfl rfl (fun c19 => ?_) (fun c19 => ?_)
                          · replace h := h.1 c19
                            refine r_iconst C 0 rfl dX2_isAsTold_155 156 rfl ?_
                            exact r_zret C hE hr hlk (r := false) dX2_isAsTold_156 h
                          · replace h := h.2 c19
                            refine r_iconst C 1 rfl dX2_isAsTold_151 152 rfl ?_
                            refine r_goto C 156 dX2_isAsTold_152 rfl ?_
                            exact r_zret C hE hr hlk (r := true) dX2_isAsTold_156 h
                      · replace h := h.2
                        by_cases c20 : a1 = 113
                        · replace h := h.1 c20
                          refine r_sw C 113 c20 73 dX2_isAsTold_1 (by decide) (by decide) rfl rfl ?_
                          refine r_iload_n C 2 rfl dX2_isAsTold_73 74 rfl ?_
                          refine r_iconst C (-1 : Int32) rfl dX2_isAsTold_74 75 rfl ?_
                          refine r_icmp_eq C 85 dX2_isAsTold_75 78 rfl rfl (fun c21 => ?_) (fun c21 => ?_)
                          · replace h := h.1 c21
                            refine r_sub [] [] rfl ?_
                            exact b85    S h
                          · replace h := h.2 c21
                            refine r_iload_n C 2 rfl dX2_isAsTold_78 79 rfl ?_
                            refine k_nest_isRoot C (ctX4_isRoot hi  h) ⟨(Nat.le_of_ble_eq_true rfl), (Nat.le_of_ble_eq_true rfl)⟩ (Nat.le_of_ble_eq_true rfl) ⟨Nat.le_refl 0, Nat.le_refl 0⟩ dX2_isAsTold_79 82 rfl (fun r22 S23 h => ?_)
                            rcases bool_or r22 with c24 | c24
                            · replace h := h.1 c24
                              refine r_if_eqF C c24 89 dX2_isAsTold_82 85 rfl rfl ?_
                              refine r_iconst C 0 rfl dX2_isAsTold_89 90 rfl ?_
                              exact r_zret C hE hr hlk (r := false) dX2_isAsTold_90 h
                            · replace h := h.2 c24
                              refine r_if_eqT C c24 89 dX2_isAsTold_82 85 rfl rfl ?_
                              refine r_sub [] [] rfl ?_
                              exact b85    S23 h
                        · replace h := h.2
                          by_cases c25 : a1 = 114
                          · replace h := h.1 c25
                            refine r_sw C 114 c25 68 dX2_isAsTold_1 (by decide) (by decide) rfl rfl ?_
                            refine r_iload_n C 2 rfl dX2_isAsTold_68 69 rfl ?_
                            refine k_nest_isRoot C (ctX4_isRoot hi  h) ⟨(Nat.le_of_ble_eq_true rfl), (Nat.le_of_ble_eq_true rfl)⟩ (Nat.le_of_ble_eq_true rfl) ⟨Nat.le_refl 0, Nat.le_refl 0⟩ dX2_isAsTold_69 72 rfl (fun r26 S27 h => ?_)
                            exact r_zret C hE hr hlk (r := r26) dX2_isAsTold_72 h
                          · replace h := h.2
                            replace h := h c1 c4 c5 c6 c9 c10 c11 c12 c13 c16 c17 c20 c25
                            have hsw : (a1).toInt < 102 ∨ 114 < (a1).toInt := by
                              have c1t := lv_neT (k := 102) (a := 102) c1 (by decide)
                              have c4t := lv_neT (k := 103) (a := 103) c4 (by decide)
                              have c5t := lv_neT (k := 104) (a := 104) c5 (by decide)
                              have c6t := lv_neT (k := 105) (a := 105) c6 (by decide)
                              have c9t := lv_neT (k := 106) (a := 106) c9 (by decide)
                              have c10t := lv_neT (k := 107) (a := 107) c10 (by decide)
                              have c11t := lv_neT (k := 108) (a := 108) c11 (by decide)
                              have c12t := lv_neT (k := 109) (a := 109) c12 (by decide)
                              have c13t := lv_neT (k := 110) (a := 110) c13 (by decide)
                              have c16t := lv_neT (k := 111) (a := 111) c16 (by decide)
                              have c17t := lv_neT (k := 112) (a := 112) c17 (by decide)
                              have c20t := lv_neT (k := 113) (a := 113) c20 (by decide)
                              have c25t := lv_neT (k := 114) (a := 114) c25 (by decide)
                              omega
                            refine r_tableOut C 157 dX2_isAsTold_1 hsw rfl ?_
                            refine r_iconst C 1 rfl dX2_isAsTold_157 158 rfl ?_
                            exact r_zret C hE hr hlk (r := true) dX2_isAsTold_158 h
set_option maxRecDepth 100000 in
set_option maxHeartbeats 4000000 in
theorem ctX2_isWrong {l : Launch} {D : va_G} {A : Nat → Nat} {n : Nat → Nat} {cI cG cR : ClassId} {aK aV : Nat}  {S : Nat → Nat → Int32} {Q : Bool → (Nat → Nat → Int32) → Prop} (hi : Apart 32 A)  (h : wX2_isWrong n  S Q) : Ct l D (tyC cI cG cR) 32 A (ceC A n cI cG cR) (FxC aK aV) yX2_isWrong cX2_isWrong 3 (some .boolean) 4 85 [.ref (A 2)] S rZ Q := by
  refine Ct.of (by decide +kernel) hFx hi [(0, .ref (A 2))] rfl (Nat.le_of_ble_eq_true rfl) ?_
  intro p e s m args below meth c Acc C hr hlk Qf hE
  have b26 : ∀ (nn : Nat) (x26_2 : Int32) (x26_1 : Int32) (S : Nat → Nat → Int32), wX2_isWrong_b26 n   nn x26_2 x26_1 S Q → J p l e { frames := 4, cells := 0, slots := 0, locals := 85 } s m args below meth c 0 0 Qf D 32 A (ceC A n cI cG cR) Acc 3 S 26 [(2, .int x26_2), (1, .int x26_1), (0, .ref (A 2))] [] := by
    intro nn
    induction nn with
    | zero => intro x26_2 x26_1 S h; exact False.elim h
    | succ nn ih =>
      intro x26_2 x26_1 S h
      rw [wX2_isWrong_b26] at h
      refine r_iload_n C 0 rfl dX2_isWrong_26 27 rfl ?_
      refine r_iconst C 3 rfl dX2_isWrong_27 28 rfl ?_
      refine r_icmp_ge C 71 dX2_isWrong_28 31 rfl rfl (fun c6 => ?_) (fun c6 => ?_)
      · replace h := h.1 c6
        refine r_iconst C 0 rfl dX2_isWrong_71 72 rfl ?_
        exact r_zret C hE hr hlk (r := false) dX2_isWrong_72 h
      · replace h := h.2 c6
        refine r_aload_n C 2 rfl dX2_isWrong_31 32 rfl ?_
        refine r_ldcT C dX2_isWrong_32 34 rfl ?_
        refine r_iconst C 4 rfl dX2_isWrong_34 35 rfl ?_
        refine r_iload_n C 1 rfl dX2_isWrong_35 36 rfl ?_
        refine r_imul C dX2_isWrong_36 37 rfl ?_
        refine r_iload_n C 0 rfl dX2_isWrong_37 38 rfl ?_
        refine r_iadd C dX2_isWrong_38 39 rfl ?_
        refine k_charAt C hi h.1 ⟨(Nat.le_of_ble_eq_true rfl), (Nat.le_of_ble_eq_true rfl)⟩ (Nat.le_of_ble_eq_true rfl) ⟨Nat.le_refl 0, Nat.le_refl 0⟩ dX2_isWrong_39 42 rfl ?_
        replace h := h.2
        refine r_aload_n C 2 rfl dX2_isWrong_42 43 rfl ?_
        refine g_RX2_11 C dX2_isWrong_43 46 rfl ?_
        refine r_iconst C 4 rfl dX2_isWrong_46 47 rfl ?_
        refine r_aload_n C 2 rfl dX2_isWrong_47 48 rfl ?_
        refine g_RX2_26 C dX2_isWrong_48 51 rfl ?_
        refine r_imul C dX2_isWrong_51 52 rfl ?_
        refine r_iconst C 1 rfl dX2_isWrong_52 53 rfl ?_
        refine r_iadd C dX2_isWrong_53 54 rfl ?_
        refine r_iload_n C 0 rfl dX2_isWrong_54 55 rfl ?_
        refine r_iadd C dX2_isWrong_55 56 rfl ?_
        refine i_C (k := 27) C (Nat.le_of_ble_eq_true rfl) (Nat.le_of_ble_eq_true rfl) h.1 dX2_isWrong_56 57 rfl ?_
        replace h := h.2
        refine k_RX2_65 C (ctX2_isAsTold hi  h) ⟨(Nat.le_of_ble_eq_true rfl), (Nat.le_of_ble_eq_true rfl)⟩ (Nat.le_of_ble_eq_true rfl) ⟨Nat.le_refl 0, Nat.le_refl 0⟩ dX2_isWrong_57 60 rfl (fun r7 S8 h => ?_)
        rcases bool_or r7 with c9 | c9
        · replace h := h.1 c9
          refine r_if_neF C c9 65 dX2_isWrong_60 63 rfl rfl ?_
          refine r_iconst C 1 rfl dX2_isWrong_63 64 rfl ?_
          exact r_zret C hE hr hlk (r := true) dX2_isWrong_64 h
        · replace h := h.2 c9
          refine r_if_neT C c9 65 dX2_isWrong_60 63 rfl rfl ?_
          obtain ⟨x10, e11⟩ : ∃ z : Int32, z = x26_2 + 1 := ⟨_, rfl⟩
          replace h := h x10 e11
          refine r_iinc (n := 1) C 0 rfl x10 (by rw [e11]; rfl) [(2, .int x10), (1, .int x26_1), (0, .ref (A 2))] (Nat.le_of_ble_eq_true rfl) rfl dX2_isWrong_65 68 rfl ?_
          refine r_goto C 26 dX2_isWrong_68 rfl ?_
          refine r_sub [(2, .int x10), (1, .int x26_1), (0, .ref (A 2))] [0, 1, 2] rfl ?_
          exact ih x10 x26_1  S8 h
  unfold wX2_isWrong at h
  refine r_aload_n C 0 rfl dX2_isWrong_0 1 rfl ?_
  refine g_RX2_11 C dX2_isWrong_1 4 rfl ?_
  refine r_iconst C 4 rfl dX2_isWrong_4 5 rfl ?_
  refine r_aload_n C 0 rfl dX2_isWrong_5 6 rfl ?_
  refine g_RX2_26 C dX2_isWrong_6 9 rfl ?_
  refine r_imul C dX2_isWrong_9 10 rfl ?_
  refine i_C (k := 27) C (Nat.le_of_ble_eq_true rfl) (Nat.le_of_ble_eq_true rfl) h.1 dX2_isWrong_10 11 rfl ?_
  replace h := h.2
  refine r_topi (fun x1 e2 => ?_)
  replace h := h x1 e2
  refine r_istore_n C [(1, .int x1), (0, .ref (A 2))] (Nat.le_of_ble_eq_true rfl) rfl dX2_isWrong_11 12 rfl ?_
  refine r_iload_n C 0 rfl dX2_isWrong_12 13 rfl ?_
  refine r_if_lt C 22 dX2_isWrong_13 16 rfl rfl (fun c3 => ?_) (fun c3 => ?_)
  · replace h := h.1 c3
    refine r_iconst C 1 rfl dX2_isWrong_22 23 rfl ?_
    exact r_zret C hE hr hlk (r := true) dX2_isWrong_23 h
  · replace h := h.2 c3
    refine r_iload_n C 0 rfl dX2_isWrong_16 17 rfl ?_
    refine r_bipush C 14 rfl dX2_isWrong_17 19 rfl ?_
    refine r_icmp_le C 24 dX2_isWrong_19 22 rfl rfl (fun c4 => ?_) (fun c4 => ?_)
    · replace h := h.1 c4
      refine r_iconst C 0 rfl dX2_isWrong_24 25 rfl ?_
      refine r_istore_n C [(2, .int 0), (1, .int x1), (0, .ref (A 2))] (Nat.le_of_ble_eq_true rfl) rfl dX2_isWrong_25 26 rfl ?_
      refine r_sub [(2, .int 0), (1, .int x1), (0, .ref (A 2))] [0, 1, 2] rfl ?_
      obtain ⟨f5, h⟩ := h
      exact b26  f5 0 x1  S h
    · replace h := h.2 c4
      refine r_iconst C 1 rfl dX2_isWrong_22 23 rfl ?_
      exact r_zret C hE hr hlk (r := true) dX2_isWrong_23 h
set_option maxRecDepth 100000 in
set_option maxHeartbeats 4000000 in
theorem ctX2_endOfObject {l : Launch} {D : va_G} {A : Nat → Nat} {n : Nat → Nat} {cI cG cR : ClassId} {aK aV : Nat} {a1 : Int32} {a2 : Int32} {S : Nat → Nat → Int32} {Q : Int32 → (Nat → Nat → Int32) → Prop} (hi : Apart 32 A)  (h : wX2_endOfObject n a1 a2 S Q) : Ct l D (tyC cI cG cR) 32 A (ceC A n cI cG cR) (FxC aK aV) yX2_endOfObject cX2_endOfObject 4 (some .int) 2 43 [.ref (A 2), .int a1, .int a2] S rI Q := by
  refine Ct.of (by decide +kernel) hFx hi [(0, .ref (A 2)), (1, .int a1), (2, .int a2)] rfl (Nat.le_of_ble_eq_true rfl) ?_
  intro p e s m args below meth c Acc C hr hlk Qf hE
  unfold wX2_endOfObject at h
  refine r_aload_n C 0 rfl dX2_endOfObject_0 1 rfl ?_
  refine g_RX2_18 C dX2_endOfObject_1 4 rfl ?_
  refine g_RX2_37 C dX2_endOfObject_4 7 rfl ?_
  refine g_RX2_43 (k := 6) C (Nat.le_of_ble_eq_true rfl) (Nat.le_of_ble_eq_true rfl) dX2_endOfObject_7 10 rfl ?_
  refine r_iload_n C 1 rfl dX2_endOfObject_10 11 rfl ?_
  refine i_C (k := 16) C (Nat.le_of_ble_eq_true rfl) (Nat.le_of_ble_eq_true rfl) h.1 dX2_endOfObject_11 12 rfl ?_
  replace h := h.2
  refine r_istore_n C [(3, .int (S 16 a1.toNatClampNeg)), (0, .ref (A 2)), (1, .int a1), (2, .int a2)] (Nat.le_of_ble_eq_true rfl) rfl dX2_endOfObject_12 13 rfl ?_
  refine r_iload_n C 0 rfl dX2_endOfObject_13 14 rfl ?_
  refine r_if_ne C 19 dX2_endOfObject_14 17 rfl rfl (fun c1 => ?_) (fun c1 => ?_)
  · replace h := h.1 c1
    refine r_iconst C 2 rfl dX2_endOfObject_17 18 rfl ?_
    exact r_iret C hE hr hlk dX2_endOfObject_18 h
  · replace h := h.2 c1
    refine r_aload_n C 1 rfl dX2_endOfObject_19 20 rfl ?_
    refine g_RX2_18 C dX2_endOfObject_20 23 rfl ?_
    refine r_iload_n C 0 rfl dX2_endOfObject_23 24 rfl ?_
    refine r_iload_n C 3 rfl dX2_endOfObject_24 25 rfl ?_
    refine k_RX2_73 C (ctX1_hasField hi  h) ⟨(Nat.le_of_ble_eq_true rfl), (Nat.le_of_ble_eq_true rfl)⟩ (Nat.le_of_ble_eq_true rfl) ⟨Nat.le_refl 0, Nat.le_refl 0⟩ dX2_endOfObject_25 28 rfl (fun r2 S3 h => ?_)
    rcases bool_or r2 with c4 | c4
    · replace h := h.1 c4
      refine r_if_eqF C c4 35 dX2_endOfObject_28 31 rfl rfl ?_
      refine r_iconst C 3 rfl dX2_endOfObject_35 36 rfl ?_
      exact r_iret C hE hr hlk dX2_endOfObject_36 h
    · replace h := h.2 c4
      refine r_if_eqT C c4 35 dX2_endOfObject_28 31 rfl rfl ?_
      refine r_iconst C (-1 : Int32) rfl dX2_endOfObject_31 32 rfl ?_
      refine r_goto C 36 dX2_endOfObject_32 rfl ?_
      exact r_iret C hE hr hlk dX2_endOfObject_36 h
set_option maxRecDepth 100000 in
set_option maxHeartbeats 4000000 in
theorem ctX2_endBefore {l : Launch} {D : va_G} {A : Nat → Nat} {n : Nat → Nat} {cI cG cR : ClassId} {aK aV : Nat} {a1 : Int32} {S : Nat → Nat → Int32} {Q : Int32 → (Nat → Nat → Int32) → Prop} (hi : Apart 32 A)  (h : wX2_endBefore n a1 S Q) : Ct l D (tyC cI cG cR) 32 A (ceC A n cI cG cR) (FxC aK aV) yX2_endBefore cX2_endBefore 2 (some .int) 5 107 [.ref (A 2), .int a1] S rI Q := by
  refine Ct.of (by decide +kernel) hFx hi [(0, .ref (A 2)), (1, .int a1)] rfl (Nat.le_of_ble_eq_true rfl) ?_
  intro p e s m args below meth c Acc C hr hlk Qf hE
  unfold wX2_endBefore at h
  refine r_aload_n C 0 rfl dX2_endBefore_0 1 rfl ?_
  refine g_RX2_26 C dX2_endBefore_1 4 rfl ?_
  refine r_aload_n C 0 rfl dX2_endBefore_4 5 rfl ?_
  refine g_RX2_22 C dX2_endBefore_5 8 rfl ?_
  refine r_icmp_lt C 13 dX2_endBefore_8 11 rfl rfl (fun c1 => ?_) (fun c1 => ?_)
  · replace h := h.1 c1
    refine r_iload_n C 1 rfl dX2_endBefore_13 14 rfl ?_
    refine r_if_eq C 20 dX2_endBefore_14 17 rfl rfl (fun c2 => ?_) (fun c2 => ?_)
    · replace h := h.1 c2
      refine r_aload_n C 0 rfl dX2_endBefore_20 21 rfl ?_
      refine k_RX2_29 C (ctX2_isWrong hi  h) ⟨(Nat.le_of_ble_eq_true rfl), (Nat.le_of_ble_eq_true rfl)⟩ (Nat.le_of_ble_eq_true rfl) ⟨Nat.le_refl 0, Nat.le_refl 0⟩ dX2_endBefore_21 24 rfl (fun r3 S4 h => ?_)
      rcases bool_or r3 with c5 | c5
      · replace h := h.1 c5
        refine r_if_eqF C c5 29 dX2_endBefore_24 27 rfl rfl ?_
        refine r_aload_n C 0 rfl dX2_endBefore_29 30 rfl ?_
        refine g_RX2_11 C dX2_endBefore_30 33 rfl ?_
        refine r_iconst C 4 rfl dX2_endBefore_33 34 rfl ?_
        refine r_aload_n C 0 rfl dX2_endBefore_34 35 rfl ?_
        refine g_RX2_26 C dX2_endBefore_35 38 rfl ?_
        refine r_imul C dX2_endBefore_38 39 rfl ?_
        refine i_C (k := 27) C (Nat.le_of_ble_eq_true rfl) (Nat.le_of_ble_eq_true rfl) h.1 dX2_endBefore_39 40 rfl ?_
        replace h := h.2
        by_cases c6 : (S4 27 ((4 * (S4 2 4)).toNatClampNeg)) = 2
        · replace h := h.1 c6
          refine r_sw C 2 c6 88 dX2_endBefore_40 (by decide) (by decide) rfl rfl ?_
          refine r_aload_n C 0 rfl dX2_endBefore_88 89 rfl ?_
          refine r_aload_n C 0 rfl dX2_endBefore_89 90 rfl ?_
          refine g_RX2_11 C dX2_endBefore_90 93 rfl ?_
          refine r_iconst C 4 rfl dX2_endBefore_93 94 rfl ?_
          refine r_aload_n C 0 rfl dX2_endBefore_94 95 rfl ?_
          refine g_RX2_26 C dX2_endBefore_95 98 rfl ?_
          refine r_imul C dX2_endBefore_98 99 rfl ?_
          refine r_iconst C 1 rfl dX2_endBefore_99 100 rfl ?_
          refine r_iadd C dX2_endBefore_100 101 rfl ?_
          refine i_C (k := 27) C (Nat.le_of_ble_eq_true rfl) (Nat.le_of_ble_eq_true rfl) h.1 dX2_endBefore_101 102 rfl ?_
          replace h := h.2
          refine r_aload_n C 0 rfl dX2_endBefore_102 103 rfl ?_
          refine g_RX2_11 C dX2_endBefore_103 106 rfl ?_
          refine r_iconst C 4 rfl dX2_endBefore_106 107 rfl ?_
          refine r_aload_n C 0 rfl dX2_endBefore_107 108 rfl ?_
          refine g_RX2_26 C dX2_endBefore_108 111 rfl ?_
          refine r_imul C dX2_endBefore_111 112 rfl ?_
          refine r_iconst C 2 rfl dX2_endBefore_112 113 rfl ?_
          refine r_iadd C dX2_endBefore_113 114 rfl ?_
          refine i_C (k := 27) C (Nat.le_of_ble_eq_true rfl) (Nat.le_of_ble_eq_true rfl) h.1 dX2_endBefore_114 115 rfl ?_
          replace h := h.2
          refine k_RX2_33 C (ctX2_endOfObject hi  h) ⟨(Nat.le_of_ble_eq_true rfl), (Nat.le_of_ble_eq_true rfl)⟩ (Nat.le_of_ble_eq_true rfl) ⟨Nat.le_refl 0, Nat.le_refl 0⟩ dX2_endBefore_115 118 rfl (fun r7 S8 h => ?_)
          exact r_iret C hE hr hlk dX2_endBefore_118 h
        · replace h := h.2
          by_cases c9 : (S4 27 ((4 * (S4 2 4)).toNatClampNeg)) = 3
          · replace h := h.1 c9
            refine r_sw C 3 c9 119 dX2_endBefore_40 (by decide) (by decide) rfl rfl ?_
            refine r_aload_n C 0 rfl dX2_endBefore_119 120 rfl ?_
            refine r_aload_n C 0 rfl dX2_endBefore_120 121 rfl ?_
            refine g_RX2_11 C dX2_endBefore_121 124 rfl ?_
            refine r_iconst C 4 rfl dX2_endBefore_124 125 rfl ?_
            refine r_aload_n C 0 rfl dX2_endBefore_125 126 rfl ?_
            refine g_RX2_26 C dX2_endBefore_126 129 rfl ?_
            refine r_imul C dX2_endBefore_129 130 rfl ?_
            refine r_iconst C 2 rfl dX2_endBefore_130 131 rfl ?_
            refine r_iadd C dX2_endBefore_131 132 rfl ?_
            refine i_C (k := 27) C (Nat.le_of_ble_eq_true rfl) (Nat.le_of_ble_eq_true rfl) h.1 dX2_endBefore_132 133 rfl ?_
            replace h := h.2
            refine r_aload_n C 0 rfl dX2_endBefore_133 134 rfl ?_
            refine g_RX2_11 C dX2_endBefore_134 137 rfl ?_
            refine r_iconst C 4 rfl dX2_endBefore_137 138 rfl ?_
            refine r_aload_n C 0 rfl dX2_endBefore_138 139 rfl ?_
            refine g_RX2_26 C dX2_endBefore_139 142 rfl ?_
            refine r_imul C dX2_endBefore_142 143 rfl ?_
            refine r_iconst C 3 rfl dX2_endBefore_143 144 rfl ?_
            refine r_iadd C dX2_endBefore_144 145 rfl ?_
            refine i_C (k := 27) C (Nat.le_of_ble_eq_true rfl) (Nat.le_of_ble_eq_true rfl) h.1 dX2_endBefore_145 146 rfl ?_
            replace h := h.2
            refine k_RX2_33 C (ctX2_endOfObject hi  h) ⟨(Nat.le_of_ble_eq_true rfl), (Nat.le_of_ble_eq_true rfl)⟩ (Nat.le_of_ble_eq_true rfl) ⟨Nat.le_refl 0, Nat.le_refl 0⟩ dX2_endBefore_146 149 rfl (fun r10 S11 h => ?_)
            exact r_iret C hE hr hlk dX2_endBefore_149 h
          · replace h := h.2
            by_cases c12 : (S4 27 ((4 * (S4 2 4)).toNatClampNeg)) = 4
            · replace h := h.1 c12
              refine r_sw C 4 c12 221 dX2_endBefore_40 (by decide) (by decide) rfl rfl ?_
              refine r_iconst C (-1 : Int32) rfl dX2_endBefore_221 222 rfl ?_
              exact r_iret C hE hr hlk dX2_endBefore_222 h
            · replace h := h.2
              by_cases c13 : (S4 27 ((4 * (S4 2 4)).toNatClampNeg)) = 5
              · replace h := h.1 c13
                refine r_sw C 5 c13 183 dX2_endBefore_40 (by decide) (by decide) rfl rfl ?_
                refine r_aload_n C 0 rfl dX2_endBefore_183 184 rfl ?_
                refine g_RX2_18 C dX2_endBefore_184 187 rfl ?_
                refine g_RX2_48 C dX2_endBefore_187 190 rfl ?_
                refine k_RX2_51 (k := 7) C (Nat.le_of_ble_eq_true rfl) (Nat.le_of_ble_eq_true rfl) (ctX3_isFull hi (Nat.le_of_ble_eq_true rfl) (Nat.le_of_ble_eq_true rfl) h) ⟨(Nat.le_of_ble_eq_true rfl), (Nat.le_of_ble_eq_true rfl)⟩ (Nat.le_of_ble_eq_true rfl) ⟨Nat.le_refl 0, Nat.le_refl 0⟩ dX2_endBefore_190 193 rfl (fun r14 S15 h => ?_)
                rcases bool_or r14 with c16 | c16
                · replace h := h.1 c16
                  refine r_if_eqF C c16 200 dX2_endBefore_193 196 rfl rfl ?_
                  refine r_iconst C (-1 : Int32) rfl dX2_endBefore_200 201 rfl ?_
                  exact r_iret C hE hr hlk dX2_endBefore_201 h
                · replace h := h.2 c16
                  refine r_if_eqT C c16 200 dX2_endBefore_193 196 rfl rfl ?_
                  refine r_iconst C 4 rfl dX2_endBefore_196 197 rfl ?_
                  refine r_goto C 201 dX2_endBefore_197 rfl ?_
                  exact r_iret C hE hr hlk dX2_endBefore_201 h
              · replace h := h.2
                by_cases c17 : (S4 27 ((4 * (S4 2 4)).toNatClampNeg)) = 6
                · replace h := h.1 c17
                  refine r_sw C 6 c17 202 dX2_endBefore_40 (by decide) (by decide) rfl rfl ?_
                  refine r_aload_n C 0 rfl dX2_endBefore_202 203 rfl ?_
                  refine g_RX2_18 C dX2_endBefore_203 206 rfl ?_
                  refine g_RX2_48 C dX2_endBefore_206 209 rfl ?_
                  refine g_RX2_54 (k := 7) C (Nat.le_of_ble_eq_true rfl) (Nat.le_of_ble_eq_true rfl) dX2_endBefore_209 212 rfl ?_
                  refine r_if_ne C 219 dX2_endBefore_212 215 rfl rfl (fun c18 => ?_) (fun c18 => ?_)
                  · replace h := h.1 c18
                    refine r_iconst C 4 rfl dX2_endBefore_215 216 rfl ?_
                    refine r_goto C 220 dX2_endBefore_216 rfl ?_
                    exact r_iret C hE hr hlk dX2_endBefore_220 h
                  · replace h := h.2 c18
                    refine r_iconst C (-1 : Int32) rfl dX2_endBefore_219 220 rfl ?_
                    exact r_iret C hE hr hlk dX2_endBefore_220 h
                · replace h := h.2
                  by_cases c19 : (S4 27 ((4 * (S4 2 4)).toNatClampNeg)) = 7
                  · replace h := h.1 c19
                    refine r_sw C 7 c19 221 dX2_endBefore_40 (by decide) (by decide) rfl rfl ?_
                    refine r_iconst C (-1 : Int32) rfl dX2_endBefore_221 222 rfl ?_
                    exact r_iret C hE hr hlk dX2_endBefore_222 h
                  · replace h := h.2
                    by_cases c20 : (S4 27 ((4 * (S4 2 4)).toNatClampNeg)) = 8
                    · replace h := h.1 c20
                      refine r_sw C 8 c20 221 dX2_endBefore_40 (by decide) (by decide) rfl rfl ?_
                      refine r_iconst C (-1 : Int32) rfl dX2_endBefore_221 222 rfl ?_
                      exact r_iret C hE hr hlk dX2_endBefore_222 h
                    · replace h := h.2
                      by_cases c21 : (S4 27 ((4 * (S4 2 4)).toNatClampNeg)) = 9
                      · replace h := h.1 c21
                        refine r_sw C 9 c21 150 dX2_endBefore_40 (by decide) (by decide) rfl rfl ?_
                        refine r_aload_n C 0 rfl dX2_endBefore_150 151 rfl ?_
                        refine g_RX2_18 C dX2_endBefore_151 154 rfl ?_
                        refine g_RX2_37 C dX2_endBefore_154 157 rfl ?_
                        refine g_RX2_43 (k := 6) C (Nat.le_of_ble_eq_true rfl) (Nat.le_of_ble_eq_true rfl) dX2_endBefore_157 160 rfl ?_
                        refine r_aload_n C 0 rfl dX2_endBefore_160 161 rfl ?_
                        refine g_RX2_11 C dX2_endBefore_161 164 rfl ?_
                        refine r_iconst C 4 rfl dX2_endBefore_164 165 rfl ?_
                        refine r_aload_n C 0 rfl dX2_endBefore_165 166 rfl ?_
                        refine g_RX2_26 C dX2_endBefore_166 169 rfl ?_
                        refine r_imul C dX2_endBefore_169 170 rfl ?_
                        refine r_iconst C 2 rfl dX2_endBefore_170 171 rfl ?_
                        refine r_iadd C dX2_endBefore_171 172 rfl ?_
                        refine i_C (k := 27) C (Nat.le_of_ble_eq_true rfl) (Nat.le_of_ble_eq_true rfl) h.1 dX2_endBefore_172 173 rfl ?_
                        replace h := h.2
                        refine i_C (k := 16) C (Nat.le_of_ble_eq_true rfl) (Nat.le_of_ble_eq_true rfl) h.1 dX2_endBefore_173 174 rfl ?_
                        replace h := h.2
                        refine r_if_ne C 181 dX2_endBefore_174 177 rfl rfl (fun c22 => ?_) (fun c22 => ?_)
                        · replace h := h.1 c22
                          refine r_iconst C 2 rfl dX2_endBefore_177 178 rfl ?_
                          refine r_goto C 182 dX2_endBefore_178 rfl ?_
                          exact r_iret C hE hr hlk dX2_endBefore_182 h
                        · replace h := h.2 c22
                          refine r_iconst C (-1 : Int32) rfl dX2_endBefore_181 182 rfl ?_
                          exact r_iret C hE hr hlk dX2_endBefore_182 h
                      · replace h := h.2
                        replace h := h c6 c9 c12 c13 c17 c19 c20 c21
                        have hsw : ((S4 27 ((4 * (S4 2 4)).toNatClampNeg))).toInt < 2 ∨ 9 < ((S4 27 ((4 * (S4 2 4)).toNatClampNeg))).toInt := by
                          have c6t := lv_neT (k := 2) (a := 2) c6 (by decide)
                          have c9t := lv_neT (k := 3) (a := 3) c9 (by decide)
                          have c12t := lv_neT (k := 4) (a := 4) c12 (by decide)
                          have c13t := lv_neT (k := 5) (a := 5) c13 (by decide)
                          have c17t := lv_neT (k := 6) (a := 6) c17 (by decide)
                          have c19t := lv_neT (k := 7) (a := 7) c19 (by decide)
                          have c20t := lv_neT (k := 8) (a := 8) c20 (by decide)
                          have c21t := lv_neT (k := 9) (a := 9) c21 (by decide)
                          omega
                        refine r_tableOut C 221 dX2_endBefore_40 hsw rfl ?_
                        refine r_iconst C (-1 : Int32) rfl dX2_endBefore_221 222 rfl ?_
                        exact r_iret C hE hr hlk dX2_endBefore_222 h
      · replace h := h.2 c5
        refine r_if_eqT C c5 29 dX2_endBefore_24 27 rfl rfl ?_
        refine r_iconst C 1 rfl dX2_endBefore_27 28 rfl ?_
        exact r_iret C hE hr hlk dX2_endBefore_28 h
    · replace h := h.2 c2
      refine r_bipush C 6 rfl dX2_endBefore_17 19 rfl ?_
      exact r_iret C hE hr hlk dX2_endBefore_19 h
  · replace h := h.2 c1
    refine r_iconst C 0 rfl dX2_endBefore_11 12 rfl ?_
    exact r_iret C hE hr hlk dX2_endBefore_12 h
set_option maxRecDepth 100000 in
set_option maxHeartbeats 4000000 in
theorem ctX3_takeLast {l : Launch} {D : va_G} {A : Nat → Nat} {n : Nat → Nat} {cI cG cR : ClassId} {aK aV : Nat} {r0 : Nat} {S : Nat → Nat → Int32} {Q : Int32 → (Nat → Nat → Int32) → Prop} (hi : Apart 32 A) (h60 : 6 ≤ r0) (h160 : r0 < 16) (h : wX3_takeLast n r0 S Q) : Ct l D (tyC cI cG cR) 32 A (ceC A n cI cG cR) (FxC aK aV) yX3_takeLast cX3_takeLast 1 (some .int) 0 0 [.ref (A r0)] S rI Q := by
  refine Ct.of (by decide +kernel) hFx hi [(0, .ref (A r0))] rfl (Nat.le_of_ble_eq_true rfl) ?_
  intro p e s m args below meth c Acc C hr hlk Qf hE
  unfold wX3_takeLast at h
  refine r_aload_n C 0 rfl dX3_takeLast_0 1 rfl ?_
  refine g_RX3_15 (k := r0) C h60 h160 dX3_takeLast_1 4 rfl ?_
  refine r_if_ne C 9 dX3_takeLast_4 7 rfl rfl (fun c1 => ?_) (fun c1 => ?_)
  · replace h := h.1 c1
    refine r_iconst C 0 rfl dX3_takeLast_7 8 rfl ?_
    exact r_iret C hE hr hlk dX3_takeLast_8 h
  · replace h := h.2 c1
    refine r_aload_n C 0 rfl dX3_takeLast_9 10 rfl ?_
    refine r_dup C rfl dX3_takeLast_10 11 rfl ?_
    refine g_RX3_15 (k := r0) C h60 h160 dX3_takeLast_11 14 rfl ?_
    refine r_iconst C 1 rfl dX3_takeLast_14 15 rfl ?_
    refine r_isub C dX3_takeLast_15 16 rfl ?_
    refine p_RX3_15 (k := r0) C h60 h160 (x := ((S r0 1) - 1)) dX3_takeLast_16 19 rfl (fun S2 e3 => ?_)
    replace h := h S2 e3
    refine r_aload_n C 0 rfl dX3_takeLast_19 20 rfl ?_
    refine g_RX3_9 (k := r0) C h60 h160 dX3_takeLast_20 23 rfl ?_
    refine r_aload_n C 0 rfl dX3_takeLast_23 24 rfl ?_
    refine g_RX3_15 (k := r0) C h60 h160 dX3_takeLast_24 27 rfl ?_
    refine i_C (k := (r0 + 10)) C (Nat.add_le_add_right h60 10) (Nat.lt_of_lt_of_le (Nat.add_lt_add_right h160 10) (Nat.le_of_ble_eq_true rfl)) h.1 dX3_takeLast_27 28 rfl ?_
    replace h := h.2
    exact r_iret C hE hr hlk dX3_takeLast_28 h
set_option maxRecDepth 100000 in
set_option maxHeartbeats 4000000 in
theorem ctX2_change {l : Launch} {D : va_G} {A : Nat → Nat} {n : Nat → Nat} {cI cG cR : ClassId} {aK aV : Nat} {a1 : Int32} {a2 : Int32} {a3 : Int32} {a4 : Int32} {S : Nat → Nat → Int32} {Q : Unit → (Nat → Nat → Int32) → Prop} (hi : Apart 32 A)  (h : wX2_change n a1 a2 a3 a4 S Q) : Ct l D (tyC cI cG cR) 32 A (ceC A n cI cG cR) (FxC aK aV) yX2_change cX2_change 6 none 4 90 [.ref (A 2), .int a1, .int a2, .int a3, .int a4] S rU Q := by
  refine Ct.of (by decide +kernel) hFx hi [(0, .ref (A 2)), (1, .int a1), (2, .int a2), (3, .int a3), (4, .int a4)] rfl (Nat.le_of_ble_eq_true rfl) ?_
  intro p e s m args below meth c Acc C hr hlk Qf hE
  unfold wX2_change at h
  refine r_aload_n C 0 rfl dX2_change_0 1 rfl ?_
  refine g_RX2_18 C dX2_change_1 4 rfl ?_
  refine g_RX2_37 C dX2_change_4 7 rfl ?_
  refine g_RX2_43 (k := 6) C (Nat.le_of_ble_eq_true rfl) (Nat.le_of_ble_eq_true rfl) dX2_change_7 10 rfl ?_
  refine r_astore C [(5, .ref (A 16)), (0, .ref (A 2)), (1, .int a1), (2, .int a2), (3, .int a3), (4, .int a4)] (Nat.le_of_ble_eq_true rfl) rfl dX2_change_10 12 rfl ?_
  refine r_iload_n C 2 rfl dX2_change_12 13 rfl ?_
  by_cases c1 : a1 = 2
  · replace h := h.1 c1
    refine r_sw C 2 c1 60 dX2_change_13 (by decide) (by decide) rfl rfl ?_
    refine r_aload_n C 1 rfl dX2_change_60 61 rfl ?_
    refine g_RX2_18 C dX2_change_61 64 rfl ?_
    refine r_aload C 0 rfl dX2_change_64 66 rfl ?_
    refine r_iload_n C 3 rfl dX2_change_66 67 rfl ?_
    refine i_C (k := 16) C (Nat.le_of_ble_eq_true rfl) (Nat.le_of_ble_eq_true rfl) h.1 dX2_change_67 68 rfl ?_
    replace h := h.2
    refine r_iload_n C 4 rfl dX2_change_68 69 rfl ?_
    refine r_aload_n C 1 rfl dX2_change_69 70 rfl ?_
    refine g_RX2_18 C dX2_change_70 73 rfl ?_
    refine r_iload C 5 rfl dX2_change_73 75 rfl ?_
    refine k_RX2_92 C (ctX1_rootOrNull hi  h) ⟨(Nat.le_of_ble_eq_true rfl), (Nat.le_of_ble_eq_true rfl)⟩ (Nat.le_of_ble_eq_true rfl) ⟨Nat.le_refl 0, Nat.le_refl 0⟩ dX2_change_75 78 rfl (fun r2 S3 h => ?_)
    refine k_RX2_96 C (ctX1_store hi  h) ⟨(Nat.le_of_ble_eq_true rfl), (Nat.le_of_ble_eq_true rfl)⟩ (Nat.le_of_ble_eq_true rfl) ⟨Nat.le_refl 0, Nat.le_refl 0⟩ dX2_change_78 81 rfl (fun S5 h => ?_)
    refine r_goto C 206 dX2_change_81 rfl ?_
    exact r_vret C hE hr hlk dX2_change_206 h
  · replace h := h.2
    by_cases c6 : a1 = 3
    · replace h := h.1 c6
      refine r_sw C 3 c6 84 dX2_change_13 (by decide) (by decide) rfl rfl ?_
      refine r_aload C 0 rfl dX2_change_84 86 rfl ?_
      refine r_iload_n C 3 rfl dX2_change_86 87 rfl ?_
      refine r_aload_n C 1 rfl dX2_change_87 88 rfl ?_
      refine g_RX2_18 C dX2_change_88 91 rfl ?_
      refine r_aload C 0 rfl dX2_change_91 93 rfl ?_
      refine r_iload_n C 4 rfl dX2_change_93 94 rfl ?_
      refine i_C (k := 16) C (Nat.le_of_ble_eq_true rfl) (Nat.le_of_ble_eq_true rfl) h.1 dX2_change_94 95 rfl ?_
      replace h := h.2
      refine r_iload C 5 rfl dX2_change_95 97 rfl ?_
      refine k_RX2_100 C (ctX1_fieldOf hi  h) ⟨(Nat.le_of_ble_eq_true rfl), (Nat.le_of_ble_eq_true rfl)⟩ (Nat.le_of_ble_eq_true rfl) ⟨Nat.le_refl 0, Nat.le_refl 0⟩ dX2_change_97 100 rfl (fun r7 S8 h => ?_)
      refine s_C (k := 16) C (Nat.le_of_ble_eq_true rfl) (Nat.le_of_ble_eq_true rfl) h.1 dX2_change_100 101 rfl (fun S9 e10 => ?_)
      replace h := h.2
      replace h := h S9 e10
      refine r_goto C 206 dX2_change_101 rfl ?_
      exact r_vret C hE hr hlk dX2_change_206 h
    · replace h := h.2
      by_cases c11 : a1 = 4
      · replace h := h.1 c11
        refine r_sw C 4 c11 104 dX2_change_13 (by decide) (by decide) rfl rfl ?_
        refine r_aload C 0 rfl dX2_change_104 106 rfl ?_
        refine r_iload_n C 3 rfl dX2_change_106 107 rfl ?_
        refine r_aload_n C 1 rfl dX2_change_107 108 rfl ?_
        refine g_RX2_18 C dX2_change_108 111 rfl ?_
        refine r_iload_n C 4 rfl dX2_change_111 112 rfl ?_
        refine k_RX2_92 C (ctX1_rootOrNull hi  h) ⟨(Nat.le_of_ble_eq_true rfl), (Nat.le_of_ble_eq_true rfl)⟩ (Nat.le_of_ble_eq_true rfl) ⟨Nat.le_refl 0, Nat.le_refl 0⟩ dX2_change_112 115 rfl (fun r12 S13 h => ?_)
        refine s_C (k := 16) C (Nat.le_of_ble_eq_true rfl) (Nat.le_of_ble_eq_true rfl) h.1 dX2_change_115 116 rfl (fun S14 e15 => ?_)
        replace h := h.2
        replace h := h S14 e15
        refine r_goto C 206 dX2_change_116 rfl ?_
        exact r_vret C hE hr hlk dX2_change_206 h
      · replace h := h.2
        by_cases c16 : a1 = 5
        · replace h := h.1 c16
          refine r_sw C 5 c16 119 dX2_change_13 (by decide) (by decide) rfl rfl ?_
          refine r_aload_n C 1 rfl dX2_change_119 120 rfl ?_
          refine g_RX2_18 C dX2_change_120 123 rfl ?_
          refine g_RX2_48 C dX2_change_123 126 rfl ?_
          refine r_aload C 0 rfl dX2_change_126 128 rfl ?_
          refine r_iload_n C 3 rfl dX2_change_128 129 rfl ?_
          refine i_C (k := 16) C (Nat.le_of_ble_eq_true rfl) (Nat.le_of_ble_eq_true rfl) h.1 dX2_change_129 130 rfl ?_
          replace h := h.2
          refine k_RX2_103 (k := 7) C (Nat.le_of_ble_eq_true rfl) (Nat.le_of_ble_eq_true rfl) (ctX3_add hi (Nat.le_of_ble_eq_true rfl) (Nat.le_of_ble_eq_true rfl) h) ⟨(Nat.le_of_ble_eq_true rfl), (Nat.le_of_ble_eq_true rfl)⟩ (Nat.le_of_ble_eq_true rfl) ⟨Nat.le_refl 0, Nat.le_refl 0⟩ dX2_change_130 133 rfl (fun S18 h => ?_)
          refine r_goto C 206 dX2_change_133 rfl ?_
          exact r_vret C hE hr hlk dX2_change_206 h
        · replace h := h.2
          by_cases c19 : a1 = 6
          · replace h := h.1 c19
            refine r_sw C 6 c19 136 dX2_change_13 (by decide) (by decide) rfl rfl ?_
            refine r_aload C 0 rfl dX2_change_136 138 rfl ?_
            refine r_iload_n C 3 rfl dX2_change_138 139 rfl ?_
            refine r_aload_n C 1 rfl dX2_change_139 140 rfl ?_
            refine g_RX2_18 C dX2_change_140 143 rfl ?_
            refine g_RX2_48 C dX2_change_143 146 rfl ?_
            refine k_RX2_107 (k := 7) C (Nat.le_of_ble_eq_true rfl) (Nat.le_of_ble_eq_true rfl) (ctX3_takeLast hi (Nat.le_of_ble_eq_true rfl) (Nat.le_of_ble_eq_true rfl) h) ⟨(Nat.le_of_ble_eq_true rfl), (Nat.le_of_ble_eq_true rfl)⟩ (Nat.le_of_ble_eq_true rfl) ⟨Nat.le_refl 0, Nat.le_refl 0⟩ dX2_change_146 149 rfl (fun r20 S21 h => ?_)
            refine s_C (k := 16) C (Nat.le_of_ble_eq_true rfl) (Nat.le_of_ble_eq_true rfl) h.1 dX2_change_149 150 rfl (fun S22 e23 => ?_)
            replace h := h.2
            replace h := h S22 e23
            refine r_goto C 206 dX2_change_150 rfl ?_
            exact r_vret C hE hr hlk dX2_change_206 h
          · replace h := h.2
            by_cases c24 : a1 = 7
            · replace h := h.1 c24
              refine r_sw C 7 c24 153 dX2_change_13 (by decide) (by decide) rfl rfl ?_
              refine r_aload_n C 1 rfl dX2_change_153 154 rfl ?_
              refine g_RX2_15 C dX2_change_154 157 rfl ?_
              refine r_iload_n C 3 rfl dX2_change_157 158 rfl ?_
              refine r_iload_n C 4 rfl dX2_change_158 159 rfl ?_
              refine s_C (k := 28) C (Nat.le_of_ble_eq_true rfl) (Nat.le_of_ble_eq_true rfl) h.1 dX2_change_159 160 rfl (fun S25 e26 => ?_)
              replace h := h.2
              replace h := h S25 e26
              refine r_goto C 206 dX2_change_160 rfl ?_
              exact r_vret C hE hr hlk dX2_change_206 h
            · replace h := h.2
              by_cases c27 : a1 = 8
              · replace h := h.1 c27
                refine r_sw C 8 c27 163 dX2_change_13 (by decide) (by decide) rfl rfl ?_
                refine r_aload_n C 1 rfl dX2_change_163 164 rfl ?_
                refine g_RX2_15 C dX2_change_164 167 rfl ?_
                refine r_iload_n C 3 rfl dX2_change_167 168 rfl ?_
                refine r_aload_n C 1 rfl dX2_change_168 169 rfl ?_
                refine g_RX2_15 C dX2_change_169 172 rfl ?_
                refine r_iload_n C 4 rfl dX2_change_172 173 rfl ?_
                refine i_C (k := 28) C (Nat.le_of_ble_eq_true rfl) (Nat.le_of_ble_eq_true rfl) h.1 dX2_change_173 174 rfl ?_
                replace h := h.2
                refine r_aload_n C 1 rfl dX2_change_174 175 rfl ?_
                refine g_RX2_15 C dX2_change_175 178 rfl ?_
                refine r_iload C 5 rfl dX2_change_178 180 rfl ?_
                refine i_C (k := 28) C (Nat.le_of_ble_eq_true rfl) (Nat.le_of_ble_eq_true rfl) h.1 dX2_change_180 181 rfl ?_
                replace h := h.2
                refine r_iadd C dX2_change_181 182 rfl ?_
                refine s_C (k := 28) C (Nat.le_of_ble_eq_true rfl) (Nat.le_of_ble_eq_true rfl) h.1 dX2_change_182 183 rfl (fun S28 e29 => ?_)
                replace h := h.2
                replace h := h S28 e29
                refine r_goto C 206 dX2_change_183 rfl ?_
                exact r_vret C hE hr hlk dX2_change_206 h
              · replace h := h.2
                by_cases c30 : a1 = 9
                · replace h := h.1 c30
                  refine r_sw C 9 c30 186 dX2_change_13 (by decide) (by decide) rfl rfl ?_
                  refine r_aload_n C 1 rfl dX2_change_186 187 rfl ?_
                  refine g_RX2_15 C dX2_change_187 190 rfl ?_
                  refine r_iload_n C 3 rfl dX2_change_190 191 rfl ?_
                  refine r_aload_n C 1 rfl dX2_change_191 192 rfl ?_
                  refine g_RX2_18 C dX2_change_192 195 rfl ?_
                  refine r_aload C 0 rfl dX2_change_195 197 rfl ?_
                  refine r_iload_n C 4 rfl dX2_change_197 198 rfl ?_
                  refine i_C (k := 16) C (Nat.le_of_ble_eq_true rfl) (Nat.le_of_ble_eq_true rfl) h.1 dX2_change_198 199 rfl ?_
                  replace h := h.2
                  refine k_RX2_111 C (ctX1_labelOf hi  h) ⟨(Nat.le_of_ble_eq_true rfl), (Nat.le_of_ble_eq_true rfl)⟩ (Nat.le_of_ble_eq_true rfl) ⟨Nat.le_refl 0, Nat.le_refl 0⟩ dX2_change_199 202 rfl (fun r31 S32 h => ?_)
                  refine s_C (k := 28) C (Nat.le_of_ble_eq_true rfl) (Nat.le_of_ble_eq_true rfl) h.1 dX2_change_202 203 rfl (fun S33 e34 => ?_)
                  replace h := h.2
                  replace h := h S33 e34
                  refine r_goto C 206 dX2_change_203 rfl ?_
                  exact r_vret C hE hr hlk dX2_change_206 h
                · replace h := h.2
                  replace h := h c1 c6 c11 c16 c19 c24 c27 c30
                  have hsw : (a1).toInt < 2 ∨ 9 < (a1).toInt := by
                    have c1t := lv_neT (k := 2) (a := 2) c1 (by decide)
                    have c6t := lv_neT (k := 3) (a := 3) c6 (by decide)
                    have c11t := lv_neT (k := 4) (a := 4) c11 (by decide)
                    have c16t := lv_neT (k := 5) (a := 5) c16 (by decide)
                    have c19t := lv_neT (k := 6) (a := 6) c19 (by decide)
                    have c24t := lv_neT (k := 7) (a := 7) c24 (by decide)
                    have c27t := lv_neT (k := 8) (a := 8) c27 (by decide)
                    have c30t := lv_neT (k := 9) (a := 9) c30 (by decide)
                    omega
                  refine r_tableOut C 206 dX2_change_13 hsw rfl ?_
                  exact r_vret C hE hr hlk dX2_change_206 h
set_option maxRecDepth 100000 in
set_option maxHeartbeats 4000000 in
theorem ctX2_goesOnAt {l : Launch} {D : va_G} {A : Nat → Nat} {n : Nat → Nat} {cI cG cR : ClassId} {aK aV : Nat} {a1 : Int32} {a2 : Int32} {a3 : Int32} {a4 : Int32} {S : Nat → Nat → Int32} {Q : Int32 → (Nat → Nat → Int32) → Prop} (hi : Apart 32 A)  (h : wX2_goesOnAt n a1 a2 a3 a4 S Q) : Ct l D (tyC cI cG cR) 32 A (ceC A n cI cG cR) (FxC aK aV) yX2_goesOnAt cX2_goesOnAt 6 (some .int) 0 0 [.ref (A 2), .int a1, .int a2, .int a3, .int a4] S rI Q := by
  refine Ct.of (by decide +kernel) hFx hi [(0, .ref (A 2)), (1, .int a1), (2, .int a2), (3, .int a3), (4, .int a4)] rfl (Nat.le_of_ble_eq_true rfl) ?_
  intro p e s m args below meth c Acc C hr hlk Qf hE
  unfold wX2_goesOnAt at h
  refine r_aload_n C 0 rfl dX2_goesOnAt_0 1 rfl ?_
  refine g_RX2_18 C dX2_goesOnAt_1 4 rfl ?_
  refine g_RX2_37 C dX2_goesOnAt_4 7 rfl ?_
  refine g_RX2_43 (k := 6) C (Nat.le_of_ble_eq_true rfl) (Nat.le_of_ble_eq_true rfl) dX2_goesOnAt_7 10 rfl ?_
  refine r_astore C [(5, .ref (A 16)), (0, .ref (A 2)), (1, .int a1), (2, .int a2), (3, .int a3), (4, .int a4)] (Nat.le_of_ble_eq_true rfl) rfl dX2_goesOnAt_10 12 rfl ?_
  refine r_iload_n C 2 rfl dX2_goesOnAt_12 13 rfl ?_
  by_cases c1 : a1 = 10
  · replace h := h.1 c1
    refine r_sw C 10 c1 44 dX2_goesOnAt_13 (by decide) (by decide) rfl rfl ?_
    refine r_aload C 0 rfl dX2_goesOnAt_44 46 rfl ?_
    refine r_iload_n C 3 rfl dX2_goesOnAt_46 47 rfl ?_
    refine i_C (k := 16) C (Nat.le_of_ble_eq_true rfl) (Nat.le_of_ble_eq_true rfl) h.1 dX2_goesOnAt_47 48 rfl ?_
    replace h := h.2
    refine r_if_ne C 55 dX2_goesOnAt_48 51 rfl rfl (fun c2 => ?_) (fun c2 => ?_)
    · replace h := h.1 c2
      refine r_iload_n C 4 rfl dX2_goesOnAt_51 52 rfl ?_
      refine r_goto C 61 dX2_goesOnAt_52 rfl ?_
      exact r_iret C hE hr hlk dX2_goesOnAt_61 h
    · replace h := h.2 c2
      refine r_aload_n C 1 rfl dX2_goesOnAt_55 56 rfl ?_
      refine g_RX2_26 C dX2_goesOnAt_56 59 rfl ?_
      refine r_iconst C 1 rfl dX2_goesOnAt_59 60 rfl ?_
      refine r_iadd C dX2_goesOnAt_60 61 rfl ?_
      exact r_iret C hE hr hlk dX2_goesOnAt_61 h
  · replace h := h.2
    by_cases c3 : a1 = 11
    · replace h := h.1 c3
      refine r_sw C 11 c3 62 dX2_goesOnAt_13 (by decide) (by decide) rfl rfl ?_
      refine r_aload_n C 1 rfl dX2_goesOnAt_62 63 rfl ?_
      refine g_RX2_15 C dX2_goesOnAt_63 66 rfl ?_
      refine r_iload_n C 3 rfl dX2_goesOnAt_66 67 rfl ?_
      refine i_C (k := 28) C (Nat.le_of_ble_eq_true rfl) (Nat.le_of_ble_eq_true rfl) h.1 dX2_goesOnAt_67 68 rfl ?_
      replace h := h.2
      refine r_aload_n C 1 rfl dX2_goesOnAt_68 69 rfl ?_
      refine g_RX2_15 C dX2_goesOnAt_69 72 rfl ?_
      refine r_iload_n C 4 rfl dX2_goesOnAt_72 73 rfl ?_
      refine i_C (k := 28) C (Nat.le_of_ble_eq_true rfl) (Nat.le_of_ble_eq_true rfl) h.1 dX2_goesOnAt_73 74 rfl ?_
      replace h := h.2
      refine r_icmp_ge C 82 dX2_goesOnAt_74 77 rfl rfl (fun c4 => ?_) (fun c4 => ?_)
      · replace h := h.1 c4
        refine r_aload_n C 1 rfl dX2_goesOnAt_82 83 rfl ?_
        refine g_RX2_26 C dX2_goesOnAt_83 86 rfl ?_
        refine r_iconst C 1 rfl dX2_goesOnAt_86 87 rfl ?_
        refine r_iadd C dX2_goesOnAt_87 88 rfl ?_
        exact r_iret C hE hr hlk dX2_goesOnAt_88 h
      · replace h := h.2 c4
        refine r_iload C 5 rfl dX2_goesOnAt_77 79 rfl ?_
        refine r_goto C 88 dX2_goesOnAt_79 rfl ?_
        exact r_iret C hE hr hlk dX2_goesOnAt_88 h
    · replace h := h.2
      by_cases c5 : a1 = 12
      · replace h := h.1 c5
        refine r_sw C 12 c5 89 dX2_goesOnAt_13 (by decide) (by decide) rfl rfl ?_
        refine r_iload_n C 3 rfl dX2_goesOnAt_89 90 rfl ?_
        exact r_iret C hE hr hlk dX2_goesOnAt_90 h
      · replace h := h.2
        by_cases c6 : a1 = 13
        · replace h := h.1 c6
          refine r_sw C 13 c6 91 dX2_goesOnAt_13 (by decide) (by decide) rfl rfl ?_
          refine r_aload C 0 rfl dX2_goesOnAt_91 93 rfl ?_
          refine r_iload_n C 3 rfl dX2_goesOnAt_93 94 rfl ?_
          refine i_C (k := 16) C (Nat.le_of_ble_eq_true rfl) (Nat.le_of_ble_eq_true rfl) h.1 dX2_goesOnAt_94 95 rfl ?_
          replace h := h.2
          refine r_aload C 0 rfl dX2_goesOnAt_95 97 rfl ?_
          refine r_iload_n C 4 rfl dX2_goesOnAt_97 98 rfl ?_
          refine i_C (k := 16) C (Nat.le_of_ble_eq_true rfl) (Nat.le_of_ble_eq_true rfl) h.1 dX2_goesOnAt_98 99 rfl ?_
          replace h := h.2
          refine r_icmp_ne C 107 dX2_goesOnAt_99 102 rfl rfl (fun c7 => ?_) (fun c7 => ?_)
          · replace h := h.1 c7
            refine r_iload C 5 rfl dX2_goesOnAt_102 104 rfl ?_
            refine r_goto C 113 dX2_goesOnAt_104 rfl ?_
            exact r_iret C hE hr hlk dX2_goesOnAt_113 h
          · replace h := h.2 c7
            refine r_aload_n C 1 rfl dX2_goesOnAt_107 108 rfl ?_
            refine g_RX2_26 C dX2_goesOnAt_108 111 rfl ?_
            refine r_iconst C 1 rfl dX2_goesOnAt_111 112 rfl ?_
            refine r_iadd C dX2_goesOnAt_112 113 rfl ?_
            exact r_iret C hE hr hlk dX2_goesOnAt_113 h
        · replace h := h.2
          replace h := h c1 c3 c5 c6
          have hsw : (a1).toInt < 10 ∨ 13 < (a1).toInt := by
            have c1t := lv_neT (k := 10) (a := 10) c1 (by decide)
            have c3t := lv_neT (k := 11) (a := 11) c3 (by decide)
            have c5t := lv_neT (k := 12) (a := 12) c5 (by decide)
            have c6t := lv_neT (k := 13) (a := 13) c6 (by decide)
            omega
          refine r_tableOut C 114 dX2_goesOnAt_13 hsw rfl ?_
          refine r_aload_n C 1 rfl dX2_goesOnAt_114 115 rfl ?_
          refine g_RX2_26 C dX2_goesOnAt_115 118 rfl ?_
          refine r_iconst C 1 rfl dX2_goesOnAt_118 119 rfl ?_
          refine r_iadd C dX2_goesOnAt_119 120 rfl ?_
          exact r_iret C hE hr hlk dX2_goesOnAt_120 h
set_option maxRecDepth 100000 in
set_option maxHeartbeats 4000000 in
theorem ctX2_step {l : Launch} {D : va_G} {A : Nat → Nat} {n : Nat → Nat} {cI cG cR : ClassId} {aK aV : Nat}  {S : Nat → Nat → Int32} {Q : Int32 → (Nat → Nat → Int32) → Prop} (hi : Apart 32 A)  (h : wX2_step n  S Q) : Ct l D (tyC cI cG cR) 32 A (ceC A n cI cG cR) (FxC aK aV) yX2_step cX2_step 6 (some .int) 5 148 [.ref (A 2)] S rI Q := by
  refine Ct.of (by decide +kernel) hFx hi [(0, .ref (A 2))] rfl (Nat.le_of_ble_eq_true rfl) ?_
  intro p e s m args below meth c Acc C hr hlk Qf hE
  have b115 : ∀ (x115_4 : Int32) (x115_3 : Int32) (x115_2 : Int32) (x115_1 : Int32) (S : Nat → Nat → Int32), wX2_step_b115 n   x115_4 x115_3 x115_2 x115_1 S Q → J p l e { frames := 5, cells := 0, slots := 0, locals := 148 } s m args below meth c 0 0 Qf D 32 A (ceC A n cI cG cR) Acc 6 S 115 [(4, .int x115_4), (3, .int x115_3), (2, .int x115_2), (1, .int x115_1), (0, .ref (A 2))] [] := by
    intro  x115_4 x115_3 x115_2 x115_1 S h
    unfold wX2_step_b115 at h
    refine r_aload_n C 4 rfl dX2_step_115 116 rfl ?_
    refine r_dup C rfl dX2_step_116 117 rfl ?_
    refine g_RX2_81 C dX2_step_117 120 rfl ?_
    refine r_iconst C 1 rfl dX2_step_120 121 rfl ?_
    refine r_iadd C dX2_step_121 122 rfl ?_
    refine p_RX2_81 C (x := ((S 2 5) + 1)) dX2_step_122 125 rfl (fun S12 e13 => ?_)
    replace h := h S12 e13
    refine r_iload_n C 3 rfl dX2_step_125 126 rfl ?_
    refine r_if_ne C 131 dX2_step_126 129 rfl rfl (fun c14 => ?_) (fun c14 => ?_)
    · replace h := h.1 c14
      refine r_iconst C 0 rfl dX2_step_129 130 rfl ?_
      exact r_iret C hE hr hlk dX2_step_130 h
    · replace h := h.2 c14
      refine r_aload_n C 4 rfl dX2_step_131 132 rfl ?_
      refine r_iload_n C 3 rfl dX2_step_132 133 rfl ?_
      refine r_iload_n C 2 rfl dX2_step_133 134 rfl ?_
      refine r_iload_n C 1 rfl dX2_step_134 135 rfl ?_
      refine r_iload C 0 rfl dX2_step_135 137 rfl ?_
      refine k_RX2_84 C (ctX2_change hi  h) ⟨(Nat.le_of_ble_eq_true rfl), (Nat.le_of_ble_eq_true rfl)⟩ (Nat.le_of_ble_eq_true rfl) ⟨Nat.le_refl 0, Nat.le_refl 0⟩ dX2_step_137 140 rfl (fun S16 h => ?_)
      refine r_aload_n C 4 rfl dX2_step_140 141 rfl ?_
      refine r_aload_n C 4 rfl dX2_step_141 142 rfl ?_
      refine r_iload_n C 3 rfl dX2_step_142 143 rfl ?_
      refine r_iload_n C 2 rfl dX2_step_143 144 rfl ?_
      refine r_iload_n C 1 rfl dX2_step_144 145 rfl ?_
      refine r_iload C 0 rfl dX2_step_145 147 rfl ?_
      refine k_RX2_88 C (ctX2_goesOnAt hi  h) ⟨(Nat.le_of_ble_eq_true rfl), (Nat.le_of_ble_eq_true rfl)⟩ (Nat.le_of_ble_eq_true rfl) ⟨Nat.le_refl 0, Nat.le_refl 0⟩ dX2_step_147 150 rfl (fun r17 S18 h => ?_)
      refine p_RX2_26 C (x := r17) dX2_step_150 153 rfl (fun S19 e20 => ?_)
      replace h := h S19 e20
      refine r_iconst C (-1 : Int32) rfl dX2_step_153 154 rfl ?_
      exact r_iret C hE hr hlk dX2_step_154 h
  have b89 : ∀ (x89_4 : Int32) (x89_3 : Int32) (x89_2 : Int32) (x89_1 : Int32) (y89_0 : Int32) (y89_1 : Int32) (y89_2 : Int32) (S : Nat → Nat → Int32), wX2_step_b89 n   x89_4 x89_3 x89_2 x89_1 y89_0 y89_1 y89_2 S Q → J p l e { frames := 5, cells := 0, slots := 0, locals := 148 } s m args below meth c 0 0 Qf D 32 A (ceC A n cI cG cR) Acc 6 S 89 [(4, .int x89_4), (3, .int x89_3), (2, .int x89_2), (1, .int x89_1), (0, .ref (A 2))] [.int y89_0, .int y89_1, .int y89_2, .ref (A 1)] := by
    intro  x89_4 x89_3 x89_2 x89_1 y89_0 y89_1 y89_2 S h
    unfold wX2_step_b89 at h
    refine k_RX2_77 C (ctX1_newObject hi  h) ⟨(Nat.le_of_ble_eq_true rfl), (Nat.le_of_ble_eq_true rfl)⟩ (Nat.le_of_ble_eq_true rfl) ⟨Nat.le_refl 0, Nat.le_refl 0⟩ dX2_step_89 92 rfl (fun r21 S22 h => ?_)
    refine r_istore C [(5, .int r21), (4, .int x89_4), (3, .int x89_3), (2, .int x89_2), (1, .int x89_1), (0, .ref (A 2))] (Nat.le_of_ble_eq_true rfl) rfl dX2_step_92 94 rfl ?_
    refine r_iload C 0 rfl dX2_step_94 96 rfl ?_
    refine r_if_ne C 101 dX2_step_96 99 rfl rfl (fun c23 => ?_) (fun c23 => ?_)
    · replace h := h.1 c23
      refine r_iconst C 5 rfl dX2_step_99 100 rfl ?_
      exact r_iret C hE hr hlk dX2_step_100 h
    · replace h := h.2 c23
      refine r_aload_n C 5 rfl dX2_step_101 102 rfl ?_
      refine g_RX2_18 C dX2_step_102 105 rfl ?_
      refine g_RX2_37 C dX2_step_105 108 rfl ?_
      refine g_RX2_43 (k := 6) C (Nat.le_of_ble_eq_true rfl) (Nat.le_of_ble_eq_true rfl) dX2_step_108 111 rfl ?_
      refine r_iload_n C 3 rfl dX2_step_111 112 rfl ?_
      refine r_iload C 0 rfl dX2_step_112 114 rfl ?_
      refine s_C (k := 16) C (Nat.le_of_ble_eq_true rfl) (Nat.le_of_ble_eq_true rfl) h.1 dX2_step_114 115 rfl (fun S24 e25 => ?_)
      replace h := h.2
      replace h := h S24 e25
      refine r_sub [(4, .int x89_4), (3, .int x89_3), (2, .int x89_2), (1, .int x89_1), (0, .ref (A 2))] [1, 2, 3, 4, 5] rfl ?_
      exact b115  x89_4 x89_3 x89_2 x89_1  S24 h
  have b66 : ∀ (x66_4 : Int32) (x66_3 : Int32) (x66_2 : Int32) (x66_1 : Int32) (S : Nat → Nat → Int32), wX2_step_b66 n   x66_4 x66_3 x66_2 x66_1 S Q → J p l e { frames := 5, cells := 0, slots := 0, locals := 148 } s m args below meth c 0 0 Qf D 32 A (ceC A n cI cG cR) Acc 6 S 66 [(4, .int x66_4), (3, .int x66_3), (2, .int x66_2), (1, .int x66_1), (0, .ref (A 2))] [] := by
    intro  x66_4 x66_3 x66_2 x66_1 S h
    unfold wX2_step_b66 at h
    refine r_aload_n C 4 rfl dX2_step_66 67 rfl ?_
    refine g_RX2_18 C dX2_step_67 70 rfl ?_
    refine r_iload_n C 1 rfl dX2_step_70 71 rfl ?_
    refine r_aload_n C 4 rfl dX2_step_71 72 rfl ?_
    refine g_RX2_15 C dX2_step_72 75 rfl ?_
    refine r_iload C 0 rfl dX2_step_75 77 rfl ?_
    refine i_C (k := 28) C (Nat.le_of_ble_eq_true rfl) (Nat.le_of_ble_eq_true rfl) h.1 dX2_step_77 78 rfl ?_
    replace h := h.2
    refine r_iload_n C 3 rfl dX2_step_78 79 rfl ?_
    refine r_bipush C 14 rfl dX2_step_79 81 rfl ?_
    refine r_icmp_ne C 88 dX2_step_81 84 rfl rfl (fun c11 => ?_) (fun c11 => ?_)
    · replace h := h.1 c11
      refine r_iconst C 1 rfl dX2_step_84 85 rfl ?_
      refine r_goto C 89 dX2_step_85 rfl ?_
      refine r_sub [(4, .int x66_4), (3, .int x66_3), (2, .int x66_2), (1, .int x66_1), (0, .ref (A 2))] [0, 1, 2, 3, 4] rfl ?_
      exact b89  x66_4 x66_3 x66_2 x66_1 1 (S 28 x66_4.toNatClampNeg) x66_3  S h
    · replace h := h.2 c11
      refine r_iconst C 0 rfl dX2_step_88 89 rfl ?_
      refine r_sub [(4, .int x66_4), (3, .int x66_3), (2, .int x66_2), (1, .int x66_1), (0, .ref (A 2))] [0, 1, 2, 3, 4] rfl ?_
      exact b89  x66_4 x66_3 x66_2 x66_1 0 (S 28 x66_4.toNatClampNeg) x66_3  S h
  unfold wX2_step at h
  refine r_aload_n C 0 rfl dX2_step_0 1 rfl ?_
  refine g_RX2_11 C dX2_step_1 4 rfl ?_
  refine r_iconst C 4 rfl dX2_step_4 5 rfl ?_
  refine r_aload_n C 0 rfl dX2_step_5 6 rfl ?_
  refine g_RX2_26 C dX2_step_6 9 rfl ?_
  refine r_imul C dX2_step_9 10 rfl ?_
  refine i_C (k := 27) C (Nat.le_of_ble_eq_true rfl) (Nat.le_of_ble_eq_true rfl) h.1 dX2_step_10 11 rfl ?_
  replace h := h.2
  refine r_topi (fun x1 e2 => ?_)
  replace h := h x1 e2
  refine r_istore_n C [(1, .int x1), (0, .ref (A 2))] (Nat.le_of_ble_eq_true rfl) rfl dX2_step_11 12 rfl ?_
  refine r_aload_n C 1 rfl dX2_step_12 13 rfl ?_
  refine g_RX2_11 C dX2_step_13 16 rfl ?_
  refine r_iconst C 4 rfl dX2_step_16 17 rfl ?_
  refine r_aload_n C 1 rfl dX2_step_17 18 rfl ?_
  refine g_RX2_26 C dX2_step_18 21 rfl ?_
  refine r_imul C dX2_step_21 22 rfl ?_
  refine r_iconst C 1 rfl dX2_step_22 23 rfl ?_
  refine r_iadd C dX2_step_23 24 rfl ?_
  refine i_C (k := 27) C (Nat.le_of_ble_eq_true rfl) (Nat.le_of_ble_eq_true rfl) h.1 dX2_step_24 25 rfl ?_
  replace h := h.2
  refine r_topi (fun x3 e4 => ?_)
  replace h := h x3 e4
  refine r_istore_n C [(2, .int x3), (1, .int x1), (0, .ref (A 2))] (Nat.le_of_ble_eq_true rfl) rfl dX2_step_25 26 rfl ?_
  refine r_aload_n C 2 rfl dX2_step_26 27 rfl ?_
  refine g_RX2_11 C dX2_step_27 30 rfl ?_
  refine r_iconst C 4 rfl dX2_step_30 31 rfl ?_
  refine r_aload_n C 2 rfl dX2_step_31 32 rfl ?_
  refine g_RX2_26 C dX2_step_32 35 rfl ?_
  refine r_imul C dX2_step_35 36 rfl ?_
  refine r_iconst C 2 rfl dX2_step_36 37 rfl ?_
  refine r_iadd C dX2_step_37 38 rfl ?_
  refine i_C (k := 27) C (Nat.le_of_ble_eq_true rfl) (Nat.le_of_ble_eq_true rfl) h.1 dX2_step_38 39 rfl ?_
  replace h := h.2
  refine r_topi (fun x5 e6 => ?_)
  replace h := h x5 e6
  refine r_istore_n C [(3, .int x5), (2, .int x3), (1, .int x1), (0, .ref (A 2))] (Nat.le_of_ble_eq_true rfl) rfl dX2_step_39 40 rfl ?_
  refine r_aload_n C 3 rfl dX2_step_40 41 rfl ?_
  refine g_RX2_11 C dX2_step_41 44 rfl ?_
  refine r_iconst C 4 rfl dX2_step_44 45 rfl ?_
  refine r_aload_n C 3 rfl dX2_step_45 46 rfl ?_
  refine g_RX2_26 C dX2_step_46 49 rfl ?_
  refine r_imul C dX2_step_49 50 rfl ?_
  refine r_iconst C 3 rfl dX2_step_50 51 rfl ?_
  refine r_iadd C dX2_step_51 52 rfl ?_
  refine i_C (k := 27) C (Nat.le_of_ble_eq_true rfl) (Nat.le_of_ble_eq_true rfl) h.1 dX2_step_52 53 rfl ?_
  replace h := h.2
  refine r_topi (fun x7 e8 => ?_)
  replace h := h x7 e8
  refine r_istore C [(4, .int x7), (3, .int x5), (2, .int x3), (1, .int x1), (0, .ref (A 2))] (Nat.le_of_ble_eq_true rfl) rfl dX2_step_53 55 rfl ?_
  refine r_iload_n C 3 rfl dX2_step_55 56 rfl ?_
  refine r_iconst C 1 rfl dX2_step_56 57 rfl ?_
  refine r_icmp_eq C 66 dX2_step_57 60 rfl rfl (fun c9 => ?_) (fun c9 => ?_)
  · replace h := h.1 c9
    refine r_sub [(4, .int x7), (3, .int x5), (2, .int x3), (1, .int x1), (0, .ref (A 2))] [0, 1, 2, 3, 4] rfl ?_
    exact b66  x7 x5 x3 x1  S h
  · replace h := h.2 c9
    refine r_iload_n C 3 rfl dX2_step_60 61 rfl ?_
    refine r_bipush C 14 rfl dX2_step_61 63 rfl ?_
    refine r_icmp_ne C 115 dX2_step_63 66 rfl rfl (fun c10 => ?_) (fun c10 => ?_)
    · replace h := h.1 c10
      refine r_sub [(4, .int x7), (3, .int x5), (2, .int x3), (1, .int x1), (0, .ref (A 2))] [0, 1, 2, 3, 4] rfl ?_
      exact b66  x7 x5 x3 x1  S h
    · replace h := h.2 c10
      refine r_sub [(4, .int x7), (3, .int x5), (2, .int x3), (1, .int x1), (0, .ref (A 2))] [0, 1, 2, 3, 4] rfl ?_
      exact b115  x7 x5 x3 x1  S h
set_option maxRecDepth 100000 in
set_option maxHeartbeats 4000000 in
theorem ctX3_takeFirst {l : Launch} {D : va_G} {A : Nat → Nat} {n : Nat → Nat} {cI cG cR : ClassId} {aK aV : Nat} {r0 : Nat} {S : Nat → Nat → Int32} {Q : Int32 → (Nat → Nat → Int32) → Prop} (hi : Apart 32 A) (h60 : 6 ≤ r0) (h160 : r0 < 16) (h : wX3_takeFirst n r0 S Q) : Ct l D (tyC cI cG cR) 32 A (ceC A n cI cG cR) (FxC aK aV) yX3_takeFirst cX3_takeFirst 2 (some .int) 1 48 [.ref (A r0)] S rI Q := by
  refine Ct.of (by decide +kernel) hFx hi [(0, .ref (A r0))] rfl (Nat.le_of_ble_eq_true rfl) ?_
  intro p e s m args below meth c Acc C hr hlk Qf hE
  unfold wX3_takeFirst at h
  refine r_aload_n C 0 rfl dX3_takeFirst_0 1 rfl ?_
  refine g_RX3_15 (k := r0) C h60 h160 dX3_takeFirst_1 4 rfl ?_
  refine r_if_ne C 9 dX3_takeFirst_4 7 rfl rfl (fun c1 => ?_) (fun c1 => ?_)
  · replace h := h.1 c1
    refine r_iconst C 0 rfl dX3_takeFirst_7 8 rfl ?_
    exact r_iret C hE hr hlk dX3_takeFirst_8 h
  · replace h := h.2 c1
    refine r_aload_n C 0 rfl dX3_takeFirst_9 10 rfl ?_
    refine g_RX3_9 (k := r0) C h60 h160 dX3_takeFirst_10 13 rfl ?_
    refine r_iconst C 0 rfl dX3_takeFirst_13 14 rfl ?_
    refine i_Ck (k := (r0 + 10)) C (Nat.add_le_add_right h60 10) (Nat.lt_of_lt_of_le (Nat.add_lt_add_right h160 10) (Nat.le_of_ble_eq_true rfl)) 0 rfl h.1 dX3_takeFirst_14 15 rfl ?_
    replace h := h.2
    refine r_topi (fun x2 e3 => ?_)
    replace h := h x2 e3
    refine r_istore_n C [(1, .int x2), (0, .ref (A r0))] (Nat.le_of_ble_eq_true rfl) rfl dX3_takeFirst_15 16 rfl ?_
    refine r_aload_n C 1 rfl dX3_takeFirst_16 17 rfl ?_
    refine r_dup C rfl dX3_takeFirst_17 18 rfl ?_
    refine g_RX3_15 (k := r0) C h60 h160 dX3_takeFirst_18 21 rfl ?_
    refine r_iconst C 1 rfl dX3_takeFirst_21 22 rfl ?_
    refine r_isub C dX3_takeFirst_22 23 rfl ?_
    refine p_RX3_15 (k := r0) C h60 h160 (x := ((S r0 1) - 1)) dX3_takeFirst_23 26 rfl (fun S4 e5 => ?_)
    replace h := h S4 e5
    refine r_aload_n C 1 rfl dX3_takeFirst_26 27 rfl ?_
    refine g_RX3_9 (k := r0) C h60 h160 dX3_takeFirst_27 30 rfl ?_
    refine r_iconst C 1 rfl dX3_takeFirst_30 31 rfl ?_
    refine r_aload_n C 1 rfl dX3_takeFirst_31 32 rfl ?_
    refine g_RX3_9 (k := r0) C h60 h160 dX3_takeFirst_32 35 rfl ?_
    refine r_iconst C 0 rfl dX3_takeFirst_35 36 rfl ?_
    refine r_aload_n C 1 rfl dX3_takeFirst_36 37 rfl ?_
    refine g_RX3_15 (k := r0) C h60 h160 dX3_takeFirst_37 40 rfl ?_
    refine r_copy (n0 := n (r0 + 10)) (n1 := n (r0 + 10)) C (r0 + 10) (r0 + 10) 0 0 b_553 b_405 b_404 b_56 (lt32 (Nat.lt_of_lt_of_le (Nat.add_lt_add_right h160 10) (Nat.le_of_ble_eq_true rfl))) (lt32 (Nat.lt_of_lt_of_le (Nat.add_lt_add_right h160 10) (Nat.le_of_ble_eq_true rfl))) (heC_i (Nat.add_le_add_right h60 10) (Nat.lt_of_lt_of_le (Nat.add_lt_add_right h160 10) (Nat.le_of_ble_eq_true rfl)) _) (heC_i (Nat.add_le_add_right h60 10) (Nat.lt_of_lt_of_le (Nat.add_lt_add_right h160 10) (Nat.le_of_ble_eq_true rfl))) rfl rfl h.1 ⟨(Nat.le_of_ble_eq_true rfl), (by decide)⟩ dX3_takeFirst_40 43 rfl (fun S6 e7 => ?_)
    replace h := h.2 S6 e7
    refine r_iload_n C 0 rfl dX3_takeFirst_43 44 rfl ?_
    exact r_iret C hE hr hlk dX3_takeFirst_44 h
set_option maxRecDepth 100000 in
set_option maxHeartbeats 4000000 in
theorem ctX4_scrap {l : Launch} {D : va_G} {A : Nat → Nat} {n : Nat → Nat} {cI cG cR : ClassId} {aK aV : Nat}  {S : Nat → Nat → Int32} {Q : Int32 → (Nat → Nat → Int32) → Prop} (hi : Apart 32 A)  (h : wX4_scrap n  S Q) : Ct l D (tyC cI cG cR) 32 A (ceC A n cI cG cR) (FxC aK aV) yX4_scrap cX4_scrap 2 (some .int) 0 0 [.ref (A 0)] S rI Q := by
  refine Ct.of (by decide +kernel) hFx hi [(0, .ref (A 0))] rfl (Nat.le_of_ble_eq_true rfl) ?_
  intro p e s m args below meth c Acc C hr hlk Qf hE
  unfold wX4_scrap at h
  refine r_aload_n C 0 rfl dX4_scrap_0 1 rfl ?_
  refine g_RX4_27 C dX4_scrap_1 4 rfl ?_
  refine g_RX4_145 C dX4_scrap_4 7 rfl ?_
  refine r_istore_n C [(1, .int (S 2 3)), (0, .ref (A 0))] (Nat.le_of_ble_eq_true rfl) rfl dX4_scrap_7 8 rfl ?_
  refine r_aload_n C 1 rfl dX4_scrap_8 9 rfl ?_
  refine g_RX4_27 C dX4_scrap_9 12 rfl ?_
  refine r_iconst C 0 rfl dX4_scrap_12 13 rfl ?_
  refine p_RX4_145 C (x := 0) dX4_scrap_13 16 rfl (fun S1 e2 => ?_)
  replace h := h S1 e2
  refine r_iload_n C 0 rfl dX4_scrap_16 17 rfl ?_
  exact r_iret C hE hr hlk dX4_scrap_17 h
set_option maxRecDepth 100000 in
set_option maxHeartbeats 4000000 in
theorem ctX4_nearest {l : Launch} {D : va_G} {A : Nat → Nat} {n : Nat → Nat} {cI cG cR : ClassId} {aK aV : Nat} {a0 : Int32} {a1 : Int32} {a2 : Int32} {S : Nat → Nat → Int32} {Q : Int32 → (Nat → Nat → Int32) → Prop} (hi : Apart 32 A)  (h : wX4_nearest n a0 a1 a2 S Q) : Ct l D (tyC cI cG cR) 32 A (ceC A n cI cG cR) (FxC aK aV) yX4_nearest cX4_nearest 3 (some .int) 1 24 [.int a0, .int a1, .int a2] S rI Q := by
  refine Ct.of (by decide +kernel) hFx hi [(0, .int a0), (1, .int a1), (2, .int a2)] rfl (Nat.le_of_ble_eq_true rfl) ?_
  intro p e s m args below meth c Acc C hr hlk Qf hE
  unfold wX4_nearest at h
  refine r_iload_n C 1 rfl dX4_nearest_0 1 rfl ?_
  refine r_iload_n C 2 rfl dX4_nearest_1 2 rfl ?_
  refine r_iload_n C 0 rfl dX4_nearest_2 3 rfl ?_
  refine r_min C b_75 b_76 b_46 b_77 ⟨(Nat.le_of_ble_eq_true rfl), (Nat.le_of_ble_eq_true rfl), (Nat.le_of_ble_eq_true rfl), (Nat.le_of_ble_eq_true rfl)⟩ dX4_nearest_3 6 rfl ?_
  refine r_max C b_78 b_79 b_46 b_80 ⟨(Nat.le_of_ble_eq_true rfl), (Nat.le_of_ble_eq_true rfl), (Nat.le_of_ble_eq_true rfl), (Nat.le_of_ble_eq_true rfl)⟩ dX4_nearest_6 9 rfl ?_
  exact r_iret C hE hr hlk dX4_nearest_9 h
