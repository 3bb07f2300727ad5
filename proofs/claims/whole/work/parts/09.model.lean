set_option maxRecDepth 100000 in
set_option maxHeartbeats 4000000 in
theorem ctX5_near {l : Launch} {D : va_G} {A : Nat → Nat} {cI : ClassId} {X : (Nat → Prop) → State → Heap → Prop} {a0 : Int32} {a1 : Int32} {a2 : Int32} {S : Nat → Nat → Int32} {Q : Int32 → (Nat → Nat → Int32) → Prop} (hX : StX X) (hi : Apart 23 A)  (h : wX5_near a0 a1 a2 S Q) : Ct l D (tyM cI) 23 A (ceM A cI) X yX5_near cX5_near 3 (some .int) 0 0 [.int a0, .int a1, .int a2] S rI Q := by
  refine Ct.of (by decide +kernel) hX hi [(0, .int a0), (1, .int a1), (2, .int a2)] rfl (Nat.le_of_ble_eq_true rfl) ?_
  intro p e s m args below meth c Acc C hr hlk Qf hE
  unfold wX5_near at h
  refine r_iload_n C 0 rfl dX5_near_0 1 rfl ?_
  refine r_iload_n C 1 rfl dX5_near_1 2 rfl ?_
  refine r_icmp_ge C 9 dX5_near_2 5 rfl rfl (fun c1 => ?_) (fun c1 => ?_)
  · replace h := h.1 c1
    refine r_iload_n C 0 rfl dX5_near_9 10 rfl ?_
    refine r_iload_n C 2 rfl dX5_near_10 11 rfl ?_
    refine r_icmp_le C 18 dX5_near_11 14 rfl rfl (fun c2 => ?_) (fun c2 => ?_)
    · replace h := h.1 c2
      refine r_iload_n C 0 rfl dX5_near_18 19 rfl ?_
      exact r_iret C hE hr hlk dX5_near_19 h
    · replace h := h.2 c2
      refine r_iload_n C 2 rfl dX5_near_14 15 rfl ?_
      refine r_goto C 19 dX5_near_15 rfl ?_
      exact r_iret C hE hr hlk dX5_near_19 h
  · replace h := h.2 c1
    refine r_iload_n C 1 rfl dX5_near_5 6 rfl ?_
    refine r_goto C 19 dX5_near_6 rfl ?_
    exact r_iret C hE hr hlk dX5_near_19 h
set_option maxRecDepth 100000 in
set_option maxHeartbeats 4000000 in
theorem ctX5_thrown {l : Launch} {D : va_G} {A : Nat → Nat} {cI : ClassId} {X : (Nat → Prop) → State → Heap → Prop}  {S : Nat → Nat → Int32} {Q : Int32 → (Nat → Nat → Int32) → Prop} (hX : StX X) (hi : Apart 23 A)  (h : wX5_thrown  S Q) : Ct l D (tyM cI) 23 A (ceM A cI) X yX5_thrown cX5_thrown 1 (some .int) 0 0 [.ref (A 0)] S rI Q := by
  refine Ct.of (by decide +kernel) hX hi [(0, .ref (A 0))] rfl (Nat.le_of_ble_eq_true rfl) ?_
  intro p e s m args below meth c Acc C hr hlk Qf hE
  unfold wX5_thrown at h
  refine r_aload_n C 0 rfl dX5_thrown_0 1 rfl ?_
  refine g_RX5_87 C dX5_thrown_1 4 rfl ?_
  exact r_iret C hE hr hlk dX5_thrown_4 h
set_option maxRecDepth 100000 in
set_option maxHeartbeats 4000000 in
theorem ctX5_in {l : Launch} {D : va_G} {A : Nat → Nat} {cI : ClassId} {X : (Nat → Prop) → State → Heap → Prop} {a0 : Int32} {a1 : Int32} {a2 : Int32} {S : Nat → Nat → Int32} {Q : Bool → (Nat → Nat → Int32) → Prop} (hX : StX X) (hi : Apart 23 A)  (h : wX5_in a0 a1 a2 S Q) : Ct l D (tyM cI) 23 A (ceM A cI) X yX5_in cX5_in 3 (some .boolean) 0 0 [.int a0, .int a1, .int a2] S rZ Q := by
  refine Ct.of (by decide +kernel) hX hi [(0, .int a0), (1, .int a1), (2, .int a2)] rfl (Nat.le_of_ble_eq_true rfl) ?_
  intro p e s m args below meth c Acc C hr hlk Qf hE
  unfold wX5_in at h
  refine r_iload_n C 0 rfl dX5_in_0 1 rfl ?_
  refine r_iload_n C 1 rfl dX5_in_1 2 rfl ?_
  refine r_icmp_lt C 14 dX5_in_2 5 rfl rfl (fun c1 => ?_) (fun c1 => ?_)
  · replace h := h.1 c1
    refine r_iconst C 0 rfl dX5_in_14 15 rfl ?_
    exact r_zret C hE hr hlk (r := false) dX5_in_15 h
  · replace h := h.2 c1
    refine r_iload_n C 0 rfl dX5_in_5 6 rfl ?_
    refine r_iload_n C 2 rfl dX5_in_6 7 rfl ?_
    refine r_icmp_gt C 14 dX5_in_7 10 rfl rfl (fun c2 => ?_) (fun c2 => ?_)
    · replace h := h.1 c2
      refine r_iconst C 0 rfl dX5_in_14 15 rfl ?_
      exact r_zret C hE hr hlk (r := false) dX5_in_15 h
    · replace h := h.2 c2
      refine r_iconst C 1 rfl dX5_in_10 11 rfl ?_
      refine r_goto C 15 dX5_in_11 rfl ?_
      exact r_zret C hE hr hlk (r := true) dX5_in_15 h
set_option maxRecDepth 100000 in
set_option maxHeartbeats 4000000 in
theorem ctX5_isRoot {l : Launch} {D : va_G} {A : Nat → Nat} {cI : ClassId} {X : (Nat → Prop) → State → Heap → Prop} {a0 : Int32} {S : Nat → Nat → Int32} {Q : Bool → (Nat → Nat → Int32) → Prop} (hX : StX X) (hi : Apart 23 A)  (h : wX5_isRoot a0 S Q) : Ct l D (tyM cI) 23 A (ceM A cI) X yX5_isRoot cX5_isRoot 1 (some .boolean) 1 22 [.int a0] S rZ Q := by
  refine Ct.of (by decide +kernel) hX hi [(0, .int a0)] rfl (Nat.le_of_ble_eq_true rfl) ?_
  intro p e s m args below meth c Acc C hr hlk Qf hE
  unfold wX5_isRoot at h
  refine r_iload_n C 0 rfl dX5_isRoot_0 1 rfl ?_
  refine r_iconst C 0 rfl dX5_isRoot_1 2 rfl ?_
  refine r_bipush C 15 rfl dX5_isRoot_2 4 rfl ?_
  refine k_RX5_90 C (ctX5_in hX hi  h) ⟨(Nat.le_of_ble_eq_true rfl), (Nat.le_of_ble_eq_true rfl)⟩ (Nat.le_of_ble_eq_true rfl) ⟨Nat.le_refl 0, Nat.le_refl 0⟩ dX5_isRoot_4 7 rfl (fun r1 S2 h => ?_)
  exact r_zret C hE hr hlk (r := r1) dX5_isRoot_7 h
set_option maxRecDepth 100000 in
set_option maxHeartbeats 4000000 in
theorem ctX5_size {l : Launch} {D : va_G} {A : Nat → Nat} {cI : ClassId} {X : (Nat → Prop) → State → Heap → Prop} {a1 : Int32} {S : Nat → Nat → Int32} {Q : Int32 → (Nat → Nat → Int32) → Prop} (hX : StX X) (hi : Apart 23 A)  (h : wX5_size a1 S Q) : Ct l D (tyM cI) 23 A (ceM A cI) X yX5_size cX5_size 2 (some .int) 0 0 [.ref (A 0), .int a1] S rI Q := by
  refine Ct.of (by decide +kernel) hX hi [(0, .ref (A 0)), (1, .int a1)] rfl (Nat.le_of_ble_eq_true rfl) ?_
  intro p e s m args below meth c Acc C hr hlk Qf hE
  unfold wX5_size at h
  refine r_aload_n C 0 rfl dX5_size_0 1 rfl ?_
  refine g_RX5_80 C dX5_size_1 4 rfl ?_
  refine r_iload_n C 1 rfl dX5_size_4 5 rfl ?_
  refine r_ishl C dX5_size_5 6 rfl ?_
  exact r_iret C hE hr hlk dX5_size_6 h
set_option maxRecDepth 100000 in
set_option maxHeartbeats 4000000 in
theorem ctX5_begin {l : Launch} {D : va_G} {A : Nat → Nat} {cI : ClassId} {X : (Nat → Prop) → State → Heap → Prop} {a1 : Int32} {a2 : Int32} {S : Nat → Nat → Int32} {Q : Int32 → (Nat → Nat → Int32) → Prop} (hX : StX X) (hi : Apart 23 A)  (h : wX5_begin a1 a2 S Q) : Ct l D (tyM cI) 23 A (ceM A cI) X yX5_begin cX5_begin 3 (some .int) 1 21 [.ref (A 0), .int a1, .int a2] S rI Q := by
  refine Ct.of (by decide +kernel) hX hi [(0, .ref (A 0)), (1, .int a1), (2, .int a2)] rfl (Nat.le_of_ble_eq_true rfl) ?_
  intro p e s m args below meth c Acc C hr hlk Qf hE
  have b24 : ∀ (y24_0 : Int32) (y24_1 : Int32) (y24_2 : Int32) (S : Nat → Nat → Int32), wX5_begin_b24 a1 a2  y24_0 y24_1 y24_2 S Q → J p l e { frames := 1, cells := 0, slots := 0, locals := 21 } s m args below meth c 0 0 Qf D 23 A (ceM A cI) Acc 3 S 24 [(0, .ref (A 0)), (1, .int a1), (2, .int a2)] [.int y24_0, .int y24_1, .int y24_2] := by
    intro  y24_0 y24_1 y24_2 S h
    unfold wX5_begin_b24 at h
    refine r_imul C dX5_begin_24 25 rfl ?_
    refine r_iadd C dX5_begin_25 26 rfl ?_
    refine r_iload_n C 2 rfl dX5_begin_26 27 rfl ?_
    refine r_aload_n C 0 rfl dX5_begin_27 28 rfl ?_
    refine r_iload_n C 1 rfl dX5_begin_28 29 rfl ?_
    refine k_RX5_94 C (ctX5_size hX hi  h) ⟨(Nat.le_of_ble_eq_true rfl), (Nat.le_of_ble_eq_true rfl)⟩ (Nat.le_of_ble_eq_true rfl) ⟨Nat.le_refl 0, Nat.le_refl 0⟩ dX5_begin_29 32 rfl (fun r3 S4 h => ?_)
    refine r_imul C dX5_begin_32 33 rfl ?_
    refine r_iadd C dX5_begin_33 34 rfl ?_
    exact r_iret C hE hr hlk dX5_begin_34 h
  unfold wX5_begin at h
  refine r_iconst C 1 rfl dX5_begin_0 1 rfl ?_
  refine r_aload_n C 0 rfl dX5_begin_1 2 rfl ?_
  refine g_RX5_80 C dX5_begin_2 5 rfl ?_
  refine r_iload_n C 1 rfl dX5_begin_5 6 rfl ?_
  refine r_if_ne C 13 dX5_begin_6 9 rfl rfl (fun c1 => ?_) (fun c1 => ?_)
  · replace h := h.1 c1
    refine r_iconst C 0 rfl dX5_begin_9 10 rfl ?_
    refine r_goto C 24 dX5_begin_10 rfl ?_
    refine r_sub [(0, .ref (A 0)), (1, .int a1), (2, .int a2)] [0, 1, 2] rfl ?_
    exact b24  0 (S 0 3) 1  S h
  · replace h := h.2 c1
    refine r_iload_n C 1 rfl dX5_begin_13 14 rfl ?_
    refine r_iconst C 1 rfl dX5_begin_14 15 rfl ?_
    refine r_icmp_ne C 22 dX5_begin_15 18 rfl rfl (fun c2 => ?_) (fun c2 => ?_)
    · replace h := h.1 c2
      refine r_iconst C 2 rfl dX5_begin_18 19 rfl ?_
      refine r_goto C 24 dX5_begin_19 rfl ?_
      refine r_sub [(0, .ref (A 0)), (1, .int a1), (2, .int a2)] [0, 1, 2] rfl ?_
      exact b24  2 (S 0 3) 1  S h
    · replace h := h.2 c2
      refine r_bipush C 6 rfl dX5_begin_22 24 rfl ?_
      refine r_sub [(0, .ref (A 0)), (1, .int a1), (2, .int a2)] [0, 1, 2] rfl ?_
      exact b24  6 (S 0 3) 1  S h
set_option maxRecDepth 100000 in
set_option maxHeartbeats 4000000 in
theorem ctX5_generation {l : Launch} {D : va_G} {A : Nat → Nat} {cI : ClassId} {X : (Nat → Prop) → State → Heap → Prop} {a1 : Int32} {S : Nat → Nat → Int32} {Q : Int32 → (Nat → Nat → Int32) → Prop} (hX : StX X) (hi : Apart 23 A)  (h : wX5_generation a1 S Q) : Ct l D (tyM cI) 23 A (ceM A cI) X yX5_generation cX5_generation 2 (some .int) 0 0 [.ref (A 0), .int a1] S rI Q := by
  refine Ct.of (by decide +kernel) hX hi [(0, .ref (A 0)), (1, .int a1)] rfl (Nat.le_of_ble_eq_true rfl) ?_
  intro p e s m args below meth c Acc C hr hlk Qf hE
  unfold wX5_generation at h
  refine r_iload_n C 1 rfl dX5_generation_0 1 rfl ?_
  refine r_iconst C 2 rfl dX5_generation_1 2 rfl ?_
  refine r_aload_n C 0 rfl dX5_generation_2 3 rfl ?_
  refine g_RX5_80 C dX5_generation_3 6 rfl ?_
  refine r_imul C dX5_generation_6 7 rfl ?_
  refine r_icmp_gt C 14 dX5_generation_7 10 rfl rfl (fun c1 => ?_) (fun c1 => ?_)
  · replace h := h.1 c1
    refine r_iload_n C 1 rfl dX5_generation_14 15 rfl ?_
    refine r_bipush C 6 rfl dX5_generation_15 17 rfl ?_
    refine r_aload_n C 0 rfl dX5_generation_17 18 rfl ?_
    refine g_RX5_80 C dX5_generation_18 21 rfl ?_
    refine r_imul C dX5_generation_21 22 rfl ?_
    refine r_icmp_gt C 29 dX5_generation_22 25 rfl rfl (fun c2 => ?_) (fun c2 => ?_)
    · replace h := h.1 c2
      refine r_iconst C 2 rfl dX5_generation_29 30 rfl ?_
      exact r_iret C hE hr hlk dX5_generation_30 h
    · replace h := h.2 c2
      refine r_iconst C 1 rfl dX5_generation_25 26 rfl ?_
      refine r_goto C 30 dX5_generation_26 rfl ?_
      exact r_iret C hE hr hlk dX5_generation_30 h
  · replace h := h.2 c1
    refine r_iconst C 0 rfl dX5_generation_10 11 rfl ?_
    refine r_goto C 30 dX5_generation_11 rfl ?_
    exact r_iret C hE hr hlk dX5_generation_30 h
set_option maxRecDepth 100000 in
set_option maxHeartbeats 4000000 in
theorem ctX5_fields {l : Launch} {D : va_G} {A : Nat → Nat} {cI : ClassId} {X : (Nat → Prop) → State → Heap → Prop} {a1 : Int32} {S : Nat → Nat → Int32} {Q : Int32 → (Nat → Nat → Int32) → Prop} (hX : StX X) (hi : Apart 23 A)  (h : wX5_fields a1 S Q) : Ct l D (tyM cI) 23 A (ceM A cI) X yX5_fields cX5_fields 2 (some .int) 0 0 [.ref (A 0), .int a1] S rI Q := by
  refine Ct.of (by decide +kernel) hX hi [(0, .ref (A 0)), (1, .int a1)] rfl (Nat.le_of_ble_eq_true rfl) ?_
  intro p e s m args below meth c Acc C hr hlk Qf hE
  unfold wX5_fields at h
  refine r_aload_n C 0 rfl dX5_fields_0 1 rfl ?_
  refine g_RX5_7 C dX5_fields_1 4 rfl ?_
  refine r_iload_n C 1 rfl dX5_fields_4 5 rfl ?_
  refine i_M (k := 1) C (Nat.le_of_ble_eq_true rfl) (Nat.le_of_ble_eq_true rfl) h.1 dX5_fields_5 6 rfl ?_
  replace h := h.2
  refine r_bipush C 7 rfl dX5_fields_6 8 rfl ?_
  refine r_iand C dX5_fields_8 9 rfl ?_
  exact r_iret C hE hr hlk dX5_fields_9 h
set_option maxRecDepth 100000 in
set_option maxHeartbeats 4000000 in
theorem ctX5_age {l : Launch} {D : va_G} {A : Nat → Nat} {cI : ClassId} {X : (Nat → Prop) → State → Heap → Prop} {a1 : Int32} {S : Nat → Nat → Int32} {Q : Int32 → (Nat → Nat → Int32) → Prop} (hX : StX X) (hi : Apart 23 A)  (h : wX5_age a1 S Q) : Ct l D (tyM cI) 23 A (ceM A cI) X yX5_age cX5_age 2 (some .int) 0 0 [.ref (A 0), .int a1] S rI Q := by
  refine Ct.of (by decide +kernel) hX hi [(0, .ref (A 0)), (1, .int a1)] rfl (Nat.le_of_ble_eq_true rfl) ?_
  intro p e s m args below meth c Acc C hr hlk Qf hE
  unfold wX5_age at h
  refine r_aload_n C 0 rfl dX5_age_0 1 rfl ?_
  refine g_RX5_7 C dX5_age_1 4 rfl ?_
  refine r_iload_n C 1 rfl dX5_age_4 5 rfl ?_
  refine i_M (k := 1) C (Nat.le_of_ble_eq_true rfl) (Nat.le_of_ble_eq_true rfl) h.1 dX5_age_5 6 rfl ?_
  replace h := h.2
  refine r_iconst C 3 rfl dX5_age_6 7 rfl ?_
  refine r_ishr C dX5_age_7 8 rfl ?_
  refine r_bipush C 7 rfl dX5_age_8 10 rfl ?_
  refine r_iand C dX5_age_10 11 rfl ?_
  exact r_iret C hE hr hlk dX5_age_11 h
set_option maxRecDepth 100000 in
set_option maxHeartbeats 4000000 in
theorem ctX5_isKeen {l : Launch} {D : va_G} {A : Nat → Nat} {cI : ClassId} {X : (Nat → Prop) → State → Heap → Prop} {a1 : Int32} {S : Nat → Nat → Int32} {Q : Bool → (Nat → Nat → Int32) → Prop} (hX : StX X) (hi : Apart 23 A)  (h : wX5_isKeen a1 S Q) : Ct l D (tyM cI) 23 A (ceM A cI) X yX5_isKeen cX5_isKeen 2 (some .boolean) 0 0 [.ref (A 0), .int a1] S rZ Q := by
  refine Ct.of (by decide +kernel) hX hi [(0, .ref (A 0)), (1, .int a1)] rfl (Nat.le_of_ble_eq_true rfl) ?_
  intro p e s m args below meth c Acc C hr hlk Qf hE
  unfold wX5_isKeen at h
  refine r_aload_n C 0 rfl dX5_isKeen_0 1 rfl ?_
  refine g_RX5_7 C dX5_isKeen_1 4 rfl ?_
  refine r_iload_n C 1 rfl dX5_isKeen_4 5 rfl ?_
  refine i_M (k := 1) C (Nat.le_of_ble_eq_true rfl) (Nat.le_of_ble_eq_true rfl) h.1 dX5_isKeen_5 6 rfl ?_
  replace h := h.2
  refine r_bipush C 64 rfl dX5_isKeen_6 8 rfl ?_
  refine r_iand C dX5_isKeen_8 9 rfl ?_
  refine r_if_le C 16 dX5_isKeen_9 12 rfl rfl (fun c1 => ?_) (fun c1 => ?_)
  · replace h := h.1 c1
    refine r_iconst C 0 rfl dX5_isKeen_16 17 rfl ?_
    exact r_zret C hE hr hlk (r := false) dX5_isKeen_17 h
  · replace h := h.2 c1
    refine r_iconst C 1 rfl dX5_isKeen_12 13 rfl ?_
    refine r_goto C 17 dX5_isKeen_13 rfl ?_
    exact r_zret C hE hr hlk (r := true) dX5_isKeen_17 h
set_option maxRecDepth 100000 in
set_option maxHeartbeats 4000000 in
theorem ctX5_remember {l : Launch} {D : va_G} {A : Nat → Nat} {cI : ClassId} {X : (Nat → Prop) → State → Heap → Prop} {a1 : Int32} {a2 : Int32} {S : Nat → Nat → Int32} {Q : Unit → (Nat → Nat → Int32) → Prop} (hX : StX X) (hi : Apart 23 A)  (h : wX5_remember a1 a2 S Q) : Ct l D (tyM cI) 23 A (ceM A cI) X yX5_remember cX5_remember 4 none 0 0 [.ref (A 0), .int a1, .int a2] S rU Q := by
  refine Ct.of (by decide +kernel) hX hi [(0, .ref (A 0)), (1, .int a1), (2, .int a2)] rfl (Nat.le_of_ble_eq_true rfl) ?_
  intro p e s m args below meth c Acc C hr hlk Qf hE
  have b2 : ∀ (nn : Nat) (x2_3 : Int32) (S : Nat → Nat → Int32), wX5_remember_b2 a1 a2  nn x2_3 S Q → J p l e { frames := 0, cells := 0, slots := 0, locals := 0 } s m args below meth c 0 0 Qf D 23 A (ceM A cI) Acc 4 S 2 [(3, .int x2_3), (0, .ref (A 0)), (1, .int a1), (2, .int a2)] [] := by
    intro nn
    induction nn with
    | zero => intro x2_3 S h; exact False.elim h
    | succ nn ih =>
      intro x2_3 S h
      rw [wX5_remember_b2] at h
      refine r_iload_n C 0 rfl dX5_remember_2 3 rfl ?_
      refine r_aload_n C 1 rfl dX5_remember_3 4 rfl ?_
      refine g_RX5_43 C dX5_remember_4 7 rfl ?_
      refine r_iload_n C 2 rfl dX5_remember_7 8 rfl ?_
      refine i_M (k := 12) C (Nat.le_of_ble_eq_true rfl) (Nat.le_of_ble_eq_true rfl) h.1 dX5_remember_8 9 rfl ?_
      replace h := h.2
      refine r_icmp_ge C 35 dX5_remember_9 12 rfl rfl (fun c2 => ?_) (fun c2 => ?_)
      · replace h := h.1 c2
        refine r_aload_n C 1 rfl dX5_remember_35 36 rfl ?_
        refine g_RX5_46 C dX5_remember_36 39 rfl ?_
        refine r_sipush C 1000 rfl dX5_remember_39 42 rfl ?_
        refine r_iload_n C 2 rfl dX5_remember_42 43 rfl ?_
        refine r_imul C dX5_remember_43 44 rfl ?_
        refine r_aload_n C 1 rfl dX5_remember_44 45 rfl ?_
        refine g_RX5_43 C dX5_remember_45 48 rfl ?_
        refine r_iload_n C 2 rfl dX5_remember_48 49 rfl ?_
        refine i_M (k := 12) C (Nat.le_of_ble_eq_true rfl) (Nat.le_of_ble_eq_true rfl) h.1 dX5_remember_49 50 rfl ?_
        replace h := h.2
        refine r_iadd C dX5_remember_50 51 rfl ?_
        refine r_iload_n C 3 rfl dX5_remember_51 52 rfl ?_
        refine s_M (k := 13) C (Nat.le_of_ble_eq_true rfl) (Nat.le_of_ble_eq_true rfl) h.1 dX5_remember_52 53 rfl (fun S3 e4 => ?_)
        replace h := h.2
        replace h := h S3 e4
        refine r_aload_n C 1 rfl dX5_remember_53 54 rfl ?_
        refine g_RX5_43 C dX5_remember_54 57 rfl ?_
        refine r_iload_n C 2 rfl dX5_remember_57 58 rfl ?_
        refine r_dup2 C rfl rfl dX5_remember_58 59 rfl ?_
        refine i_M (k := 12) C (Nat.le_of_ble_eq_true rfl) (Nat.le_of_ble_eq_true rfl) h.1 dX5_remember_59 60 rfl ?_
        replace h := h.2
        refine r_iconst C 1 rfl dX5_remember_60 61 rfl ?_
        refine r_iadd C dX5_remember_61 62 rfl ?_
        refine s_M (k := 12) C (Nat.le_of_ble_eq_true rfl) (Nat.le_of_ble_eq_true rfl) h.1 dX5_remember_62 63 rfl (fun S5 e6 => ?_)
        replace h := h.2
        replace h := h S5 e6
        exact r_vret C hE hr hlk dX5_remember_63 h
      · replace h := h.2 c2
        refine r_aload_n C 1 rfl dX5_remember_12 13 rfl ?_
        refine g_RX5_46 C dX5_remember_13 16 rfl ?_
        refine r_sipush C 1000 rfl dX5_remember_16 19 rfl ?_
        refine r_iload_n C 2 rfl dX5_remember_19 20 rfl ?_
        refine r_imul C dX5_remember_20 21 rfl ?_
        refine r_iload_n C 0 rfl dX5_remember_21 22 rfl ?_
        refine r_iadd C dX5_remember_22 23 rfl ?_
        refine i_M (k := 13) C (Nat.le_of_ble_eq_true rfl) (Nat.le_of_ble_eq_true rfl) h.1 dX5_remember_23 24 rfl ?_
        replace h := h.2
        refine r_iload_n C 3 rfl dX5_remember_24 25 rfl ?_
        refine r_icmp_ne C 29 dX5_remember_25 28 rfl rfl (fun c7 => ?_) (fun c7 => ?_)
        · replace h := h.1 c7
          exact r_vret C hE hr hlk dX5_remember_28 h
        · replace h := h.2 c7
          obtain ⟨x8, e9⟩ : ∃ z : Int32, z = x2_3 + 1 := ⟨_, rfl⟩
          replace h := h x8 e9
          refine r_iinc (n := 1) C 0 rfl x8 (by rw [e9]; rfl) [(3, .int x8), (0, .ref (A 0)), (1, .int a1), (2, .int a2)] (Nat.le_of_ble_eq_true rfl) rfl dX5_remember_29 32 rfl ?_
          refine r_goto C 2 dX5_remember_32 rfl ?_
          refine r_sub [(3, .int x8), (0, .ref (A 0)), (1, .int a1), (2, .int a2)] [0, 1, 2, 3] rfl ?_
          exact ih x8  S h
  unfold wX5_remember at h
  refine r_iconst C 0 rfl dX5_remember_0 1 rfl ?_
  refine r_istore_n C [(3, .int 0), (0, .ref (A 0)), (1, .int a1), (2, .int a2)] (Nat.le_of_ble_eq_true rfl) rfl dX5_remember_1 2 rfl ?_
  refine r_sub [(3, .int 0), (0, .ref (A 0)), (1, .int a1), (2, .int a2)] [0, 1, 2, 3] rfl ?_
  obtain ⟨f1, h⟩ := h
  exact b2  f1 0  S h
set_option maxRecDepth 100000 in
set_option maxHeartbeats 4000000 in
theorem ctX5_rememberIf {l : Launch} {D : va_G} {A : Nat → Nat} {cI : ClassId} {X : (Nat → Prop) → State → Heap → Prop} {a1 : Int32} {S : Nat → Nat → Int32} {Q : Unit → (Nat → Nat → Int32) → Prop} (hX : StX X) (hi : Apart 23 A)  (h : wX5_rememberIf a1 S Q) : Ct l D (tyM cI) 23 A (ceM A cI) X yX5_rememberIf cX5_rememberIf 3 none 1 23 [.ref (A 0), .int a1] S rU Q := by
  refine Ct.of (by decide +kernel) hX hi [(0, .ref (A 0)), (1, .int a1)] rfl (Nat.le_of_ble_eq_true rfl) ?_
  intro p e s m args below meth c Acc C hr hlk Qf hE
  unfold wX5_rememberIf at h
  refine r_aload_n C 0 rfl dX5_rememberIf_0 1 rfl ?_
  refine g_RX5_7 C dX5_rememberIf_1 4 rfl ?_
  refine r_iload_n C 1 rfl dX5_rememberIf_4 5 rfl ?_
  refine i_M (k := 1) C (Nat.le_of_ble_eq_true rfl) (Nat.le_of_ble_eq_true rfl) h.1 dX5_rememberIf_5 6 rfl ?_
  replace h := h.2
  refine r_istore_n C [(2, .int (S 1 a1.toNatClampNeg)), (0, .ref (A 0)), (1, .int a1)] (Nat.le_of_ble_eq_true rfl) rfl dX5_rememberIf_6 7 rfl ?_
  refine r_iload_n C 0 rfl dX5_rememberIf_7 8 rfl ?_
  refine r_if_eq C 34 dX5_rememberIf_8 11 rfl rfl (fun c1 => ?_) (fun c1 => ?_)
  · replace h := h.1 c1
    exact r_vret C hE hr hlk dX5_rememberIf_34 h
  · replace h := h.2 c1
    refine r_aload_n C 1 rfl dX5_rememberIf_11 12 rfl ?_
    refine r_iload_n C 0 rfl dX5_rememberIf_12 13 rfl ?_
    refine k_RX5_98 C (ctX5_generation hX hi  h) ⟨(Nat.le_of_ble_eq_true rfl), (Nat.le_of_ble_eq_true rfl)⟩ (Nat.le_of_ble_eq_true rfl) ⟨Nat.le_refl 0, Nat.le_refl 0⟩ dX5_rememberIf_13 16 rfl (fun r2 S3 h => ?_)
    refine r_aload_n C 1 rfl dX5_rememberIf_16 17 rfl ?_
    refine r_iload_n C 2 rfl dX5_rememberIf_17 18 rfl ?_
    refine k_RX5_98 C (ctX5_generation hX hi  h) ⟨(Nat.le_of_ble_eq_true rfl), (Nat.le_of_ble_eq_true rfl)⟩ (Nat.le_of_ble_eq_true rfl) ⟨Nat.le_refl 0, Nat.le_refl 0⟩ dX5_rememberIf_18 21 rfl (fun r4 S5 h => ?_)
    refine r_icmp_ge C 34 dX5_rememberIf_21 24 rfl rfl (fun c6 => ?_) (fun c6 => ?_)
    · replace h := h.1 c6
      exact r_vret C hE hr hlk dX5_rememberIf_34 h
    · replace h := h.2 c6
      refine r_aload_n C 1 rfl dX5_rememberIf_24 25 rfl ?_
      refine r_aload_n C 1 rfl dX5_rememberIf_25 26 rfl ?_
      refine r_iload_n C 0 rfl dX5_rememberIf_26 27 rfl ?_
      refine k_RX5_98 C (ctX5_generation hX hi  h) ⟨(Nat.le_of_ble_eq_true rfl), (Nat.le_of_ble_eq_true rfl)⟩ (Nat.le_of_ble_eq_true rfl) ⟨Nat.le_refl 0, Nat.le_refl 0⟩ dX5_rememberIf_27 30 rfl (fun r7 S8 h => ?_)
      refine r_iload_n C 2 rfl dX5_rememberIf_30 31 rfl ?_
      refine k_RX5_101 C (ctX5_remember hX hi  h) ⟨(Nat.le_of_ble_eq_true rfl), (Nat.le_of_ble_eq_true rfl)⟩ (Nat.le_of_ble_eq_true rfl) ⟨Nat.le_refl 0, Nat.le_refl 0⟩ dX5_rememberIf_31 34 rfl (fun S10 h => ?_)
      exact r_vret C hE hr hlk dX5_rememberIf_34 h
set_option maxRecDepth 100000 in
set_option maxHeartbeats 4000000 in
theorem ctX5_filter {l : Launch} {D : va_G} {A : Nat → Nat} {cI : ClassId} {X : (Nat → Prop) → State → Heap → Prop}  {S : Nat → Nat → Int32} {Q : Unit → (Nat → Nat → Int32) → Prop} (hX : StX X) (hi : Apart 23 A)  (h : wX5_filter  S Q) : Ct l D (tyM cI) 23 A (ceM A cI) X yX5_filter cX5_filter 2 none 2 45 [.ref (A 0)] S rU Q := by
  refine Ct.of (by decide +kernel) hX hi [(0, .ref (A 0))] rfl (Nat.le_of_ble_eq_true rfl) ?_
  intro p e s m args below meth c Acc C hr hlk Qf hE
  have b2 : ∀ (nn : Nat) (x2_1 : Int32) (S : Nat → Nat → Int32), wX5_filter_b2   nn x2_1 S Q → J p l e { frames := 2, cells := 0, slots := 0, locals := 45 } s m args below meth c 0 0 Qf D 23 A (ceM A cI) Acc 2 S 2 [(1, .int x2_1), (0, .ref (A 0))] [] := by
    intro nn
    induction nn with
    | zero => intro x2_1 S h; exact False.elim h
    | succ nn ih =>
      intro x2_1 S h
      rw [wX5_filter_b2] at h
      refine r_iload_n C 0 rfl dX5_filter_2 3 rfl ?_
      refine r_aload_n C 1 rfl dX5_filter_3 4 rfl ?_
      refine g_RX5_105 C dX5_filter_4 7 rfl ?_
      refine r_icmp_ge C 26 dX5_filter_7 10 rfl rfl (fun c2 => ?_) (fun c2 => ?_)
      · replace h := h.1 c2
        refine r_aload_n C 1 rfl dX5_filter_26 27 rfl ?_
        refine r_iconst C 0 rfl dX5_filter_27 28 rfl ?_
        refine p_RX5_105 C (x := 0) dX5_filter_28 31 rfl (fun S3 e4 => ?_)
        replace h := h S3 e4
        exact r_vret C hE hr hlk dX5_filter_31 h
      · replace h := h.2 c2
        refine r_aload_n C 1 rfl dX5_filter_10 11 rfl ?_
        refine r_aload_n C 1 rfl dX5_filter_11 12 rfl ?_
        refine g_RX5_40 C dX5_filter_12 15 rfl ?_
        refine r_iload_n C 0 rfl dX5_filter_15 16 rfl ?_
        refine i_M (k := 11) C (Nat.le_of_ble_eq_true rfl) (Nat.le_of_ble_eq_true rfl) h.1 dX5_filter_16 17 rfl ?_
        replace h := h.2
        refine k_RX5_108 C (ctX5_rememberIf hX hi  h) ⟨(Nat.le_of_ble_eq_true rfl), (Nat.le_of_ble_eq_true rfl)⟩ (Nat.le_of_ble_eq_true rfl) ⟨Nat.le_refl 0, Nat.le_refl 0⟩ dX5_filter_17 20 rfl (fun S6 h => ?_)
        obtain ⟨x7, e8⟩ : ∃ z : Int32, z = x2_1 + 1 := ⟨_, rfl⟩
        replace h := h x7 e8
        refine r_iinc (n := 1) C 0 rfl x7 (by rw [e8]; rfl) [(1, .int x7), (0, .ref (A 0))] (Nat.le_of_ble_eq_true rfl) rfl dX5_filter_20 23 rfl ?_
        refine r_goto C 2 dX5_filter_23 rfl ?_
        refine r_sub [(1, .int x7), (0, .ref (A 0))] [0, 1] rfl ?_
        exact ih x7  S6 h
  unfold wX5_filter at h
  refine r_iconst C 0 rfl dX5_filter_0 1 rfl ?_
  refine r_istore_n C [(1, .int 0), (0, .ref (A 0))] (Nat.le_of_ble_eq_true rfl) rfl dX5_filter_1 2 rfl ?_
  refine r_sub [(1, .int 0), (0, .ref (A 0))] [0, 1] rfl ?_
  obtain ⟨f1, h⟩ := h
  exact b2  f1 0  S h
set_option maxRecDepth 100000 in
set_option maxHeartbeats 4000000 in
theorem ctX5_store {l : Launch} {D : va_G} {A : Nat → Nat} {cI : ClassId} {X : (Nat → Prop) → State → Heap → Prop} {a1 : Int32} {a2 : Int32} {S : Nat → Nat → Int32} {Q : Unit → (Nat → Nat → Int32) → Prop} (hX : StX X) (hi : Apart 23 A)  (h : wX5_store a1 a2 S Q) : Ct l D (tyM cI) 23 A (ceM A cI) X yX5_store cX5_store 3 none 3 66 [.ref (A 0), .int a1, .int a2] S rU Q := by
  refine Ct.of (by decide +kernel) hX hi [(0, .ref (A 0)), (1, .int a1), (2, .int a2)] rfl (Nat.le_of_ble_eq_true rfl) ?_
  intro p e s m args below meth c Acc C hr hlk Qf hE
  have b37 : ∀  (S : Nat → Nat → Int32), wX5_store_b37 a1 a2   S Q → J p l e { frames := 3, cells := 0, slots := 0, locals := 66 } s m args below meth c 0 0 Qf D 23 A (ceM A cI) Acc 3 S 37 [(0, .ref (A 0)), (1, .int a1)] [] := by
    intro   S h
    unfold wX5_store_b37 at h
    refine r_aload_n C 0 rfl dX5_store_37 38 rfl ?_
    refine g_RX5_40 C dX5_store_38 41 rfl ?_
    refine r_aload_n C 0 rfl dX5_store_41 42 rfl ?_
    refine g_RX5_105 C dX5_store_42 45 rfl ?_
    refine r_iload_n C 1 rfl dX5_store_45 46 rfl ?_
    refine s_M (k := 11) C (Nat.le_of_ble_eq_true rfl) (Nat.le_of_ble_eq_true rfl) h.1 dX5_store_46 47 rfl (fun S9 e10 => ?_)
    replace h := h.2
    replace h := h S9 e10
    refine r_aload_n C 0 rfl dX5_store_47 48 rfl ?_
    refine r_dup C rfl dX5_store_48 49 rfl ?_
    refine g_RX5_105 C dX5_store_49 52 rfl ?_
    refine r_iconst C 1 rfl dX5_store_52 53 rfl ?_
    refine r_iadd C dX5_store_53 54 rfl ?_
    refine p_RX5_105 C (x := ((S9 0 16) + 1)) dX5_store_54 57 rfl (fun S11 e12 => ?_)
    replace h := h S11 e12
    exact r_vret C hE hr hlk dX5_store_57 h
  unfold wX5_store at h
  refine r_aload_n C 0 rfl dX5_store_0 1 rfl ?_
  refine g_RX5_7 C dX5_store_1 4 rfl ?_
  refine r_iload_n C 1 rfl dX5_store_4 5 rfl ?_
  refine r_iload_n C 2 rfl dX5_store_5 6 rfl ?_
  refine s_M (k := 1) C (Nat.le_of_ble_eq_true rfl) (Nat.le_of_ble_eq_true rfl) h.1 dX5_store_6 7 rfl (fun S1 e2 => ?_)
  replace h := h.2
  replace h := h S1 e2
  refine r_iload_n C 2 rfl dX5_store_7 8 rfl ?_
  refine r_if_ne C 12 dX5_store_8 11 rfl rfl (fun c3 => ?_) (fun c3 => ?_)
  · replace h := h.1 c3
    exact r_vret C hE hr hlk dX5_store_11 h
  · replace h := h.2 c3
    refine r_aload_n C 0 rfl dX5_store_12 13 rfl ?_
    refine g_RX5_105 C dX5_store_13 16 rfl ?_
    refine r_aload_n C 0 rfl dX5_store_16 17 rfl ?_
    refine g_RX5_84 C dX5_store_17 20 rfl ?_
    refine r_icmp_ne C 37 dX5_store_20 23 rfl rfl (fun c4 => ?_) (fun c4 => ?_)
    · replace h := h.1 c4
      refine r_aload_n C 0 rfl dX5_store_23 24 rfl ?_
      refine r_dup C rfl dX5_store_24 25 rfl ?_
      refine g_RX5_112 C dX5_store_25 28 rfl ?_
      refine r_iconst C 1 rfl dX5_store_28 29 rfl ?_
      refine r_iadd C dX5_store_29 30 rfl ?_
      refine p_RX5_112 C (x := ((S1 0 23) + 1)) dX5_store_30 33 rfl (fun S5 e6 => ?_)
      replace h := h S5 e6
      refine r_aload_n C 0 rfl dX5_store_33 34 rfl ?_
      refine k_RX5_115 C (ctX5_filter hX hi  h) ⟨(Nat.le_of_ble_eq_true rfl), (Nat.le_of_ble_eq_true rfl)⟩ (Nat.le_of_ble_eq_true rfl) ⟨Nat.le_refl 0, Nat.le_refl 0⟩ dX5_store_34 37 rfl (fun S8 h => ?_)
      refine r_sub [(0, .ref (A 0)), (1, .int a1)] [0, 1] rfl ?_
      exact b37    S8 h
    · replace h := h.2 c4
      refine r_sub [(0, .ref (A 0)), (1, .int a1)] [0, 1] rfl ?_
      exact b37    S1 h
set_option maxRecDepth 100000 in
set_option maxHeartbeats 4000000 in
theorem ctX5_isFrom {l : Launch} {D : va_G} {A : Nat → Nat} {cI : ClassId} {X : (Nat → Prop) → State → Heap → Prop} {a1 : Int32} {S : Nat → Nat → Int32} {Q : Bool → (Nat → Nat → Int32) → Prop} (hX : StX X) (hi : Apart 23 A)  (h : wX5_isFrom a1 S Q) : Ct l D (tyM cI) 23 A (ceM A cI) X yX5_isFrom cX5_isFrom 3 (some .boolean) 1 21 [.ref (A 0), .int a1] S rZ Q := by
  refine Ct.of (by decide +kernel) hX hi [(0, .ref (A 0)), (1, .int a1)] rfl (Nat.le_of_ble_eq_true rfl) ?_
  intro p e s m args below meth c Acc C hr hlk Qf hE
  unfold wX5_isFrom at h
  refine r_aload_n C 0 rfl dX5_isFrom_0 1 rfl ?_
  refine r_iload_n C 1 rfl dX5_isFrom_1 2 rfl ?_
  refine k_RX5_98 C (ctX5_generation hX hi  h) ⟨(Nat.le_of_ble_eq_true rfl), (Nat.le_of_ble_eq_true rfl)⟩ (Nat.le_of_ble_eq_true rfl) ⟨Nat.le_refl 0, Nat.le_refl 0⟩ dX5_isFrom_2 5 rfl (fun r1 S2 h => ?_)
  refine r_istore_n C [(2, .int r1), (0, .ref (A 0)), (1, .int a1)] (Nat.le_of_ble_eq_true rfl) rfl dX5_isFrom_5 6 rfl ?_
  refine r_iload_n C 2 rfl dX5_isFrom_6 7 rfl ?_
  refine r_if_eq C 42 dX5_isFrom_7 10 rfl rfl (fun c3 => ?_) (fun c3 => ?_)
  · replace h := h.1 c3
    refine r_iconst C 0 rfl dX5_isFrom_42 43 rfl ?_
    exact r_zret C hE hr hlk (r := false) dX5_isFrom_43 h
  · replace h := h.2 c3
    refine r_iload_n C 0 rfl dX5_isFrom_10 11 rfl ?_
    refine r_aload_n C 1 rfl dX5_isFrom_11 12 rfl ?_
    refine g_RX5_118 C dX5_isFrom_12 15 rfl ?_
    refine r_icmp_gt C 42 dX5_isFrom_15 18 rfl rfl (fun c4 => ?_) (fun c4 => ?_)
    · replace h := h.1 c4
      refine r_iconst C 0 rfl dX5_isFrom_42 43 rfl ?_
      exact r_zret C hE hr hlk (r := false) dX5_isFrom_43 h
    · replace h := h.2 c4
      refine r_iload_n C 2 rfl dX5_isFrom_18 19 rfl ?_
      refine r_aload_n C 1 rfl dX5_isFrom_19 20 rfl ?_
      refine g_RX5_64 C dX5_isFrom_20 23 rfl ?_
      refine r_iload_n C 0 rfl dX5_isFrom_23 24 rfl ?_
      refine i_M (k := 19) C (Nat.le_of_ble_eq_true rfl) (Nat.le_of_ble_eq_true rfl) h.1 dX5_isFrom_24 25 rfl ?_
      replace h := h.2
      refine r_icmp_lt C 42 dX5_isFrom_25 28 rfl rfl (fun c5 => ?_) (fun c5 => ?_)
      · replace h := h.1 c5
        refine r_iconst C 0 rfl dX5_isFrom_42 43 rfl ?_
        exact r_zret C hE hr hlk (r := false) dX5_isFrom_43 h
      · replace h := h.2 c5
        refine r_iload_n C 2 rfl dX5_isFrom_28 29 rfl ?_
        refine r_aload_n C 1 rfl dX5_isFrom_29 30 rfl ?_
        refine g_RX5_67 C dX5_isFrom_30 33 rfl ?_
        refine r_iload_n C 0 rfl dX5_isFrom_33 34 rfl ?_
        refine i_M (k := 20) C (Nat.le_of_ble_eq_true rfl) (Nat.le_of_ble_eq_true rfl) h.1 dX5_isFrom_34 35 rfl ?_
        replace h := h.2
        refine r_icmp_ge C 42 dX5_isFrom_35 38 rfl rfl (fun c6 => ?_) (fun c6 => ?_)
        · replace h := h.1 c6
          refine r_iconst C 0 rfl dX5_isFrom_42 43 rfl ?_
          exact r_zret C hE hr hlk (r := false) dX5_isFrom_43 h
        · replace h := h.2 c6
          refine r_iconst C 1 rfl dX5_isFrom_38 39 rfl ?_
          refine r_goto C 43 dX5_isFrom_39 rfl ?_
          exact r_zret C hE hr hlk (r := true) dX5_isFrom_43 h
set_option maxRecDepth 100000 in
set_option maxHeartbeats 4000000 in
theorem ctX5_fits {l : Launch} {D : va_G} {A : Nat → Nat} {cI : ClassId} {X : (Nat → Prop) → State → Heap → Prop} {a1 : Int32} {a2 : Int32} {S : Nat → Nat → Int32} {Q : Bool → (Nat → Nat → Int32) → Prop} (hX : StX X) (hi : Apart 23 A)  (h : wX5_fits a1 a2 S Q) : Ct l D (tyM cI) 23 A (ceM A cI) X yX5_fits cX5_fits 4 (some .boolean) 1 21 [.ref (A 0), .int a1, .int a2] S rZ Q := by
  refine Ct.of (by decide +kernel) hX hi [(0, .ref (A 0)), (1, .int a1), (2, .int a2)] rfl (Nat.le_of_ble_eq_true rfl) ?_
  intro p e s m args below meth c Acc C hr hlk Qf hE
  have b26 : ∀ (y26_0 : Int32) (y26_1 : Int32) (S : Nat → Nat → Int32), wX5_fits_b26 a1 a2  y26_0 y26_1 S Q → J p l e { frames := 1, cells := 0, slots := 0, locals := 21 } s m args below meth c 0 0 Qf D 23 A (ceM A cI) Acc 4 S 26 [(0, .ref (A 0)), (1, .int a1)] [.int y26_0, .int y26_1] := by
    intro  y26_0 y26_1 S h
    unfold wX5_fits_b26 at h
    refine r_iadd C dX5_fits_26 27 rfl ?_
    refine r_topi (fun x2 e3 => ?_)
    replace h := h x2 e3
    refine r_istore_n C [(3, .int x2), (0, .ref (A 0)), (1, .int a1)] (Nat.le_of_ble_eq_true rfl) rfl dX5_fits_27 28 rfl ?_
    refine r_iload_n C 0 rfl dX5_fits_28 29 rfl ?_
    refine r_aload_n C 1 rfl dX5_fits_29 30 rfl ?_
    refine r_iload_n C 2 rfl dX5_fits_30 31 rfl ?_
    refine k_RX5_94 C (ctX5_size hX hi  h) ⟨(Nat.le_of_ble_eq_true rfl), (Nat.le_of_ble_eq_true rfl)⟩ (Nat.le_of_ble_eq_true rfl) ⟨Nat.le_refl 0, Nat.le_refl 0⟩ dX5_fits_31 34 rfl (fun r4 S5 h => ?_)
    refine r_icmp_gt C 41 dX5_fits_34 37 rfl rfl (fun c6 => ?_) (fun c6 => ?_)
    · replace h := h.1 c6
      refine r_iconst C 0 rfl dX5_fits_41 42 rfl ?_
      exact r_zret C hE hr hlk (r := false) dX5_fits_42 h
    · replace h := h.2 c6
      refine r_iconst C 1 rfl dX5_fits_37 38 rfl ?_
      refine r_goto C 42 dX5_fits_38 rfl ?_
      exact r_zret C hE hr hlk (r := true) dX5_fits_42 h
  unfold wX5_fits at h
  refine r_aload_n C 0 rfl dX5_fits_0 1 rfl ?_
  refine g_RX5_22 C dX5_fits_1 4 rfl ?_
  refine r_iload_n C 1 rfl dX5_fits_4 5 rfl ?_
  refine i_M (k := 5) C (Nat.le_of_ble_eq_true rfl) (Nat.le_of_ble_eq_true rfl) h.1 dX5_fits_5 6 rfl ?_
  replace h := h.2
  refine r_iload_n C 2 rfl dX5_fits_6 7 rfl ?_
  refine r_iadd C dX5_fits_7 8 rfl ?_
  refine r_iload_n C 1 rfl dX5_fits_8 9 rfl ?_
  refine r_aload_n C 0 rfl dX5_fits_9 10 rfl ?_
  refine g_RX5_118 C dX5_fits_10 13 rfl ?_
  refine r_icmp_gt C 25 dX5_fits_13 16 rfl rfl (fun c1 => ?_) (fun c1 => ?_)
  · replace h := h.1 c1
    refine r_iconst C 0 rfl dX5_fits_25 26 rfl ?_
    refine r_sub [(0, .ref (A 0)), (1, .int a1)] [0, 1] rfl ?_
    exact b26  0 ((S 5 a1.toNatClampNeg) + a2)  S h
  · replace h := h.2 c1
    refine r_aload_n C 0 rfl dX5_fits_16 17 rfl ?_
    refine g_RX5_70 C dX5_fits_17 20 rfl ?_
    refine r_iload_n C 1 rfl dX5_fits_20 21 rfl ?_
    refine i_M (k := 21) C (Nat.le_of_ble_eq_true rfl) (Nat.le_of_ble_eq_true rfl) h.1 dX5_fits_21 22 rfl ?_
    replace h := h.2
    refine r_goto C 26 dX5_fits_22 rfl ?_
    refine r_sub [(0, .ref (A 0)), (1, .int a1)] [0, 1] rfl ?_
    exact b26  (S 21 a1.toNatClampNeg) ((S 5 a1.toNatClampNeg) + a2)  S h
set_option maxRecDepth 100000 in
set_option maxHeartbeats 4000000 in
theorem ctX5_copy {l : Launch} {D : va_G} {A : Nat → Nat} {cI : ClassId} {X : (Nat → Prop) → State → Heap → Prop} {a1 : Int32} {S : Nat → Nat → Int32} {Q : Int32 → (Nat → Nat → Int32) → Prop} (hX : StX X) (hi : Apart 23 A)  (h : wX5_copy a1 S Q) : Ct l D (tyM cI) 23 A (ceM A cI) X yX5_copy cX5_copy 8 (some .int) 2 44 [.ref (A 0), .int a1] S rI Q := by
  refine Ct.of (by decide +kernel) hX hi [(0, .ref (A 0)), (1, .int a1)] rfl (Nat.le_of_ble_eq_true rfl) ?_
  intro p e s m args below meth c Acc C hr hlk Qf hE
  have b228 : ∀ (x228_6 : Int32) (x228_3 : Int32) (y228_0 : Int32) (S : Nat → Nat → Int32), wX5_copy_b228 a1  x228_6 x228_3 y228_0 S Q → J p l e { frames := 2, cells := 0, slots := 0, locals := 44 } s m args below meth c 0 0 Qf D 23 A (ceM A cI) Acc 8 S 228 [(6, .int x228_6), (3, .int x228_3), (0, .ref (A 0)), (1, .int a1)] [.int y228_0, .ref (A 0)] := by
    intro  x228_6 x228_3 y228_0 S h
    unfold wX5_copy_b228 at h
    refine p_RX5_135 C (x := y228_0) dX5_copy_228 231 rfl (fun S38 e39 => ?_)
    replace h := h S38 e39
    refine r_aload_n C 2 rfl dX5_copy_231 232 rfl ?_
    refine r_aload_n C 2 rfl dX5_copy_232 233 rfl ?_
    refine g_RX5_138 C dX5_copy_233 236 rfl ?_
    refine r_iload_n C 1 rfl dX5_copy_236 237 rfl ?_
    refine r_iadd C dX5_copy_237 238 rfl ?_
    refine p_RX5_138 C (x := ((S38 0 32) + x228_3)) dX5_copy_238 241 rfl (fun S40 e41 => ?_)
    replace h := h S40 e41
    refine r_aload_n C 2 rfl dX5_copy_241 242 rfl ?_
    refine g_RX5_13 C dX5_copy_242 245 rfl ?_
    refine r_iload_n C 3 rfl dX5_copy_245 246 rfl ?_
    refine r_iload C 0 rfl dX5_copy_246 248 rfl ?_
    refine s_M (k := 2) C (Nat.le_of_ble_eq_true rfl) (Nat.le_of_ble_eq_true rfl) h.1 dX5_copy_248 249 rfl (fun S42 e43 => ?_)
    replace h := h.2
    replace h := h S42 e43
    refine r_iload C 0 rfl dX5_copy_249 251 rfl ?_
    exact r_iret C hE hr hlk dX5_copy_251 h
  have b195 : ∀ (x195_6 : Int32) (x195_5 : Int32) (x195_3 : Int32) (x195_2 : Int32) (y195_0 : Int32) (y195_1 : Int32) (y195_2 : Int32) (y195_3 : Int32) (S : Nat → Nat → Int32), wX5_copy_b195 a1  x195_6 x195_5 x195_3 x195_2 y195_0 y195_1 y195_2 y195_3 S Q → J p l e { frames := 2, cells := 0, slots := 0, locals := 44 } s m args below meth c 0 0 Qf D 23 A (ceM A cI) Acc 8 S 195 [(6, .int x195_6), (5, .int x195_5), (3, .int x195_3), (2, .int x195_2), (0, .ref (A 0)), (1, .int a1)] [.int y195_0, .int y195_1, .int y195_2, .int y195_3, .ref (A 1)] := by
    intro  x195_6 x195_5 x195_3 x195_2 y195_0 y195_1 y195_2 y195_3 S h
    unfold wX5_copy_b195 at h
    refine r_imul C dX5_copy_195 196 rfl ?_
    refine r_iadd C dX5_copy_196 197 rfl ?_
    refine r_aload_n C 4 rfl dX5_copy_197 198 rfl ?_
    refine g_RX5_7 C dX5_copy_198 201 rfl ?_
    refine r_iload_n C 5 rfl dX5_copy_201 202 rfl ?_
    refine i_M (k := 1) C (Nat.le_of_ble_eq_true rfl) (Nat.le_of_ble_eq_true rfl) h.1 dX5_copy_202 203 rfl ?_
    replace h := h.2
    refine r_bipush C 64 rfl dX5_copy_203 205 rfl ?_
    refine r_iand C dX5_copy_205 206 rfl ?_
    refine r_iadd C dX5_copy_206 207 rfl ?_
    refine s_M (k := 1) C (Nat.le_of_ble_eq_true rfl) (Nat.le_of_ble_eq_true rfl) h.1 dX5_copy_207 208 rfl (fun S35 e36 => ?_)
    replace h := h.2
    replace h := h S35 e36
    refine r_aload_n C 4 rfl dX5_copy_208 209 rfl ?_
    refine r_iload C 1 rfl dX5_copy_209 211 rfl ?_
    refine r_iload_n C 3 rfl dX5_copy_211 212 rfl ?_
    refine r_icmp_le C 224 dX5_copy_212 215 rfl rfl (fun c37 => ?_) (fun c37 => ?_)
    · replace h := h.1 c37
      refine r_aload_n C 4 rfl dX5_copy_224 225 rfl ?_
      refine g_RX5_135 C dX5_copy_225 228 rfl ?_
      refine r_sub [(6, .int x195_6), (3, .int x195_3), (0, .ref (A 0)), (1, .int a1)] [0, 2, 4, 5] rfl ?_
      exact b228  x195_6 x195_3 (S35 0 25)  S35 h
    · replace h := h.2 c37
      refine r_aload_n C 4 rfl dX5_copy_215 216 rfl ?_
      refine g_RX5_135 C dX5_copy_216 219 rfl ?_
      refine r_iconst C 1 rfl dX5_copy_219 220 rfl ?_
      refine r_iadd C dX5_copy_220 221 rfl ?_
      refine r_goto C 228 dX5_copy_221 rfl ?_
      refine r_sub [(6, .int x195_6), (3, .int x195_3), (0, .ref (A 0)), (1, .int a1)] [0, 2, 4, 5] rfl ?_
      exact b228  x195_6 x195_3 ((S35 0 25) + 1)  S35 h
  have b139 : ∀ (nn : Nat) (x139_7 : Int32) (x139_6 : Int32) (x139_5 : Int32) (x139_4 : Int32) (x139_3 : Int32) (x139_2 : Int32) (S : Nat → Nat → Int32), wX5_copy_b139 a1  nn x139_7 x139_6 x139_5 x139_4 x139_3 x139_2 S Q → J p l e { frames := 2, cells := 0, slots := 0, locals := 44 } s m args below meth c 0 0 Qf D 23 A (ceM A cI) Acc 8 S 139 [(7, .int x139_7), (6, .int x139_6), (5, .int x139_5), (4, .int x139_4), (3, .int x139_3), (2, .int x139_2), (0, .ref (A 0)), (1, .int a1)] [] := by
    intro nn
    induction nn with
    | zero => intro x139_7 x139_6 x139_5 x139_4 x139_3 x139_2 S h; exact False.elim h
    | succ nn ih =>
      intro x139_7 x139_6 x139_5 x139_4 x139_3 x139_2 S h
      rw [wX5_copy_b139] at h
      refine r_iload C 0 rfl dX5_copy_139 141 rfl ?_
      refine r_iload_n C 4 rfl dX5_copy_141 142 rfl ?_
      refine r_icmp_ge C 170 dX5_copy_142 145 rfl rfl (fun c27 => ?_) (fun c27 => ?_)
      · replace h := h.1 c27
        refine r_aload_n C 6 rfl dX5_copy_170 171 rfl ?_
        refine g_RX5_7 C dX5_copy_171 174 rfl ?_
        refine r_iload C 1 rfl dX5_copy_174 176 rfl ?_
        refine r_aload_n C 6 rfl dX5_copy_176 177 rfl ?_
        refine r_iload_n C 7 rfl dX5_copy_177 178 rfl ?_
        refine k_RX5_121 C (ctX5_fields hX hi  h) ⟨(Nat.le_of_ble_eq_true rfl), (Nat.le_of_ble_eq_true rfl)⟩ (Nat.le_of_ble_eq_true rfl) ⟨Nat.le_refl 0, Nat.le_refl 0⟩ dX5_copy_178 181 rfl (fun r28 S29 h => ?_)
        refine r_bipush C 8 rfl dX5_copy_181 183 rfl ?_
        refine r_iload C 2 rfl dX5_copy_183 185 rfl ?_
        refine r_iload_n C 5 rfl dX5_copy_185 186 rfl ?_
        refine r_icmp_le C 193 dX5_copy_186 189 rfl rfl (fun c30 => ?_) (fun c30 => ?_)
        · replace h := h.1 c30
          refine r_iload C 3 rfl dX5_copy_193 195 rfl ?_
          refine r_sub [(6, .int x139_6), (5, .int x139_5), (3, .int x139_3), (2, .int x139_2), (0, .ref (A 0)), (1, .int a1)] [1, 2, 4, 5, 6, 7] rfl ?_
          exact b195  x139_6 x139_5 x139_3 x139_2 x139_4 8 r28 x139_6  S29 h
        · replace h := h.2 c30
          refine r_iconst C 0 rfl dX5_copy_189 190 rfl ?_
          refine r_goto C 195 dX5_copy_190 rfl ?_
          refine r_sub [(6, .int x139_6), (5, .int x139_5), (3, .int x139_3), (2, .int x139_2), (0, .ref (A 0)), (1, .int a1)] [1, 2, 4, 5, 6, 7] rfl ?_
          exact b195  x139_6 x139_5 x139_3 x139_2 0 8 r28 x139_6  S29 h
      · replace h := h.2 c27
        refine r_aload_n C 6 rfl dX5_copy_145 146 rfl ?_
        refine g_RX5_7 C dX5_copy_146 149 rfl ?_
        refine r_iload C 1 rfl dX5_copy_149 151 rfl ?_
        refine r_iload C 0 rfl dX5_copy_151 153 rfl ?_
        refine r_iadd C dX5_copy_153 154 rfl ?_
        refine r_aload_n C 6 rfl dX5_copy_154 155 rfl ?_
        refine g_RX5_7 C dX5_copy_155 158 rfl ?_
        refine r_iload_n C 7 rfl dX5_copy_158 159 rfl ?_
        refine r_iload C 0 rfl dX5_copy_159 161 rfl ?_
        refine r_iadd C dX5_copy_161 162 rfl ?_
        refine i_M (k := 1) C (Nat.le_of_ble_eq_true rfl) (Nat.le_of_ble_eq_true rfl) h.1 dX5_copy_162 163 rfl ?_
        replace h := h.2
        refine s_M (k := 1) C (Nat.le_of_ble_eq_true rfl) (Nat.le_of_ble_eq_true rfl) h.1 dX5_copy_163 164 rfl (fun S31 e32 => ?_)
        replace h := h.2
        replace h := h S31 e32
        obtain ⟨x33, e34⟩ : ∃ z : Int32, z = x139_7 + 1 := ⟨_, rfl⟩
        replace h := h x33 e34
        refine r_iinc (n := 1) C 0 rfl x33 (by rw [e34]; rfl) [(7, .int x33), (6, .int x139_6), (5, .int x139_5), (4, .int x139_4), (3, .int x139_3), (2, .int x139_2), (0, .ref (A 0)), (1, .int a1)] (Nat.le_of_ble_eq_true rfl) rfl dX5_copy_164 167 rfl ?_
        refine r_goto C 139 dX5_copy_167 rfl ?_
        refine r_sub [(7, .int x33), (6, .int x139_6), (5, .int x139_5), (4, .int x139_4), (3, .int x139_3), (2, .int x139_2), (0, .ref (A 0)), (1, .int a1)] [0, 1, 2, 3, 4, 5, 6, 7] rfl ?_
        exact ih x33 x139_6 x139_5 x139_4 x139_3 x139_2  S31 h
  have b95 : ∀ (x95_4 : Int32) (x95_3 : Int32) (x95_2 : Int32) (y95_0 : Int32) (S : Nat → Nat → Int32), wX5_copy_b95 a1  x95_4 x95_3 x95_2 y95_0 S Q → J p l e { frames := 2, cells := 0, slots := 0, locals := 44 } s m args below meth c 0 0 Qf D 23 A (ceM A cI) Acc 8 S 95 [(4, .int x95_4), (3, .int x95_3), (2, .int x95_2), (0, .ref (A 0)), (1, .int a1)] [.int y95_0] := by
    intro  x95_4 x95_3 x95_2 y95_0 S h
    unfold wX5_copy_b95 at h
    refine r_istore C [(5, .int y95_0), (4, .int x95_4), (3, .int x95_3), (2, .int x95_2), (0, .ref (A 0)), (1, .int a1)] (Nat.le_of_ble_eq_true rfl) rfl dX5_copy_95 97 rfl ?_
    refine r_aload_n C 4 rfl dX5_copy_97 98 rfl ?_
    refine r_iload C 0 rfl dX5_copy_98 100 rfl ?_
    refine r_aload_n C 4 rfl dX5_copy_100 101 rfl ?_
    refine g_RX5_19 C dX5_copy_101 104 rfl ?_
    refine r_iload C 0 rfl dX5_copy_104 106 rfl ?_
    refine i_M (k := 4) C (Nat.le_of_ble_eq_true rfl) (Nat.le_of_ble_eq_true rfl) h.1 dX5_copy_106 107 rfl ?_
    replace h := h.2
    refine k_RX5_131 C (ctX5_begin hX hi  h) ⟨(Nat.le_of_ble_eq_true rfl), (Nat.le_of_ble_eq_true rfl)⟩ (Nat.le_of_ble_eq_true rfl) ⟨Nat.le_refl 0, Nat.le_refl 0⟩ dX5_copy_107 110 rfl (fun r20 S21 h => ?_)
    refine r_aload_n C 4 rfl dX5_copy_110 111 rfl ?_
    refine g_RX5_22 C dX5_copy_111 114 rfl ?_
    refine r_iload C 0 rfl dX5_copy_114 116 rfl ?_
    refine i_M (k := 5) C (Nat.le_of_ble_eq_true rfl) (Nat.le_of_ble_eq_true rfl) h.1 dX5_copy_116 117 rfl ?_
    replace h := h.2
    refine r_iadd C dX5_copy_117 118 rfl ?_
    refine r_topi (fun x22 e23 => ?_)
    replace h := h x22 e23
    refine r_istore C [(6, .int x22), (5, .int y95_0), (4, .int x95_4), (3, .int x95_3), (2, .int x95_2), (0, .ref (A 0)), (1, .int a1)] (Nat.le_of_ble_eq_true rfl) rfl dX5_copy_118 120 rfl ?_
    refine r_aload_n C 5 rfl dX5_copy_120 121 rfl ?_
    refine g_RX5_22 C dX5_copy_121 124 rfl ?_
    refine r_iload C 1 rfl dX5_copy_124 126 rfl ?_
    refine r_aload_n C 5 rfl dX5_copy_126 127 rfl ?_
    refine g_RX5_22 C dX5_copy_127 130 rfl ?_
    refine r_iload C 1 rfl dX5_copy_130 132 rfl ?_
    refine i_M (k := 5) C (Nat.le_of_ble_eq_true rfl) (Nat.le_of_ble_eq_true rfl) h.1 dX5_copy_132 133 rfl ?_
    replace h := h.2
    refine r_iload_n C 3 rfl dX5_copy_133 134 rfl ?_
    refine r_iadd C dX5_copy_134 135 rfl ?_
    refine s_M (k := 5) C (Nat.le_of_ble_eq_true rfl) (Nat.le_of_ble_eq_true rfl) h.1 dX5_copy_135 136 rfl (fun S24 e25 => ?_)
    replace h := h.2
    replace h := h S24 e25
    refine r_iconst C 0 rfl dX5_copy_136 137 rfl ?_
    refine r_istore C [(7, .int 0), (6, .int x22), (5, .int y95_0), (4, .int x95_4), (3, .int x95_3), (2, .int x95_2), (0, .ref (A 0)), (1, .int a1)] (Nat.le_of_ble_eq_true rfl) rfl dX5_copy_137 139 rfl ?_
    refine r_sub [(7, .int 0), (6, .int x22), (5, .int y95_0), (4, .int x95_4), (3, .int x95_3), (2, .int x95_2), (0, .ref (A 0)), (1, .int a1)] [0, 1, 2, 3, 4, 5, 6, 7] rfl ?_
    obtain ⟨f26, h⟩ := h
    exact b139  f26 0 x22 y95_0 x95_4 x95_3 x95_2  S24 h
  have b94 : ∀ (x94_4 : Int32) (x94_3 : Int32) (x94_2 : Int32) (S : Nat → Nat → Int32), wX5_copy_b94 a1  x94_4 x94_3 x94_2 S Q → J p l e { frames := 2, cells := 0, slots := 0, locals := 44 } s m args below meth c 0 0 Qf D 23 A (ceM A cI) Acc 8 S 94 [(4, .int x94_4), (3, .int x94_3), (2, .int x94_2), (0, .ref (A 0)), (1, .int a1)] [] := by
    intro  x94_4 x94_3 x94_2 S h
    unfold wX5_copy_b94 at h
    refine r_iload_n C 2 rfl dX5_copy_94 95 rfl ?_
    refine r_sub [(4, .int x94_4), (3, .int x94_3), (2, .int x94_2), (0, .ref (A 0)), (1, .int a1)] [0, 1, 2, 3, 4] rfl ?_
    exact b95  x94_4 x94_3 x94_2 x94_2  S h
  have b73 : ∀ (x73_4 : Int32) (x73_3 : Int32) (x73_2 : Int32) (y73_0 : Int32) (y73_2 : Int32) (S : Nat → Nat → Int32), wX5_copy_b73 a1  x73_4 x73_3 x73_2 y73_0 y73_2 S Q → J p l e { frames := 2, cells := 0, slots := 0, locals := 44 } s m args below meth c 0 0 Qf D 23 A (ceM A cI) Acc 8 S 73 [(4, .int x73_4), (3, .int x73_3), (2, .int x73_2), (0, .ref (A 0)), (1, .int a1)] [.int y73_0, .ref (A 3), .int y73_2] := by
    intro  x73_4 x73_3 x73_2 y73_0 y73_2 S h
    unfold wX5_copy_b73 at h
    refine i_M (k := 3) C (Nat.le_of_ble_eq_true rfl) (Nat.le_of_ble_eq_true rfl) h.1 dX5_copy_73 74 rfl ?_
    replace h := h.2
    refine r_icmp_le C 94 dX5_copy_74 77 rfl rfl (fun c16 => ?_) (fun c16 => ?_)
    · replace h := h.1 c16
      refine r_sub [(4, .int x73_4), (3, .int x73_3), (2, .int x73_2), (0, .ref (A 0)), (1, .int a1)] [0, 1, 2, 3, 4] rfl ?_
      exact b94  x73_4 x73_3 x73_2  S h
    · replace h := h.2 c16
      refine r_aload_n C 3 rfl dX5_copy_77 78 rfl ?_
      refine r_iload_n C 2 rfl dX5_copy_78 79 rfl ?_
      refine r_iconst C 1 rfl dX5_copy_79 80 rfl ?_
      refine r_iadd C dX5_copy_80 81 rfl ?_
      refine r_iload_n C 1 rfl dX5_copy_81 82 rfl ?_
      refine k_RX5_127 C (ctX5_fits hX hi  h) ⟨(Nat.le_of_ble_eq_true rfl), (Nat.le_of_ble_eq_true rfl)⟩ (Nat.le_of_ble_eq_true rfl) ⟨Nat.le_refl 0, Nat.le_refl 0⟩ dX5_copy_82 85 rfl (fun r17 S18 h => ?_)
      rcases bool_or r17 with c19 | c19
      · replace h := h.1 c19
        refine r_if_eqF C c19 94 dX5_copy_85 88 rfl rfl ?_
        refine r_sub [(4, .int x73_4), (3, .int x73_3), (2, .int x73_2), (0, .ref (A 0)), (1, .int a1)] [0, 1, 2, 3, 4] rfl ?_
        exact b94  x73_4 x73_3 x73_2  S18 h
      · replace h := h.2 c19
        refine r_if_eqT C c19 94 dX5_copy_85 88 rfl rfl ?_
        refine r_iload_n C 2 rfl dX5_copy_88 89 rfl ?_
        refine r_iconst C 1 rfl dX5_copy_89 90 rfl ?_
        refine r_iadd C dX5_copy_90 91 rfl ?_
        refine r_goto C 95 dX5_copy_91 rfl ?_
        refine r_sub [(4, .int x73_4), (3, .int x73_3), (2, .int x73_2), (0, .ref (A 0)), (1, .int a1)] [0, 1, 2, 3, 4] rfl ?_
        exact b95  x73_4 x73_3 x73_2 (x73_2 + 1)  S18 h
  have b36 : ∀ (x36_3 : Int32) (x36_2 : Int32) (y36_0 : Int32) (S : Nat → Nat → Int32), wX5_copy_b36 a1  x36_3 x36_2 y36_0 S Q → J p l e { frames := 2, cells := 0, slots := 0, locals := 44 } s m args below meth c 0 0 Qf D 23 A (ceM A cI) Acc 8 S 36 [(3, .int x36_3), (2, .int x36_2), (0, .ref (A 0)), (1, .int a1)] [.int y36_0] := by
    intro  x36_3 x36_2 y36_0 S h
    unfold wX5_copy_b36 at h
    refine r_istore C [(4, .int y36_0), (3, .int x36_3), (2, .int x36_2), (0, .ref (A 0)), (1, .int a1)] (Nat.le_of_ble_eq_true rfl) rfl dX5_copy_36 38 rfl ?_
    refine r_aload_n C 3 rfl dX5_copy_38 39 rfl ?_
    refine g_RX5_70 C dX5_copy_39 42 rfl ?_
    refine r_iload_n C 2 rfl dX5_copy_42 43 rfl ?_
    refine r_aload_n C 3 rfl dX5_copy_43 44 rfl ?_
    refine g_RX5_70 C dX5_copy_44 47 rfl ?_
    refine r_iload_n C 2 rfl dX5_copy_47 48 rfl ?_
    refine i_M (k := 21) C (Nat.le_of_ble_eq_true rfl) (Nat.le_of_ble_eq_true rfl) h.1 dX5_copy_48 49 rfl ?_
    replace h := h.2
    refine r_iload_n C 1 rfl dX5_copy_49 50 rfl ?_
    refine r_isub C dX5_copy_50 51 rfl ?_
    refine s_M (k := 21) C (Nat.le_of_ble_eq_true rfl) (Nat.le_of_ble_eq_true rfl) h.1 dX5_copy_51 52 rfl (fun S12 e13 => ?_)
    replace h := h.2
    replace h := h S12 e13
    refine r_iload_n C 2 rfl dX5_copy_52 53 rfl ?_
    refine r_iconst C 2 rfl dX5_copy_53 54 rfl ?_
    refine r_icmp_ge C 94 dX5_copy_54 57 rfl rfl (fun c14 => ?_) (fun c14 => ?_)
    · replace h := h.1 c14
      refine r_sub [(4, .int y36_0), (3, .int x36_3), (2, .int x36_2), (0, .ref (A 0)), (1, .int a1)] [0, 1, 2, 3, 4] rfl ?_
      exact b94  y36_0 x36_3 x36_2  S12 h
    · replace h := h.2 c14
      refine r_iload C 0 rfl dX5_copy_57 59 rfl ?_
      refine r_aload_n C 3 rfl dX5_copy_59 60 rfl ?_
      refine g_RX5_16 C dX5_copy_60 63 rfl ?_
      refine r_iload_n C 2 rfl dX5_copy_63 64 rfl ?_
      refine r_iconst C 2 rfl dX5_copy_64 65 rfl ?_
      refine r_icmp_ge C 72 dX5_copy_65 68 rfl rfl (fun c15 => ?_) (fun c15 => ?_)
      · replace h := h.1 c15
        refine r_iconst C 0 rfl dX5_copy_72 73 rfl ?_
        refine r_sub [(4, .int y36_0), (3, .int x36_3), (2, .int x36_2), (0, .ref (A 0)), (1, .int a1)] [0, 1, 2, 3, 4] rfl ?_
        exact b73  y36_0 x36_3 x36_2 0 y36_0  S12 h
      · replace h := h.2 c15
        refine r_iload_n C 2 rfl dX5_copy_68 69 rfl ?_
        refine r_goto C 73 dX5_copy_69 rfl ?_
        refine r_sub [(4, .int y36_0), (3, .int x36_3), (2, .int x36_2), (0, .ref (A 0)), (1, .int a1)] [0, 1, 2, 3, 4] rfl ?_
        exact b73  y36_0 x36_3 x36_2 x36_2 y36_0  S12 h
  unfold wX5_copy at h
  refine r_aload_n C 0 rfl dX5_copy_0 1 rfl ?_
  refine r_iload_n C 1 rfl dX5_copy_1 2 rfl ?_
  refine k_RX5_98 C (ctX5_generation hX hi  h) ⟨(Nat.le_of_ble_eq_true rfl), (Nat.le_of_ble_eq_true rfl)⟩ (Nat.le_of_ble_eq_true rfl) ⟨Nat.le_refl 0, Nat.le_refl 0⟩ dX5_copy_2 5 rfl (fun r1 S2 h => ?_)
  refine r_istore_n C [(2, .int r1), (0, .ref (A 0)), (1, .int a1)] (Nat.le_of_ble_eq_true rfl) rfl dX5_copy_5 6 rfl ?_
  refine r_aload_n C 1 rfl dX5_copy_6 7 rfl ?_
  refine r_iload_n C 2 rfl dX5_copy_7 8 rfl ?_
  refine k_RX5_121 C (ctX5_fields hX hi  h) ⟨(Nat.le_of_ble_eq_true rfl), (Nat.le_of_ble_eq_true rfl)⟩ (Nat.le_of_ble_eq_true rfl) ⟨Nat.le_refl 0, Nat.le_refl 0⟩ dX5_copy_8 11 rfl (fun r3 S4 h => ?_)
  refine r_iconst C 2 rfl dX5_copy_11 12 rfl ?_
  refine r_iadd C dX5_copy_12 13 rfl ?_
  refine r_topi (fun x5 e6 => ?_)
  replace h := h x5 e6
  refine r_istore_n C [(3, .int x5), (2, .int r1), (0, .ref (A 0)), (1, .int a1)] (Nat.le_of_ble_eq_true rfl) rfl dX5_copy_13 14 rfl ?_
  refine r_aload_n C 2 rfl dX5_copy_14 15 rfl ?_
  refine r_iload_n C 3 rfl dX5_copy_15 16 rfl ?_
  refine k_RX5_124 C (ctX5_age hX hi  h) ⟨(Nat.le_of_ble_eq_true rfl), (Nat.le_of_ble_eq_true rfl)⟩ (Nat.le_of_ble_eq_true rfl) ⟨Nat.le_refl 0, Nat.le_refl 0⟩ dX5_copy_16 19 rfl (fun r7 S8 h => ?_)
  refine r_bipush C 7 rfl dX5_copy_19 21 rfl ?_
  refine r_icmp_ge C 34 dX5_copy_21 24 rfl rfl (fun c9 => ?_) (fun c9 => ?_)
  · replace h := h.1 c9
    refine r_bipush C 7 rfl dX5_copy_34 36 rfl ?_
    refine r_sub [(3, .int x5), (2, .int r1), (0, .ref (A 0)), (1, .int a1)] [0, 1, 2, 3] rfl ?_
    exact b36  x5 r1 7  S8 h
  · replace h := h.2 c9
    refine r_aload_n C 2 rfl dX5_copy_24 25 rfl ?_
    refine r_iload_n C 3 rfl dX5_copy_25 26 rfl ?_
    refine k_RX5_124 C (ctX5_age hX hi  h) ⟨(Nat.le_of_ble_eq_true rfl), (Nat.le_of_ble_eq_true rfl)⟩ (Nat.le_of_ble_eq_true rfl) ⟨Nat.le_refl 0, Nat.le_refl 0⟩ dX5_copy_26 29 rfl (fun r10 S11 h => ?_)
    refine r_iconst C 1 rfl dX5_copy_29 30 rfl ?_
    refine r_iadd C dX5_copy_30 31 rfl ?_
    refine r_goto C 36 dX5_copy_31 rfl ?_
    refine r_sub [(3, .int x5), (2, .int r1), (0, .ref (A 0)), (1, .int a1)] [0, 1, 2, 3] rfl ?_
    exact b36  x5 r1 (r10 + 1)  S11 h
set_option maxRecDepth 100000 in
set_option maxHeartbeats 4000000 in
theorem ctX5_bring {l : Launch} {D : va_G} {A : Nat → Nat} {cI : ClassId} {X : (Nat → Prop) → State → Heap → Prop} {a1 : Int32} {S : Nat → Nat → Int32} {Q : Int32 → (Nat → Nat → Int32) → Prop} (hX : StX X) (hi : Apart 23 A)  (h : wX5_bring a1 S Q) : Ct l D (tyM cI) 23 A (ceM A cI) X yX5_bring cX5_bring 2 (some .int) 3 71 [.ref (A 0), .int a1] S rI Q := by
  refine Ct.of (by decide +kernel) hX hi [(0, .ref (A 0)), (1, .int a1)] rfl (Nat.le_of_ble_eq_true rfl) ?_
  intro p e s m args below meth c Acc C hr hlk Qf hE
  unfold wX5_bring at h
  refine r_aload_n C 0 rfl dX5_bring_0 1 rfl ?_
  refine r_iload_n C 1 rfl dX5_bring_1 2 rfl ?_
  refine k_RX5_141 C (ctX5_isFrom hX hi  h) ⟨(Nat.le_of_ble_eq_true rfl), (Nat.le_of_ble_eq_true rfl)⟩ (Nat.le_of_ble_eq_true rfl) ⟨Nat.le_refl 0, Nat.le_refl 0⟩ dX5_bring_2 5 rfl (fun r1 S2 h => ?_)
  rcases bool_or r1 with c3 | c3
  · replace h := h.1 c3
    refine r_if_neF C c3 10 dX5_bring_5 8 rfl rfl ?_
    refine r_iload_n C 1 rfl dX5_bring_8 9 rfl ?_
    exact r_iret C hE hr hlk dX5_bring_9 h
  · replace h := h.2 c3
    refine r_if_neT C c3 10 dX5_bring_5 8 rfl rfl ?_
    refine r_aload_n C 0 rfl dX5_bring_10 11 rfl ?_
    refine g_RX5_13 C dX5_bring_11 14 rfl ?_
    refine r_iload_n C 1 rfl dX5_bring_14 15 rfl ?_
    refine i_M (k := 2) C (Nat.le_of_ble_eq_true rfl) (Nat.le_of_ble_eq_true rfl) h.1 dX5_bring_15 16 rfl ?_
    replace h := h.2
    refine r_if_eq C 28 dX5_bring_16 19 rfl rfl (fun c4 => ?_) (fun c4 => ?_)
    · replace h := h.1 c4
      refine r_aload_n C 0 rfl dX5_bring_28 29 rfl ?_
      refine r_iload_n C 1 rfl dX5_bring_29 30 rfl ?_
      refine k_RX5_145 C (ctX5_copy hX hi  h) ⟨(Nat.le_of_ble_eq_true rfl), (Nat.le_of_ble_eq_true rfl)⟩ (Nat.le_of_ble_eq_true rfl) ⟨Nat.le_refl 0, Nat.le_refl 0⟩ dX5_bring_30 33 rfl (fun r5 S6 h => ?_)
      exact r_iret C hE hr hlk dX5_bring_33 h
    · replace h := h.2 c4
      refine r_aload_n C 0 rfl dX5_bring_19 20 rfl ?_
      refine g_RX5_13 C dX5_bring_20 23 rfl ?_
      refine r_iload_n C 1 rfl dX5_bring_23 24 rfl ?_
      refine i_M (k := 2) C (Nat.le_of_ble_eq_true rfl) (Nat.le_of_ble_eq_true rfl) h.1 dX5_bring_24 25 rfl ?_
      replace h := h.2
      refine r_goto C 33 dX5_bring_25 rfl ?_
      exact r_iret C hE hr hlk dX5_bring_33 h
set_option maxRecDepth 100000 in
set_option maxHeartbeats 4000000 in
theorem ctX5_scan {l : Launch} {D : va_G} {A : Nat → Nat} {cI : ClassId} {X : (Nat → Prop) → State → Heap → Prop}  {S : Nat → Nat → Int32} {Q : Unit → (Nat → Nat → Int32) → Prop} (hX : StX X) (hi : Apart 23 A)  (h : wX5_scan  S Q) : Ct l D (tyM cI) 23 A (ceM A cI) X yX5_scan cX5_scan 5 none 4 92 [.ref (A 0)] S rU Q := by
  refine Ct.of (by decide +kernel) hX hi [(0, .ref (A 0))] rfl (Nat.le_of_ble_eq_true rfl) ?_
  intro p e s m args below meth c Acc C hr hlk Qf hE
  have b58 : ∀ (K2 : Int32 → (Nat → Nat → Int32) → Prop) (hK2 : ∀ (x2_1 : Int32) (S : Nat → Nat → Int32), K2 x2_1 S → J p l e { frames := 4, cells := 0, slots := 0, locals := 92 } s m args below meth c 0 0 Qf D 23 A (ceM A cI) Acc 5 S 2 [(1, .int x2_1), (0, .ref (A 0))] []) (nn : Nat) (x58_4 : Int32) (x58_3 : Int32) (x58_2 : Int32) (x58_1 : Int32) (S : Nat → Nat → Int32), wX5_scan_b58  K2 nn x58_4 x58_3 x58_2 x58_1 S Q → J p l e { frames := 4, cells := 0, slots := 0, locals := 92 } s m args below meth c 0 0 Qf D 23 A (ceM A cI) Acc 5 S 58 [(4, .int x58_4), (3, .int x58_3), (2, .int x58_2), (1, .int x58_1), (0, .ref (A 0))] [] := by
    intro K2 hK2
    intro nn
    induction nn with
    | zero => intro x58_4 x58_3 x58_2 x58_1 S h; exact False.elim h
    | succ nn ih =>
      intro x58_4 x58_3 x58_2 x58_1 S h
      rw [wX5_scan_b58] at h
      refine r_iload C 0 rfl dX5_scan_58 60 rfl ?_
      refine r_iload_n C 2 rfl dX5_scan_60 61 rfl ?_
      refine r_iconst C 2 rfl dX5_scan_61 62 rfl ?_
      refine r_iadd C dX5_scan_62 63 rfl ?_
      refine r_iload_n C 1 rfl dX5_scan_63 64 rfl ?_
      refine r_iadd C dX5_scan_64 65 rfl ?_
      refine r_icmp_ge C 98 dX5_scan_65 68 rfl rfl (fun c15 => ?_) (fun c15 => ?_)
      · replace h := h.1 c15
        refine r_aload_n C 4 rfl dX5_scan_98 99 rfl ?_
        refine g_RX5_73 C dX5_scan_99 102 rfl ?_
        refine r_iload_n C 3 rfl dX5_scan_102 103 rfl ?_
        refine r_aload_n C 4 rfl dX5_scan_103 104 rfl ?_
        refine g_RX5_73 C dX5_scan_104 107 rfl ?_
        refine r_iload_n C 3 rfl dX5_scan_107 108 rfl ?_
        refine i_M (k := 22) C (Nat.le_of_ble_eq_true rfl) (Nat.le_of_ble_eq_true rfl) h.1 dX5_scan_108 109 rfl ?_
        replace h := h.2
        refine r_iload_n C 1 rfl dX5_scan_109 110 rfl ?_
        refine r_iadd C dX5_scan_110 111 rfl ?_
        refine r_iconst C 2 rfl dX5_scan_111 112 rfl ?_
        refine r_iadd C dX5_scan_112 113 rfl ?_
        refine s_M (k := 22) C (Nat.le_of_ble_eq_true rfl) (Nat.le_of_ble_eq_true rfl) h.1 dX5_scan_113 114 rfl (fun S16 e17 => ?_)
        replace h := h.2
        replace h := h S16 e17
        refine r_iconst C 0 rfl dX5_scan_114 115 rfl ?_
        refine r_istore_n C [(1, .int 0), (4, .int x58_4), (3, .int x58_3), (2, .int x58_2), (0, .ref (A 0))] (Nat.le_of_ble_eq_true rfl) rfl dX5_scan_115 116 rfl ?_
        refine r_goto C 2 dX5_scan_116 rfl ?_
        refine r_sub [(1, .int 0), (0, .ref (A 0))] [0, 4] rfl ?_
        exact hK2 0  S16 h
      · replace h := h.2 c15
        refine r_aload_n C 4 rfl dX5_scan_68 69 rfl ?_
        refine g_RX5_7 C dX5_scan_69 72 rfl ?_
        refine r_iload C 0 rfl dX5_scan_72 74 rfl ?_
        refine r_aload_n C 4 rfl dX5_scan_74 75 rfl ?_
        refine r_aload_n C 4 rfl dX5_scan_75 76 rfl ?_
        refine g_RX5_7 C dX5_scan_76 79 rfl ?_
        refine r_iload C 0 rfl dX5_scan_79 81 rfl ?_
        refine i_M (k := 1) C (Nat.le_of_ble_eq_true rfl) (Nat.le_of_ble_eq_true rfl) h.1 dX5_scan_81 82 rfl ?_
        replace h := h.2
        refine k_RX5_148 C (ctX5_bring hX hi  h) ⟨(Nat.le_of_ble_eq_true rfl), (Nat.le_of_ble_eq_true rfl)⟩ (Nat.le_of_ble_eq_true rfl) ⟨Nat.le_refl 0, Nat.le_refl 0⟩ dX5_scan_82 85 rfl (fun r18 S19 h => ?_)
        refine s_M (k := 1) C (Nat.le_of_ble_eq_true rfl) (Nat.le_of_ble_eq_true rfl) h.1 dX5_scan_85 86 rfl (fun S20 e21 => ?_)
        replace h := h.2
        replace h := h S20 e21
        refine r_aload_n C 4 rfl dX5_scan_86 87 rfl ?_
        refine r_iload C 0 rfl dX5_scan_87 89 rfl ?_
        refine k_RX5_108 C (ctX5_rememberIf hX hi  h) ⟨(Nat.le_of_ble_eq_true rfl), (Nat.le_of_ble_eq_true rfl)⟩ (Nat.le_of_ble_eq_true rfl) ⟨Nat.le_refl 0, Nat.le_refl 0⟩ dX5_scan_89 92 rfl (fun S23 h => ?_)
        obtain ⟨x24, e25⟩ : ∃ z : Int32, z = x58_4 + 1 := ⟨_, rfl⟩
        replace h := h x24 e25
        refine r_iinc (n := 1) C 0 rfl x24 (by rw [e25]; rfl) [(4, .int x24), (3, .int x58_3), (2, .int x58_2), (1, .int x58_1), (0, .ref (A 0))] (Nat.le_of_ble_eq_true rfl) rfl dX5_scan_92 95 rfl ?_
        refine r_goto C 58 dX5_scan_95 rfl ?_
        refine r_sub [(4, .int x24), (3, .int x58_3), (2, .int x58_2), (1, .int x58_1), (0, .ref (A 0))] [0, 1, 2, 3, 4] rfl ?_
        exact ih x24 x58_3 x58_2 x58_1  S23 h
  have b2 : ∀ (nn : Nat) (x2_1 : Int32) (S : Nat → Nat → Int32), wX5_scan_b2   nn x2_1 S Q → J p l e { frames := 4, cells := 0, slots := 0, locals := 92 } s m args below meth c 0 0 Qf D 23 A (ceM A cI) Acc 5 S 2 [(1, .int x2_1), (0, .ref (A 0))] [] := by
    intro nn
    induction nn with
    | zero => intro x2_1 S h; exact False.elim h
    | succ nn ih =>
      intro x2_1 S h
      rw [wX5_scan_b2] at h
      refine r_iload_n C 0 rfl dX5_scan_2 3 rfl ?_
      refine r_iconst C 3 rfl dX5_scan_3 4 rfl ?_
      refine r_icmp_ge C 119 dX5_scan_4 7 rfl rfl (fun c2 => ?_) (fun c2 => ?_)
      · replace h := h.1 c2
        exact r_vret C hE hr hlk dX5_scan_119 h
      · replace h := h.2 c2
        refine r_aload_n C 1 rfl dX5_scan_7 8 rfl ?_
        refine g_RX5_73 C dX5_scan_8 11 rfl ?_
        refine r_iload_n C 0 rfl dX5_scan_11 12 rfl ?_
        refine i_M (k := 22) C (Nat.le_of_ble_eq_true rfl) (Nat.le_of_ble_eq_true rfl) h.1 dX5_scan_12 13 rfl ?_
        replace h := h.2
        refine r_aload_n C 1 rfl dX5_scan_13 14 rfl ?_
        refine g_RX5_22 C dX5_scan_14 17 rfl ?_
        refine r_iload_n C 0 rfl dX5_scan_17 18 rfl ?_
        refine i_M (k := 5) C (Nat.le_of_ble_eq_true rfl) (Nat.le_of_ble_eq_true rfl) h.1 dX5_scan_18 19 rfl ?_
        replace h := h.2
        refine r_icmp_ne C 28 dX5_scan_19 22 rfl rfl (fun c3 => ?_) (fun c3 => ?_)
        · replace h := h.1 c3
          obtain ⟨x4, e5⟩ : ∃ z : Int32, z = x2_1 + 1 := ⟨_, rfl⟩
          replace h := h x4 e5
          refine r_iinc (n := 1) C 0 rfl x4 (by rw [e5]; rfl) [(1, .int x4), (0, .ref (A 0))] (Nat.le_of_ble_eq_true rfl) rfl dX5_scan_22 25 rfl ?_
          refine r_goto C 2 dX5_scan_25 rfl ?_
          refine r_sub [(1, .int x4), (0, .ref (A 0))] [0, 1] rfl ?_
          exact ih x4  S h
        · replace h := h.2 c3
          refine r_aload_n C 1 rfl dX5_scan_28 29 rfl ?_
          refine r_iload_n C 0 rfl dX5_scan_29 30 rfl ?_
          refine r_aload_n C 1 rfl dX5_scan_30 31 rfl ?_
          refine g_RX5_19 C dX5_scan_31 34 rfl ?_
          refine r_iload_n C 0 rfl dX5_scan_34 35 rfl ?_
          refine i_M (k := 4) C (Nat.le_of_ble_eq_true rfl) (Nat.le_of_ble_eq_true rfl) h.1 dX5_scan_35 36 rfl ?_
          replace h := h.2
          refine k_RX5_131 C (ctX5_begin hX hi  h) ⟨(Nat.le_of_ble_eq_true rfl), (Nat.le_of_ble_eq_true rfl)⟩ (Nat.le_of_ble_eq_true rfl) ⟨Nat.le_refl 0, Nat.le_refl 0⟩ dX5_scan_36 39 rfl (fun r6 S7 h => ?_)
          refine r_aload_n C 1 rfl dX5_scan_39 40 rfl ?_
          refine g_RX5_73 C dX5_scan_40 43 rfl ?_
          refine r_iload_n C 0 rfl dX5_scan_43 44 rfl ?_
          refine i_M (k := 22) C (Nat.le_of_ble_eq_true rfl) (Nat.le_of_ble_eq_true rfl) h.1 dX5_scan_44 45 rfl ?_
          replace h := h.2
          refine r_iadd C dX5_scan_45 46 rfl ?_
          refine r_topi (fun x8 e9 => ?_)
          replace h := h x8 e9
          refine r_istore_n C [(2, .int x8), (1, .int x2_1), (0, .ref (A 0))] (Nat.le_of_ble_eq_true rfl) rfl dX5_scan_46 47 rfl ?_
          refine r_aload_n C 2 rfl dX5_scan_47 48 rfl ?_
          refine r_iload_n C 0 rfl dX5_scan_48 49 rfl ?_
          refine k_RX5_121 C (ctX5_fields hX hi  h) ⟨(Nat.le_of_ble_eq_true rfl), (Nat.le_of_ble_eq_true rfl)⟩ (Nat.le_of_ble_eq_true rfl) ⟨Nat.le_refl 0, Nat.le_refl 0⟩ dX5_scan_49 52 rfl (fun r10 S11 h => ?_)
          refine r_istore_n C [(3, .int r10), (2, .int x8), (1, .int x2_1), (0, .ref (A 0))] (Nat.le_of_ble_eq_true rfl) rfl dX5_scan_52 53 rfl ?_
          refine r_iload_n C 1 rfl dX5_scan_53 54 rfl ?_
          refine r_iconst C 2 rfl dX5_scan_54 55 rfl ?_
          refine r_iadd C dX5_scan_55 56 rfl ?_
          refine r_topi (fun x12 e13 => ?_)
          replace h := h x12 e13
          refine r_istore C [(4, .int x12), (3, .int r10), (2, .int x8), (1, .int x2_1), (0, .ref (A 0))] (Nat.le_of_ble_eq_true rfl) rfl dX5_scan_56 58 rfl ?_
          refine r_sub [(4, .int x12), (3, .int r10), (2, .int x8), (1, .int x2_1), (0, .ref (A 0))] [0, 1, 2, 3, 4] rfl ?_
          obtain ⟨f14, h⟩ := h
          exact b58 (fun z0 T => wX5_scan_b2   nn z0 T Q) ih f14 x12 r10 x8 x2_1  S11 h
  unfold wX5_scan at h
  refine r_iconst C 0 rfl dX5_scan_0 1 rfl ?_
  refine r_istore_n C [(1, .int 0), (0, .ref (A 0))] (Nat.le_of_ble_eq_true rfl) rfl dX5_scan_1 2 rfl ?_
  refine r_sub [(1, .int 0), (0, .ref (A 0))] [0, 1] rfl ?_
  obtain ⟨f1, h⟩ := h
  exact b2  f1 0  S h
set_option maxRecDepth 100000 in
set_option maxHeartbeats 4000000 in
theorem ctX5_bringRows {l : Launch} {D : va_G} {A : Nat → Nat} {cI : ClassId} {X : (Nat → Prop) → State → Heap → Prop} {a1 : Int32} {S : Nat → Nat → Int32} {Q : Unit → (Nat → Nat → Int32) → Prop} (hX : StX X) (hi : Apart 23 A)  (h : wX5_bringRows a1 S Q) : Ct l D (tyM cI) 23 A (ceM A cI) X yX5_bringRows cX5_bringRows 5 none 4 92 [.ref (A 0), .int a1] S rU Q := by
  refine Ct.of (by decide +kernel) hX hi [(0, .ref (A 0)), (1, .int a1)] rfl (Nat.le_of_ble_eq_true rfl) ?_
  intro p e s m args below meth c Acc C hr hlk Qf hE
  have b67 : ∀ (K2 : Int32 → (Nat → Nat → Int32) → Prop) (hK2 : ∀ (x2_2 : Int32) (S : Nat → Nat → Int32), K2 x2_2 S → J p l e { frames := 4, cells := 0, slots := 0, locals := 92 } s m args below meth c 0 0 Qf D 23 A (ceM A cI) Acc 5 S 2 [(2, .int x2_2), (0, .ref (A 0)), (1, .int a1)] []) (K9 : Int32 → Int32 → (Nat → Nat → Int32) → Prop) (hK9 : ∀ (x9_3 : Int32) (x9_2 : Int32) (S : Nat → Nat → Int32), K9 x9_3 x9_2 S → J p l e { frames := 4, cells := 0, slots := 0, locals := 92 } s m args below meth c 0 0 Qf D 23 A (ceM A cI) Acc 5 S 9 [(3, .int x9_3), (2, .int x9_2), (0, .ref (A 0)), (1, .int a1)] []) (x67_3 : Int32) (x67_2 : Int32) (S : Nat → Nat → Int32), wX5_bringRows_b67 a1 K2 K9 x67_3 x67_2 S Q → J p l e { frames := 4, cells := 0, slots := 0, locals := 92 } s m args below meth c 0 0 Qf D 23 A (ceM A cI) Acc 5 S 67 [(3, .int x67_3), (2, .int x67_2), (0, .ref (A 0)), (1, .int a1)] [] := by
    intro K2 hK2 K9 hK9 x67_3 x67_2 S h
    unfold wX5_bringRows_b67 at h
    obtain ⟨x18, e19⟩ : ∃ z : Int32, z = x67_3 + 1 := ⟨_, rfl⟩
    replace h := h x18 e19
    refine r_iinc (n := 1) C 0 rfl x18 (by rw [e19]; rfl) [(3, .int x18), (2, .int x67_2), (0, .ref (A 0)), (1, .int a1)] (Nat.le_of_ble_eq_true rfl) rfl dX5_bringRows_67 70 rfl ?_
    refine r_goto C 9 dX5_bringRows_70 rfl ?_
    refine r_sub [(3, .int x18), (2, .int x67_2), (0, .ref (A 0)), (1, .int a1)] [0, 1, 2, 3] rfl ?_
    exact hK9 x18 x67_2  S h
  have b9 : ∀ (K2 : Int32 → (Nat → Nat → Int32) → Prop) (hK2 : ∀ (x2_2 : Int32) (S : Nat → Nat → Int32), K2 x2_2 S → J p l e { frames := 4, cells := 0, slots := 0, locals := 92 } s m args below meth c 0 0 Qf D 23 A (ceM A cI) Acc 5 S 2 [(2, .int x2_2), (0, .ref (A 0)), (1, .int a1)] []) (nn : Nat) (x9_3 : Int32) (x9_2 : Int32) (S : Nat → Nat → Int32), wX5_bringRows_b9 a1 K2 nn x9_3 x9_2 S Q → J p l e { frames := 4, cells := 0, slots := 0, locals := 92 } s m args below meth c 0 0 Qf D 23 A (ceM A cI) Acc 5 S 9 [(3, .int x9_3), (2, .int x9_2), (0, .ref (A 0)), (1, .int a1)] [] := by
    intro K2 hK2
    intro nn
    induction nn with
    | zero => intro x9_3 x9_2 S h; exact False.elim h
    | succ nn ih =>
      intro x9_3 x9_2 S h
      rw [wX5_bringRows_b9] at h
      refine r_iload_n C 0 rfl dX5_bringRows_9 10 rfl ?_
      refine r_aload_n C 2 rfl dX5_bringRows_10 11 rfl ?_
      refine g_RX5_49 C dX5_bringRows_11 14 rfl ?_
      refine r_iload_n C 1 rfl dX5_bringRows_14 15 rfl ?_
      refine i_M (k := 14) C (Nat.le_of_ble_eq_true rfl) (Nat.le_of_ble_eq_true rfl) h.1 dX5_bringRows_15 16 rfl ?_
      replace h := h.2
      refine r_icmp_ge C 73 dX5_bringRows_16 19 rfl rfl (fun c4 => ?_) (fun c4 => ?_)
      · replace h := h.1 c4
        obtain ⟨x5, e6⟩ : ∃ z : Int32, z = x9_2 + 1 := ⟨_, rfl⟩
        replace h := h x5 e6
        refine r_iinc (n := 1) C 1 rfl x5 (by rw [e6]; rfl) [(2, .int x5), (3, .int x9_3), (0, .ref (A 0)), (1, .int a1)] (Nat.le_of_ble_eq_true rfl) rfl dX5_bringRows_73 76 rfl ?_
        refine r_goto C 2 dX5_bringRows_76 rfl ?_
        refine r_sub [(2, .int x5), (0, .ref (A 0)), (1, .int a1)] [0, 2, 3] rfl ?_
        exact hK2 x5  S h
      · replace h := h.2 c4
        refine r_aload_n C 2 rfl dX5_bringRows_19 20 rfl ?_
        refine g_RX5_52 C dX5_bringRows_20 23 rfl ?_
        refine r_sipush C 1000 rfl dX5_bringRows_23 26 rfl ?_
        refine r_iload_n C 1 rfl dX5_bringRows_26 27 rfl ?_
        refine r_imul C dX5_bringRows_27 28 rfl ?_
        refine r_iload_n C 0 rfl dX5_bringRows_28 29 rfl ?_
        refine r_iadd C dX5_bringRows_29 30 rfl ?_
        refine i_M (k := 15) C (Nat.le_of_ble_eq_true rfl) (Nat.le_of_ble_eq_true rfl) h.1 dX5_bringRows_30 31 rfl ?_
        replace h := h.2
        refine r_topi (fun x7 e8 => ?_)
        replace h := h x7 e8
        refine r_istore C [(4, .int x7), (3, .int x9_3), (2, .int x9_2), (0, .ref (A 0)), (1, .int a1)] (Nat.le_of_ble_eq_true rfl) rfl dX5_bringRows_31 33 rfl ?_
        refine r_aload_n C 3 rfl dX5_bringRows_33 34 rfl ?_
        refine r_iload C 0 rfl dX5_bringRows_34 36 rfl ?_
        refine k_RX5_98 C (ctX5_generation hX hi  h) ⟨(Nat.le_of_ble_eq_true rfl), (Nat.le_of_ble_eq_true rfl)⟩ (Nat.le_of_ble_eq_true rfl) ⟨Nat.le_refl 0, Nat.le_refl 0⟩ dX5_bringRows_36 39 rfl (fun r9 S10 h => ?_)
        refine r_iload_n C 4 rfl dX5_bringRows_39 40 rfl ?_
        refine r_icmp_le C 67 dX5_bringRows_40 43 rfl rfl (fun c11 => ?_) (fun c11 => ?_)
        · replace h := h.1 c11
          refine r_sub [(3, .int x9_3), (2, .int x9_2), (0, .ref (A 0)), (1, .int a1)] [1, 2, 3, 4] rfl ?_
          exact b67 K2 hK2 (fun z0 z1 T => wX5_bringRows_b9 a1 K2 nn z0 z1 T Q) ih x9_3 x9_2  S10 h
        · replace h := h.2 c11
          refine r_aload_n C 3 rfl dX5_bringRows_43 44 rfl ?_
          refine g_RX5_7 C dX5_bringRows_44 47 rfl ?_
          refine r_iload C 0 rfl dX5_bringRows_47 49 rfl ?_
          refine r_aload_n C 3 rfl dX5_bringRows_49 50 rfl ?_
          refine r_aload_n C 3 rfl dX5_bringRows_50 51 rfl ?_
          refine g_RX5_7 C dX5_bringRows_51 54 rfl ?_
          refine r_iload C 0 rfl dX5_bringRows_54 56 rfl ?_
          refine i_M (k := 1) C (Nat.le_of_ble_eq_true rfl) (Nat.le_of_ble_eq_true rfl) h.1 dX5_bringRows_56 57 rfl ?_
          replace h := h.2
          refine k_RX5_148 C (ctX5_bring hX hi  h) ⟨(Nat.le_of_ble_eq_true rfl), (Nat.le_of_ble_eq_true rfl)⟩ (Nat.le_of_ble_eq_true rfl) ⟨Nat.le_refl 0, Nat.le_refl 0⟩ dX5_bringRows_57 60 rfl (fun r12 S13 h => ?_)
          refine s_M (k := 1) C (Nat.le_of_ble_eq_true rfl) (Nat.le_of_ble_eq_true rfl) h.1 dX5_bringRows_60 61 rfl (fun S14 e15 => ?_)
          replace h := h.2
          replace h := h S14 e15
          refine r_aload_n C 3 rfl dX5_bringRows_61 62 rfl ?_
          refine r_iload C 0 rfl dX5_bringRows_62 64 rfl ?_
          refine k_RX5_108 C (ctX5_rememberIf hX hi  h) ⟨(Nat.le_of_ble_eq_true rfl), (Nat.le_of_ble_eq_true rfl)⟩ (Nat.le_of_ble_eq_true rfl) ⟨Nat.le_refl 0, Nat.le_refl 0⟩ dX5_bringRows_64 67 rfl (fun S17 h => ?_)
          refine r_sub [(3, .int x9_3), (2, .int x9_2), (0, .ref (A 0)), (1, .int a1)] [1, 2, 3, 4] rfl ?_
          exact b67 K2 hK2 (fun z0 z1 T => wX5_bringRows_b9 a1 K2 nn z0 z1 T Q) ih x9_3 x9_2  S17 h
  have b2 : ∀ (nn : Nat) (x2_2 : Int32) (S : Nat → Nat → Int32), wX5_bringRows_b2 a1  nn x2_2 S Q → J p l e { frames := 4, cells := 0, slots := 0, locals := 92 } s m args below meth c 0 0 Qf D 23 A (ceM A cI) Acc 5 S 2 [(2, .int x2_2), (0, .ref (A 0)), (1, .int a1)] [] := by
    intro nn
    induction nn with
    | zero => intro x2_2 S h; exact False.elim h
    | succ nn ih =>
      intro x2_2 S h
      rw [wX5_bringRows_b2] at h
      refine r_iload_n C 0 rfl dX5_bringRows_2 3 rfl ?_
      refine r_iconst C 2 rfl dX5_bringRows_3 4 rfl ?_
      refine r_icmp_ge C 79 dX5_bringRows_4 7 rfl rfl (fun c2 => ?_) (fun c2 => ?_)
      · replace h := h.1 c2
        exact r_vret C hE hr hlk dX5_bringRows_79 h
      · replace h := h.2 c2
        refine r_iconst C 0 rfl dX5_bringRows_7 8 rfl ?_
        refine r_istore_n C [(3, .int 0), (2, .int x2_2), (0, .ref (A 0)), (1, .int a1)] (Nat.le_of_ble_eq_true rfl) rfl dX5_bringRows_8 9 rfl ?_
        refine r_sub [(3, .int 0), (2, .int x2_2), (0, .ref (A 0)), (1, .int a1)] [0, 1, 2, 3] rfl ?_
        obtain ⟨f3, h⟩ := h
        exact b9 (fun z0 T => wX5_bringRows_b2 a1  nn z0 T Q) ih f3 0 x2_2  S h
  unfold wX5_bringRows at h
  refine r_iconst C 0 rfl dX5_bringRows_0 1 rfl ?_
  refine r_istore_n C [(2, .int 0), (0, .ref (A 0)), (1, .int a1)] (Nat.le_of_ble_eq_true rfl) rfl dX5_bringRows_1 2 rfl ?_
  refine r_sub [(2, .int 0), (0, .ref (A 0)), (1, .int a1)] [0, 1, 2] rfl ?_
  obtain ⟨f1, h⟩ := h
  exact b2  f1 0  S h
set_option maxRecDepth 100000 in
set_option maxHeartbeats 4000000 in
theorem ctX5_grantWishes {l : Launch} {D : va_G} {A : Nat → Nat} {cI : ClassId} {X : (Nat → Prop) → State → Heap → Prop}  {S : Nat → Nat → Int32} {Q : Unit → (Nat → Nat → Int32) → Prop} (hX : StX X) (hi : Apart 23 A)  (h : wX5_grantWishes  S Q) : Ct l D (tyM cI) 23 A (ceM A cI) X yX5_grantWishes cX5_grantWishes 5 none 4 92 [.ref (A 0)] S rU Q := by
  refine Ct.of (by decide +kernel) hX hi [(0, .ref (A 0))] rfl (Nat.le_of_ble_eq_true rfl) ?_
  intro p e s m args below meth c Acc C hr hlk Qf hE
  have b98 : ∀ (K4 : Int32 → Int32 → (Nat → Nat → Int32) → Prop) (hK4 : ∀ (x4_2 : Int32) (x4_1 : Int32) (S : Nat → Nat → Int32), K4 x4_2 x4_1 S → J p l e { frames := 4, cells := 0, slots := 0, locals := 92 } s m args below meth c 0 0 Qf D 23 A (ceM A cI) Acc 5 S 4 [(2, .int x4_2), (1, .int x4_1), (0, .ref (A 0))] []) (x98_2 : Int32) (x98_1 : Int32) (S : Nat → Nat → Int32), wX5_grantWishes_b98  K4 x98_2 x98_1 S Q → J p l e { frames := 4, cells := 0, slots := 0, locals := 92 } s m args below meth c 0 0 Qf D 23 A (ceM A cI) Acc 5 S 98 [(2, .int x98_2), (1, .int x98_1), (0, .ref (A 0))] [] := by
    intro K4 hK4 x98_2 x98_1 S h
    unfold wX5_grantWishes_b98 at h
    obtain ⟨x23, e24⟩ : ∃ z : Int32, z = x98_2 + 1 := ⟨_, rfl⟩
    replace h := h x23 e24
    refine r_iinc (n := 1) C 0 rfl x23 (by rw [e24]; rfl) [(2, .int x23), (1, .int x98_1), (0, .ref (A 0))] (Nat.le_of_ble_eq_true rfl) rfl dX5_grantWishes_98 101 rfl ?_
    refine r_goto C 4 dX5_grantWishes_101 rfl ?_
    refine r_sub [(2, .int x23), (1, .int x98_1), (0, .ref (A 0))] [0, 1, 2] rfl ?_
    exact hK4 x23 x98_1  S h
  have b84 : ∀ (K4 : Int32 → Int32 → (Nat → Nat → Int32) → Prop) (hK4 : ∀ (x4_2 : Int32) (x4_1 : Int32) (S : Nat → Nat → Int32), K4 x4_2 x4_1 S → J p l e { frames := 4, cells := 0, slots := 0, locals := 92 } s m args below meth c 0 0 Qf D 23 A (ceM A cI) Acc 5 S 4 [(2, .int x4_2), (1, .int x4_1), (0, .ref (A 0))] []) (x84_3 : Int32) (x84_2 : Int32) (x84_1 : Int32) (S : Nat → Nat → Int32), wX5_grantWishes_b84  K4 x84_3 x84_2 x84_1 S Q → J p l e { frames := 4, cells := 0, slots := 0, locals := 92 } s m args below meth c 0 0 Qf D 23 A (ceM A cI) Acc 5 S 84 [(3, .int x84_3), (2, .int x84_2), (1, .int x84_1), (0, .ref (A 0))] [] := by
    intro K4 hK4 x84_3 x84_2 x84_1 S h
    unfold wX5_grantWishes_b84 at h
    refine r_aload_n C 3 rfl dX5_grantWishes_84 85 rfl ?_
    refine g_RX5_34 C dX5_grantWishes_85 88 rfl ?_
    refine r_iload_n C 2 rfl dX5_grantWishes_88 89 rfl ?_
    refine r_aload_n C 3 rfl dX5_grantWishes_89 90 rfl ?_
    refine r_iload_n C 0 rfl dX5_grantWishes_90 91 rfl ?_
    refine k_RX5_148 C (ctX5_bring hX hi  h) ⟨(Nat.le_of_ble_eq_true rfl), (Nat.le_of_ble_eq_true rfl)⟩ (Nat.le_of_ble_eq_true rfl) ⟨Nat.le_refl 0, Nat.le_refl 0⟩ dX5_grantWishes_91 94 rfl (fun r17 S18 h => ?_)
    refine s_M (k := 9) C (Nat.le_of_ble_eq_true rfl) (Nat.le_of_ble_eq_true rfl) h.1 dX5_grantWishes_94 95 rfl (fun S19 e20 => ?_)
    replace h := h.2
    replace h := h S19 e20
    obtain ⟨x21, e22⟩ : ∃ z : Int32, z = x84_1 + 1 := ⟨_, rfl⟩
    replace h := h x21 e22
    refine r_iinc (n := 1) C 2 rfl x21 (by rw [e22]; rfl) [(1, .int x21), (3, .int x84_3), (2, .int x84_2), (0, .ref (A 0))] (Nat.le_of_ble_eq_true rfl) rfl dX5_grantWishes_95 98 rfl ?_
    refine r_sub [(2, .int x84_2), (1, .int x21), (0, .ref (A 0))] [2, 0, 3] rfl ?_
    exact b98 K4 hK4 x84_2 x21  S19 h
  have b4 : ∀ (nn : Nat) (x4_2 : Int32) (x4_1 : Int32) (S : Nat → Nat → Int32), wX5_grantWishes_b4   nn x4_2 x4_1 S Q → J p l e { frames := 4, cells := 0, slots := 0, locals := 92 } s m args below meth c 0 0 Qf D 23 A (ceM A cI) Acc 5 S 4 [(2, .int x4_2), (1, .int x4_1), (0, .ref (A 0))] [] := by
    intro nn
    induction nn with
    | zero => intro x4_2 x4_1 S h; exact False.elim h
    | succ nn ih =>
      intro x4_2 x4_1 S h
      rw [wX5_grantWishes_b4] at h
      refine r_iload_n C 0 rfl dX5_grantWishes_4 5 rfl ?_
      refine r_aload_n C 2 rfl dX5_grantWishes_5 6 rfl ?_
      refine g_RX5_151 C dX5_grantWishes_6 9 rfl ?_
      refine r_icmp_ge C 104 dX5_grantWishes_9 12 rfl rfl (fun c2 => ?_) (fun c2 => ?_)
      · replace h := h.1 c2
        refine r_aload_n C 2 rfl dX5_grantWishes_104 105 rfl ?_
        refine r_iload_n C 1 rfl dX5_grantWishes_105 106 rfl ?_
        refine p_RX5_151 C (x := x4_1) dX5_grantWishes_106 109 rfl (fun S3 e4 => ?_)
        replace h := h S3 e4
        exact r_vret C hE hr hlk dX5_grantWishes_109 h
      · replace h := h.2 c2
        refine r_aload_n C 2 rfl dX5_grantWishes_12 13 rfl ?_
        refine g_RX5_34 C dX5_grantWishes_13 16 rfl ?_
        refine r_iload_n C 0 rfl dX5_grantWishes_16 17 rfl ?_
        refine i_M (k := 9) C (Nat.le_of_ble_eq_true rfl) (Nat.le_of_ble_eq_true rfl) h.1 dX5_grantWishes_17 18 rfl ?_
        replace h := h.2
        refine r_istore_n C [(3, .int (S 9 x4_2.toNatClampNeg)), (2, .int x4_2), (1, .int x4_1), (0, .ref (A 0))] (Nat.le_of_ble_eq_true rfl) rfl dX5_grantWishes_18 19 rfl ?_
        refine r_aload_n C 3 rfl dX5_grantWishes_19 20 rfl ?_
        refine r_iload_n C 0 rfl dX5_grantWishes_20 21 rfl ?_
        refine k_RX5_141 C (ctX5_isFrom hX hi  h) ⟨(Nat.le_of_ble_eq_true rfl), (Nat.le_of_ble_eq_true rfl)⟩ (Nat.le_of_ble_eq_true rfl) ⟨Nat.le_refl 0, Nat.le_refl 0⟩ dX5_grantWishes_21 24 rfl (fun r5 S6 h => ?_)
        rcases bool_or r5 with c7 | c7
        · replace h := h.1 c7
          refine r_if_eqF C c7 84 dX5_grantWishes_24 27 rfl rfl ?_
          refine r_sub [(3, .int (S 9 x4_2.toNatClampNeg)), (2, .int x4_2), (1, .int x4_1), (0, .ref (A 0))] [0, 1, 2, 3] rfl ?_
          exact b84 (fun z0 z1 T => wX5_grantWishes_b4   nn z0 z1 T Q) ih (S 9 x4_2.toNatClampNeg) x4_2 x4_1  S6 h
        · replace h := h.2 c7
          refine r_if_eqT C c7 84 dX5_grantWishes_24 27 rfl rfl ?_
          refine r_aload_n C 3 rfl dX5_grantWishes_27 28 rfl ?_
          refine g_RX5_13 C dX5_grantWishes_28 31 rfl ?_
          refine r_iload_n C 0 rfl dX5_grantWishes_31 32 rfl ?_
          refine i_M (k := 2) C (Nat.le_of_ble_eq_true rfl) (Nat.le_of_ble_eq_true rfl) h.1 dX5_grantWishes_32 33 rfl ?_
          replace h := h.2
          refine r_if_ne C 84 dX5_grantWishes_33 36 rfl rfl (fun c8 => ?_) (fun c8 => ?_)
          · replace h := h.1 c8
            refine r_aload_n C 3 rfl dX5_grantWishes_36 37 rfl ?_
            refine r_iload_n C 0 rfl dX5_grantWishes_37 38 rfl ?_
            refine k_RX5_148 C (ctX5_bring hX hi  h) ⟨(Nat.le_of_ble_eq_true rfl), (Nat.le_of_ble_eq_true rfl)⟩ (Nat.le_of_ble_eq_true rfl) ⟨Nat.le_refl 0, Nat.le_refl 0⟩ dX5_grantWishes_38 41 rfl (fun r9 S10 h => ?_)
            refine r_istore C [(4, .int r9), (3, .int (S 9 x4_2.toNatClampNeg)), (2, .int x4_2), (1, .int x4_1), (0, .ref (A 0))] (Nat.le_of_ble_eq_true rfl) rfl dX5_grantWishes_41 43 rfl ?_
            refine r_aload_n C 4 rfl dX5_grantWishes_43 44 rfl ?_
            refine g_RX5_7 C dX5_grantWishes_44 47 rfl ?_
            refine r_iload C 0 rfl dX5_grantWishes_47 49 rfl ?_
            refine r_aload_n C 4 rfl dX5_grantWishes_49 50 rfl ?_
            refine g_RX5_7 C dX5_grantWishes_50 53 rfl ?_
            refine r_iload C 0 rfl dX5_grantWishes_53 55 rfl ?_
            refine i_M (k := 1) C (Nat.le_of_ble_eq_true rfl) (Nat.le_of_ble_eq_true rfl) h.1 dX5_grantWishes_55 56 rfl ?_
            replace h := h.2
            refine r_bipush C 63 rfl dX5_grantWishes_56 58 rfl ?_
            refine r_iand C dX5_grantWishes_58 59 rfl ?_
            refine s_M (k := 1) C (Nat.le_of_ble_eq_true rfl) (Nat.le_of_ble_eq_true rfl) h.1 dX5_grantWishes_59 60 rfl (fun S11 e12 => ?_)
            replace h := h.2
            replace h := h S11 e12
            refine r_aload_n C 4 rfl dX5_grantWishes_60 61 rfl ?_
            refine g_RX5_37 C dX5_grantWishes_61 64 rfl ?_
            refine r_aload_n C 4 rfl dX5_grantWishes_64 65 rfl ?_
            refine g_RX5_154 C dX5_grantWishes_65 68 rfl ?_
            refine r_iload C 0 rfl dX5_grantWishes_68 70 rfl ?_
            refine s_M (k := 10) C (Nat.le_of_ble_eq_true rfl) (Nat.le_of_ble_eq_true rfl) h.1 dX5_grantWishes_70 71 rfl (fun S13 e14 => ?_)
            replace h := h.2
            replace h := h S13 e14
            refine r_aload_n C 4 rfl dX5_grantWishes_71 72 rfl ?_
            refine r_dup C rfl dX5_grantWishes_72 73 rfl ?_
            refine g_RX5_154 C dX5_grantWishes_73 76 rfl ?_
            refine r_iconst C 1 rfl dX5_grantWishes_76 77 rfl ?_
            refine r_iadd C dX5_grantWishes_77 78 rfl ?_
            refine p_RX5_154 C (x := ((S13 0 14) + 1)) dX5_grantWishes_78 81 rfl (fun S15 e16 => ?_)
            replace h := h S15 e16
            refine r_goto C 98 dX5_grantWishes_81 rfl ?_
            refine r_sub [(2, .int x4_2), (1, .int x4_1), (0, .ref (A 0))] [2, 3, 4] rfl ?_
            exact b98 (fun z0 z1 T => wX5_grantWishes_b4   nn z0 z1 T Q) ih x4_2 x4_1  S15 h
          · replace h := h.2 c8
            refine r_sub [(3, .int (S 9 x4_2.toNatClampNeg)), (2, .int x4_2), (1, .int x4_1), (0, .ref (A 0))] [0, 1, 2, 3] rfl ?_
            exact b84 (fun z0 z1 T => wX5_grantWishes_b4   nn z0 z1 T Q) ih (S 9 x4_2.toNatClampNeg) x4_2 x4_1  S6 h
  unfold wX5_grantWishes at h
  refine r_iconst C 0 rfl dX5_grantWishes_0 1 rfl ?_
  refine r_istore_n C [(1, .int 0), (0, .ref (A 0))] (Nat.le_of_ble_eq_true rfl) rfl dX5_grantWishes_1 2 rfl ?_
  refine r_iconst C 0 rfl dX5_grantWishes_2 3 rfl ?_
  refine r_istore_n C [(2, .int 0), (1, .int 0), (0, .ref (A 0))] (Nat.le_of_ble_eq_true rfl) rfl dX5_grantWishes_3 4 rfl ?_
  refine r_sub [(2, .int 0), (1, .int 0), (0, .ref (A 0))] [0, 1, 2] rfl ?_
  obtain ⟨f1, h⟩ := h
  exact b4  f1 0 0  S h
set_option maxRecDepth 100000 in
set_option maxHeartbeats 4000000 in
theorem ctX5_gather {l : Launch} {D : va_G} {A : Nat → Nat} {cI : ClassId} {X : (Nat → Prop) → State → Heap → Prop} {a1 : Int32} {S : Nat → Nat → Int32} {Q : Int32 → (Nat → Nat → Int32) → Prop} (hX : StX X) (hi : Apart 23 A)  (h : wX5_gather a1 S Q) : Ct l D (tyM cI) 23 A (ceM A cI) X yX5_gather cX5_gather 4 (some .int) 5 116 [.ref (A 0), .int a1] S rI Q := by
  refine Ct.of (by decide +kernel) hX hi [(0, .ref (A 0)), (1, .int a1)] rfl (Nat.le_of_ble_eq_true rfl) ?_
  intro p e s m args below meth c Acc C hr hlk Qf hE
  have b125 : ∀ (K16 : Int32 → (Nat → Nat → Int32) → Prop) (hK16 : ∀ (x16_2 : Int32) (S : Nat → Nat → Int32), K16 x16_2 S → J p l e { frames := 5, cells := 0, slots := 0, locals := 116 } s m args below meth c 0 0 Qf D 23 A (ceM A cI) Acc 4 S 16 [(2, .int x16_2), (0, .ref (A 0)), (1, .int a1)] []) (x125_2 : Int32) (S : Nat → Nat → Int32), wX5_gather_b125 a1 K16 x125_2 S Q → J p l e { frames := 5, cells := 0, slots := 0, locals := 116 } s m args below meth c 0 0 Qf D 23 A (ceM A cI) Acc 4 S 125 [(2, .int x125_2), (0, .ref (A 0)), (1, .int a1)] [] := by
    intro K16 hK16 x125_2 S h
    unfold wX5_gather_b125 at h
    refine r_aload_n C 1 rfl dX5_gather_125 126 rfl ?_
    refine g_RX5_73 C dX5_gather_126 129 rfl ?_
    refine r_iload_n C 0 rfl dX5_gather_129 130 rfl ?_
    refine r_aload_n C 1 rfl dX5_gather_130 131 rfl ?_
    refine g_RX5_22 C dX5_gather_131 134 rfl ?_
    refine r_iload_n C 0 rfl dX5_gather_134 135 rfl ?_
    refine i_M (k := 5) C (Nat.le_of_ble_eq_true rfl) (Nat.le_of_ble_eq_true rfl) h.1 dX5_gather_135 136 rfl ?_
    replace h := h.2
    refine s_M (k := 22) C (Nat.le_of_ble_eq_true rfl) (Nat.le_of_ble_eq_true rfl) h.1 dX5_gather_136 137 rfl (fun S31 e32 => ?_)
    replace h := h.2
    replace h := h S31 e32
    obtain ⟨x33, e34⟩ : ∃ z : Int32, z = x125_2 + 1 := ⟨_, rfl⟩
    replace h := h x33 e34
    refine r_iinc (n := 1) C 0 rfl x33 (by rw [e34]; rfl) [(2, .int x33), (0, .ref (A 0)), (1, .int a1)] (Nat.le_of_ble_eq_true rfl) rfl dX5_gather_137 140 rfl ?_
    refine r_goto C 16 dX5_gather_140 rfl ?_
    refine r_sub [(2, .int x33), (0, .ref (A 0)), (1, .int a1)] [0, 1, 2] rfl ?_
    exact hK16 x33  S31 h
  have b102 : ∀ (K16 : Int32 → (Nat → Nat → Int32) → Prop) (hK16 : ∀ (x16_2 : Int32) (S : Nat → Nat → Int32), K16 x16_2 S → J p l e { frames := 5, cells := 0, slots := 0, locals := 116 } s m args below meth c 0 0 Qf D 23 A (ceM A cI) Acc 4 S 16 [(2, .int x16_2), (0, .ref (A 0)), (1, .int a1)] []) (nn : Nat) (x102_3 : Int32) (x102_2 : Int32) (S : Nat → Nat → Int32), wX5_gather_b102 a1 K16 nn x102_3 x102_2 S Q → J p l e { frames := 5, cells := 0, slots := 0, locals := 116 } s m args below meth c 0 0 Qf D 23 A (ceM A cI) Acc 4 S 102 [(3, .int x102_3), (2, .int x102_2), (0, .ref (A 0)), (1, .int a1)] [] := by
    intro K16 hK16
    intro nn
    induction nn with
    | zero => intro x102_3 x102_2 S h; exact False.elim h
    | succ nn ih =>
      intro x102_3 x102_2 S h
      rw [wX5_gather_b102] at h
      refine r_iload_n C 0 rfl dX5_gather_102 103 rfl ?_
      refine r_aload_n C 2 rfl dX5_gather_103 104 rfl ?_
      refine g_RX5_67 C dX5_gather_104 107 rfl ?_
      refine r_iload_n C 1 rfl dX5_gather_107 108 rfl ?_
      refine i_M (k := 20) C (Nat.le_of_ble_eq_true rfl) (Nat.le_of_ble_eq_true rfl) h.1 dX5_gather_108 109 rfl ?_
      replace h := h.2
      refine r_icmp_ge C 125 dX5_gather_109 112 rfl rfl (fun c35 => ?_) (fun c35 => ?_)
      · replace h := h.1 c35
        refine r_sub [(2, .int x102_2), (0, .ref (A 0)), (1, .int a1)] [1, 2, 3] rfl ?_
        exact b125 K16 hK16 x102_2  S h
      · replace h := h.2 c35
        refine r_aload_n C 2 rfl dX5_gather_112 113 rfl ?_
        refine g_RX5_13 C dX5_gather_113 116 rfl ?_
        refine r_iload_n C 0 rfl dX5_gather_116 117 rfl ?_
        refine r_iconst C 0 rfl dX5_gather_117 118 rfl ?_
        refine s_M (k := 2) C (Nat.le_of_ble_eq_true rfl) (Nat.le_of_ble_eq_true rfl) h.1 dX5_gather_118 119 rfl (fun S36 e37 => ?_)
        replace h := h.2
        replace h := h S36 e37
        obtain ⟨x38, e39⟩ : ∃ z : Int32, z = x102_3 + 1 := ⟨_, rfl⟩
        replace h := h x38 e39
        refine r_iinc (n := 1) C 0 rfl x38 (by rw [e39]; rfl) [(3, .int x38), (2, .int x102_2), (0, .ref (A 0)), (1, .int a1)] (Nat.le_of_ble_eq_true rfl) rfl dX5_gather_119 122 rfl ?_
        refine r_goto C 102 dX5_gather_122 rfl ?_
        refine r_sub [(3, .int x38), (2, .int x102_2), (0, .ref (A 0)), (1, .int a1)] [0, 1, 2, 3] rfl ?_
        exact ih x38 x102_2  S36 h
  have b171 : ∀ (K145 : Int32 → (Nat → Nat → Int32) → Prop) (hK145 : ∀ (x145_2 : Int32) (S : Nat → Nat → Int32), K145 x145_2 S → J p l e { frames := 5, cells := 0, slots := 0, locals := 116 } s m args below meth c 0 0 Qf D 23 A (ceM A cI) Acc 4 S 145 [(2, .int x145_2), (0, .ref (A 0)), (1, .int a1)] []) (nn : Nat) (x171_3 : Int32) (x171_2 : Int32) (S : Nat → Nat → Int32), wX5_gather_b171 a1 K145 nn x171_3 x171_2 S Q → J p l e { frames := 5, cells := 0, slots := 0, locals := 116 } s m args below meth c 0 0 Qf D 23 A (ceM A cI) Acc 4 S 171 [(3, .int x171_3), (2, .int x171_2), (0, .ref (A 0)), (1, .int a1)] [] := by
    intro K145 hK145
    intro nn
    induction nn with
    | zero => intro x171_3 x171_2 S h; exact False.elim h
    | succ nn ih =>
      intro x171_3 x171_2 S h
      rw [wX5_gather_b171] at h
      refine r_iload_n C 0 rfl dX5_gather_171 172 rfl ?_
      refine r_aload_n C 2 rfl dX5_gather_172 173 rfl ?_
      refine g_RX5_49 C dX5_gather_173 176 rfl ?_
      refine r_iload_n C 1 rfl dX5_gather_176 177 rfl ?_
      refine i_M (k := 14) C (Nat.le_of_ble_eq_true rfl) (Nat.le_of_ble_eq_true rfl) h.1 dX5_gather_177 178 rfl ?_
      replace h := h.2
      refine r_icmp_ge C 211 dX5_gather_178 181 rfl rfl (fun c48 => ?_) (fun c48 => ?_)
      · replace h := h.1 c48
        obtain ⟨x49, e50⟩ : ∃ z : Int32, z = x171_2 + 1 := ⟨_, rfl⟩
        replace h := h x49 e50
        refine r_iinc (n := 1) C 1 rfl x49 (by rw [e50]; rfl) [(2, .int x49), (3, .int x171_3), (0, .ref (A 0)), (1, .int a1)] (Nat.le_of_ble_eq_true rfl) rfl dX5_gather_211 214 rfl ?_
        refine r_goto C 145 dX5_gather_214 rfl ?_
        refine r_sub [(2, .int x49), (0, .ref (A 0)), (1, .int a1)] [0, 2, 3] rfl ?_
        exact hK145 x49  S h
      · replace h := h.2 c48
        refine r_aload_n C 2 rfl dX5_gather_181 182 rfl ?_
        refine g_RX5_52 C dX5_gather_182 185 rfl ?_
        refine r_sipush C 1000 rfl dX5_gather_185 188 rfl ?_
        refine r_iload_n C 1 rfl dX5_gather_188 189 rfl ?_
        refine r_imul C dX5_gather_189 190 rfl ?_
        refine r_iload_n C 0 rfl dX5_gather_190 191 rfl ?_
        refine r_iadd C dX5_gather_191 192 rfl ?_
        refine r_aload_n C 2 rfl dX5_gather_192 193 rfl ?_
        refine g_RX5_46 C dX5_gather_193 196 rfl ?_
        refine r_sipush C 1000 rfl dX5_gather_196 199 rfl ?_
        refine r_iload_n C 1 rfl dX5_gather_199 200 rfl ?_
        refine r_imul C dX5_gather_200 201 rfl ?_
        refine r_iload_n C 0 rfl dX5_gather_201 202 rfl ?_
        refine r_iadd C dX5_gather_202 203 rfl ?_
        refine i_M (k := 13) C (Nat.le_of_ble_eq_true rfl) (Nat.le_of_ble_eq_true rfl) h.1 dX5_gather_203 204 rfl ?_
        replace h := h.2
        refine s_M (k := 15) C (Nat.le_of_ble_eq_true rfl) (Nat.le_of_ble_eq_true rfl) h.1 dX5_gather_204 205 rfl (fun S51 e52 => ?_)
        replace h := h.2
        replace h := h S51 e52
        obtain ⟨x53, e54⟩ : ∃ z : Int32, z = x171_3 + 1 := ⟨_, rfl⟩
        replace h := h x53 e54
        refine r_iinc (n := 1) C 0 rfl x53 (by rw [e54]; rfl) [(3, .int x53), (2, .int x171_2), (0, .ref (A 0)), (1, .int a1)] (Nat.le_of_ble_eq_true rfl) rfl dX5_gather_205 208 rfl ?_
        refine r_goto C 171 dX5_gather_208 rfl ?_
        refine r_sub [(3, .int x53), (2, .int x171_2), (0, .ref (A 0)), (1, .int a1)] [0, 1, 2, 3] rfl ?_
        exact ih x53 x171_2  S51 h
  have b374 : ∀ (K330 : Int32 → (Nat → Nat → Int32) → Prop) (hK330 : ∀ (x330_2 : Int32) (S : Nat → Nat → Int32), K330 x330_2 S → J p l e { frames := 5, cells := 0, slots := 0, locals := 116 } s m args below meth c 0 0 Qf D 23 A (ceM A cI) Acc 4 S 330 [(2, .int x330_2), (0, .ref (A 0)), (1, .int a1)] []) (x374_2 : Int32) (y374_0 : Int32) (y374_1 : Int32) (S : Nat → Nat → Int32), wX5_gather_b374 a1 K330 x374_2 y374_0 y374_1 S Q → J p l e { frames := 5, cells := 0, slots := 0, locals := 116 } s m args below meth c 0 0 Qf D 23 A (ceM A cI) Acc 4 S 374 [(2, .int x374_2), (0, .ref (A 0)), (1, .int a1)] [.int y374_0, .int y374_1, .ref (A 8)] := by
    intro K330 hK330 x374_2 y374_0 y374_1 S h
    unfold wX5_gather_b374 at h
    refine s_M (k := 8) C (Nat.le_of_ble_eq_true rfl) (Nat.le_of_ble_eq_true rfl) h.1 dX5_gather_374 375 rfl (fun S87 e88 => ?_)
    replace h := h.2
    replace h := h S87 e88
    obtain ⟨x89, e90⟩ : ∃ z : Int32, z = x374_2 + 1 := ⟨_, rfl⟩
    replace h := h x89 e90
    refine r_iinc (n := 1) C 0 rfl x89 (by rw [e90]; rfl) [(2, .int x89), (0, .ref (A 0)), (1, .int a1)] (Nat.le_of_ble_eq_true rfl) rfl dX5_gather_375 378 rfl ?_
    refine r_goto C 330 dX5_gather_378 rfl ?_
    refine r_sub [(2, .int x89), (0, .ref (A 0)), (1, .int a1)] [0, 1, 2] rfl ?_
    exact hK330 x89  S87 h
  have b330 : ∀ (nn : Nat) (x330_2 : Int32) (S : Nat → Nat → Int32), wX5_gather_b330 a1  nn x330_2 S Q → J p l e { frames := 5, cells := 0, slots := 0, locals := 116 } s m args below meth c 0 0 Qf D 23 A (ceM A cI) Acc 4 S 330 [(2, .int x330_2), (0, .ref (A 0)), (1, .int a1)] [] := by
    intro nn
    induction nn with
    | zero => intro x330_2 S h; exact False.elim h
    | succ nn ih =>
      intro x330_2 S h
      rw [wX5_gather_b330] at h
      refine r_iload_n C 0 rfl dX5_gather_330 331 rfl ?_
      refine r_bipush C 8 rfl dX5_gather_331 333 rfl ?_
      refine r_icmp_ge C 381 dX5_gather_333 336 rfl rfl (fun c79 => ?_) (fun c79 => ?_)
      · replace h := h.1 c79
        refine r_aload_n C 1 rfl dX5_gather_381 382 rfl ?_
        refine g_RX5_55 C dX5_gather_382 385 rfl ?_
        refine r_iload_n C 2 rfl dX5_gather_385 386 rfl ?_
        refine r_dup2 C rfl rfl dX5_gather_386 387 rfl ?_
        refine i_M (k := 16) C (Nat.le_of_ble_eq_true rfl) (Nat.le_of_ble_eq_true rfl) h.1 dX5_gather_387 388 rfl ?_
        replace h := h.2
        refine r_iconst C 1 rfl dX5_gather_388 389 rfl ?_
        refine r_iadd C dX5_gather_389 390 rfl ?_
        refine s_M (k := 16) C (Nat.le_of_ble_eq_true rfl) (Nat.le_of_ble_eq_true rfl) h.1 dX5_gather_390 391 rfl (fun S80 e81 => ?_)
        replace h := h.2
        replace h := h S80 e81
        refine r_aload_n C 1 rfl dX5_gather_391 392 rfl ?_
        refine r_aload_n C 1 rfl dX5_gather_392 393 rfl ?_
        refine g_RX5_169 C dX5_gather_393 396 rfl ?_
        refine r_aload_n C 1 rfl dX5_gather_396 397 rfl ?_
        refine g_RX5_138 C dX5_gather_397 400 rfl ?_
        refine r_iadd C dX5_gather_400 401 rfl ?_
        refine p_RX5_169 C (x := ((S80 0 24) + (S80 0 32))) dX5_gather_401 404 rfl (fun S82 e83 => ?_)
        replace h := h S82 e83
        refine r_aload_n C 1 rfl dX5_gather_404 405 rfl ?_
        refine g_RX5_138 C dX5_gather_405 408 rfl ?_
        exact r_iret C hE hr hlk dX5_gather_408 h
      · replace h := h.2 c79
        refine r_aload_n C 1 rfl dX5_gather_336 337 rfl ?_
        refine g_RX5_31 C dX5_gather_337 340 rfl ?_
        refine r_iload_n C 0 rfl dX5_gather_340 341 rfl ?_
        refine r_aload_n C 1 rfl dX5_gather_341 342 rfl ?_
        refine r_aload_n C 1 rfl dX5_gather_342 343 rfl ?_
        refine g_RX5_31 C dX5_gather_343 346 rfl ?_
        refine r_iload_n C 0 rfl dX5_gather_346 347 rfl ?_
        refine i_M (k := 8) C (Nat.le_of_ble_eq_true rfl) (Nat.le_of_ble_eq_true rfl) h.1 dX5_gather_347 348 rfl ?_
        replace h := h.2
        refine k_RX5_141 C (ctX5_isFrom hX hi  h) ⟨(Nat.le_of_ble_eq_true rfl), (Nat.le_of_ble_eq_true rfl)⟩ (Nat.le_of_ble_eq_true rfl) ⟨Nat.le_refl 0, Nat.le_refl 0⟩ dX5_gather_348 351 rfl (fun r84 S85 h => ?_)
        rcases bool_or r84 with c86 | c86
        · replace h := h.1 c86
          refine r_if_eqF C c86 368 dX5_gather_351 354 rfl rfl ?_
          refine r_aload_n C 1 rfl dX5_gather_368 369 rfl ?_
          refine g_RX5_31 C dX5_gather_369 372 rfl ?_
          refine r_iload_n C 0 rfl dX5_gather_372 373 rfl ?_
          refine i_M (k := 8) C (Nat.le_of_ble_eq_true rfl) (Nat.le_of_ble_eq_true rfl) h.1 dX5_gather_373 374 rfl ?_
          replace h := h.2
          refine r_sub [(2, .int x330_2), (0, .ref (A 0)), (1, .int a1)] [0, 1, 2] rfl ?_
          exact b374 (fun z0 T => wX5_gather_b330 a1  nn z0 T Q) ih x330_2 (S85 8 x330_2.toNatClampNeg) x330_2  S85 h
        · replace h := h.2 c86
          refine r_if_eqT C c86 368 dX5_gather_351 354 rfl rfl ?_
          refine r_aload_n C 1 rfl dX5_gather_354 355 rfl ?_
          refine g_RX5_13 C dX5_gather_355 358 rfl ?_
          refine r_aload_n C 1 rfl dX5_gather_358 359 rfl ?_
          refine g_RX5_31 C dX5_gather_359 362 rfl ?_
          refine r_iload_n C 0 rfl dX5_gather_362 363 rfl ?_
          refine i_M (k := 8) C (Nat.le_of_ble_eq_true rfl) (Nat.le_of_ble_eq_true rfl) h.1 dX5_gather_363 364 rfl ?_
          replace h := h.2
          refine i_M (k := 2) C (Nat.le_of_ble_eq_true rfl) (Nat.le_of_ble_eq_true rfl) h.1 dX5_gather_364 365 rfl ?_
          replace h := h.2
          refine r_goto C 374 dX5_gather_365 rfl ?_
          refine r_sub [(2, .int x330_2), (0, .ref (A 0)), (1, .int a1)] [0, 1, 2] rfl ?_
          exact b374 (fun z0 T => wX5_gather_b330 a1  nn z0 T Q) ih x330_2 (S85 2 ((S85 8 x330_2.toNatClampNeg).toNatClampNeg)) x330_2  S85 h
  have b281 : ∀ (nn : Nat) (x281_2 : Int32) (S : Nat → Nat → Int32), wX5_gather_b281 a1  nn x281_2 S Q → J p l e { frames := 5, cells := 0, slots := 0, locals := 116 } s m args below meth c 0 0 Qf D 23 A (ceM A cI) Acc 4 S 281 [(2, .int x281_2), (0, .ref (A 0)), (1, .int a1)] [] := by
    intro nn
    induction nn with
    | zero => intro x281_2 S h; exact False.elim h
    | succ nn ih =>
      intro x281_2 S h
      rw [wX5_gather_b281] at h
      refine r_iload_n C 0 rfl dX5_gather_281 282 rfl ?_
      refine r_aload_n C 1 rfl dX5_gather_282 283 rfl ?_
      refine g_RX5_154 C dX5_gather_283 286 rfl ?_
      refine r_icmp_ge C 311 dX5_gather_286 289 rfl rfl (fun c63 => ?_) (fun c63 => ?_)
      · replace h := h.1 c63
        refine r_aload_n C 1 rfl dX5_gather_311 312 rfl ?_
        refine r_iload_n C 2 rfl dX5_gather_312 313 rfl ?_
        refine k_RX5_160 C (ctX5_bringRows hX hi  h) ⟨(Nat.le_of_ble_eq_true rfl), (Nat.le_of_ble_eq_true rfl)⟩ (Nat.le_of_ble_eq_true rfl) ⟨Nat.le_refl 0, Nat.le_refl 0⟩ dX5_gather_313 316 rfl (fun S65 h => ?_)
        refine r_aload_n C 1 rfl dX5_gather_316 317 rfl ?_
        refine k_RX5_163 C (ctX5_scan hX hi  h) ⟨(Nat.le_of_ble_eq_true rfl), (Nat.le_of_ble_eq_true rfl)⟩ (Nat.le_of_ble_eq_true rfl) ⟨Nat.le_refl 0, Nat.le_refl 0⟩ dX5_gather_317 320 rfl (fun S67 h => ?_)
        refine r_aload_n C 1 rfl dX5_gather_320 321 rfl ?_
        refine k_RX5_166 C (ctX5_grantWishes hX hi  h) ⟨(Nat.le_of_ble_eq_true rfl), (Nat.le_of_ble_eq_true rfl)⟩ (Nat.le_of_ble_eq_true rfl) ⟨Nat.le_refl 0, Nat.le_refl 0⟩ dX5_gather_321 324 rfl (fun S69 h => ?_)
        refine r_aload_n C 1 rfl dX5_gather_324 325 rfl ?_
        refine k_RX5_163 C (ctX5_scan hX hi  h) ⟨(Nat.le_of_ble_eq_true rfl), (Nat.le_of_ble_eq_true rfl)⟩ (Nat.le_of_ble_eq_true rfl) ⟨Nat.le_refl 0, Nat.le_refl 0⟩ dX5_gather_325 328 rfl (fun S71 h => ?_)
        refine r_iconst C 0 rfl dX5_gather_328 329 rfl ?_
        refine r_istore_n C [(2, .int 0), (0, .ref (A 0)), (1, .int a1)] (Nat.le_of_ble_eq_true rfl) rfl dX5_gather_329 330 rfl ?_
        refine r_sub [(2, .int 0), (0, .ref (A 0)), (1, .int a1)] [0, 1, 2] rfl ?_
        obtain ⟨f72, h⟩ := h
        exact b330  f72 0  S71 h
      · replace h := h.2 c63
        refine r_aload_n C 1 rfl dX5_gather_289 290 rfl ?_
        refine g_RX5_37 C dX5_gather_290 293 rfl ?_
        refine r_iload_n C 0 rfl dX5_gather_293 294 rfl ?_
        refine r_aload_n C 1 rfl dX5_gather_294 295 rfl ?_
        refine r_aload_n C 1 rfl dX5_gather_295 296 rfl ?_
        refine g_RX5_37 C dX5_gather_296 299 rfl ?_
        refine r_iload_n C 0 rfl dX5_gather_299 300 rfl ?_
        refine i_M (k := 10) C (Nat.le_of_ble_eq_true rfl) (Nat.le_of_ble_eq_true rfl) h.1 dX5_gather_300 301 rfl ?_
        replace h := h.2
        refine k_RX5_148 C (ctX5_bring hX hi  h) ⟨(Nat.le_of_ble_eq_true rfl), (Nat.le_of_ble_eq_true rfl)⟩ (Nat.le_of_ble_eq_true rfl) ⟨Nat.le_refl 0, Nat.le_refl 0⟩ dX5_gather_301 304 rfl (fun r73 S74 h => ?_)
        refine s_M (k := 10) C (Nat.le_of_ble_eq_true rfl) (Nat.le_of_ble_eq_true rfl) h.1 dX5_gather_304 305 rfl (fun S75 e76 => ?_)
        replace h := h.2
        replace h := h S75 e76
        obtain ⟨x77, e78⟩ : ∃ z : Int32, z = x281_2 + 1 := ⟨_, rfl⟩
        replace h := h x77 e78
        refine r_iinc (n := 1) C 0 rfl x77 (by rw [e78]; rfl) [(2, .int x77), (0, .ref (A 0)), (1, .int a1)] (Nat.le_of_ble_eq_true rfl) rfl dX5_gather_305 308 rfl ?_
        refine r_goto C 281 dX5_gather_308 rfl ?_
        refine r_sub [(2, .int x77), (0, .ref (A 0)), (1, .int a1)] [0, 1, 2] rfl ?_
        exact ih x77  S75 h
  have b249 : ∀ (nn : Nat) (x249_2 : Int32) (S : Nat → Nat → Int32), wX5_gather_b249 a1  nn x249_2 S Q → J p l e { frames := 5, cells := 0, slots := 0, locals := 116 } s m args below meth c 0 0 Qf D 23 A (ceM A cI) Acc 4 S 249 [(2, .int x249_2), (0, .ref (A 0)), (1, .int a1)] [] := by
    intro nn
    induction nn with
    | zero => intro x249_2 S h; exact False.elim h
    | succ nn ih =>
      intro x249_2 S h
      rw [wX5_gather_b249] at h
      refine r_iload_n C 0 rfl dX5_gather_249 250 rfl ?_
      refine r_aload_n C 1 rfl dX5_gather_250 251 rfl ?_
      refine g_RX5_157 C dX5_gather_251 254 rfl ?_
      refine r_icmp_ge C 279 dX5_gather_254 257 rfl rfl (fun c55 => ?_) (fun c55 => ?_)
      · replace h := h.1 c55
        refine r_iconst C 0 rfl dX5_gather_279 280 rfl ?_
        refine r_istore_n C [(2, .int 0), (0, .ref (A 0)), (1, .int a1)] (Nat.le_of_ble_eq_true rfl) rfl dX5_gather_280 281 rfl ?_
        refine r_sub [(2, .int 0), (0, .ref (A 0)), (1, .int a1)] [0, 1, 2] rfl ?_
        obtain ⟨f56, h⟩ := h
        exact b281  f56 0  S h
      · replace h := h.2 c55
        refine r_aload_n C 1 rfl dX5_gather_257 258 rfl ?_
        refine g_RX5_28 C dX5_gather_258 261 rfl ?_
        refine r_iload_n C 0 rfl dX5_gather_261 262 rfl ?_
        refine r_aload_n C 1 rfl dX5_gather_262 263 rfl ?_
        refine r_aload_n C 1 rfl dX5_gather_263 264 rfl ?_
        refine g_RX5_28 C dX5_gather_264 267 rfl ?_
        refine r_iload_n C 0 rfl dX5_gather_267 268 rfl ?_
        refine i_M (k := 7) C (Nat.le_of_ble_eq_true rfl) (Nat.le_of_ble_eq_true rfl) h.1 dX5_gather_268 269 rfl ?_
        replace h := h.2
        refine k_RX5_148 C (ctX5_bring hX hi  h) ⟨(Nat.le_of_ble_eq_true rfl), (Nat.le_of_ble_eq_true rfl)⟩ (Nat.le_of_ble_eq_true rfl) ⟨Nat.le_refl 0, Nat.le_refl 0⟩ dX5_gather_269 272 rfl (fun r57 S58 h => ?_)
        refine s_M (k := 7) C (Nat.le_of_ble_eq_true rfl) (Nat.le_of_ble_eq_true rfl) h.1 dX5_gather_272 273 rfl (fun S59 e60 => ?_)
        replace h := h.2
        replace h := h S59 e60
        obtain ⟨x61, e62⟩ : ∃ z : Int32, z = x249_2 + 1 := ⟨_, rfl⟩
        replace h := h x61 e62
        refine r_iinc (n := 1) C 0 rfl x61 (by rw [e62]; rfl) [(2, .int x61), (0, .ref (A 0)), (1, .int a1)] (Nat.le_of_ble_eq_true rfl) rfl dX5_gather_273 276 rfl ?_
        refine r_goto C 249 dX5_gather_276 rfl ?_
        refine r_sub [(2, .int x61), (0, .ref (A 0)), (1, .int a1)] [0, 1, 2] rfl ?_
        exact ih x61  S59 h
  have b219 : ∀ (nn : Nat) (x219_2 : Int32) (S : Nat → Nat → Int32), wX5_gather_b219 a1  nn x219_2 S Q → J p l e { frames := 5, cells := 0, slots := 0, locals := 116 } s m args below meth c 0 0 Qf D 23 A (ceM A cI) Acc 4 S 219 [(2, .int x219_2), (0, .ref (A 0)), (1, .int a1)] [] := by
    intro nn
    induction nn with
    | zero => intro x219_2 S h; exact False.elim h
    | succ nn ih =>
      intro x219_2 S h
      rw [wX5_gather_b219] at h
      refine r_iload_n C 0 rfl dX5_gather_219 220 rfl ?_
      refine r_bipush C 16 rfl dX5_gather_220 222 rfl ?_
      refine r_icmp_ge C 247 dX5_gather_222 225 rfl rfl (fun c40 => ?_) (fun c40 => ?_)
      · replace h := h.1 c40
        refine r_iconst C 0 rfl dX5_gather_247 248 rfl ?_
        refine r_istore_n C [(2, .int 0), (0, .ref (A 0)), (1, .int a1)] (Nat.le_of_ble_eq_true rfl) rfl dX5_gather_248 249 rfl ?_
        refine r_sub [(2, .int 0), (0, .ref (A 0)), (1, .int a1)] [0, 1, 2] rfl ?_
        obtain ⟨f41, h⟩ := h
        exact b249  f41 0  S h
      · replace h := h.2 c40
        refine r_aload_n C 1 rfl dX5_gather_225 226 rfl ?_
        refine g_RX5_25 C dX5_gather_226 229 rfl ?_
        refine r_iload_n C 0 rfl dX5_gather_229 230 rfl ?_
        refine r_aload_n C 1 rfl dX5_gather_230 231 rfl ?_
        refine r_aload_n C 1 rfl dX5_gather_231 232 rfl ?_
        refine g_RX5_25 C dX5_gather_232 235 rfl ?_
        refine r_iload_n C 0 rfl dX5_gather_235 236 rfl ?_
        refine i_M (k := 6) C (Nat.le_of_ble_eq_true rfl) (Nat.le_of_ble_eq_true rfl) h.1 dX5_gather_236 237 rfl ?_
        replace h := h.2
        refine k_RX5_148 C (ctX5_bring hX hi  h) ⟨(Nat.le_of_ble_eq_true rfl), (Nat.le_of_ble_eq_true rfl)⟩ (Nat.le_of_ble_eq_true rfl) ⟨Nat.le_refl 0, Nat.le_refl 0⟩ dX5_gather_237 240 rfl (fun r42 S43 h => ?_)
        refine s_M (k := 6) C (Nat.le_of_ble_eq_true rfl) (Nat.le_of_ble_eq_true rfl) h.1 dX5_gather_240 241 rfl (fun S44 e45 => ?_)
        replace h := h.2
        replace h := h S44 e45
        obtain ⟨x46, e47⟩ : ∃ z : Int32, z = x219_2 + 1 := ⟨_, rfl⟩
        replace h := h x46 e47
        refine r_iinc (n := 1) C 0 rfl x46 (by rw [e47]; rfl) [(2, .int x46), (0, .ref (A 0)), (1, .int a1)] (Nat.le_of_ble_eq_true rfl) rfl dX5_gather_241 244 rfl ?_
        refine r_goto C 219 dX5_gather_244 rfl ?_
        refine r_sub [(2, .int x46), (0, .ref (A 0)), (1, .int a1)] [0, 1, 2] rfl ?_
        exact ih x46  S44 h
  have b145 : ∀ (nn : Nat) (x145_2 : Int32) (S : Nat → Nat → Int32), wX5_gather_b145 a1  nn x145_2 S Q → J p l e { frames := 5, cells := 0, slots := 0, locals := 116 } s m args below meth c 0 0 Qf D 23 A (ceM A cI) Acc 4 S 145 [(2, .int x145_2), (0, .ref (A 0)), (1, .int a1)] [] := by
    intro nn
    induction nn with
    | zero => intro x145_2 S h; exact False.elim h
    | succ nn ih =>
      intro x145_2 S h
      rw [wX5_gather_b145] at h
      refine r_iload_n C 0 rfl dX5_gather_145 146 rfl ?_
      refine r_iconst C 2 rfl dX5_gather_146 147 rfl ?_
      refine r_icmp_ge C 217 dX5_gather_147 150 rfl rfl (fun c24 => ?_) (fun c24 => ?_)
      · replace h := h.1 c24
        refine r_iconst C 0 rfl dX5_gather_217 218 rfl ?_
        refine r_istore_n C [(2, .int 0), (0, .ref (A 0)), (1, .int a1)] (Nat.le_of_ble_eq_true rfl) rfl dX5_gather_218 219 rfl ?_
        refine r_sub [(2, .int 0), (0, .ref (A 0)), (1, .int a1)] [0, 1, 2] rfl ?_
        obtain ⟨f25, h⟩ := h
        exact b219  f25 0  S h
      · replace h := h.2 c24
        refine r_aload_n C 1 rfl dX5_gather_150 151 rfl ?_
        refine g_RX5_49 C dX5_gather_151 154 rfl ?_
        refine r_iload_n C 0 rfl dX5_gather_154 155 rfl ?_
        refine r_aload_n C 1 rfl dX5_gather_155 156 rfl ?_
        refine g_RX5_43 C dX5_gather_156 159 rfl ?_
        refine r_iload_n C 0 rfl dX5_gather_159 160 rfl ?_
        refine i_M (k := 12) C (Nat.le_of_ble_eq_true rfl) (Nat.le_of_ble_eq_true rfl) h.1 dX5_gather_160 161 rfl ?_
        replace h := h.2
        refine s_M (k := 14) C (Nat.le_of_ble_eq_true rfl) (Nat.le_of_ble_eq_true rfl) h.1 dX5_gather_161 162 rfl (fun S26 e27 => ?_)
        replace h := h.2
        replace h := h S26 e27
        refine r_aload_n C 1 rfl dX5_gather_162 163 rfl ?_
        refine g_RX5_43 C dX5_gather_163 166 rfl ?_
        refine r_iload_n C 0 rfl dX5_gather_166 167 rfl ?_
        refine r_iconst C 0 rfl dX5_gather_167 168 rfl ?_
        refine s_M (k := 12) C (Nat.le_of_ble_eq_true rfl) (Nat.le_of_ble_eq_true rfl) h.1 dX5_gather_168 169 rfl (fun S28 e29 => ?_)
        replace h := h.2
        replace h := h S28 e29
        refine r_iconst C 0 rfl dX5_gather_169 170 rfl ?_
        refine r_istore_n C [(3, .int 0), (2, .int x145_2), (0, .ref (A 0)), (1, .int a1)] (Nat.le_of_ble_eq_true rfl) rfl dX5_gather_170 171 rfl ?_
        refine r_sub [(3, .int 0), (2, .int x145_2), (0, .ref (A 0)), (1, .int a1)] [0, 1, 2, 3] rfl ?_
        obtain ⟨f30, h⟩ := h
        exact b171 (fun z0 T => wX5_gather_b145 a1  nn z0 T Q) ih f30 0 x145_2  S28 h
  have b16 : ∀ (nn : Nat) (x16_2 : Int32) (S : Nat → Nat → Int32), wX5_gather_b16 a1  nn x16_2 S Q → J p l e { frames := 5, cells := 0, slots := 0, locals := 116 } s m args below meth c 0 0 Qf D 23 A (ceM A cI) Acc 4 S 16 [(2, .int x16_2), (0, .ref (A 0)), (1, .int a1)] [] := by
    intro nn
    induction nn with
    | zero => intro x16_2 S h; exact False.elim h
    | succ nn ih =>
      intro x16_2 S h
      rw [wX5_gather_b16] at h
      refine r_iload_n C 0 rfl dX5_gather_16 17 rfl ?_
      refine r_iconst C 3 rfl dX5_gather_17 18 rfl ?_
      refine r_icmp_ge C 143 dX5_gather_18 21 rfl rfl (fun c8 => ?_) (fun c8 => ?_)
      · replace h := h.1 c8
        refine r_iconst C 0 rfl dX5_gather_143 144 rfl ?_
        refine r_istore_n C [(2, .int 0), (0, .ref (A 0)), (1, .int a1)] (Nat.le_of_ble_eq_true rfl) rfl dX5_gather_144 145 rfl ?_
        refine r_sub [(2, .int 0), (0, .ref (A 0)), (1, .int a1)] [0, 1, 2] rfl ?_
        obtain ⟨f9, h⟩ := h
        exact b145  f9 0  S h
      · replace h := h.2 c8
        refine r_iload_n C 0 rfl dX5_gather_21 22 rfl ?_
        refine r_iload_n C 2 rfl dX5_gather_22 23 rfl ?_
        refine r_icmp_gt C 125 dX5_gather_23 26 rfl rfl (fun c10 => ?_) (fun c10 => ?_)
        · replace h := h.1 c10
          refine r_sub [(2, .int x16_2), (0, .ref (A 0)), (1, .int a1)] [0, 1, 2] rfl ?_
          exact b125 (fun z0 T => wX5_gather_b16 a1  nn z0 T Q) ih x16_2  S h
        · replace h := h.2 c10
          refine r_aload_n C 1 rfl dX5_gather_26 27 rfl ?_
          refine g_RX5_64 C dX5_gather_27 30 rfl ?_
          refine r_iload_n C 0 rfl dX5_gather_30 31 rfl ?_
          refine r_aload_n C 1 rfl dX5_gather_31 32 rfl ?_
          refine r_iload_n C 0 rfl dX5_gather_32 33 rfl ?_
          refine r_aload_n C 1 rfl dX5_gather_33 34 rfl ?_
          refine g_RX5_19 C dX5_gather_34 37 rfl ?_
          refine r_iload_n C 0 rfl dX5_gather_37 38 rfl ?_
          refine i_M (k := 4) C (Nat.le_of_ble_eq_true rfl) (Nat.le_of_ble_eq_true rfl) h.1 dX5_gather_38 39 rfl ?_
          replace h := h.2
          refine k_RX5_131 C (ctX5_begin hX hi  h) ⟨(Nat.le_of_ble_eq_true rfl), (Nat.le_of_ble_eq_true rfl)⟩ (Nat.le_of_ble_eq_true rfl) ⟨Nat.le_refl 0, Nat.le_refl 0⟩ dX5_gather_39 42 rfl (fun r11 S12 h => ?_)
          refine s_M (k := 19) C (Nat.le_of_ble_eq_true rfl) (Nat.le_of_ble_eq_true rfl) h.1 dX5_gather_42 43 rfl (fun S13 e14 => ?_)
          replace h := h.2
          replace h := h S13 e14
          refine r_aload_n C 1 rfl dX5_gather_43 44 rfl ?_
          refine g_RX5_67 C dX5_gather_44 47 rfl ?_
          refine r_iload_n C 0 rfl dX5_gather_47 48 rfl ?_
          refine r_aload_n C 1 rfl dX5_gather_48 49 rfl ?_
          refine g_RX5_64 C dX5_gather_49 52 rfl ?_
          refine r_iload_n C 0 rfl dX5_gather_52 53 rfl ?_
          refine i_M (k := 19) C (Nat.le_of_ble_eq_true rfl) (Nat.le_of_ble_eq_true rfl) h.1 dX5_gather_53 54 rfl ?_
          replace h := h.2
          refine r_aload_n C 1 rfl dX5_gather_54 55 rfl ?_
          refine g_RX5_22 C dX5_gather_55 58 rfl ?_
          refine r_iload_n C 0 rfl dX5_gather_58 59 rfl ?_
          refine i_M (k := 5) C (Nat.le_of_ble_eq_true rfl) (Nat.le_of_ble_eq_true rfl) h.1 dX5_gather_59 60 rfl ?_
          replace h := h.2
          refine r_iadd C dX5_gather_60 61 rfl ?_
          refine s_M (k := 20) C (Nat.le_of_ble_eq_true rfl) (Nat.le_of_ble_eq_true rfl) h.1 dX5_gather_61 62 rfl (fun S15 e16 => ?_)
          replace h := h.2
          replace h := h S15 e16
          refine r_aload_n C 1 rfl dX5_gather_62 63 rfl ?_
          refine g_RX5_70 C dX5_gather_63 66 rfl ?_
          refine r_iload_n C 0 rfl dX5_gather_66 67 rfl ?_
          refine r_aload_n C 1 rfl dX5_gather_67 68 rfl ?_
          refine g_RX5_22 C dX5_gather_68 71 rfl ?_
          refine r_iload_n C 0 rfl dX5_gather_71 72 rfl ?_
          refine i_M (k := 5) C (Nat.le_of_ble_eq_true rfl) (Nat.le_of_ble_eq_true rfl) h.1 dX5_gather_72 73 rfl ?_
          replace h := h.2
          refine s_M (k := 21) C (Nat.le_of_ble_eq_true rfl) (Nat.le_of_ble_eq_true rfl) h.1 dX5_gather_73 74 rfl (fun S17 e18 => ?_)
          replace h := h.2
          replace h := h S17 e18
          refine r_aload_n C 1 rfl dX5_gather_74 75 rfl ?_
          refine g_RX5_19 C dX5_gather_75 78 rfl ?_
          refine r_iload_n C 0 rfl dX5_gather_78 79 rfl ?_
          refine r_iconst C 1 rfl dX5_gather_79 80 rfl ?_
          refine r_aload_n C 1 rfl dX5_gather_80 81 rfl ?_
          refine g_RX5_19 C dX5_gather_81 84 rfl ?_
          refine r_iload_n C 0 rfl dX5_gather_84 85 rfl ?_
          refine i_M (k := 4) C (Nat.le_of_ble_eq_true rfl) (Nat.le_of_ble_eq_true rfl) h.1 dX5_gather_85 86 rfl ?_
          replace h := h.2
          refine r_isub C dX5_gather_86 87 rfl ?_
          refine s_M (k := 4) C (Nat.le_of_ble_eq_true rfl) (Nat.le_of_ble_eq_true rfl) h.1 dX5_gather_87 88 rfl (fun S19 e20 => ?_)
          replace h := h.2
          replace h := h S19 e20
          refine r_aload_n C 1 rfl dX5_gather_88 89 rfl ?_
          refine g_RX5_22 C dX5_gather_89 92 rfl ?_
          refine r_iload_n C 0 rfl dX5_gather_92 93 rfl ?_
          refine r_iconst C 0 rfl dX5_gather_93 94 rfl ?_
          refine s_M (k := 5) C (Nat.le_of_ble_eq_true rfl) (Nat.le_of_ble_eq_true rfl) h.1 dX5_gather_94 95 rfl (fun S21 e22 => ?_)
          replace h := h.2
          replace h := h S21 e22
          refine r_aload_n C 1 rfl dX5_gather_95 96 rfl ?_
          refine g_RX5_64 C dX5_gather_96 99 rfl ?_
          refine r_iload_n C 0 rfl dX5_gather_99 100 rfl ?_
          refine i_M (k := 19) C (Nat.le_of_ble_eq_true rfl) (Nat.le_of_ble_eq_true rfl) h.1 dX5_gather_100 101 rfl ?_
          replace h := h.2
          refine r_istore_n C [(3, .int (S21 19 x16_2.toNatClampNeg)), (2, .int x16_2), (0, .ref (A 0)), (1, .int a1)] (Nat.le_of_ble_eq_true rfl) rfl dX5_gather_101 102 rfl ?_
          refine r_sub [(3, .int (S21 19 x16_2.toNatClampNeg)), (2, .int x16_2), (0, .ref (A 0)), (1, .int a1)] [0, 1, 2, 3] rfl ?_
          obtain ⟨f23, h⟩ := h
          exact b102 (fun z0 T => wX5_gather_b16 a1  nn z0 T Q) ih f23 (S21 19 x16_2.toNatClampNeg) x16_2  S21 h
  unfold wX5_gather at h
  refine r_aload_n C 0 rfl dX5_gather_0 1 rfl ?_
  refine k_RX5_115 C (ctX5_filter hX hi  h) ⟨(Nat.le_of_ble_eq_true rfl), (Nat.le_of_ble_eq_true rfl)⟩ (Nat.le_of_ble_eq_true rfl) ⟨Nat.le_refl 0, Nat.le_refl 0⟩ dX5_gather_1 4 rfl (fun S2 h => ?_)
  refine r_aload_n C 0 rfl dX5_gather_4 5 rfl ?_
  refine r_iload_n C 1 rfl dX5_gather_5 6 rfl ?_
  refine p_RX5_118 C (x := a1) dX5_gather_6 9 rfl (fun S3 e4 => ?_)
  replace h := h S3 e4
  refine r_aload_n C 0 rfl dX5_gather_9 10 rfl ?_
  refine r_iconst C 0 rfl dX5_gather_10 11 rfl ?_
  refine p_RX5_138 C (x := 0) dX5_gather_11 14 rfl (fun S5 e6 => ?_)
  replace h := h S5 e6
  refine r_iconst C 0 rfl dX5_gather_14 15 rfl ?_
  refine r_istore_n C [(2, .int 0), (0, .ref (A 0)), (1, .int a1)] (Nat.le_of_ble_eq_true rfl) rfl dX5_gather_15 16 rfl ?_
  refine r_sub [(2, .int 0), (0, .ref (A 0)), (1, .int a1)] [0, 1, 2] rfl ?_
  obtain ⟨f7, h⟩ := h
  exact b16  f7 0  S5 h
set_option maxRecDepth 100000 in
set_option maxHeartbeats 4000000 in
theorem ctX5_object {l : Launch} {D : va_G} {A : Nat → Nat} {cI : ClassId} {X : (Nat → Prop) → State → Heap → Prop} {a1 : Int32} {a2 : Int32} {a3 : Int32} {S : Nat → Nat → Int32} {Q : Int32 → (Nat → Nat → Int32) → Prop} (hX : StX X) (hi : Apart 23 A)  (h : wX5_object a1 a2 a3 S Q) : Ct l D (tyM cI) 23 A (ceM A cI) X yX5_object cX5_object 6 (some .int) 6 139 [.ref (A 0), .int a1, .int a2, .int a3] S rI Q := by
  refine Ct.of (by decide +kernel) hX hi [(0, .ref (A 0)), (1, .int a1), (2, .int a2), (3, .int a3)] rfl (Nat.le_of_ble_eq_true rfl) ?_
  intro p e s m args below meth c Acc C hr hlk Qf hE
  have b129 : ∀ (nn : Nat) (x129_5 : Int32) (x129_4 : Int32) (S : Nat → Nat → Int32), wX5_object_b129 a1 a2 a3  nn x129_5 x129_4 S Q → J p l e { frames := 6, cells := 0, slots := 0, locals := 139 } s m args below meth c 0 0 Qf D 23 A (ceM A cI) Acc 6 S 129 [(5, .int x129_5), (4, .int x129_4), (0, .ref (A 0)), (1, .int a1), (3, .int a3)] [] := by
    intro nn
    induction nn with
    | zero => intro x129_5 x129_4 S h; exact False.elim h
    | succ nn ih =>
      intro x129_5 x129_4 S h
      rw [wX5_object_b129] at h
      refine r_iload C 0 rfl dX5_object_129 131 rfl ?_
      refine r_iload_n C 3 rfl dX5_object_131 132 rfl ?_
      refine r_icmp_ge C 154 dX5_object_132 135 rfl rfl (fun c25 => ?_) (fun c25 => ?_)
      · replace h := h.1 c25
        refine r_iload_n C 4 rfl dX5_object_154 155 rfl ?_
        refine r_if_eq C 179 dX5_object_155 158 rfl rfl (fun c26 => ?_) (fun c26 => ?_)
        · replace h := h.1 c26
          refine r_iload C 1 rfl dX5_object_179 181 rfl ?_
          exact r_iret C hE hr hlk dX5_object_181 h
        · replace h := h.2 c26
          refine r_aload_n C 2 rfl dX5_object_158 159 rfl ?_
          refine g_RX5_34 C dX5_object_159 162 rfl ?_
          refine r_aload_n C 2 rfl dX5_object_162 163 rfl ?_
          refine g_RX5_151 C dX5_object_163 166 rfl ?_
          refine r_iload C 1 rfl dX5_object_166 168 rfl ?_
          refine s_M (k := 9) C (Nat.le_of_ble_eq_true rfl) (Nat.le_of_ble_eq_true rfl) h.1 dX5_object_168 169 rfl (fun S27 e28 => ?_)
          replace h := h.2
          replace h := h S27 e28
          refine r_aload_n C 2 rfl dX5_object_169 170 rfl ?_
          refine r_dup C rfl dX5_object_170 171 rfl ?_
          refine g_RX5_151 C dX5_object_171 174 rfl ?_
          refine r_iconst C 1 rfl dX5_object_174 175 rfl ?_
          refine r_iadd C dX5_object_175 176 rfl ?_
          refine p_RX5_151 C (x := ((S27 0 12) + 1)) dX5_object_176 179 rfl (fun S29 e30 => ?_)
          replace h := h S29 e30
          refine r_iload C 1 rfl dX5_object_179 181 rfl ?_
          exact r_iret C hE hr hlk dX5_object_181 h
      · replace h := h.2 c25
        refine r_aload_n C 2 rfl dX5_object_135 136 rfl ?_
        refine g_RX5_7 C dX5_object_136 139 rfl ?_
        refine r_iload C 1 rfl dX5_object_139 141 rfl ?_
        refine r_iconst C 2 rfl dX5_object_141 142 rfl ?_
        refine r_iadd C dX5_object_142 143 rfl ?_
        refine r_iload C 0 rfl dX5_object_143 145 rfl ?_
        refine r_iadd C dX5_object_145 146 rfl ?_
        refine r_iconst C 0 rfl dX5_object_146 147 rfl ?_
        refine s_M (k := 1) C (Nat.le_of_ble_eq_true rfl) (Nat.le_of_ble_eq_true rfl) h.1 dX5_object_147 148 rfl (fun S31 e32 => ?_)
        replace h := h.2
        replace h := h S31 e32
        obtain ⟨x33, e34⟩ : ∃ z : Int32, z = x129_5 + 1 := ⟨_, rfl⟩
        replace h := h x33 e34
        refine r_iinc (n := 1) C 0 rfl x33 (by rw [e34]; rfl) [(5, .int x33), (4, .int x129_4), (0, .ref (A 0)), (1, .int a1), (3, .int a3)] (Nat.le_of_ble_eq_true rfl) rfl dX5_object_148 151 rfl ?_
        refine r_goto C 129 dX5_object_151 rfl ?_
        refine r_sub [(5, .int x33), (4, .int x129_4), (0, .ref (A 0)), (1, .int a1), (3, .int a3)] [0, 1, 2, 3, 4] rfl ?_
        exact ih x33 x129_4  S31 h
  have b114 : ∀ (x114_4 : Int32) (y114_0 : Int32) (y114_1 : Int32) (y114_2 : Int32) (S : Nat → Nat → Int32), wX5_object_b114 a1 a2 a3  x114_4 y114_0 y114_1 y114_2 S Q → J p l e { frames := 6, cells := 0, slots := 0, locals := 139 } s m args below meth c 0 0 Qf D 23 A (ceM A cI) Acc 6 S 114 [(4, .int x114_4), (0, .ref (A 0)), (1, .int a1), (2, .int a2), (3, .int a3)] [.int y114_0, .int y114_1, .int y114_2, .ref (A 1)] := by
    intro  x114_4 y114_0 y114_1 y114_2 S h
    unfold wX5_object_b114 at h
    refine r_iadd C dX5_object_114 115 rfl ?_
    refine s_M (k := 1) C (Nat.le_of_ble_eq_true rfl) (Nat.le_of_ble_eq_true rfl) h.1 dX5_object_115 116 rfl (fun S20 e21 => ?_)
    replace h := h.2
    replace h := h S20 e21
    refine r_aload_n C 1 rfl dX5_object_116 117 rfl ?_
    refine g_RX5_7 C dX5_object_117 120 rfl ?_
    refine r_iload C 0 rfl dX5_object_120 122 rfl ?_
    refine r_iconst C 1 rfl dX5_object_122 123 rfl ?_
    refine r_iadd C dX5_object_123 124 rfl ?_
    refine r_iload_n C 3 rfl dX5_object_124 125 rfl ?_
    refine s_M (k := 1) C (Nat.le_of_ble_eq_true rfl) (Nat.le_of_ble_eq_true rfl) h.1 dX5_object_125 126 rfl (fun S22 e23 => ?_)
    replace h := h.2
    replace h := h S22 e23
    refine r_iconst C 0 rfl dX5_object_126 127 rfl ?_
    refine r_istore C [(5, .int 0), (4, .int x114_4), (0, .ref (A 0)), (1, .int a1), (2, .int a2), (3, .int a3)] (Nat.le_of_ble_eq_true rfl) rfl dX5_object_127 129 rfl ?_
    refine r_sub [(5, .int 0), (4, .int x114_4), (0, .ref (A 0)), (1, .int a1), (3, .int a3)] [0, 1, 2, 3, 5] rfl ?_
    obtain ⟨f24, h⟩ := h
    exact b129  f24 0 x114_4  S22 h
  have b41 : ∀  (S : Nat → Nat → Int32), wX5_object_b41 a1 a2 a3   S Q → J p l e { frames := 6, cells := 0, slots := 0, locals := 139 } s m args below meth c 0 0 Qf D 23 A (ceM A cI) Acc 6 S 41 [(0, .ref (A 0)), (1, .int a1), (2, .int a2), (3, .int a3)] [] := by
    intro   S h
    unfold wX5_object_b41 at h
    refine r_aload_n C 0 rfl dX5_object_41 42 rfl ?_
    refine g_RX5_22 C dX5_object_42 45 rfl ?_
    refine r_iconst C 0 rfl dX5_object_45 46 rfl ?_
    refine i_Mk (k := 5) C (Nat.le_of_ble_eq_true rfl) (Nat.le_of_ble_eq_true rfl) 0 rfl (show vp_in 0 3 by unfold vp_in; decide) dX5_object_46 47 rfl ?_
    refine r_iload_n C 1 rfl dX5_object_47 48 rfl ?_
    refine r_iadd C dX5_object_48 49 rfl ?_
    refine r_iconst C 2 rfl dX5_object_49 50 rfl ?_
    refine r_iadd C dX5_object_50 51 rfl ?_
    refine r_aload_n C 0 rfl dX5_object_51 52 rfl ?_
    refine r_iconst C 0 rfl dX5_object_52 53 rfl ?_
    refine k_RX5_94 C (ctX5_size hX hi  h) ⟨(Nat.le_of_ble_eq_true rfl), (Nat.le_of_ble_eq_true rfl)⟩ (Nat.le_of_ble_eq_true rfl) ⟨Nat.le_refl 0, Nat.le_refl 0⟩ dX5_object_53 56 rfl (fun r10 S11 h => ?_)
    refine r_icmp_le C 61 dX5_object_56 59 rfl rfl (fun c12 => ?_) (fun c12 => ?_)
    · replace h := h.1 c12
      refine r_aload_n C 0 rfl dX5_object_61 62 rfl ?_
      refine r_iconst C 0 rfl dX5_object_62 63 rfl ?_
      refine r_aload_n C 0 rfl dX5_object_63 64 rfl ?_
      refine g_RX5_19 C dX5_object_64 67 rfl ?_
      refine r_iconst C 0 rfl dX5_object_67 68 rfl ?_
      refine i_Mk (k := 4) C (Nat.le_of_ble_eq_true rfl) (Nat.le_of_ble_eq_true rfl) 0 rfl (show vp_in 0 3 by unfold vp_in; decide) dX5_object_68 69 rfl ?_
      refine k_RX5_131 C (ctX5_begin hX hi  h) ⟨(Nat.le_of_ble_eq_true rfl), (Nat.le_of_ble_eq_true rfl)⟩ (Nat.le_of_ble_eq_true rfl) ⟨Nat.le_refl 0, Nat.le_refl 0⟩ dX5_object_69 72 rfl (fun r13 S14 h => ?_)
      refine r_aload_n C 0 rfl dX5_object_72 73 rfl ?_
      refine g_RX5_22 C dX5_object_73 76 rfl ?_
      refine r_iconst C 0 rfl dX5_object_76 77 rfl ?_
      refine i_Mk (k := 5) C (Nat.le_of_ble_eq_true rfl) (Nat.le_of_ble_eq_true rfl) 0 rfl (show vp_in 0 3 by unfold vp_in; decide) dX5_object_77 78 rfl ?_
      refine r_iadd C dX5_object_78 79 rfl ?_
      refine r_topi (fun x15 e16 => ?_)
      replace h := h x15 e16
      refine r_istore C [(4, .int x15), (0, .ref (A 0)), (1, .int a1), (2, .int a2), (3, .int a3)] (Nat.le_of_ble_eq_true rfl) rfl dX5_object_79 81 rfl ?_
      refine r_aload_n C 1 rfl dX5_object_81 82 rfl ?_
      refine g_RX5_22 C dX5_object_82 85 rfl ?_
      refine r_iconst C 0 rfl dX5_object_85 86 rfl ?_
      refine r_aload_n C 1 rfl dX5_object_86 87 rfl ?_
      refine g_RX5_22 C dX5_object_87 90 rfl ?_
      refine r_iconst C 0 rfl dX5_object_90 91 rfl ?_
      refine i_Mk (k := 5) C (Nat.le_of_ble_eq_true rfl) (Nat.le_of_ble_eq_true rfl) 0 rfl (show vp_in 0 3 by unfold vp_in; decide) dX5_object_91 92 rfl ?_
      refine r_iload_n C 2 rfl dX5_object_92 93 rfl ?_
      refine r_iadd C dX5_object_93 94 rfl ?_
      refine r_iconst C 2 rfl dX5_object_94 95 rfl ?_
      refine r_iadd C dX5_object_95 96 rfl ?_
      refine s_Mk (k := 5) C (Nat.le_of_ble_eq_true rfl) (Nat.le_of_ble_eq_true rfl) 0 rfl (show vp_in 0 3 by unfold vp_in; decide) dX5_object_96 97 rfl (fun S17 e18 => ?_)
      replace h := h S17 e18
      refine r_aload_n C 1 rfl dX5_object_97 98 rfl ?_
      refine g_RX5_7 C dX5_object_98 101 rfl ?_
      refine r_iload C 0 rfl dX5_object_101 103 rfl ?_
      refine r_iload_n C 2 rfl dX5_object_103 104 rfl ?_
      refine r_iload_n C 4 rfl dX5_object_104 105 rfl ?_
      refine r_if_eq C 113 dX5_object_105 108 rfl rfl (fun c19 => ?_) (fun c19 => ?_)
      · replace h := h.1 c19
        refine r_iconst C 0 rfl dX5_object_113 114 rfl ?_
        refine r_sub [(4, .int x15), (0, .ref (A 0)), (1, .int a1), (2, .int a2), (3, .int a3)] [0, 1, 2, 3, 4] rfl ?_
        exact b114  x15 0 a1 x15  S17 h
      · replace h := h.2 c19
        refine r_bipush C 64 rfl dX5_object_108 110 rfl ?_
        refine r_goto C 114 dX5_object_110 rfl ?_
        refine r_sub [(4, .int x15), (0, .ref (A 0)), (1, .int a1), (2, .int a2), (3, .int a3)] [0, 1, 2, 3, 4] rfl ?_
        exact b114  x15 64 a1 x15  S17 h
    · replace h := h.2 c12
      refine r_iconst C 0 rfl dX5_object_59 60 rfl ?_
      exact r_iret C hE hr hlk dX5_object_60 h
  have b3 : ∀ (nn : Nat) (x3_4 : Int32) (S : Nat → Nat → Int32), wX5_object_b3 a1 a2 a3  nn x3_4 S Q → J p l e { frames := 6, cells := 0, slots := 0, locals := 139 } s m args below meth c 0 0 Qf D 23 A (ceM A cI) Acc 6 S 3 [(4, .int x3_4), (0, .ref (A 0)), (1, .int a1), (2, .int a2), (3, .int a3)] [] := by
    intro nn
    induction nn with
    | zero => intro x3_4 S h; exact False.elim h
    | succ nn ih =>
      intro x3_4 S h
      rw [wX5_object_b3] at h
      refine r_iload C 0 rfl dX5_object_3 5 rfl ?_
      refine r_iconst C 3 rfl dX5_object_5 6 rfl ?_
      refine r_icmp_ge C 41 dX5_object_6 9 rfl rfl (fun c2 => ?_) (fun c2 => ?_)
      · replace h := h.1 c2
        refine r_sub [(0, .ref (A 0)), (1, .int a1), (2, .int a2), (3, .int a3)] [1, 2, 3, 4] rfl ?_
        exact b41    S h
      · replace h := h.2 c2
        refine r_aload_n C 1 rfl dX5_object_9 10 rfl ?_
        refine g_RX5_22 C dX5_object_10 13 rfl ?_
        refine r_iconst C 0 rfl dX5_object_13 14 rfl ?_
        refine i_Mk (k := 5) C (Nat.le_of_ble_eq_true rfl) (Nat.le_of_ble_eq_true rfl) 0 rfl (show vp_in 0 3 by unfold vp_in; decide) dX5_object_14 15 rfl ?_
        refine r_iload_n C 2 rfl dX5_object_15 16 rfl ?_
        refine r_iadd C dX5_object_16 17 rfl ?_
        refine r_iconst C 2 rfl dX5_object_17 18 rfl ?_
        refine r_iadd C dX5_object_18 19 rfl ?_
        refine r_aload_n C 1 rfl dX5_object_19 20 rfl ?_
        refine r_iconst C 0 rfl dX5_object_20 21 rfl ?_
        refine k_RX5_94 C (ctX5_size hX hi  h) ⟨(Nat.le_of_ble_eq_true rfl), (Nat.le_of_ble_eq_true rfl)⟩ (Nat.le_of_ble_eq_true rfl) ⟨Nat.le_refl 0, Nat.le_refl 0⟩ dX5_object_21 24 rfl (fun r3 S4 h => ?_)
        refine r_icmp_le C 41 dX5_object_24 27 rfl rfl (fun c5 => ?_) (fun c5 => ?_)
        · replace h := h.1 c5
          refine r_sub [(0, .ref (A 0)), (1, .int a1), (2, .int a2), (3, .int a3)] [1, 2, 3, 4] rfl ?_
          exact b41    S4 h
        · replace h := h.2 c5
          refine r_aload_n C 1 rfl dX5_object_27 28 rfl ?_
          refine r_iload C 0 rfl dX5_object_28 30 rfl ?_
          refine k_RX5_172 C (ctX5_gather hX hi  h) ⟨(Nat.le_of_ble_eq_true rfl), (Nat.le_of_ble_eq_true rfl)⟩ (Nat.le_of_ble_eq_true rfl) ⟨Nat.le_refl 0, Nat.le_refl 0⟩ dX5_object_30 33 rfl (fun r6 S7 h => ?_)
          refine r_istore C [(5, .int r6), (4, .int x3_4), (0, .ref (A 0)), (1, .int a1), (2, .int a2), (3, .int a3)] (Nat.le_of_ble_eq_true rfl) rfl dX5_object_33 35 rfl ?_
          obtain ⟨x8, e9⟩ : ∃ z : Int32, z = x3_4 + 1 := ⟨_, rfl⟩
          replace h := h x8 e9
          refine r_iinc (n := 1) C 1 rfl x8 (by rw [e9]; rfl) [(4, .int x8), (5, .int r6), (0, .ref (A 0)), (1, .int a1), (2, .int a2), (3, .int a3)] (Nat.le_of_ble_eq_true rfl) rfl dX5_object_35 38 rfl ?_
          refine r_goto C 3 dX5_object_38 rfl ?_
          refine r_sub [(4, .int x8), (0, .ref (A 0)), (1, .int a1), (2, .int a2), (3, .int a3)] [0, 2, 3, 4, 5] rfl ?_
          exact ih x8  S7 h
  unfold wX5_object at h
  refine r_iconst C 0 rfl dX5_object_0 1 rfl ?_
  refine r_istore C [(4, .int 0), (0, .ref (A 0)), (1, .int a1), (2, .int a2), (3, .int a3)] (Nat.le_of_ble_eq_true rfl) rfl dX5_object_1 3 rfl ?_
  refine r_sub [(4, .int 0), (0, .ref (A 0)), (1, .int a1), (2, .int a2), (3, .int a3)] [0, 1, 2, 3, 4] rfl ?_
  obtain ⟨f1, h⟩ := h
  exact b3  f1 0  S h
set_option maxRecDepth 100000 in
set_option maxHeartbeats 4000000 in
theorem ctX5_make {l : Launch} {D : va_G} {A : Nat → Nat} {cI : ClassId} {X : (Nat → Prop) → State → Heap → Prop} {a1 : Int32} {a2 : Int32} {a3 : Int32} {a4 : Int32} {S : Nat → Nat → Int32} {Q : Int32 → (Nat → Nat → Int32) → Prop} (hX : StX X) (hi : Apart 23 A)  (h : wX5_make a1 a2 a3 a4 S Q) : Ct l D (tyM cI) 23 A (ceM A cI) X yX5_make cX5_make 6 (some .int) 7 164 [.ref (A 0), .int a1, .int a2, .int a3, .int a4] S rI Q := by
  refine Ct.of (by decide +kernel) hX hi [(0, .ref (A 0)), (1, .int a1), (2, .int a2), (3, .int a3), (4, .int a4)] rfl (Nat.le_of_ble_eq_true rfl) ?_
  intro p e s m args below meth c Acc C hr hlk Qf hE
  have b70 : ∀ (x70_5 : Int32) (y70_0 : Int32) (y70_1 : Int32) (S : Nat → Nat → Int32), wX5_make_b70 a1 a2 a3 a4  x70_5 y70_0 y70_1 S Q → J p l e { frames := 7, cells := 0, slots := 0, locals := 164 } s m args below meth c 0 0 Qf D 23 A (ceM A cI) Acc 6 S 70 [(5, .int x70_5)] [.int y70_0, .int y70_1, .ref (A 6)] := by
    intro  x70_5 y70_0 y70_1 S h
    unfold wX5_make_b70 at h
    refine s_M (k := 6) C (Nat.le_of_ble_eq_true rfl) (Nat.le_of_ble_eq_true rfl) h.1 dX5_make_70 71 rfl (fun S13 e14 => ?_)
    replace h := h.2
    replace h := h S13 e14
    refine r_iload C 0 rfl dX5_make_71 73 rfl ?_
    exact r_iret C hE hr hlk dX5_make_73 h
  have b27 : ∀ (y27_0 : Int32) (S : Nat → Nat → Int32), wX5_make_b27 a1 a2 a3 a4  y27_0 S Q → J p l e { frames := 7, cells := 0, slots := 0, locals := 164 } s m args below meth c 0 0 Qf D 23 A (ceM A cI) Acc 6 S 27 [(0, .ref (A 0)), (1, .int a1), (2, .int a2), (3, .int a3), (4, .int a4)] [.int y27_0, .ref (A 0)] := by
    intro  y27_0 S h
    unfold wX5_make_b27 at h
    refine p_RX5_87 C (x := y27_0) dX5_make_27 30 rfl (fun S7 e8 => ?_)
    replace h := h S7 e8
    refine r_aload_n C 0 rfl dX5_make_30 31 rfl ?_
    refine g_RX5_87 C dX5_make_31 34 rfl ?_
    refine r_if_le C 39 dX5_make_34 37 rfl rfl (fun c9 => ?_) (fun c9 => ?_)
    · replace h := h.1 c9
      refine r_aload_n C 0 rfl dX5_make_39 40 rfl ?_
      refine r_iload_n C 2 rfl dX5_make_40 41 rfl ?_
      refine r_iload_n C 3 rfl dX5_make_41 42 rfl ?_
      refine r_iload C 4 rfl dX5_make_42 44 rfl ?_
      refine k_RX5_178 C (ctX5_object hX hi  h) ⟨(Nat.le_of_ble_eq_true rfl), (Nat.le_of_ble_eq_true rfl)⟩ (Nat.le_of_ble_eq_true rfl) ⟨Nat.le_refl 0, Nat.le_refl 0⟩ dX5_make_44 47 rfl (fun r10 S11 h => ?_)
      refine r_istore C [(5, .int r10), (0, .ref (A 0)), (1, .int a1), (2, .int a2), (3, .int a3), (4, .int a4)] (Nat.le_of_ble_eq_true rfl) rfl dX5_make_47 49 rfl ?_
      refine r_aload_n C 1 rfl dX5_make_49 50 rfl ?_
      refine g_RX5_25 C dX5_make_50 53 rfl ?_
      refine r_iload_n C 2 rfl dX5_make_53 54 rfl ?_
      refine r_iload C 0 rfl dX5_make_54 56 rfl ?_
      refine r_if_eq C 64 dX5_make_56 59 rfl rfl (fun c12 => ?_) (fun c12 => ?_)
      · replace h := h.1 c12
        refine r_aload_n C 1 rfl dX5_make_64 65 rfl ?_
        refine g_RX5_25 C dX5_make_65 68 rfl ?_
        refine r_iload_n C 2 rfl dX5_make_68 69 rfl ?_
        refine i_M (k := 6) C (Nat.le_of_ble_eq_true rfl) (Nat.le_of_ble_eq_true rfl) h.1 dX5_make_69 70 rfl ?_
        replace h := h.2
        refine r_sub [(5, .int r10)] [0] rfl ?_
        exact b70  r10 (S11 6 a1.toNatClampNeg) a1  S11 h
      · replace h := h.2 c12
        refine r_iload C 0 rfl dX5_make_59 61 rfl ?_
        refine r_goto C 70 dX5_make_61 rfl ?_
        refine r_sub [(5, .int r10)] [0] rfl ?_
        exact b70  r10 r10 a1  S11 h
    · replace h := h.2 c9
      refine r_iconst C 0 rfl dX5_make_37 38 rfl ?_
      exact r_iret C hE hr hlk dX5_make_38 h
  unfold wX5_make at h
  refine r_aload_n C 0 rfl dX5_make_0 1 rfl ?_
  refine r_iload_n C 1 rfl dX5_make_1 2 rfl ?_
  refine k_RX5_175 C (ctX5_isRoot hX hi  h) ⟨(Nat.le_of_ble_eq_true rfl), (Nat.le_of_ble_eq_true rfl)⟩ (Nat.le_of_ble_eq_true rfl) ⟨Nat.le_refl 0, Nat.le_refl 0⟩ dX5_make_2 5 rfl (fun r1 S2 h => ?_)
  rcases bool_or r1 with c3 | c3
  · replace h := h.1 c3
    refine r_if_neF C c3 12 dX5_make_5 8 rfl rfl ?_
    refine r_iconst C 1 rfl dX5_make_8 9 rfl ?_
    refine r_goto C 27 dX5_make_9 rfl ?_
    refine r_sub [(0, .ref (A 0)), (1, .int a1), (2, .int a2), (3, .int a3), (4, .int a4)] [0, 1, 2, 3, 4] rfl ?_
    exact b27  1  S2 h
  · replace h := h.2 c3
    refine r_if_neT C c3 12 dX5_make_5 8 rfl rfl ?_
    refine r_iload_n C 2 rfl dX5_make_12 13 rfl ?_
    refine r_iconst C 0 rfl dX5_make_13 14 rfl ?_
    refine r_bipush C 6 rfl dX5_make_14 16 rfl ?_
    refine k_RX5_90 C (ctX5_in hX hi  h) ⟨(Nat.le_of_ble_eq_true rfl), (Nat.le_of_ble_eq_true rfl)⟩ (Nat.le_of_ble_eq_true rfl) ⟨Nat.le_refl 0, Nat.le_refl 0⟩ dX5_make_16 19 rfl (fun r4 S5 h => ?_)
    rcases bool_or r4 with c6 | c6
    · replace h := h.1 c6
      refine r_if_neF C c6 26 dX5_make_19 22 rfl rfl ?_
      refine r_iconst C 2 rfl dX5_make_22 23 rfl ?_
      refine r_goto C 27 dX5_make_23 rfl ?_
      refine r_sub [(0, .ref (A 0)), (1, .int a1), (2, .int a2), (3, .int a3), (4, .int a4)] [0, 1, 2, 3, 4] rfl ?_
      exact b27  2  S5 h
    · replace h := h.2 c6
      refine r_if_neT C c6 26 dX5_make_19 22 rfl rfl ?_
      refine r_iconst C 0 rfl dX5_make_26 27 rfl ?_
      refine r_sub [(0, .ref (A 0)), (1, .int a1), (2, .int a2), (3, .int a3), (4, .int a4)] [0, 1, 2, 3, 4] rfl ?_
      exact b27  0  S5 h
set_option maxRecDepth 100000 in
set_option maxHeartbeats 4000000 in
theorem ctX5_push {l : Launch} {D : va_G} {A : Nat → Nat} {cI : ClassId} {X : (Nat → Prop) → State → Heap → Prop} {a1 : Int32} {a2 : Int32} {a3 : Int32} {S : Nat → Nat → Int32} {Q : Int32 → (Nat → Nat → Int32) → Prop} (hX : StX X) (hi : Apart 23 A)  (h : wX5_push a1 a2 a3 S Q) : Ct l D (tyM cI) 23 A (ceM A cI) X yX5_push cX5_push 6 (some .int) 7 164 [.ref (A 0), .int a1, .int a2, .int a3] S rI Q := by
  refine Ct.of (by decide +kernel) hX hi [(0, .ref (A 0)), (1, .int a1), (2, .int a2), (3, .int a3)] rfl (Nat.le_of_ble_eq_true rfl) ?_
  intro p e s m args below meth c Acc C hr hlk Qf hE
  have b36 : ∀ (nn : Nat) (x36_5 : Int32) (x36_4 : Int32) (S : Nat → Nat → Int32), wX5_push_b36 a1 a2 a3  nn x36_5 x36_4 S Q → J p l e { frames := 7, cells := 0, slots := 0, locals := 164 } s m args below meth c 0 0 Qf D 23 A (ceM A cI) Acc 6 S 36 [(5, .int x36_5), (4, .int x36_4), (0, .ref (A 0)), (1, .int a1), (2, .int a2), (3, .int a3)] [] := by
    intro nn
    induction nn with
    | zero => intro x36_5 x36_4 S h; exact False.elim h
    | succ nn ih =>
      intro x36_5 x36_4 S h
      rw [wX5_push_b36] at h
      refine r_aload_n C 2 rfl dX5_push_36 37 rfl ?_
      refine g_RX5_87 C dX5_push_37 40 rfl ?_
      refine r_if_ne C 99 dX5_push_40 43 rfl rfl (fun c10 => ?_) (fun c10 => ?_)
      · replace h := h.1 c10
        refine r_iload C 0 rfl dX5_push_43 45 rfl ?_
        refine r_if_eq C 99 dX5_push_45 48 rfl rfl (fun c11 => ?_) (fun c11 => ?_)
        · replace h := h.1 c11
          refine r_iload C 1 rfl dX5_push_99 101 rfl ?_
          exact r_iret C hE hr hlk dX5_push_101 h
        · replace h := h.2 c11
          refine r_iload C 1 rfl dX5_push_48 50 rfl ?_
          refine r_iload_n C 5 rfl dX5_push_50 51 rfl ?_
          refine r_icmp_ge C 99 dX5_push_51 54 rfl rfl (fun c12 => ?_) (fun c12 => ?_)
          · replace h := h.1 c12
            refine r_iload C 1 rfl dX5_push_99 101 rfl ?_
            exact r_iret C hE hr hlk dX5_push_101 h
          · replace h := h.2 c12
            refine r_aload_n C 2 rfl dX5_push_54 55 rfl ?_
            refine r_iconst C 2 rfl dX5_push_55 56 rfl ?_
            refine r_iload_n C 4 rfl dX5_push_56 57 rfl ?_
            refine r_iload C 1 rfl dX5_push_57 59 rfl ?_
            refine r_iadd C dX5_push_59 60 rfl ?_
            refine r_iconst C 0 rfl dX5_push_60 61 rfl ?_
            refine k_RX5_178 C (ctX5_object hX hi  h) ⟨(Nat.le_of_ble_eq_true rfl), (Nat.le_of_ble_eq_true rfl)⟩ (Nat.le_of_ble_eq_true rfl) ⟨Nat.le_refl 0, Nat.le_refl 0⟩ dX5_push_61 64 rfl (fun r13 S14 h => ?_)
            refine r_istore C [(5, .int r13), (4, .int x36_4), (0, .ref (A 0)), (1, .int a1), (2, .int a2), (3, .int a3)] (Nat.le_of_ble_eq_true rfl) rfl dX5_push_64 66 rfl ?_
            refine r_iload C 0 rfl dX5_push_66 68 rfl ?_
            refine r_if_eq C 36 dX5_push_68 71 rfl rfl (fun c15 => ?_) (fun c15 => ?_)
            · replace h := h.1 c15
              refine r_sub [(5, .int r13), (4, .int x36_4), (0, .ref (A 0)), (1, .int a1), (2, .int a2), (3, .int a3)] [0, 1, 2, 3, 4, 5] rfl ?_
              exact ih r13 x36_4  S14 h
            · replace h := h.2 c15
              refine r_aload_n C 2 rfl dX5_push_71 72 rfl ?_
              refine r_iload C 0 rfl dX5_push_72 74 rfl ?_
              refine r_iconst C 2 rfl dX5_push_74 75 rfl ?_
              refine r_iadd C dX5_push_75 76 rfl ?_
              refine r_aload_n C 2 rfl dX5_push_76 77 rfl ?_
              refine g_RX5_25 C dX5_push_77 80 rfl ?_
              refine r_iload_n C 3 rfl dX5_push_80 81 rfl ?_
              refine i_M (k := 6) C (Nat.le_of_ble_eq_true rfl) (Nat.le_of_ble_eq_true rfl) h.1 dX5_push_81 82 rfl ?_
              replace h := h.2
              refine k_RX5_182 C (ctX5_store hX hi  h) ⟨(Nat.le_of_ble_eq_true rfl), (Nat.le_of_ble_eq_true rfl)⟩ (Nat.le_of_ble_eq_true rfl) ⟨Nat.le_refl 0, Nat.le_refl 0⟩ dX5_push_82 85 rfl (fun S17 h => ?_)
              refine r_aload_n C 2 rfl dX5_push_85 86 rfl ?_
              refine g_RX5_25 C dX5_push_86 89 rfl ?_
              refine r_iload_n C 3 rfl dX5_push_89 90 rfl ?_
              refine r_iload C 0 rfl dX5_push_90 92 rfl ?_
              refine s_M (k := 6) C (Nat.le_of_ble_eq_true rfl) (Nat.le_of_ble_eq_true rfl) h.1 dX5_push_92 93 rfl (fun S18 e19 => ?_)
              replace h := h.2
              replace h := h S18 e19
              obtain ⟨x20, e21⟩ : ∃ z : Int32, z = x36_4 + 1 := ⟨_, rfl⟩
              replace h := h x20 e21
              refine r_iinc (n := 1) C 1 rfl x20 (by rw [e21]; rfl) [(4, .int x20), (5, .int r13), (0, .ref (A 0)), (1, .int a1), (2, .int a2), (3, .int a3)] (Nat.le_of_ble_eq_true rfl) rfl dX5_push_93 96 rfl ?_
              refine r_goto C 36 dX5_push_96 rfl ?_
              refine r_sub [(5, .int r13), (4, .int x20), (0, .ref (A 0)), (1, .int a1), (2, .int a2), (3, .int a3)] [1, 0, 2, 3, 4, 5] rfl ?_
              exact ih r13 x20  S18 h
      · replace h := h.2 c10
        refine r_iload C 1 rfl dX5_push_99 101 rfl ?_
        exact r_iret C hE hr hlk dX5_push_101 h
  have b27 : ∀ (y27_0 : Int32) (S : Nat → Nat → Int32), wX5_push_b27 a1 a2 a3  y27_0 S Q → J p l e { frames := 7, cells := 0, slots := 0, locals := 164 } s m args below meth c 0 0 Qf D 23 A (ceM A cI) Acc 6 S 27 [(0, .ref (A 0)), (1, .int a1), (2, .int a2), (3, .int a3)] [.int y27_0, .ref (A 0)] := by
    intro  y27_0 S h
    unfold wX5_push_b27 at h
    refine p_RX5_87 C (x := y27_0) dX5_push_27 30 rfl (fun S7 e8 => ?_)
    replace h := h S7 e8
    refine r_iconst C 0 rfl dX5_push_30 31 rfl ?_
    refine r_istore C [(4, .int 0), (0, .ref (A 0)), (1, .int a1), (2, .int a2), (3, .int a3)] (Nat.le_of_ble_eq_true rfl) rfl dX5_push_31 33 rfl ?_
    refine r_iconst C 1 rfl dX5_push_33 34 rfl ?_
    refine r_istore C [(5, .int 1), (4, .int 0), (0, .ref (A 0)), (1, .int a1), (2, .int a2), (3, .int a3)] (Nat.le_of_ble_eq_true rfl) rfl dX5_push_34 36 rfl ?_
    refine r_sub [(5, .int 1), (4, .int 0), (0, .ref (A 0)), (1, .int a1), (2, .int a2), (3, .int a3)] [0, 1, 2, 3, 4, 5] rfl ?_
    obtain ⟨f9, h⟩ := h
    exact b36  f9 1 0  S7 h
  unfold wX5_push at h
  refine r_aload_n C 0 rfl dX5_push_0 1 rfl ?_
  refine r_iload_n C 1 rfl dX5_push_1 2 rfl ?_
  refine k_RX5_175 C (ctX5_isRoot hX hi  h) ⟨(Nat.le_of_ble_eq_true rfl), (Nat.le_of_ble_eq_true rfl)⟩ (Nat.le_of_ble_eq_true rfl) ⟨Nat.le_refl 0, Nat.le_refl 0⟩ dX5_push_2 5 rfl (fun r1 S2 h => ?_)
  rcases bool_or r1 with c3 | c3
  · replace h := h.1 c3
    refine r_if_neF C c3 12 dX5_push_5 8 rfl rfl ?_
    refine r_iconst C 1 rfl dX5_push_8 9 rfl ?_
    refine r_goto C 27 dX5_push_9 rfl ?_
    refine r_sub [(0, .ref (A 0)), (1, .int a1), (2, .int a2), (3, .int a3)] [0, 1, 2, 3] rfl ?_
    exact b27  1  S2 h
  · replace h := h.2 c3
    refine r_if_neT C c3 12 dX5_push_5 8 rfl rfl ?_
    refine r_iload_n C 3 rfl dX5_push_12 13 rfl ?_
    refine r_iconst C 1 rfl dX5_push_13 14 rfl ?_
    refine r_bipush C 40 rfl dX5_push_14 16 rfl ?_
    refine k_RX5_90 C (ctX5_in hX hi  h) ⟨(Nat.le_of_ble_eq_true rfl), (Nat.le_of_ble_eq_true rfl)⟩ (Nat.le_of_ble_eq_true rfl) ⟨Nat.le_refl 0, Nat.le_refl 0⟩ dX5_push_16 19 rfl (fun r4 S5 h => ?_)
    rcases bool_or r4 with c6 | c6
    · replace h := h.1 c6
      refine r_if_neF C c6 26 dX5_push_19 22 rfl rfl ?_
      refine r_iconst C 2 rfl dX5_push_22 23 rfl ?_
      refine r_goto C 27 dX5_push_23 rfl ?_
      refine r_sub [(0, .ref (A 0)), (1, .int a1), (2, .int a2), (3, .int a3)] [0, 1, 2, 3] rfl ?_
      exact b27  2  S5 h
    · replace h := h.2 c6
      refine r_if_neT C c6 26 dX5_push_19 22 rfl rfl ?_
      refine r_iconst C 0 rfl dX5_push_26 27 rfl ?_
      refine r_sub [(0, .ref (A 0)), (1, .int a1), (2, .int a2), (3, .int a3)] [0, 1, 2, 3] rfl ?_
      exact b27  0  S5 h
set_option maxRecDepth 100000 in
set_option maxHeartbeats 4000000 in
theorem ctX5_hasField {l : Launch} {D : va_G} {A : Nat → Nat} {cI : ClassId} {X : (Nat → Prop) → State → Heap → Prop} {a1 : Int32} {a2 : Int32} {S : Nat → Nat → Int32} {Q : Bool → (Nat → Nat → Int32) → Prop} (hX : StX X) (hi : Apart 23 A)  (h : wX5_hasField a1 a2 S Q) : Ct l D (tyM cI) 23 A (ceM A cI) X yX5_hasField cX5_hasField 3 (some .boolean) 1 22 [.ref (A 0), .int a1, .int a2] S rZ Q := by
  refine Ct.of (by decide +kernel) hX hi [(0, .ref (A 0)), (1, .int a1), (2, .int a2)] rfl (Nat.le_of_ble_eq_true rfl) ?_
  intro p e s m args below meth c Acc C hr hlk Qf hE
  have b39 : ∀ (y39_0 : Int32) (S : Nat → Nat → Int32), wX5_hasField_b39 a1 a2  y39_0 S Q → J p l e { frames := 1, cells := 0, slots := 0, locals := 22 } s m args below meth c 0 0 Qf D 23 A (ceM A cI) Acc 3 S 39 [(0, .ref (A 0))] [.int y39_0, .ref (A 0)] := by
    intro  y39_0 S h
    unfold wX5_hasField_b39 at h
    refine p_RX5_87 C (x := y39_0) dX5_hasField_39 42 rfl (fun S7 e8 => ?_)
    replace h := h S7 e8
    refine r_aload_n C 0 rfl dX5_hasField_42 43 rfl ?_
    refine g_RX5_87 C dX5_hasField_43 46 rfl ?_
    refine r_if_ne C 53 dX5_hasField_46 49 rfl rfl (fun c9 => ?_) (fun c9 => ?_)
    · replace h := h.1 c9
      refine r_iconst C 1 rfl dX5_hasField_49 50 rfl ?_
      refine r_goto C 54 dX5_hasField_50 rfl ?_
      exact r_zret C hE hr hlk (r := true) dX5_hasField_54 h
    · replace h := h.2 c9
      refine r_iconst C 0 rfl dX5_hasField_53 54 rfl ?_
      exact r_zret C hE hr hlk (r := false) dX5_hasField_54 h
  unfold wX5_hasField at h
  refine r_aload_n C 0 rfl dX5_hasField_0 1 rfl ?_
  refine r_aload_n C 0 rfl dX5_hasField_1 2 rfl ?_
  refine g_RX5_25 C dX5_hasField_2 5 rfl ?_
  refine r_iload_n C 1 rfl dX5_hasField_5 6 rfl ?_
  refine i_M (k := 6) C (Nat.le_of_ble_eq_true rfl) (Nat.le_of_ble_eq_true rfl) h.1 dX5_hasField_6 7 rfl ?_
  replace h := h.2
  refine r_if_ne C 14 dX5_hasField_7 10 rfl rfl (fun c1 => ?_) (fun c1 => ?_)
  · replace h := h.1 c1
    refine r_iconst C 2 rfl dX5_hasField_10 11 rfl ?_
    refine r_goto C 39 dX5_hasField_11 rfl ?_
    refine r_sub [(0, .ref (A 0))] [0] rfl ?_
    exact b39  2  S h
  · replace h := h.2 c1
    refine r_iload_n C 2 rfl dX5_hasField_14 15 rfl ?_
    refine r_iconst C 0 rfl dX5_hasField_15 16 rfl ?_
    refine r_aload_n C 0 rfl dX5_hasField_16 17 rfl ?_
    refine r_aload_n C 0 rfl dX5_hasField_17 18 rfl ?_
    refine g_RX5_25 C dX5_hasField_18 21 rfl ?_
    refine r_iload_n C 1 rfl dX5_hasField_21 22 rfl ?_
    refine i_M (k := 6) C (Nat.le_of_ble_eq_true rfl) (Nat.le_of_ble_eq_true rfl) h.1 dX5_hasField_22 23 rfl ?_
    replace h := h.2
    refine k_RX5_121 C (ctX5_fields hX hi  h) ⟨(Nat.le_of_ble_eq_true rfl), (Nat.le_of_ble_eq_true rfl)⟩ (Nat.le_of_ble_eq_true rfl) ⟨Nat.le_refl 0, Nat.le_refl 0⟩ dX5_hasField_23 26 rfl (fun r2 S3 h => ?_)
    refine r_iconst C 1 rfl dX5_hasField_26 27 rfl ?_
    refine r_isub C dX5_hasField_27 28 rfl ?_
    refine k_RX5_90 C (ctX5_in hX hi  h) ⟨(Nat.le_of_ble_eq_true rfl), (Nat.le_of_ble_eq_true rfl)⟩ (Nat.le_of_ble_eq_true rfl) ⟨Nat.le_refl 0, Nat.le_refl 0⟩ dX5_hasField_28 31 rfl (fun r4 S5 h => ?_)
    rcases bool_or r4 with c6 | c6
    · replace h := h.1 c6
      refine r_if_neF C c6 38 dX5_hasField_31 34 rfl rfl ?_
      refine r_iconst C 1 rfl dX5_hasField_34 35 rfl ?_
      refine r_goto C 39 dX5_hasField_35 rfl ?_
      refine r_sub [(0, .ref (A 0))] [0] rfl ?_
      exact b39  1  S5 h
    · replace h := h.2 c6
      refine r_if_neT C c6 38 dX5_hasField_31 34 rfl rfl ?_
      refine r_iconst C 0 rfl dX5_hasField_38 39 rfl ?_
      refine r_sub [(0, .ref (A 0))] [0] rfl ?_
      exact b39  0  S5 h
set_option maxRecDepth 100000 in
set_option maxHeartbeats 4000000 in
theorem ctX5_put {l : Launch} {D : va_G} {A : Nat → Nat} {cI : ClassId} {X : (Nat → Prop) → State → Heap → Prop} {a1 : Int32} {a2 : Int32} {a3 : Int32} {S : Nat → Nat → Int32} {Q : Int32 → (Nat → Nat → Int32) → Prop} (hX : StX X) (hi : Apart 23 A)  (h : wX5_put a1 a2 a3 S Q) : Ct l D (tyM cI) 23 A (ceM A cI) X yX5_put cX5_put 6 (some .int) 4 88 [.ref (A 0), .int a1, .int a2, .int a3] S rI Q := by
  refine Ct.of (by decide +kernel) hX hi [(0, .ref (A 0)), (1, .int a1), (2, .int a2), (3, .int a3)] rfl (Nat.le_of_ble_eq_true rfl) ?_
  intro p e s m args below meth c Acc C hr hlk Qf hE
  have b85 : ∀ (x85_5 : Int32) (y85_0 : Int32) (y85_1 : Int32) (S : Nat → Nat → Int32), wX5_put_b85 a1 a2 a3  x85_5 y85_0 y85_1 S Q → J p l e { frames := 4, cells := 0, slots := 0, locals := 88 } s m args below meth c 0 0 Qf D 23 A (ceM A cI) Acc 6 S 85 [(5, .int x85_5)] [.int y85_0, .int y85_1, .ref (A 0)] := by
    intro  x85_5 y85_0 y85_1 S h
    unfold wX5_put_b85 at h
    refine k_RX5_182 C (ctX5_store hX hi  h) ⟨(Nat.le_of_ble_eq_true rfl), (Nat.le_of_ble_eq_true rfl)⟩ (Nat.le_of_ble_eq_true rfl) ⟨Nat.le_refl 0, Nat.le_refl 0⟩ dX5_put_85 88 rfl (fun S18 h => ?_)
    refine r_iload C 0 rfl dX5_put_88 90 rfl ?_
    exact r_iret C hE hr hlk dX5_put_90 h
  have b25 : ∀ (y25_0 : Int32) (S : Nat → Nat → Int32), wX5_put_b25 a1 a2 a3  y25_0 S Q → J p l e { frames := 4, cells := 0, slots := 0, locals := 88 } s m args below meth c 0 0 Qf D 23 A (ceM A cI) Acc 6 S 25 [(0, .ref (A 0)), (1, .int a1), (2, .int a2), (3, .int a3)] [.int y25_0, .ref (A 0)] := by
    intro  y25_0 S h
    unfold wX5_put_b25 at h
    refine p_RX5_87 C (x := y25_0) dX5_put_25 28 rfl (fun S8 e9 => ?_)
    replace h := h S8 e9
    refine r_aload_n C 0 rfl dX5_put_28 29 rfl ?_
    refine g_RX5_87 C dX5_put_29 32 rfl ?_
    refine r_if_gt C 44 dX5_put_32 35 rfl rfl (fun c10 => ?_) (fun c10 => ?_)
    · replace h := h.1 c10
      refine r_iconst C 0 rfl dX5_put_44 45 rfl ?_
      exact r_iret C hE hr hlk dX5_put_45 h
    · replace h := h.2 c10
      refine r_aload_n C 0 rfl dX5_put_35 36 rfl ?_
      refine r_iload_n C 1 rfl dX5_put_36 37 rfl ?_
      refine r_iload_n C 2 rfl dX5_put_37 38 rfl ?_
      refine k_RX5_185 C (ctX5_hasField hX hi  h) ⟨(Nat.le_of_ble_eq_true rfl), (Nat.le_of_ble_eq_true rfl)⟩ (Nat.le_of_ble_eq_true rfl) ⟨Nat.le_refl 0, Nat.le_refl 0⟩ dX5_put_38 41 rfl (fun r11 S12 h => ?_)
      rcases bool_or r11 with c13 | c13
      · replace h := h.1 c13
        refine r_if_neF C c13 46 dX5_put_41 44 rfl rfl ?_
        refine r_iconst C 0 rfl dX5_put_44 45 rfl ?_
        exact r_iret C hE hr hlk dX5_put_45 h
      · replace h := h.2 c13
        refine r_if_neT C c13 46 dX5_put_41 44 rfl rfl ?_
        refine r_aload_n C 0 rfl dX5_put_46 47 rfl ?_
        refine g_RX5_25 C dX5_put_47 50 rfl ?_
        refine r_iload_n C 1 rfl dX5_put_50 51 rfl ?_
        refine i_M (k := 6) C (Nat.le_of_ble_eq_true rfl) (Nat.le_of_ble_eq_true rfl) h.1 dX5_put_51 52 rfl ?_
        replace h := h.2
        refine r_iconst C 2 rfl dX5_put_52 53 rfl ?_
        refine r_iadd C dX5_put_53 54 rfl ?_
        refine r_iload_n C 2 rfl dX5_put_54 55 rfl ?_
        refine r_iadd C dX5_put_55 56 rfl ?_
        refine r_topi (fun x14 e15 => ?_)
        replace h := h x14 e15
        refine r_istore C [(4, .int x14), (0, .ref (A 0)), (1, .int a1), (2, .int a2), (3, .int a3)] (Nat.le_of_ble_eq_true rfl) rfl dX5_put_56 58 rfl ?_
        refine r_aload_n C 1 rfl dX5_put_58 59 rfl ?_
        refine g_RX5_7 C dX5_put_59 62 rfl ?_
        refine r_iload C 0 rfl dX5_put_62 64 rfl ?_
        refine i_M (k := 1) C (Nat.le_of_ble_eq_true rfl) (Nat.le_of_ble_eq_true rfl) h.1 dX5_put_64 65 rfl ?_
        replace h := h.2
        refine r_istore C [(5, .int (S12 1 x14.toNatClampNeg)), (4, .int x14), (0, .ref (A 0)), (1, .int a1), (2, .int a2), (3, .int a3)] (Nat.le_of_ble_eq_true rfl) rfl dX5_put_65 67 rfl ?_
        refine r_aload_n C 2 rfl dX5_put_67 68 rfl ?_
        refine r_iload C 1 rfl dX5_put_68 70 rfl ?_
        refine r_iload_n C 5 rfl dX5_put_70 71 rfl ?_
        refine r_iconst C (-1 : Int32) rfl dX5_put_71 72 rfl ?_
        refine r_icmp_ne C 79 dX5_put_72 75 rfl rfl (fun c16 => ?_) (fun c16 => ?_)
        · replace h := h.1 c16
          refine r_iconst C 0 rfl dX5_put_75 76 rfl ?_
          refine r_goto C 85 dX5_put_76 rfl ?_
          refine r_sub [(5, .int (S12 1 x14.toNatClampNeg))] [0] rfl ?_
          exact b85  (S12 1 x14.toNatClampNeg) 0 x14  S12 h
        · replace h := h.2 c16
          refine r_aload_n C 2 rfl dX5_put_79 80 rfl ?_
          refine g_RX5_25 C dX5_put_80 83 rfl ?_
          refine r_iload_n C 5 rfl dX5_put_83 84 rfl ?_
          refine i_M (k := 6) C (Nat.le_of_ble_eq_true rfl) (Nat.le_of_ble_eq_true rfl) h.1 dX5_put_84 85 rfl ?_
          replace h := h.2
          refine r_sub [(5, .int (S12 1 x14.toNatClampNeg))] [0] rfl ?_
          exact b85  (S12 1 x14.toNatClampNeg) (S12 6 a3.toNatClampNeg) x14  S12 h
  have b24 : ∀  (S : Nat → Nat → Int32), wX5_put_b24 a1 a2 a3   S Q → J p l e { frames := 4, cells := 0, slots := 0, locals := 88 } s m args below meth c 0 0 Qf D 23 A (ceM A cI) Acc 6 S 24 [(0, .ref (A 0)), (1, .int a1), (2, .int a2), (3, .int a3)] [.ref (A 0)] := by
    intro   S h
    unfold wX5_put_b24 at h
    refine r_iconst C 1 rfl dX5_put_24 25 rfl ?_
    refine r_sub [(0, .ref (A 0)), (1, .int a1), (2, .int a2), (3, .int a3)] [0, 1, 2, 3] rfl ?_
    exact b25  1  S h
  have b20 : ∀  (S : Nat → Nat → Int32), wX5_put_b20 a1 a2 a3   S Q → J p l e { frames := 4, cells := 0, slots := 0, locals := 88 } s m args below meth c 0 0 Qf D 23 A (ceM A cI) Acc 6 S 20 [(0, .ref (A 0)), (1, .int a1), (2, .int a2), (3, .int a3)] [.ref (A 0)] := by
    intro   S h
    unfold wX5_put_b20 at h
    refine r_iconst C 0 rfl dX5_put_20 21 rfl ?_
    refine r_goto C 25 dX5_put_21 rfl ?_
    refine r_sub [(0, .ref (A 0)), (1, .int a1), (2, .int a2), (3, .int a3)] [0, 1, 2, 3] rfl ?_
    exact b25  0  S h
  unfold wX5_put at h
  refine r_aload_n C 0 rfl dX5_put_0 1 rfl ?_
  refine r_iload_n C 1 rfl dX5_put_1 2 rfl ?_
  refine k_RX5_175 C (ctX5_isRoot hX hi  h) ⟨(Nat.le_of_ble_eq_true rfl), (Nat.le_of_ble_eq_true rfl)⟩ (Nat.le_of_ble_eq_true rfl) ⟨Nat.le_refl 0, Nat.le_refl 0⟩ dX5_put_2 5 rfl (fun r1 S2 h => ?_)
  rcases bool_or r1 with c3 | c3
  · replace h := h.1 c3
    refine r_if_eqF C c3 24 dX5_put_5 8 rfl rfl ?_
    refine r_sub [(0, .ref (A 0)), (1, .int a1), (2, .int a2), (3, .int a3)] [0, 1, 2, 3] rfl ?_
    exact b24    S2 h
  · replace h := h.2 c3
    refine r_if_eqT C c3 24 dX5_put_5 8 rfl rfl ?_
    refine r_iload_n C 3 rfl dX5_put_8 9 rfl ?_
    refine r_iconst C (-1 : Int32) rfl dX5_put_9 10 rfl ?_
    refine r_icmp_eq C 20 dX5_put_10 13 rfl rfl (fun c4 => ?_) (fun c4 => ?_)
    · replace h := h.1 c4
      refine r_sub [(0, .ref (A 0)), (1, .int a1), (2, .int a2), (3, .int a3)] [0, 1, 2, 3] rfl ?_
      exact b20    S2 h
    · replace h := h.2 c4
      refine r_iload_n C 3 rfl dX5_put_13 14 rfl ?_
      refine k_RX5_175 C (ctX5_isRoot hX hi  h) ⟨(Nat.le_of_ble_eq_true rfl), (Nat.le_of_ble_eq_true rfl)⟩ (Nat.le_of_ble_eq_true rfl) ⟨Nat.le_refl 0, Nat.le_refl 0⟩ dX5_put_14 17 rfl (fun r5 S6 h => ?_)
      rcases bool_or r5 with c7 | c7
      · replace h := h.1 c7
        refine r_if_eqF C c7 24 dX5_put_17 20 rfl rfl ?_
        refine r_sub [(0, .ref (A 0)), (1, .int a1), (2, .int a2), (3, .int a3)] [0, 1, 2, 3] rfl ?_
        exact b24    S6 h
      · replace h := h.2 c7
        refine r_if_eqT C c7 24 dX5_put_17 20 rfl rfl ?_
        refine r_sub [(0, .ref (A 0)), (1, .int a1), (2, .int a2), (3, .int a3)] [0, 1, 2, 3] rfl ?_
        exact b20    S6 h
set_option maxRecDepth 100000 in
set_option maxHeartbeats 4000000 in
theorem ctX5_get {l : Launch} {D : va_G} {A : Nat → Nat} {cI : ClassId} {X : (Nat → Prop) → State → Heap → Prop} {a1 : Int32} {a2 : Int32} {a3 : Int32} {S : Nat → Nat → Int32} {Q : Int32 → (Nat → Nat → Int32) → Prop} (hX : StX X) (hi : Apart 23 A)  (h : wX5_get a1 a2 a3 S Q) : Ct l D (tyM cI) 23 A (ceM A cI) X yX5_get cX5_get 4 (some .int) 2 44 [.ref (A 0), .int a1, .int a2, .int a3] S rI Q := by
  refine Ct.of (by decide +kernel) hX hi [(0, .ref (A 0)), (1, .int a1), (2, .int a2), (3, .int a3)] rfl (Nat.le_of_ble_eq_true rfl) ?_
  intro p e s m args below meth c Acc C hr hlk Qf hE
  have b20 : ∀ (y20_0 : Int32) (S : Nat → Nat → Int32), wX5_get_b20 a1 a2 a3  y20_0 S Q → J p l e { frames := 2, cells := 0, slots := 0, locals := 44 } s m args below meth c 0 0 Qf D 23 A (ceM A cI) Acc 4 S 20 [(0, .ref (A 0)), (1, .int a1), (2, .int a2), (3, .int a3)] [.int y20_0, .ref (A 0)] := by
    intro  y20_0 S h
    unfold wX5_get_b20 at h
    refine p_RX5_87 C (x := y20_0) dX5_get_20 23 rfl (fun S7 e8 => ?_)
    replace h := h S7 e8
    refine r_aload_n C 0 rfl dX5_get_23 24 rfl ?_
    refine g_RX5_87 C dX5_get_24 27 rfl ?_
    refine r_if_gt C 39 dX5_get_27 30 rfl rfl (fun c9 => ?_) (fun c9 => ?_)
    · replace h := h.1 c9
      refine r_iconst C 0 rfl dX5_get_39 40 rfl ?_
      exact r_iret C hE hr hlk dX5_get_40 h
    · replace h := h.2 c9
      refine r_aload_n C 0 rfl dX5_get_30 31 rfl ?_
      refine r_iload_n C 2 rfl dX5_get_31 32 rfl ?_
      refine r_iload_n C 3 rfl dX5_get_32 33 rfl ?_
      refine k_RX5_185 C (ctX5_hasField hX hi  h) ⟨(Nat.le_of_ble_eq_true rfl), (Nat.le_of_ble_eq_true rfl)⟩ (Nat.le_of_ble_eq_true rfl) ⟨Nat.le_refl 0, Nat.le_refl 0⟩ dX5_get_33 36 rfl (fun r10 S11 h => ?_)
      rcases bool_or r10 with c12 | c12
      · replace h := h.1 c12
        refine r_if_neF C c12 41 dX5_get_36 39 rfl rfl ?_
        refine r_iconst C 0 rfl dX5_get_39 40 rfl ?_
        exact r_iret C hE hr hlk dX5_get_40 h
      · replace h := h.2 c12
        refine r_if_neT C c12 41 dX5_get_36 39 rfl rfl ?_
        refine r_aload_n C 0 rfl dX5_get_41 42 rfl ?_
        refine g_RX5_25 C dX5_get_42 45 rfl ?_
        refine r_iload_n C 1 rfl dX5_get_45 46 rfl ?_
        refine r_aload_n C 0 rfl dX5_get_46 47 rfl ?_
        refine g_RX5_7 C dX5_get_47 50 rfl ?_
        refine r_aload_n C 0 rfl dX5_get_50 51 rfl ?_
        refine g_RX5_25 C dX5_get_51 54 rfl ?_
        refine r_iload_n C 2 rfl dX5_get_54 55 rfl ?_
        refine i_M (k := 6) C (Nat.le_of_ble_eq_true rfl) (Nat.le_of_ble_eq_true rfl) h.1 dX5_get_55 56 rfl ?_
        replace h := h.2
        refine r_iconst C 2 rfl dX5_get_56 57 rfl ?_
        refine r_iadd C dX5_get_57 58 rfl ?_
        refine r_iload_n C 3 rfl dX5_get_58 59 rfl ?_
        refine r_iadd C dX5_get_59 60 rfl ?_
        refine i_M (k := 1) C (Nat.le_of_ble_eq_true rfl) (Nat.le_of_ble_eq_true rfl) h.1 dX5_get_60 61 rfl ?_
        replace h := h.2
        refine s_M (k := 6) C (Nat.le_of_ble_eq_true rfl) (Nat.le_of_ble_eq_true rfl) h.1 dX5_get_61 62 rfl (fun S13 e14 => ?_)
        replace h := h.2
        replace h := h S13 e14
        refine r_aload_n C 0 rfl dX5_get_62 63 rfl ?_
        refine g_RX5_25 C dX5_get_63 66 rfl ?_
        refine r_iload_n C 1 rfl dX5_get_66 67 rfl ?_
        refine i_M (k := 6) C (Nat.le_of_ble_eq_true rfl) (Nat.le_of_ble_eq_true rfl) h.1 dX5_get_67 68 rfl ?_
        replace h := h.2
        exact r_iret C hE hr hlk dX5_get_68 h
  have b19 : ∀  (S : Nat → Nat → Int32), wX5_get_b19 a1 a2 a3   S Q → J p l e { frames := 2, cells := 0, slots := 0, locals := 44 } s m args below meth c 0 0 Qf D 23 A (ceM A cI) Acc 4 S 19 [(0, .ref (A 0)), (1, .int a1), (2, .int a2), (3, .int a3)] [.ref (A 0)] := by
    intro   S h
    unfold wX5_get_b19 at h
    refine r_iconst C 1 rfl dX5_get_19 20 rfl ?_
    refine r_sub [(0, .ref (A 0)), (1, .int a1), (2, .int a2), (3, .int a3)] [0, 1, 2, 3] rfl ?_
    exact b20  1  S h
  unfold wX5_get at h
  refine r_aload_n C 0 rfl dX5_get_0 1 rfl ?_
  refine r_iload_n C 1 rfl dX5_get_1 2 rfl ?_
  refine k_RX5_175 C (ctX5_isRoot hX hi  h) ⟨(Nat.le_of_ble_eq_true rfl), (Nat.le_of_ble_eq_true rfl)⟩ (Nat.le_of_ble_eq_true rfl) ⟨Nat.le_refl 0, Nat.le_refl 0⟩ dX5_get_2 5 rfl (fun r1 S2 h => ?_)
  rcases bool_or r1 with c3 | c3
  · replace h := h.1 c3
    refine r_if_eqF C c3 19 dX5_get_5 8 rfl rfl ?_
    refine r_sub [(0, .ref (A 0)), (1, .int a1), (2, .int a2), (3, .int a3)] [0, 1, 2, 3] rfl ?_
    exact b19    S2 h
  · replace h := h.2 c3
    refine r_if_eqT C c3 19 dX5_get_5 8 rfl rfl ?_
    refine r_iload_n C 2 rfl dX5_get_8 9 rfl ?_
    refine k_RX5_175 C (ctX5_isRoot hX hi  h) ⟨(Nat.le_of_ble_eq_true rfl), (Nat.le_of_ble_eq_true rfl)⟩ (Nat.le_of_ble_eq_true rfl) ⟨Nat.le_refl 0, Nat.le_refl 0⟩ dX5_get_9 12 rfl (fun r4 S5 h => ?_)
    rcases bool_or r4 with c6 | c6
    · replace h := h.1 c6
      refine r_if_eqF C c6 19 dX5_get_12 15 rfl rfl ?_
      refine r_sub [(0, .ref (A 0)), (1, .int a1), (2, .int a2), (3, .int a3)] [0, 1, 2, 3] rfl ?_
      exact b19    S5 h
    · replace h := h.2 c6
      refine r_if_eqT C c6 19 dX5_get_12 15 rfl rfl ?_
      refine r_iconst C 0 rfl dX5_get_15 16 rfl ?_
      refine r_goto C 20 dX5_get_16 rfl ?_
      refine r_sub [(0, .ref (A 0)), (1, .int a1), (2, .int a2), (3, .int a3)] [0, 1, 2, 3] rfl ?_
      exact b20  0  S5 h
set_option maxRecDepth 100000 in
set_option maxHeartbeats 4000000 in
theorem ctX5_move {l : Launch} {D : va_G} {A : Nat → Nat} {cI : ClassId} {X : (Nat → Prop) → State → Heap → Prop} {a1 : Int32} {a2 : Int32} {S : Nat → Nat → Int32} {Q : Int32 → (Nat → Nat → Int32) → Prop} (hX : StX X) (hi : Apart 23 A)  (h : wX5_move a1 a2 S Q) : Ct l D (tyM cI) 23 A (ceM A cI) X yX5_move cX5_move 3 (some .int) 2 42 [.ref (A 0), .int a1, .int a2] S rI Q := by
  refine Ct.of (by decide +kernel) hX hi [(0, .ref (A 0)), (1, .int a1), (2, .int a2)] rfl (Nat.le_of_ble_eq_true rfl) ?_
  intro p e s m args below meth c Acc C hr hlk Qf hE
  have b57 : ∀ (y57_0 : Int32) (y57_1 : Int32) (S : Nat → Nat → Int32), wX5_move_b57 a1 a2  y57_0 y57_1 S Q → J p l e { frames := 2, cells := 0, slots := 0, locals := 42 } s m args below meth c 0 0 Qf D 23 A (ceM A cI) Acc 3 S 57 [(0, .ref (A 0)), (1, .int a1)] [.int y57_0, .int y57_1, .ref (A 6)] := by
    intro  y57_0 y57_1 S h
    unfold wX5_move_b57 at h
    refine s_M (k := 6) C (Nat.le_of_ble_eq_true rfl) (Nat.le_of_ble_eq_true rfl) h.1 dX5_move_57 58 rfl (fun S12 e13 => ?_)
    replace h := h.2
    replace h := h S12 e13
    refine r_aload_n C 0 rfl dX5_move_58 59 rfl ?_
    refine g_RX5_25 C dX5_move_59 62 rfl ?_
    refine r_iload_n C 1 rfl dX5_move_62 63 rfl ?_
    refine i_M (k := 6) C (Nat.le_of_ble_eq_true rfl) (Nat.le_of_ble_eq_true rfl) h.1 dX5_move_63 64 rfl ?_
    replace h := h.2
    exact r_iret C hE hr hlk dX5_move_64 h
  have b25 : ∀ (y25_0 : Int32) (S : Nat → Nat → Int32), wX5_move_b25 a1 a2  y25_0 S Q → J p l e { frames := 2, cells := 0, slots := 0, locals := 42 } s m args below meth c 0 0 Qf D 23 A (ceM A cI) Acc 3 S 25 [(0, .ref (A 0)), (1, .int a1), (2, .int a2)] [.int y25_0, .ref (A 0)] := by
    intro  y25_0 S h
    unfold wX5_move_b25 at h
    refine p_RX5_87 C (x := y25_0) dX5_move_25 28 rfl (fun S8 e9 => ?_)
    replace h := h S8 e9
    refine r_aload_n C 0 rfl dX5_move_28 29 rfl ?_
    refine g_RX5_87 C dX5_move_29 32 rfl ?_
    refine r_if_le C 37 dX5_move_32 35 rfl rfl (fun c10 => ?_) (fun c10 => ?_)
    · replace h := h.1 c10
      refine r_aload_n C 0 rfl dX5_move_37 38 rfl ?_
      refine g_RX5_25 C dX5_move_38 41 rfl ?_
      refine r_iload_n C 1 rfl dX5_move_41 42 rfl ?_
      refine r_iload_n C 2 rfl dX5_move_42 43 rfl ?_
      refine r_iconst C (-1 : Int32) rfl dX5_move_43 44 rfl ?_
      refine r_icmp_ne C 51 dX5_move_44 47 rfl rfl (fun c11 => ?_) (fun c11 => ?_)
      · replace h := h.1 c11
        refine r_iconst C 0 rfl dX5_move_47 48 rfl ?_
        refine r_goto C 57 dX5_move_48 rfl ?_
        refine r_sub [(0, .ref (A 0)), (1, .int a1)] [0, 1] rfl ?_
        exact b57  0 a1  S8 h
      · replace h := h.2 c11
        refine r_aload_n C 0 rfl dX5_move_51 52 rfl ?_
        refine g_RX5_25 C dX5_move_52 55 rfl ?_
        refine r_iload_n C 2 rfl dX5_move_55 56 rfl ?_
        refine i_M (k := 6) C (Nat.le_of_ble_eq_true rfl) (Nat.le_of_ble_eq_true rfl) h.1 dX5_move_56 57 rfl ?_
        replace h := h.2
        refine r_sub [(0, .ref (A 0)), (1, .int a1)] [0, 1] rfl ?_
        exact b57  (S8 6 a2.toNatClampNeg) a1  S8 h
    · replace h := h.2 c10
      refine r_iconst C 0 rfl dX5_move_35 36 rfl ?_
      exact r_iret C hE hr hlk dX5_move_36 h
  have b24 : ∀  (S : Nat → Nat → Int32), wX5_move_b24 a1 a2   S Q → J p l e { frames := 2, cells := 0, slots := 0, locals := 42 } s m args below meth c 0 0 Qf D 23 A (ceM A cI) Acc 3 S 24 [(0, .ref (A 0)), (1, .int a1), (2, .int a2)] [.ref (A 0)] := by
    intro   S h
    unfold wX5_move_b24 at h
    refine r_iconst C 1 rfl dX5_move_24 25 rfl ?_
    refine r_sub [(0, .ref (A 0)), (1, .int a1), (2, .int a2)] [0, 1, 2] rfl ?_
    exact b25  1  S h
  have b20 : ∀  (S : Nat → Nat → Int32), wX5_move_b20 a1 a2   S Q → J p l e { frames := 2, cells := 0, slots := 0, locals := 42 } s m args below meth c 0 0 Qf D 23 A (ceM A cI) Acc 3 S 20 [(0, .ref (A 0)), (1, .int a1), (2, .int a2)] [.ref (A 0)] := by
    intro   S h
    unfold wX5_move_b20 at h
    refine r_iconst C 0 rfl dX5_move_20 21 rfl ?_
    refine r_goto C 25 dX5_move_21 rfl ?_
    refine r_sub [(0, .ref (A 0)), (1, .int a1), (2, .int a2)] [0, 1, 2] rfl ?_
    exact b25  0  S h
  unfold wX5_move at h
  refine r_aload_n C 0 rfl dX5_move_0 1 rfl ?_
  refine r_iload_n C 1 rfl dX5_move_1 2 rfl ?_
  refine k_RX5_175 C (ctX5_isRoot hX hi  h) ⟨(Nat.le_of_ble_eq_true rfl), (Nat.le_of_ble_eq_true rfl)⟩ (Nat.le_of_ble_eq_true rfl) ⟨Nat.le_refl 0, Nat.le_refl 0⟩ dX5_move_2 5 rfl (fun r1 S2 h => ?_)
  rcases bool_or r1 with c3 | c3
  · replace h := h.1 c3
    refine r_if_eqF C c3 24 dX5_move_5 8 rfl rfl ?_
    refine r_sub [(0, .ref (A 0)), (1, .int a1), (2, .int a2)] [0, 1, 2] rfl ?_
    exact b24    S2 h
  · replace h := h.2 c3
    refine r_if_eqT C c3 24 dX5_move_5 8 rfl rfl ?_
    refine r_iload_n C 2 rfl dX5_move_8 9 rfl ?_
    refine r_iconst C (-1 : Int32) rfl dX5_move_9 10 rfl ?_
    refine r_icmp_eq C 20 dX5_move_10 13 rfl rfl (fun c4 => ?_) (fun c4 => ?_)
    · replace h := h.1 c4
      refine r_sub [(0, .ref (A 0)), (1, .int a1), (2, .int a2)] [0, 1, 2] rfl ?_
      exact b20    S2 h
    · replace h := h.2 c4
      refine r_iload_n C 2 rfl dX5_move_13 14 rfl ?_
      refine k_RX5_175 C (ctX5_isRoot hX hi  h) ⟨(Nat.le_of_ble_eq_true rfl), (Nat.le_of_ble_eq_true rfl)⟩ (Nat.le_of_ble_eq_true rfl) ⟨Nat.le_refl 0, Nat.le_refl 0⟩ dX5_move_14 17 rfl (fun r5 S6 h => ?_)
      rcases bool_or r5 with c7 | c7
      · replace h := h.1 c7
        refine r_if_eqF C c7 24 dX5_move_17 20 rfl rfl ?_
        refine r_sub [(0, .ref (A 0)), (1, .int a1), (2, .int a2)] [0, 1, 2] rfl ?_
        exact b24    S6 h
      · replace h := h.2 c7
        refine r_if_eqT C c7 24 dX5_move_17 20 rfl rfl ?_
        refine r_sub [(0, .ref (A 0)), (1, .int a1), (2, .int a2)] [0, 1, 2] rfl ?_
        exact b20    S6 h
set_option maxRecDepth 100000 in
set_option maxHeartbeats 4000000 in
theorem ctX5_keep {l : Launch} {D : va_G} {A : Nat → Nat} {cI : ClassId} {X : (Nat → Prop) → State → Heap → Prop} {a1 : Int32} {S : Nat → Nat → Int32} {Q : Int32 → (Nat → Nat → Int32) → Prop} (hX : StX X) (hi : Apart 23 A)  (h : wX5_keep a1 S Q) : Ct l D (tyM cI) 23 A (ceM A cI) X yX5_keep cX5_keep 2 (some .int) 2 42 [.ref (A 0), .int a1] S rI Q := by
  refine Ct.of (by decide +kernel) hX hi [(0, .ref (A 0)), (1, .int a1)] rfl (Nat.le_of_ble_eq_true rfl) ?_
  intro p e s m args below meth c Acc C hr hlk Qf hE
  have b26 : ∀ (y26_0 : Int32) (S : Nat → Nat → Int32), wX5_keep_b26 a1  y26_0 S Q → J p l e { frames := 2, cells := 0, slots := 0, locals := 42 } s m args below meth c 0 0 Qf D 23 A (ceM A cI) Acc 2 S 26 [(0, .ref (A 0)), (1, .int a1)] [.int y26_0, .ref (A 0)] := by
    intro  y26_0 S h
    unfold wX5_keep_b26 at h
    refine p_RX5_87 C (x := y26_0) dX5_keep_26 29 rfl (fun S5 e6 => ?_)
    replace h := h S5 e6
    refine r_aload_n C 0 rfl dX5_keep_29 30 rfl ?_
    refine g_RX5_87 C dX5_keep_30 33 rfl ?_
    refine r_if_le C 38 dX5_keep_33 36 rfl rfl (fun c7 => ?_) (fun c7 => ?_)
    · replace h := h.1 c7
      refine r_aload_n C 0 rfl dX5_keep_38 39 rfl ?_
      refine g_RX5_28 C dX5_keep_39 42 rfl ?_
      refine r_aload_n C 0 rfl dX5_keep_42 43 rfl ?_
      refine g_RX5_157 C dX5_keep_43 46 rfl ?_
      refine r_aload_n C 0 rfl dX5_keep_46 47 rfl ?_
      refine g_RX5_25 C dX5_keep_47 50 rfl ?_
      refine r_iload_n C 1 rfl dX5_keep_50 51 rfl ?_
      refine i_M (k := 6) C (Nat.le_of_ble_eq_true rfl) (Nat.le_of_ble_eq_true rfl) h.1 dX5_keep_51 52 rfl ?_
      replace h := h.2
      refine s_M (k := 7) C (Nat.le_of_ble_eq_true rfl) (Nat.le_of_ble_eq_true rfl) h.1 dX5_keep_52 53 rfl (fun S8 e9 => ?_)
      replace h := h.2
      replace h := h S8 e9
      refine r_aload_n C 0 rfl dX5_keep_53 54 rfl ?_
      refine r_dup C rfl dX5_keep_54 55 rfl ?_
      refine g_RX5_157 C dX5_keep_55 58 rfl ?_
      refine r_iconst C 1 rfl dX5_keep_58 59 rfl ?_
      refine r_iadd C dX5_keep_59 60 rfl ?_
      refine p_RX5_157 C (x := ((S8 0 9) + 1)) dX5_keep_60 63 rfl (fun S10 e11 => ?_)
      replace h := h S10 e11
      refine r_aload_n C 0 rfl dX5_keep_63 64 rfl ?_
      refine g_RX5_157 C dX5_keep_64 67 rfl ?_
      exact r_iret C hE hr hlk dX5_keep_67 h
    · replace h := h.2 c7
      refine r_iconst C 0 rfl dX5_keep_36 37 rfl ?_
      exact r_iret C hE hr hlk dX5_keep_37 h
  unfold wX5_keep at h
  refine r_aload_n C 0 rfl dX5_keep_0 1 rfl ?_
  refine r_iload_n C 1 rfl dX5_keep_1 2 rfl ?_
  refine k_RX5_175 C (ctX5_isRoot hX hi  h) ⟨(Nat.le_of_ble_eq_true rfl), (Nat.le_of_ble_eq_true rfl)⟩ (Nat.le_of_ble_eq_true rfl) ⟨Nat.le_refl 0, Nat.le_refl 0⟩ dX5_keep_2 5 rfl (fun r1 S2 h => ?_)
  rcases bool_or r1 with c3 | c3
  · replace h := h.1 c3
    refine r_if_neF C c3 12 dX5_keep_5 8 rfl rfl ?_
    refine r_iconst C 1 rfl dX5_keep_8 9 rfl ?_
    refine r_goto C 26 dX5_keep_9 rfl ?_
    refine r_sub [(0, .ref (A 0)), (1, .int a1)] [0, 1] rfl ?_
    exact b26  1  S2 h
  · replace h := h.2 c3
    refine r_if_neT C c3 12 dX5_keep_5 8 rfl rfl ?_
    refine r_aload_n C 0 rfl dX5_keep_12 13 rfl ?_
    refine g_RX5_157 C dX5_keep_13 16 rfl ?_
    refine r_bipush C 40 rfl dX5_keep_16 18 rfl ?_
    refine r_icmp_ne C 25 dX5_keep_18 21 rfl rfl (fun c4 => ?_) (fun c4 => ?_)
    · replace h := h.1 c4
      refine r_iconst C 2 rfl dX5_keep_21 22 rfl ?_
      refine r_goto C 26 dX5_keep_22 rfl ?_
      refine r_sub [(0, .ref (A 0)), (1, .int a1)] [0, 1] rfl ?_
      exact b26  2  S2 h
    · replace h := h.2 c4
      refine r_iconst C 0 rfl dX5_keep_25 26 rfl ?_
      refine r_sub [(0, .ref (A 0)), (1, .int a1)] [0, 1] rfl ?_
      exact b26  0  S2 h
set_option maxRecDepth 100000 in
set_option maxHeartbeats 4000000 in
theorem ctX5_back {l : Launch} {D : va_G} {A : Nat → Nat} {cI : ClassId} {X : (Nat → Prop) → State → Heap → Prop} {a1 : Int32} {S : Nat → Nat → Int32} {Q : Int32 → (Nat → Nat → Int32) → Prop} (hX : StX X) (hi : Apart 23 A)  (h : wX5_back a1 S Q) : Ct l D (tyM cI) 23 A (ceM A cI) X yX5_back cX5_back 2 (some .int) 2 42 [.ref (A 0), .int a1] S rI Q := by
  refine Ct.of (by decide +kernel) hX hi [(0, .ref (A 0)), (1, .int a1)] rfl (Nat.le_of_ble_eq_true rfl) ?_
  intro p e s m args below meth c Acc C hr hlk Qf hE
  have b24 : ∀ (y24_0 : Int32) (S : Nat → Nat → Int32), wX5_back_b24 a1  y24_0 S Q → J p l e { frames := 2, cells := 0, slots := 0, locals := 42 } s m args below meth c 0 0 Qf D 23 A (ceM A cI) Acc 2 S 24 [(0, .ref (A 0)), (1, .int a1)] [.int y24_0, .ref (A 0)] := by
    intro  y24_0 S h
    unfold wX5_back_b24 at h
    refine p_RX5_87 C (x := y24_0) dX5_back_24 27 rfl (fun S5 e6 => ?_)
    replace h := h S5 e6
    refine r_aload_n C 0 rfl dX5_back_27 28 rfl ?_
    refine g_RX5_87 C dX5_back_28 31 rfl ?_
    refine r_if_le C 36 dX5_back_31 34 rfl rfl (fun c7 => ?_) (fun c7 => ?_)
    · replace h := h.1 c7
      refine r_aload_n C 0 rfl dX5_back_36 37 rfl ?_
      refine r_dup C rfl dX5_back_37 38 rfl ?_
      refine g_RX5_157 C dX5_back_38 41 rfl ?_
      refine r_iconst C 1 rfl dX5_back_41 42 rfl ?_
      refine r_isub C dX5_back_42 43 rfl ?_
      refine p_RX5_157 C (x := ((S5 0 9) - 1)) dX5_back_43 46 rfl (fun S8 e9 => ?_)
      replace h := h S8 e9
      refine r_aload_n C 0 rfl dX5_back_46 47 rfl ?_
      refine g_RX5_25 C dX5_back_47 50 rfl ?_
      refine r_iload_n C 1 rfl dX5_back_50 51 rfl ?_
      refine r_aload_n C 0 rfl dX5_back_51 52 rfl ?_
      refine g_RX5_28 C dX5_back_52 55 rfl ?_
      refine r_aload_n C 0 rfl dX5_back_55 56 rfl ?_
      refine g_RX5_157 C dX5_back_56 59 rfl ?_
      refine i_M (k := 7) C (Nat.le_of_ble_eq_true rfl) (Nat.le_of_ble_eq_true rfl) h.1 dX5_back_59 60 rfl ?_
      replace h := h.2
      refine s_M (k := 6) C (Nat.le_of_ble_eq_true rfl) (Nat.le_of_ble_eq_true rfl) h.1 dX5_back_60 61 rfl (fun S10 e11 => ?_)
      replace h := h.2
      replace h := h S10 e11
      refine r_aload_n C 0 rfl dX5_back_61 62 rfl ?_
      refine g_RX5_25 C dX5_back_62 65 rfl ?_
      refine r_iload_n C 1 rfl dX5_back_65 66 rfl ?_
      refine i_M (k := 6) C (Nat.le_of_ble_eq_true rfl) (Nat.le_of_ble_eq_true rfl) h.1 dX5_back_66 67 rfl ?_
      replace h := h.2
      exact r_iret C hE hr hlk dX5_back_67 h
    · replace h := h.2 c7
      refine r_iconst C 0 rfl dX5_back_34 35 rfl ?_
      exact r_iret C hE hr hlk dX5_back_35 h
  unfold wX5_back at h
  refine r_aload_n C 0 rfl dX5_back_0 1 rfl ?_
  refine r_iload_n C 1 rfl dX5_back_1 2 rfl ?_
  refine k_RX5_175 C (ctX5_isRoot hX hi  h) ⟨(Nat.le_of_ble_eq_true rfl), (Nat.le_of_ble_eq_true rfl)⟩ (Nat.le_of_ble_eq_true rfl) ⟨Nat.le_refl 0, Nat.le_refl 0⟩ dX5_back_2 5 rfl (fun r1 S2 h => ?_)
  rcases bool_or r1 with c3 | c3
  · replace h := h.1 c3
    refine r_if_neF C c3 12 dX5_back_5 8 rfl rfl ?_
    refine r_iconst C 1 rfl dX5_back_8 9 rfl ?_
    refine r_goto C 24 dX5_back_9 rfl ?_
    refine r_sub [(0, .ref (A 0)), (1, .int a1)] [0, 1] rfl ?_
    exact b24  1  S2 h
  · replace h := h.2 c3
    refine r_if_neT C c3 12 dX5_back_5 8 rfl rfl ?_
    refine r_aload_n C 0 rfl dX5_back_12 13 rfl ?_
    refine g_RX5_157 C dX5_back_13 16 rfl ?_
    refine r_if_ne C 23 dX5_back_16 19 rfl rfl (fun c4 => ?_) (fun c4 => ?_)
    · replace h := h.1 c4
      refine r_iconst C 2 rfl dX5_back_19 20 rfl ?_
      refine r_goto C 24 dX5_back_20 rfl ?_
      refine r_sub [(0, .ref (A 0)), (1, .int a1)] [0, 1] rfl ?_
      exact b24  2  S2 h
    · replace h := h.2 c4
      refine r_iconst C 0 rfl dX5_back_23 24 rfl ?_
      refine r_sub [(0, .ref (A 0)), (1, .int a1)] [0, 1] rfl ?_
      exact b24  0  S2 h
set_option maxRecDepth 100000 in
set_option maxHeartbeats 4000000 in
theorem ctX5_weak {l : Launch} {D : va_G} {A : Nat → Nat} {cI : ClassId} {X : (Nat → Prop) → State → Heap → Prop} {a1 : Int32} {a2 : Int32} {S : Nat → Nat → Int32} {Q : Int32 → (Nat → Nat → Int32) → Prop} (hX : StX X) (hi : Apart 23 A)  (h : wX5_weak a1 a2 S Q) : Ct l D (tyM cI) 23 A (ceM A cI) X yX5_weak cX5_weak 4 (some .int) 2 42 [.ref (A 0), .int a1, .int a2] S rI Q := by
  refine Ct.of (by decide +kernel) hX hi [(0, .ref (A 0)), (1, .int a1), (2, .int a2)] rfl (Nat.le_of_ble_eq_true rfl) ?_
  intro p e s m args below meth c Acc C hr hlk Qf hE
  have b23 : ∀ (y23_0 : Int32) (S : Nat → Nat → Int32), wX5_weak_b23 a1 a2  y23_0 S Q → J p l e { frames := 2, cells := 0, slots := 0, locals := 42 } s m args below meth c 0 0 Qf D 23 A (ceM A cI) Acc 4 S 23 [(0, .ref (A 0)), (1, .int a1), (2, .int a2)] [.int y23_0, .ref (A 0)] := by
    intro  y23_0 S h
    unfold wX5_weak_b23 at h
    refine p_RX5_87 C (x := y23_0) dX5_weak_23 26 rfl (fun S7 e8 => ?_)
    replace h := h S7 e8
    refine r_aload_n C 0 rfl dX5_weak_26 27 rfl ?_
    refine g_RX5_87 C dX5_weak_27 30 rfl ?_
    refine r_if_le C 35 dX5_weak_30 33 rfl rfl (fun c9 => ?_) (fun c9 => ?_)
    · replace h := h.1 c9
      refine r_aload_n C 0 rfl dX5_weak_35 36 rfl ?_
      refine g_RX5_31 C dX5_weak_36 39 rfl ?_
      refine r_iload_n C 1 rfl dX5_weak_39 40 rfl ?_
      refine i_M (k := 8) C (Nat.le_of_ble_eq_true rfl) (Nat.le_of_ble_eq_true rfl) h.1 dX5_weak_40 41 rfl ?_
      replace h := h.2
      refine r_istore_n C [(3, .int (S7 8 a1.toNatClampNeg)), (0, .ref (A 0)), (1, .int a1), (2, .int a2)] (Nat.le_of_ble_eq_true rfl) rfl dX5_weak_41 42 rfl ?_
      refine r_aload_n C 1 rfl dX5_weak_42 43 rfl ?_
      refine g_RX5_31 C dX5_weak_43 46 rfl ?_
      refine r_iload_n C 2 rfl dX5_weak_46 47 rfl ?_
      refine r_aload_n C 1 rfl dX5_weak_47 48 rfl ?_
      refine g_RX5_25 C dX5_weak_48 51 rfl ?_
      refine r_iload_n C 3 rfl dX5_weak_51 52 rfl ?_
      refine i_M (k := 6) C (Nat.le_of_ble_eq_true rfl) (Nat.le_of_ble_eq_true rfl) h.1 dX5_weak_52 53 rfl ?_
      replace h := h.2
      refine s_M (k := 8) C (Nat.le_of_ble_eq_true rfl) (Nat.le_of_ble_eq_true rfl) h.1 dX5_weak_53 54 rfl (fun S10 e11 => ?_)
      replace h := h.2
      replace h := h S10 e11
      refine r_iload_n C 0 rfl dX5_weak_54 55 rfl ?_
      exact r_iret C hE hr hlk dX5_weak_55 h
    · replace h := h.2 c9
      refine r_iconst C 0 rfl dX5_weak_33 34 rfl ?_
      exact r_iret C hE hr hlk dX5_weak_34 h
  have b22 : ∀  (S : Nat → Nat → Int32), wX5_weak_b22 a1 a2   S Q → J p l e { frames := 2, cells := 0, slots := 0, locals := 42 } s m args below meth c 0 0 Qf D 23 A (ceM A cI) Acc 4 S 22 [(0, .ref (A 0)), (1, .int a1), (2, .int a2)] [.ref (A 0)] := by
    intro   S h
    unfold wX5_weak_b22 at h
    refine r_iconst C 1 rfl dX5_weak_22 23 rfl ?_
    refine r_sub [(0, .ref (A 0)), (1, .int a1), (2, .int a2)] [0, 1, 2] rfl ?_
    exact b23  1  S h
  unfold wX5_weak at h
  refine r_aload_n C 0 rfl dX5_weak_0 1 rfl ?_
  refine r_iload_n C 1 rfl dX5_weak_1 2 rfl ?_
  refine r_iconst C 0 rfl dX5_weak_2 3 rfl ?_
  refine r_bipush C 7 rfl dX5_weak_3 5 rfl ?_
  refine k_RX5_90 C (ctX5_in hX hi  h) ⟨(Nat.le_of_ble_eq_true rfl), (Nat.le_of_ble_eq_true rfl)⟩ (Nat.le_of_ble_eq_true rfl) ⟨Nat.le_refl 0, Nat.le_refl 0⟩ dX5_weak_5 8 rfl (fun r1 S2 h => ?_)
  rcases bool_or r1 with c3 | c3
  · replace h := h.1 c3
    refine r_if_eqF C c3 22 dX5_weak_8 11 rfl rfl ?_
    refine r_sub [(0, .ref (A 0)), (1, .int a1), (2, .int a2)] [0, 1, 2] rfl ?_
    exact b22    S2 h
  · replace h := h.2 c3
    refine r_if_eqT C c3 22 dX5_weak_8 11 rfl rfl ?_
    refine r_iload_n C 2 rfl dX5_weak_11 12 rfl ?_
    refine k_RX5_175 C (ctX5_isRoot hX hi  h) ⟨(Nat.le_of_ble_eq_true rfl), (Nat.le_of_ble_eq_true rfl)⟩ (Nat.le_of_ble_eq_true rfl) ⟨Nat.le_refl 0, Nat.le_refl 0⟩ dX5_weak_12 15 rfl (fun r4 S5 h => ?_)
    rcases bool_or r4 with c6 | c6
    · replace h := h.1 c6
      refine r_if_eqF C c6 22 dX5_weak_15 18 rfl rfl ?_
      refine r_sub [(0, .ref (A 0)), (1, .int a1), (2, .int a2)] [0, 1, 2] rfl ?_
      exact b22    S5 h
    · replace h := h.2 c6
      refine r_if_eqT C c6 22 dX5_weak_15 18 rfl rfl ?_
      refine r_iconst C 0 rfl dX5_weak_18 19 rfl ?_
      refine r_goto C 23 dX5_weak_19 rfl ?_
      refine r_sub [(0, .ref (A 0)), (1, .int a1), (2, .int a2)] [0, 1, 2] rfl ?_
      exact b23  0  S5 h
set_option maxRecDepth 100000 in
set_option maxHeartbeats 4000000 in
theorem ctX5_strong {l : Launch} {D : va_G} {A : Nat → Nat} {cI : ClassId} {X : (Nat → Prop) → State → Heap → Prop} {a1 : Int32} {a2 : Int32} {S : Nat → Nat → Int32} {Q : Int32 → (Nat → Nat → Int32) → Prop} (hX : StX X) (hi : Apart 23 A)  (h : wX5_strong a1 a2 S Q) : Ct l D (tyM cI) 23 A (ceM A cI) X yX5_strong cX5_strong 3 (some .int) 2 42 [.ref (A 0), .int a1, .int a2] S rI Q := by
  refine Ct.of (by decide +kernel) hX hi [(0, .ref (A 0)), (1, .int a1), (2, .int a2)] rfl (Nat.le_of_ble_eq_true rfl) ?_
  intro p e s m args below meth c Acc C hr hlk Qf hE
  have b23 : ∀ (y23_0 : Int32) (S : Nat → Nat → Int32), wX5_strong_b23 a1 a2  y23_0 S Q → J p l e { frames := 2, cells := 0, slots := 0, locals := 42 } s m args below meth c 0 0 Qf D 23 A (ceM A cI) Acc 3 S 23 [(0, .ref (A 0)), (1, .int a1), (2, .int a2)] [.int y23_0, .ref (A 0)] := by
    intro  y23_0 S h
    unfold wX5_strong_b23 at h
    refine p_RX5_87 C (x := y23_0) dX5_strong_23 26 rfl (fun S7 e8 => ?_)
    replace h := h S7 e8
    refine r_aload_n C 0 rfl dX5_strong_26 27 rfl ?_
    refine g_RX5_87 C dX5_strong_27 30 rfl ?_
    refine r_if_le C 35 dX5_strong_30 33 rfl rfl (fun c9 => ?_) (fun c9 => ?_)
    · replace h := h.1 c9
      refine r_aload_n C 0 rfl dX5_strong_35 36 rfl ?_
      refine g_RX5_25 C dX5_strong_36 39 rfl ?_
      refine r_iload_n C 1 rfl dX5_strong_39 40 rfl ?_
      refine r_aload_n C 0 rfl dX5_strong_40 41 rfl ?_
      refine g_RX5_31 C dX5_strong_41 44 rfl ?_
      refine r_iload_n C 2 rfl dX5_strong_44 45 rfl ?_
      refine i_M (k := 8) C (Nat.le_of_ble_eq_true rfl) (Nat.le_of_ble_eq_true rfl) h.1 dX5_strong_45 46 rfl ?_
      replace h := h.2
      refine s_M (k := 6) C (Nat.le_of_ble_eq_true rfl) (Nat.le_of_ble_eq_true rfl) h.1 dX5_strong_46 47 rfl (fun S10 e11 => ?_)
      replace h := h.2
      replace h := h S10 e11
      refine r_aload_n C 0 rfl dX5_strong_47 48 rfl ?_
      refine g_RX5_25 C dX5_strong_48 51 rfl ?_
      refine r_iload_n C 1 rfl dX5_strong_51 52 rfl ?_
      refine i_M (k := 6) C (Nat.le_of_ble_eq_true rfl) (Nat.le_of_ble_eq_true rfl) h.1 dX5_strong_52 53 rfl ?_
      replace h := h.2
      exact r_iret C hE hr hlk dX5_strong_53 h
    · replace h := h.2 c9
      refine r_iconst C 0 rfl dX5_strong_33 34 rfl ?_
      exact r_iret C hE hr hlk dX5_strong_34 h
  have b22 : ∀  (S : Nat → Nat → Int32), wX5_strong_b22 a1 a2   S Q → J p l e { frames := 2, cells := 0, slots := 0, locals := 42 } s m args below meth c 0 0 Qf D 23 A (ceM A cI) Acc 3 S 22 [(0, .ref (A 0)), (1, .int a1), (2, .int a2)] [.ref (A 0)] := by
    intro   S h
    unfold wX5_strong_b22 at h
    refine r_iconst C 1 rfl dX5_strong_22 23 rfl ?_
    refine r_sub [(0, .ref (A 0)), (1, .int a1), (2, .int a2)] [0, 1, 2] rfl ?_
    exact b23  1  S h
  unfold wX5_strong at h
  refine r_aload_n C 0 rfl dX5_strong_0 1 rfl ?_
  refine r_iload_n C 2 rfl dX5_strong_1 2 rfl ?_
  refine r_iconst C 0 rfl dX5_strong_2 3 rfl ?_
  refine r_bipush C 7 rfl dX5_strong_3 5 rfl ?_
  refine k_RX5_90 C (ctX5_in hX hi  h) ⟨(Nat.le_of_ble_eq_true rfl), (Nat.le_of_ble_eq_true rfl)⟩ (Nat.le_of_ble_eq_true rfl) ⟨Nat.le_refl 0, Nat.le_refl 0⟩ dX5_strong_5 8 rfl (fun r1 S2 h => ?_)
  rcases bool_or r1 with c3 | c3
  · replace h := h.1 c3
    refine r_if_eqF C c3 22 dX5_strong_8 11 rfl rfl ?_
    refine r_sub [(0, .ref (A 0)), (1, .int a1), (2, .int a2)] [0, 1, 2] rfl ?_
    exact b22    S2 h
  · replace h := h.2 c3
    refine r_if_eqT C c3 22 dX5_strong_8 11 rfl rfl ?_
    refine r_iload_n C 1 rfl dX5_strong_11 12 rfl ?_
    refine k_RX5_175 C (ctX5_isRoot hX hi  h) ⟨(Nat.le_of_ble_eq_true rfl), (Nat.le_of_ble_eq_true rfl)⟩ (Nat.le_of_ble_eq_true rfl) ⟨Nat.le_refl 0, Nat.le_refl 0⟩ dX5_strong_12 15 rfl (fun r4 S5 h => ?_)
    rcases bool_or r4 with c6 | c6
    · replace h := h.1 c6
      refine r_if_eqF C c6 22 dX5_strong_15 18 rfl rfl ?_
      refine r_sub [(0, .ref (A 0)), (1, .int a1), (2, .int a2)] [0, 1, 2] rfl ?_
      exact b22    S5 h
    · replace h := h.2 c6
      refine r_if_eqT C c6 22 dX5_strong_15 18 rfl rfl ?_
      refine r_iconst C 0 rfl dX5_strong_18 19 rfl ?_
      refine r_goto C 23 dX5_strong_19 rfl ?_
      refine r_sub [(0, .ref (A 0)), (1, .int a1), (2, .int a2)] [0, 1, 2] rfl ?_
      exact b23  0  S5 h
set_option maxRecDepth 100000 in
set_option maxHeartbeats 4000000 in
theorem ctX5_wish {l : Launch} {D : va_G} {A : Nat → Nat} {cI : ClassId} {X : (Nat → Prop) → State → Heap → Prop} {a1 : Int32} {S : Nat → Nat → Int32} {Q : Int32 → (Nat → Nat → Int32) → Prop} (hX : StX X) (hi : Apart 23 A)  (h : wX5_wish a1 S Q) : Ct l D (tyM cI) 23 A (ceM A cI) X yX5_wish cX5_wish 3 (some .int) 2 42 [.ref (A 0), .int a1] S rI Q := by
  refine Ct.of (by decide +kernel) hX hi [(0, .ref (A 0)), (1, .int a1)] rfl (Nat.le_of_ble_eq_true rfl) ?_
  intro p e s m args below meth c Acc C hr hlk Qf hE
  have b56 : ∀ (nn : Nat) (x56_2 : Int32) (S : Nat → Nat → Int32), wX5_wish_b56 a1  nn x56_2 S Q → J p l e { frames := 2, cells := 0, slots := 0, locals := 42 } s m args below meth c 0 0 Qf D 23 A (ceM A cI) Acc 3 S 56 [(2, .int x56_2), (0, .ref (A 0)), (1, .int a1)] [] := by
    intro nn
    induction nn with
    | zero => intro x56_2 S h; exact False.elim h
    | succ nn ih =>
      intro x56_2 S h
      rw [wX5_wish_b56] at h
      refine r_iload_n C 0 rfl dX5_wish_56 57 rfl ?_
      refine r_aload_n C 1 rfl dX5_wish_57 58 rfl ?_
      refine g_RX5_154 C dX5_wish_58 61 rfl ?_
      refine r_icmp_ge C 84 dX5_wish_61 64 rfl rfl (fun c13 => ?_) (fun c13 => ?_)
      · replace h := h.1 c13
        refine r_aload_n C 1 rfl dX5_wish_84 85 rfl ?_
        refine g_RX5_25 C dX5_wish_85 88 rfl ?_
        refine r_iload_n C 2 rfl dX5_wish_88 89 rfl ?_
        refine i_M (k := 6) C (Nat.le_of_ble_eq_true rfl) (Nat.le_of_ble_eq_true rfl) h.1 dX5_wish_89 90 rfl ?_
        replace h := h.2
        exact r_iret C hE hr hlk dX5_wish_90 h
      · replace h := h.2 c13
        refine r_aload_n C 1 rfl dX5_wish_64 65 rfl ?_
        refine g_RX5_37 C dX5_wish_65 68 rfl ?_
        refine r_iload_n C 0 rfl dX5_wish_68 69 rfl ?_
        refine r_aload_n C 1 rfl dX5_wish_69 70 rfl ?_
        refine g_RX5_37 C dX5_wish_70 73 rfl ?_
        refine r_iload_n C 0 rfl dX5_wish_73 74 rfl ?_
        refine r_iconst C 1 rfl dX5_wish_74 75 rfl ?_
        refine r_iadd C dX5_wish_75 76 rfl ?_
        refine i_M (k := 10) C (Nat.le_of_ble_eq_true rfl) (Nat.le_of_ble_eq_true rfl) h.1 dX5_wish_76 77 rfl ?_
        replace h := h.2
        refine s_M (k := 10) C (Nat.le_of_ble_eq_true rfl) (Nat.le_of_ble_eq_true rfl) h.1 dX5_wish_77 78 rfl (fun S14 e15 => ?_)
        replace h := h.2
        replace h := h S14 e15
        obtain ⟨x16, e17⟩ : ∃ z : Int32, z = x56_2 + 1 := ⟨_, rfl⟩
        replace h := h x16 e17
        refine r_iinc (n := 1) C 0 rfl x16 (by rw [e17]; rfl) [(2, .int x16), (0, .ref (A 0)), (1, .int a1)] (Nat.le_of_ble_eq_true rfl) rfl dX5_wish_78 81 rfl ?_
        refine r_goto C 56 dX5_wish_81 rfl ?_
        refine r_sub [(2, .int x16), (0, .ref (A 0)), (1, .int a1)] [0, 1, 2] rfl ?_
        exact ih x16  S14 h
  have b13 : ∀ (y13_0 : Int32) (S : Nat → Nat → Int32), wX5_wish_b13 a1  y13_0 S Q → J p l e { frames := 2, cells := 0, slots := 0, locals := 42 } s m args below meth c 0 0 Qf D 23 A (ceM A cI) Acc 3 S 13 [(0, .ref (A 0)), (1, .int a1)] [.int y13_0, .ref (A 0)] := by
    intro  y13_0 S h
    unfold wX5_wish_b13 at h
    refine p_RX5_87 C (x := y13_0) dX5_wish_13 16 rfl (fun S4 e5 => ?_)
    replace h := h S4 e5
    refine r_aload_n C 0 rfl dX5_wish_16 17 rfl ?_
    refine g_RX5_87 C dX5_wish_17 20 rfl ?_
    refine r_if_gt C 30 dX5_wish_20 23 rfl rfl (fun c6 => ?_) (fun c6 => ?_)
    · replace h := h.1 c6
      refine r_iconst C 0 rfl dX5_wish_30 31 rfl ?_
      exact r_iret C hE hr hlk dX5_wish_31 h
    · replace h := h.2 c6
      refine r_aload_n C 0 rfl dX5_wish_23 24 rfl ?_
      refine g_RX5_154 C dX5_wish_24 27 rfl ?_
      refine r_if_ne C 32 dX5_wish_27 30 rfl rfl (fun c7 => ?_) (fun c7 => ?_)
      · replace h := h.1 c7
        refine r_iconst C 0 rfl dX5_wish_30 31 rfl ?_
        exact r_iret C hE hr hlk dX5_wish_31 h
      · replace h := h.2 c7
        refine r_aload_n C 0 rfl dX5_wish_32 33 rfl ?_
        refine g_RX5_25 C dX5_wish_33 36 rfl ?_
        refine r_iload_n C 1 rfl dX5_wish_36 37 rfl ?_
        refine r_aload_n C 0 rfl dX5_wish_37 38 rfl ?_
        refine g_RX5_37 C dX5_wish_38 41 rfl ?_
        refine r_iconst C 0 rfl dX5_wish_41 42 rfl ?_
        refine i_Mk (k := 10) C (Nat.le_of_ble_eq_true rfl) (Nat.le_of_ble_eq_true rfl) 0 rfl (show vp_in 0 460 by unfold vp_in; decide) dX5_wish_42 43 rfl ?_
        refine s_M (k := 6) C (Nat.le_of_ble_eq_true rfl) (Nat.le_of_ble_eq_true rfl) h.1 dX5_wish_43 44 rfl (fun S8 e9 => ?_)
        replace h := h.2
        replace h := h S8 e9
        refine r_aload_n C 0 rfl dX5_wish_44 45 rfl ?_
        refine r_dup C rfl dX5_wish_45 46 rfl ?_
        refine g_RX5_154 C dX5_wish_46 49 rfl ?_
        refine r_iconst C 1 rfl dX5_wish_49 50 rfl ?_
        refine r_isub C dX5_wish_50 51 rfl ?_
        refine p_RX5_154 C (x := ((S8 0 14) - 1)) dX5_wish_51 54 rfl (fun S10 e11 => ?_)
        replace h := h S10 e11
        refine r_iconst C 0 rfl dX5_wish_54 55 rfl ?_
        refine r_istore_n C [(2, .int 0), (0, .ref (A 0)), (1, .int a1)] (Nat.le_of_ble_eq_true rfl) rfl dX5_wish_55 56 rfl ?_
        refine r_sub [(2, .int 0), (0, .ref (A 0)), (1, .int a1)] [0, 1, 2] rfl ?_
        obtain ⟨f12, h⟩ := h
        exact b56  f12 0  S10 h
  unfold wX5_wish at h
  refine r_aload_n C 0 rfl dX5_wish_0 1 rfl ?_
  refine r_iload_n C 1 rfl dX5_wish_1 2 rfl ?_
  refine k_RX5_175 C (ctX5_isRoot hX hi  h) ⟨(Nat.le_of_ble_eq_true rfl), (Nat.le_of_ble_eq_true rfl)⟩ (Nat.le_of_ble_eq_true rfl) ⟨Nat.le_refl 0, Nat.le_refl 0⟩ dX5_wish_2 5 rfl (fun r1 S2 h => ?_)
  rcases bool_or r1 with c3 | c3
  · replace h := h.1 c3
    refine r_if_eqF C c3 12 dX5_wish_5 8 rfl rfl ?_
    refine r_iconst C 1 rfl dX5_wish_12 13 rfl ?_
    refine r_sub [(0, .ref (A 0)), (1, .int a1)] [0, 1] rfl ?_
    exact b13  1  S2 h
  · replace h := h.2 c3
    refine r_if_eqT C c3 12 dX5_wish_5 8 rfl rfl ?_
    refine r_iconst C 0 rfl dX5_wish_8 9 rfl ?_
    refine r_goto C 13 dX5_wish_9 rfl ?_
    refine r_sub [(0, .ref (A 0)), (1, .int a1)] [0, 1] rfl ?_
    exact b13  0  S2 h
set_option maxRecDepth 100000 in
set_option maxHeartbeats 4000000 in
theorem ctX5_collect {l : Launch} {D : va_G} {A : Nat → Nat} {cI : ClassId} {X : (Nat → Prop) → State → Heap → Prop} {a1 : Int32} {S : Nat → Nat → Int32} {Q : Int32 → (Nat → Nat → Int32) → Prop} (hX : StX X) (hi : Apart 23 A)  (h : wX5_collect a1 S Q) : Ct l D (tyM cI) 23 A (ceM A cI) X yX5_collect cX5_collect 2 (some .int) 6 139 [.ref (A 0), .int a1] S rI Q := by
  refine Ct.of (by decide +kernel) hX hi [(0, .ref (A 0)), (1, .int a1)] rfl (Nat.le_of_ble_eq_true rfl) ?_
  intro p e s m args below meth c Acc C hr hlk Qf hE
  have b15 : ∀ (y15_0 : Int32) (S : Nat → Nat → Int32), wX5_collect_b15 a1  y15_0 S Q → J p l e { frames := 6, cells := 0, slots := 0, locals := 139 } s m args below meth c 0 0 Qf D 23 A (ceM A cI) Acc 2 S 15 [(0, .ref (A 0)), (1, .int a1)] [.int y15_0, .ref (A 0)] := by
    intro  y15_0 S h
    unfold wX5_collect_b15 at h
    refine p_RX5_87 C (x := y15_0) dX5_collect_15 18 rfl (fun S4 e5 => ?_)
    replace h := h S4 e5
    refine r_aload_n C 0 rfl dX5_collect_18 19 rfl ?_
    refine g_RX5_87 C dX5_collect_19 22 rfl ?_
    refine r_if_le C 29 dX5_collect_22 25 rfl rfl (fun c6 => ?_) (fun c6 => ?_)
    · replace h := h.1 c6
      refine r_aload_n C 0 rfl dX5_collect_29 30 rfl ?_
      refine r_iload_n C 1 rfl dX5_collect_30 31 rfl ?_
      refine k_RX5_172 C (ctX5_gather hX hi  h) ⟨(Nat.le_of_ble_eq_true rfl), (Nat.le_of_ble_eq_true rfl)⟩ (Nat.le_of_ble_eq_true rfl) ⟨Nat.le_refl 0, Nat.le_refl 0⟩ dX5_collect_31 34 rfl (fun r7 S8 h => ?_)
      exact r_iret C hE hr hlk dX5_collect_34 h
    · replace h := h.2 c6
      refine r_iconst C 0 rfl dX5_collect_25 26 rfl ?_
      refine r_goto C 34 dX5_collect_26 rfl ?_
      exact r_iret C hE hr hlk dX5_collect_34 h
  unfold wX5_collect at h
  refine r_aload_n C 0 rfl dX5_collect_0 1 rfl ?_
  refine r_iload_n C 1 rfl dX5_collect_1 2 rfl ?_
  refine r_iconst C 0 rfl dX5_collect_2 3 rfl ?_
  refine r_iconst C 2 rfl dX5_collect_3 4 rfl ?_
  refine k_RX5_90 C (ctX5_in hX hi  h) ⟨(Nat.le_of_ble_eq_true rfl), (Nat.le_of_ble_eq_true rfl)⟩ (Nat.le_of_ble_eq_true rfl) ⟨Nat.le_refl 0, Nat.le_refl 0⟩ dX5_collect_4 7 rfl (fun r1 S2 h => ?_)
  rcases bool_or r1 with c3 | c3
  · replace h := h.1 c3
    refine r_if_eqF C c3 14 dX5_collect_7 10 rfl rfl ?_
    refine r_iconst C 1 rfl dX5_collect_14 15 rfl ?_
    refine r_sub [(0, .ref (A 0)), (1, .int a1)] [0, 1] rfl ?_
    exact b15  1  S2 h
  · replace h := h.2 c3
    refine r_if_eqT C c3 14 dX5_collect_7 10 rfl rfl ?_
    refine r_iconst C 0 rfl dX5_collect_10 11 rfl ?_
    refine r_goto C 15 dX5_collect_11 rfl ?_
    refine r_sub [(0, .ref (A 0)), (1, .int a1)] [0, 1] rfl ?_
    exact b15  0  S2 h
set_option maxRecDepth 100000 in
set_option maxHeartbeats 4000000 in
theorem ctX5_root {l : Launch} {D : va_G} {A : Nat → Nat} {cI : ClassId} {X : (Nat → Prop) → State → Heap → Prop} {a1 : Int32} {S : Nat → Nat → Int32} {Q : Int32 → (Nat → Nat → Int32) → Prop} (hX : StX X) (hi : Apart 23 A)  (h : wX5_root a1 S Q) : Ct l D (tyM cI) 23 A (ceM A cI) X yX5_root cX5_root 2 (some .int) 2 42 [.ref (A 0), .int a1] S rI Q := by
  refine Ct.of (by decide +kernel) hX hi [(0, .ref (A 0)), (1, .int a1)] rfl (Nat.le_of_ble_eq_true rfl) ?_
  intro p e s m args below meth c Acc C hr hlk Qf hE
  have b13 : ∀ (y13_0 : Int32) (S : Nat → Nat → Int32), wX5_root_b13 a1  y13_0 S Q → J p l e { frames := 2, cells := 0, slots := 0, locals := 42 } s m args below meth c 0 0 Qf D 23 A (ceM A cI) Acc 2 S 13 [(0, .ref (A 0)), (1, .int a1)] [.int y13_0, .ref (A 0)] := by
    intro  y13_0 S h
    unfold wX5_root_b13 at h
    refine p_RX5_87 C (x := y13_0) dX5_root_13 16 rfl (fun S4 e5 => ?_)
    replace h := h S4 e5
    refine r_aload_n C 0 rfl dX5_root_16 17 rfl ?_
    refine g_RX5_87 C dX5_root_17 20 rfl ?_
    refine r_if_le C 27 dX5_root_20 23 rfl rfl (fun c6 => ?_) (fun c6 => ?_)
    · replace h := h.1 c6
      refine r_aload_n C 0 rfl dX5_root_27 28 rfl ?_
      refine g_RX5_25 C dX5_root_28 31 rfl ?_
      refine r_iload_n C 1 rfl dX5_root_31 32 rfl ?_
      refine i_M (k := 6) C (Nat.le_of_ble_eq_true rfl) (Nat.le_of_ble_eq_true rfl) h.1 dX5_root_32 33 rfl ?_
      replace h := h.2
      exact r_iret C hE hr hlk dX5_root_33 h
    · replace h := h.2 c6
      refine r_iconst C 0 rfl dX5_root_23 24 rfl ?_
      refine r_goto C 33 dX5_root_24 rfl ?_
      exact r_iret C hE hr hlk dX5_root_33 h
  unfold wX5_root at h
  refine r_aload_n C 0 rfl dX5_root_0 1 rfl ?_
  refine r_iload_n C 1 rfl dX5_root_1 2 rfl ?_
  refine k_RX5_175 C (ctX5_isRoot hX hi  h) ⟨(Nat.le_of_ble_eq_true rfl), (Nat.le_of_ble_eq_true rfl)⟩ (Nat.le_of_ble_eq_true rfl) ⟨Nat.le_refl 0, Nat.le_refl 0⟩ dX5_root_2 5 rfl (fun r1 S2 h => ?_)
  rcases bool_or r1 with c3 | c3
  · replace h := h.1 c3
    refine r_if_eqF C c3 12 dX5_root_5 8 rfl rfl ?_
    refine r_iconst C 1 rfl dX5_root_12 13 rfl ?_
    refine r_sub [(0, .ref (A 0)), (1, .int a1)] [0, 1] rfl ?_
    exact b13  1  S2 h
  · replace h := h.2 c3
    refine r_if_eqT C c3 12 dX5_root_5 8 rfl rfl ?_
    refine r_iconst C 0 rfl dX5_root_8 9 rfl ?_
    refine r_goto C 13 dX5_root_9 rfl ?_
    refine r_sub [(0, .ref (A 0)), (1, .int a1)] [0, 1] rfl ?_
    exact b13  0  S2 h
set_option maxRecDepth 100000 in
set_option maxHeartbeats 4000000 in
theorem ctX5_about {l : Launch} {D : va_G} {A : Nat → Nat} {cI : ClassId} {X : (Nat → Prop) → State → Heap → Prop} {a1 : Int32} {a2 : Int32} {S : Nat → Nat → Int32} {Q : Int32 → (Nat → Nat → Int32) → Prop} (hX : StX X) (hi : Apart 23 A)  (h : wX5_about a1 a2 S Q) : Ct l D (tyM cI) 23 A (ceM A cI) X yX5_about cX5_about 4 (some .int) 2 42 [.ref (A 0), .int a1, .int a2] S rI Q := by
  refine Ct.of (by decide +kernel) hX hi [(0, .ref (A 0)), (1, .int a1), (2, .int a2)] rfl (Nat.le_of_ble_eq_true rfl) ?_
  intro p e s m args below meth c Acc C hr hlk Qf hE
  have b50 : ∀ (y50_0 : Int32) (S : Nat → Nat → Int32), wX5_about_b50 a1 a2  y50_0 S Q → J p l e { frames := 2, cells := 0, slots := 0, locals := 42 } s m args below meth c 0 0 Qf D 23 A (ceM A cI) Acc 4 S 50 [(0, .ref (A 0)), (1, .int a1), (2, .int a2)] [.int y50_0, .ref (A 0)] := by
    intro  y50_0 S h
    unfold wX5_about_b50 at h
    refine p_RX5_87 C (x := y50_0) dX5_about_50 53 rfl (fun S10 e11 => ?_)
    replace h := h S10 e11
    refine r_aload_n C 0 rfl dX5_about_53 54 rfl ?_
    refine g_RX5_87 C dX5_about_54 57 rfl ?_
    refine r_if_le C 62 dX5_about_57 60 rfl rfl (fun c12 => ?_) (fun c12 => ?_)
    · replace h := h.1 c12
      refine r_aload_n C 0 rfl dX5_about_62 63 rfl ?_
      refine g_RX5_25 C dX5_about_63 66 rfl ?_
      refine r_iload_n C 1 rfl dX5_about_66 67 rfl ?_
      refine i_M (k := 6) C (Nat.le_of_ble_eq_true rfl) (Nat.le_of_ble_eq_true rfl) h.1 dX5_about_67 68 rfl ?_
      replace h := h.2
      refine r_istore_n C [(3, .int (S10 6 a1.toNatClampNeg)), (0, .ref (A 0)), (1, .int a1), (2, .int a2)] (Nat.le_of_ble_eq_true rfl) rfl dX5_about_68 69 rfl ?_
      refine r_iload_n C 3 rfl dX5_about_69 70 rfl ?_
      by_cases c13 : a2 = 0
      · replace h := h.1 c13
        refine r_sw C 0 c13 104 dX5_about_70 (by decide) (by decide) rfl rfl ?_
        refine r_aload_n C 1 rfl dX5_about_104 105 rfl ?_
        refine r_iload_n C 0 rfl dX5_about_105 106 rfl ?_
        refine k_RX5_121 C (ctX5_fields hX hi  h) ⟨(Nat.le_of_ble_eq_true rfl), (Nat.le_of_ble_eq_true rfl)⟩ (Nat.le_of_ble_eq_true rfl) ⟨Nat.le_refl 0, Nat.le_refl 0⟩ dX5_about_106 109 rfl (fun r14 S15 h => ?_)
        exact r_iret C hE hr hlk dX5_about_109 h
      · replace h := h.2
        by_cases c16 : a2 = 1
        · replace h := h.1 c16
          refine r_sw C 1 c16 110 dX5_about_70 (by decide) (by decide) rfl rfl ?_
          refine r_aload_n C 1 rfl dX5_about_110 111 rfl ?_
          refine r_iload_n C 0 rfl dX5_about_111 112 rfl ?_
          refine k_RX5_124 C (ctX5_age hX hi  h) ⟨(Nat.le_of_ble_eq_true rfl), (Nat.le_of_ble_eq_true rfl)⟩ (Nat.le_of_ble_eq_true rfl) ⟨Nat.le_refl 0, Nat.le_refl 0⟩ dX5_about_112 115 rfl (fun r17 S18 h => ?_)
          exact r_iret C hE hr hlk dX5_about_115 h
        · replace h := h.2
          by_cases c19 : a2 = 2
          · replace h := h.1 c19
            refine r_sw C 2 c19 116 dX5_about_70 (by decide) (by decide) rfl rfl ?_
            refine r_aload_n C 1 rfl dX5_about_116 117 rfl ?_
            refine r_iload_n C 0 rfl dX5_about_117 118 rfl ?_
            refine k_RX5_188 C (ctX5_isKeen hX hi  h) ⟨(Nat.le_of_ble_eq_true rfl), (Nat.le_of_ble_eq_true rfl)⟩ (Nat.le_of_ble_eq_true rfl) ⟨Nat.le_refl 0, Nat.le_refl 0⟩ dX5_about_118 121 rfl (fun r20 S21 h => ?_)
            rcases bool_or r20 with c22 | c22
            · replace h := h.1 c22
              refine r_if_eqF C c22 128 dX5_about_121 124 rfl rfl ?_
              refine r_iconst C 0 rfl dX5_about_128 129 rfl ?_
              exact r_iret C hE hr hlk dX5_about_129 h
            · replace h := h.2 c22
              refine r_if_eqT C c22 128 dX5_about_121 124 rfl rfl ?_
              refine r_iconst C 1 rfl dX5_about_124 125 rfl ?_
              refine r_goto C 129 dX5_about_125 rfl ?_
              exact r_iret C hE hr hlk dX5_about_129 h
          · replace h := h.2
            by_cases c23 : a2 = 3
            · replace h := h.1 c23
              refine r_sw C 3 c23 130 dX5_about_70 (by decide) (by decide) rfl rfl ?_
              refine r_aload_n C 1 rfl dX5_about_130 131 rfl ?_
              refine g_RX5_7 C dX5_about_131 134 rfl ?_
              refine r_iload_n C 0 rfl dX5_about_134 135 rfl ?_
              refine r_iconst C 1 rfl dX5_about_135 136 rfl ?_
              refine r_iadd C dX5_about_136 137 rfl ?_
              refine i_M (k := 1) C (Nat.le_of_ble_eq_true rfl) (Nat.le_of_ble_eq_true rfl) h.1 dX5_about_137 138 rfl ?_
              replace h := h.2
              exact r_iret C hE hr hlk dX5_about_138 h
            · replace h := h.2
              by_cases c24 : a2 = 4
              · replace h := h.1 c24
                refine r_sw C 4 c24 139 dX5_about_70 (by decide) (by decide) rfl rfl ?_
                refine r_aload_n C 1 rfl dX5_about_139 140 rfl ?_
                refine r_iload_n C 0 rfl dX5_about_140 141 rfl ?_
                refine k_RX5_98 C (ctX5_generation hX hi  h) ⟨(Nat.le_of_ble_eq_true rfl), (Nat.le_of_ble_eq_true rfl)⟩ (Nat.le_of_ble_eq_true rfl) ⟨Nat.le_refl 0, Nat.le_refl 0⟩ dX5_about_141 144 rfl (fun r25 S26 h => ?_)
                exact r_iret C hE hr hlk dX5_about_144 h
              · replace h := h.2
                replace h := h c13 c16 c19 c23 c24
                have hsw : (a2).toInt < 0 ∨ 4 < (a2).toInt := by
                  have c13t := lv_neT (k := 0) (a := 0) c13 (by decide)
                  have c16t := lv_neT (k := 1) (a := 1) c16 (by decide)
                  have c19t := lv_neT (k := 2) (a := 2) c19 (by decide)
                  have c23t := lv_neT (k := 3) (a := 3) c23 (by decide)
                  have c24t := lv_neT (k := 4) (a := 4) c24 (by decide)
                  omega
                refine r_tableOut C 145 dX5_about_70 hsw rfl ?_
                refine r_aload_n C 1 rfl dX5_about_145 146 rfl ?_
                refine g_RX5_7 C dX5_about_146 149 rfl ?_
                refine r_iload_n C 0 rfl dX5_about_149 150 rfl ?_
                refine r_iconst C 2 rfl dX5_about_150 151 rfl ?_
                refine r_iadd C dX5_about_151 152 rfl ?_
                refine r_iload_n C 3 rfl dX5_about_152 153 rfl ?_
                refine r_iadd C dX5_about_153 154 rfl ?_
                refine r_iconst C 5 rfl dX5_about_154 155 rfl ?_
                refine r_isub C dX5_about_155 156 rfl ?_
                refine i_M (k := 1) C (Nat.le_of_ble_eq_true rfl) (Nat.le_of_ble_eq_true rfl) h.1 dX5_about_156 157 rfl ?_
                replace h := h.2
                exact r_iret C hE hr hlk dX5_about_157 h
    · replace h := h.2 c12
      refine r_iconst C 0 rfl dX5_about_60 61 rfl ?_
      exact r_iret C hE hr hlk dX5_about_61 h
  unfold wX5_about at h
  refine r_aload_n C 0 rfl dX5_about_0 1 rfl ?_
  refine r_iload_n C 1 rfl dX5_about_1 2 rfl ?_
  refine k_RX5_175 C (ctX5_isRoot hX hi  h) ⟨(Nat.le_of_ble_eq_true rfl), (Nat.le_of_ble_eq_true rfl)⟩ (Nat.le_of_ble_eq_true rfl) ⟨Nat.le_refl 0, Nat.le_refl 0⟩ dX5_about_2 5 rfl (fun r1 S2 h => ?_)
  rcases bool_or r1 with c3 | c3
  · replace h := h.1 c3
    refine r_if_neF C c3 12 dX5_about_5 8 rfl rfl ?_
    refine r_iconst C 1 rfl dX5_about_8 9 rfl ?_
    refine r_goto C 50 dX5_about_9 rfl ?_
    refine r_sub [(0, .ref (A 0)), (1, .int a1), (2, .int a2)] [0, 1, 2] rfl ?_
    exact b50  1  S2 h
  · replace h := h.2 c3
    refine r_if_neT C c3 12 dX5_about_5 8 rfl rfl ?_
    refine r_aload_n C 0 rfl dX5_about_12 13 rfl ?_
    refine g_RX5_25 C dX5_about_13 16 rfl ?_
    refine r_iload_n C 1 rfl dX5_about_16 17 rfl ?_
    refine i_M (k := 6) C (Nat.le_of_ble_eq_true rfl) (Nat.le_of_ble_eq_true rfl) h.1 dX5_about_17 18 rfl ?_
    replace h := h.2
    refine r_if_ne C 25 dX5_about_18 21 rfl rfl (fun c4 => ?_) (fun c4 => ?_)
    · replace h := h.1 c4
      refine r_iconst C 2 rfl dX5_about_21 22 rfl ?_
      refine r_goto C 50 dX5_about_22 rfl ?_
      refine r_sub [(0, .ref (A 0)), (1, .int a1), (2, .int a2)] [0, 1, 2] rfl ?_
      exact b50  2  S2 h
    · replace h := h.2 c4
      refine r_iload_n C 2 rfl dX5_about_25 26 rfl ?_
      refine r_iconst C 0 rfl dX5_about_26 27 rfl ?_
      refine r_iconst C 4 rfl dX5_about_27 28 rfl ?_
      refine r_aload_n C 0 rfl dX5_about_28 29 rfl ?_
      refine r_aload_n C 0 rfl dX5_about_29 30 rfl ?_
      refine g_RX5_25 C dX5_about_30 33 rfl ?_
      refine r_iload_n C 1 rfl dX5_about_33 34 rfl ?_
      refine i_M (k := 6) C (Nat.le_of_ble_eq_true rfl) (Nat.le_of_ble_eq_true rfl) h.1 dX5_about_34 35 rfl ?_
      replace h := h.2
      refine k_RX5_121 C (ctX5_fields hX hi  h) ⟨(Nat.le_of_ble_eq_true rfl), (Nat.le_of_ble_eq_true rfl)⟩ (Nat.le_of_ble_eq_true rfl) ⟨Nat.le_refl 0, Nat.le_refl 0⟩ dX5_about_35 38 rfl (fun r5 S6 h => ?_)
      refine r_iadd C dX5_about_38 39 rfl ?_
      refine k_RX5_90 C (ctX5_in hX hi  h) ⟨(Nat.le_of_ble_eq_true rfl), (Nat.le_of_ble_eq_true rfl)⟩ (Nat.le_of_ble_eq_true rfl) ⟨Nat.le_refl 0, Nat.le_refl 0⟩ dX5_about_39 42 rfl (fun r7 S8 h => ?_)
      rcases bool_or r7 with c9 | c9
      · replace h := h.1 c9
        refine r_if_neF C c9 49 dX5_about_42 45 rfl rfl ?_
        refine r_iconst C 1 rfl dX5_about_45 46 rfl ?_
        refine r_goto C 50 dX5_about_46 rfl ?_
        refine r_sub [(0, .ref (A 0)), (1, .int a1), (2, .int a2)] [0, 1, 2] rfl ?_
        exact b50  1  S8 h
      · replace h := h.2 c9
        refine r_if_neT C c9 49 dX5_about_42 45 rfl rfl ?_
        refine r_iconst C 0 rfl dX5_about_49 50 rfl ?_
        refine r_sub [(0, .ref (A 0)), (1, .int a1), (2, .int a2)] [0, 1, 2] rfl ?_
        exact b50  0  S8 h
set_option maxRecDepth 100000 in
set_option maxHeartbeats 4000000 in
theorem ctX5_word {l : Launch} {D : va_G} {A : Nat → Nat} {cI : ClassId} {X : (Nat → Prop) → State → Heap → Prop} {a1 : Int32} {S : Nat → Nat → Int32} {Q : Int32 → (Nat → Nat → Int32) → Prop} (hX : StX X) (hi : Apart 23 A)  (h : wX5_word a1 S Q) : Ct l D (tyM cI) 23 A (ceM A cI) X yX5_word cX5_word 5 (some .int) 2 43 [.ref (A 0), .int a1] S rI Q := by
  refine Ct.of (by decide +kernel) hX hi [(0, .ref (A 0)), (1, .int a1)] rfl (Nat.le_of_ble_eq_true rfl) ?_
  intro p e s m args below meth c Acc C hr hlk Qf hE
  have b51 : ∀ (K4 : Int32 → Int32 → (Nat → Nat → Int32) → Prop) (hK4 : ∀ (x4_3 : Int32) (x4_2 : Int32) (S : Nat → Nat → Int32), K4 x4_3 x4_2 S → J p l e { frames := 2, cells := 0, slots := 0, locals := 43 } s m args below meth c 0 0 Qf D 23 A (ceM A cI) Acc 5 S 4 [(3, .int x4_3), (2, .int x4_2), (0, .ref (A 0)), (1, .int a1)] []) (x51_3 : Int32) (y51_0 : Int32) (S : Nat → Nat → Int32), wX5_word_b51 a1 K4 x51_3 y51_0 S Q → J p l e { frames := 2, cells := 0, slots := 0, locals := 43 } s m args below meth c 0 0 Qf D 23 A (ceM A cI) Acc 5 S 51 [(3, .int x51_3), (0, .ref (A 0)), (1, .int a1)] [.int y51_0] := by
    intro K4 hK4 x51_3 y51_0 S h
    unfold wX5_word_b51 at h
    refine r_istore_n C [(2, .int y51_0), (3, .int x51_3), (0, .ref (A 0)), (1, .int a1)] (Nat.le_of_ble_eq_true rfl) rfl dX5_word_51 52 rfl ?_
    obtain ⟨x13, e14⟩ : ∃ z : Int32, z = x51_3 + 1 := ⟨_, rfl⟩
    replace h := h x13 e14
    refine r_iinc (n := 1) C 1 rfl x13 (by rw [e14]; rfl) [(3, .int x13), (2, .int y51_0), (0, .ref (A 0)), (1, .int a1)] (Nat.le_of_ble_eq_true rfl) rfl dX5_word_52 55 rfl ?_
    refine r_goto C 4 dX5_word_55 rfl ?_
    refine r_sub [(3, .int x13), (2, .int y51_0), (0, .ref (A 0)), (1, .int a1)] [0, 1, 2, 3] rfl ?_
    exact hK4 x13 y51_0  S h
  have b46 : ∀ (K4 : Int32 → Int32 → (Nat → Nat → Int32) → Prop) (hK4 : ∀ (x4_3 : Int32) (x4_2 : Int32) (S : Nat → Nat → Int32), K4 x4_3 x4_2 S → J p l e { frames := 2, cells := 0, slots := 0, locals := 43 } s m args below meth c 0 0 Qf D 23 A (ceM A cI) Acc 5 S 4 [(3, .int x4_3), (2, .int x4_2), (0, .ref (A 0)), (1, .int a1)] []) (x46_3 : Int32) (S : Nat → Nat → Int32), wX5_word_b46 a1 K4 x46_3 S Q → J p l e { frames := 2, cells := 0, slots := 0, locals := 43 } s m args below meth c 0 0 Qf D 23 A (ceM A cI) Acc 5 S 46 [(3, .int x46_3), (0, .ref (A 0)), (1, .int a1)] [] := by
    intro K4 hK4 x46_3 S h
    unfold wX5_word_b46 at h
    refine r_iconst C 1 rfl dX5_word_46 47 rfl ?_
    refine r_goto C 51 dX5_word_47 rfl ?_
    refine r_sub [(3, .int x46_3), (0, .ref (A 0)), (1, .int a1)] [0, 1, 2] rfl ?_
    exact b51 K4 hK4 x46_3 1  S h
  have b68 : ∀ (x68_2 : Int32) (y68_0 : Int32) (S : Nat → Nat → Int32), wX5_word_b68 a1  x68_2 y68_0 S Q → J p l e { frames := 2, cells := 0, slots := 0, locals := 43 } s m args below meth c 0 0 Qf D 23 A (ceM A cI) Acc 5 S 68 [(2, .int x68_2), (0, .ref (A 0)), (1, .int a1)] [.int y68_0, .ref (A 0)] := by
    intro  x68_2 y68_0 S h
    unfold wX5_word_b68 at h
    refine p_RX5_87 C (x := y68_0) dX5_word_68 71 rfl (fun S10 e11 => ?_)
    replace h := h S10 e11
    refine r_iload_n C 0 rfl dX5_word_71 72 rfl ?_
    refine r_if_eq C 84 dX5_word_72 75 rfl rfl (fun c12 => ?_) (fun c12 => ?_)
    · replace h := h.1 c12
      refine r_iconst C 0 rfl dX5_word_84 85 rfl ?_
      exact r_iret C hE hr hlk dX5_word_85 h
    · replace h := h.2 c12
      refine r_aload_n C 1 rfl dX5_word_75 76 rfl ?_
      refine g_RX5_7 C dX5_word_76 79 rfl ?_
      refine r_iload_n C 2 rfl dX5_word_79 80 rfl ?_
      refine i_M (k := 1) C (Nat.le_of_ble_eq_true rfl) (Nat.le_of_ble_eq_true rfl) h.1 dX5_word_80 81 rfl ?_
      replace h := h.2
      refine r_goto C 85 dX5_word_81 rfl ?_
      exact r_iret C hE hr hlk dX5_word_85 h
  have b4 : ∀ (nn : Nat) (x4_3 : Int32) (x4_2 : Int32) (S : Nat → Nat → Int32), wX5_word_b4 a1  nn x4_3 x4_2 S Q → J p l e { frames := 2, cells := 0, slots := 0, locals := 43 } s m args below meth c 0 0 Qf D 23 A (ceM A cI) Acc 5 S 4 [(3, .int x4_3), (2, .int x4_2), (0, .ref (A 0)), (1, .int a1)] [] := by
    intro nn
    induction nn with
    | zero => intro x4_3 x4_2 S h; exact False.elim h
    | succ nn ih =>
      intro x4_3 x4_2 S h
      rw [wX5_word_b4] at h
      refine r_iload_n C 0 rfl dX5_word_4 5 rfl ?_
      refine r_iconst C 3 rfl dX5_word_5 6 rfl ?_
      refine r_icmp_ge C 58 dX5_word_6 9 rfl rfl (fun c2 => ?_) (fun c2 => ?_)
      · replace h := h.1 c2
        refine r_aload_n C 2 rfl dX5_word_58 59 rfl ?_
        refine r_iload_n C 1 rfl dX5_word_59 60 rfl ?_
        refine r_if_eq C 67 dX5_word_60 63 rfl rfl (fun c3 => ?_) (fun c3 => ?_)
        · replace h := h.1 c3
          refine r_iconst C 1 rfl dX5_word_67 68 rfl ?_
          refine r_sub [(2, .int x4_2), (0, .ref (A 0)), (1, .int a1)] [1, 2, 3] rfl ?_
          exact b68  x4_2 1  S h
        · replace h := h.2 c3
          refine r_iconst C 0 rfl dX5_word_63 64 rfl ?_
          refine r_goto C 68 dX5_word_64 rfl ?_
          refine r_sub [(2, .int x4_2), (0, .ref (A 0)), (1, .int a1)] [1, 2, 3] rfl ?_
          exact b68  x4_2 0  S h
      · replace h := h.2 c2
        refine r_aload_n C 2 rfl dX5_word_9 10 rfl ?_
        refine r_iload_n C 0 rfl dX5_word_10 11 rfl ?_
        refine r_aload_n C 2 rfl dX5_word_11 12 rfl ?_
        refine g_RX5_19 C dX5_word_12 15 rfl ?_
        refine r_iload_n C 0 rfl dX5_word_15 16 rfl ?_
        refine i_M (k := 4) C (Nat.le_of_ble_eq_true rfl) (Nat.le_of_ble_eq_true rfl) h.1 dX5_word_16 17 rfl ?_
        replace h := h.2
        refine k_RX5_131 C (ctX5_begin hX hi  h) ⟨(Nat.le_of_ble_eq_true rfl), (Nat.le_of_ble_eq_true rfl)⟩ (Nat.le_of_ble_eq_true rfl) ⟨Nat.le_refl 0, Nat.le_refl 0⟩ dX5_word_17 20 rfl (fun r4 S5 h => ?_)
        refine r_istore C [(4, .int r4), (3, .int x4_3), (2, .int x4_2), (0, .ref (A 0)), (1, .int a1)] (Nat.le_of_ble_eq_true rfl) rfl dX5_word_20 22 rfl ?_
        refine r_iload_n C 2 rfl dX5_word_22 23 rfl ?_
        refine r_if_ne C 46 dX5_word_23 26 rfl rfl (fun c6 => ?_) (fun c6 => ?_)
        · replace h := h.1 c6
          refine r_iload_n C 4 rfl dX5_word_26 27 rfl ?_
          refine r_iload C 0 rfl dX5_word_27 29 rfl ?_
          refine r_iload C 0 rfl dX5_word_29 31 rfl ?_
          refine r_aload_n C 3 rfl dX5_word_31 32 rfl ?_
          refine g_RX5_22 C dX5_word_32 35 rfl ?_
          refine r_iload_n C 1 rfl dX5_word_35 36 rfl ?_
          refine i_M (k := 5) C (Nat.le_of_ble_eq_true rfl) (Nat.le_of_ble_eq_true rfl) h.1 dX5_word_36 37 rfl ?_
          replace h := h.2
          refine r_iadd C dX5_word_37 38 rfl ?_
          refine r_iconst C 1 rfl dX5_word_38 39 rfl ?_
          refine r_isub C dX5_word_39 40 rfl ?_
          refine k_RX5_90 C (ctX5_in hX hi  h) ⟨(Nat.le_of_ble_eq_true rfl), (Nat.le_of_ble_eq_true rfl)⟩ (Nat.le_of_ble_eq_true rfl) ⟨Nat.le_refl 0, Nat.le_refl 0⟩ dX5_word_40 43 rfl (fun r7 S8 h => ?_)
          rcases bool_or r7 with c9 | c9
          · replace h := h.1 c9
            refine r_if_eqF C c9 50 dX5_word_43 46 rfl rfl ?_
            refine r_iconst C 0 rfl dX5_word_50 51 rfl ?_
            refine r_sub [(3, .int x4_3), (0, .ref (A 0)), (1, .int a1)] [1, 3, 4] rfl ?_
            exact b51 (fun z0 z1 T => wX5_word_b4 a1  nn z0 z1 T Q) ih x4_3 0  S8 h
          · replace h := h.2 c9
            refine r_if_eqT C c9 50 dX5_word_43 46 rfl rfl ?_
            refine r_sub [(3, .int x4_3), (0, .ref (A 0)), (1, .int a1)] [1, 3, 4] rfl ?_
            exact b46 (fun z0 z1 T => wX5_word_b4 a1  nn z0 z1 T Q) ih x4_3  S8 h
        · replace h := h.2 c6
          refine r_sub [(3, .int x4_3), (0, .ref (A 0)), (1, .int a1)] [1, 3, 4] rfl ?_
          exact b46 (fun z0 z1 T => wX5_word_b4 a1  nn z0 z1 T Q) ih x4_3  S5 h
  unfold wX5_word at h
  refine r_iconst C 0 rfl dX5_word_0 1 rfl ?_
  refine r_istore_n C [(2, .int 0), (0, .ref (A 0)), (1, .int a1)] (Nat.le_of_ble_eq_true rfl) rfl dX5_word_1 2 rfl ?_
  refine r_iconst C 0 rfl dX5_word_2 3 rfl ?_
  refine r_istore_n C [(3, .int 0), (2, .int 0), (0, .ref (A 0)), (1, .int a1)] (Nat.le_of_ble_eq_true rfl) rfl dX5_word_3 4 rfl ?_
  refine r_sub [(3, .int 0), (2, .int 0), (0, .ref (A 0)), (1, .int a1)] [0, 1, 2, 3] rfl ?_
  obtain ⟨f1, h⟩ := h
  exact b4  f1 0 0  S h
set_option maxRecDepth 100000 in
set_option maxHeartbeats 4000000 in
theorem ctX5_sizeOf {l : Launch} {D : va_G} {A : Nat → Nat} {cI : ClassId} {X : (Nat → Prop) → State → Heap → Prop} {a1 : Int32} {S : Nat → Nat → Int32} {Q : Int32 → (Nat → Nat → Int32) → Prop} (hX : StX X) (hi : Apart 23 A)  (h : wX5_sizeOf a1 S Q) : Ct l D (tyM cI) 23 A (ceM A cI) X yX5_sizeOf cX5_sizeOf 2 (some .int) 0 0 [.ref (A 0), .int a1] S rI Q := by
  refine Ct.of (by decide +kernel) hX hi [(0, .ref (A 0)), (1, .int a1)] rfl (Nat.le_of_ble_eq_true rfl) ?_
  intro p e s m args below meth c Acc C hr hlk Qf hE
  unfold wX5_sizeOf at h
  refine r_iload_n C 1 rfl dX5_sizeOf_0 1 rfl ?_
  by_cases c1 : a1 = 0
  · replace h := h.1 c1
    refine r_sw C 0 c1 44 dX5_sizeOf_1 (by decide) (by decide) rfl rfl ?_
    refine r_aload_n C 0 rfl dX5_sizeOf_44 45 rfl ?_
    refine g_RX5_43 C dX5_sizeOf_45 48 rfl ?_
    refine r_iload_n C 1 rfl dX5_sizeOf_48 49 rfl ?_
    refine i_M (k := 12) C (Nat.le_of_ble_eq_true rfl) (Nat.le_of_ble_eq_true rfl) h.1 dX5_sizeOf_49 50 rfl ?_
    replace h := h.2
    exact r_iret C hE hr hlk dX5_sizeOf_50 h
  · replace h := h.2
    by_cases c2 : a1 = 1
    · replace h := h.1 c2
      refine r_sw C 1 c2 44 dX5_sizeOf_1 (by decide) (by decide) rfl rfl ?_
      refine r_aload_n C 0 rfl dX5_sizeOf_44 45 rfl ?_
      refine g_RX5_43 C dX5_sizeOf_45 48 rfl ?_
      refine r_iload_n C 1 rfl dX5_sizeOf_48 49 rfl ?_
      refine i_M (k := 12) C (Nat.le_of_ble_eq_true rfl) (Nat.le_of_ble_eq_true rfl) h.1 dX5_sizeOf_49 50 rfl ?_
      replace h := h.2
      exact r_iret C hE hr hlk dX5_sizeOf_50 h
    · replace h := h.2
      by_cases c3 : a1 = 2
      · replace h := h.1 c3
        refine r_sw C 2 c3 51 dX5_sizeOf_1 (by decide) (by decide) rfl rfl ?_
        refine r_aload_n C 0 rfl dX5_sizeOf_51 52 rfl ?_
        refine g_RX5_105 C dX5_sizeOf_52 55 rfl ?_
        exact r_iret C hE hr hlk dX5_sizeOf_55 h
      · replace h := h.2
        by_cases c4 : a1 = 3
        · replace h := h.1 c4
          refine r_sw C 3 c4 56 dX5_sizeOf_1 (by decide) (by decide) rfl rfl ?_
          refine r_aload_n C 0 rfl dX5_sizeOf_56 57 rfl ?_
          refine g_RX5_157 C dX5_sizeOf_57 60 rfl ?_
          exact r_iret C hE hr hlk dX5_sizeOf_60 h
        · replace h := h.2
          by_cases c5 : a1 = 4
          · replace h := h.1 c5
            refine r_sw C 4 c5 61 dX5_sizeOf_1 (by decide) (by decide) rfl rfl ?_
            refine r_aload_n C 0 rfl dX5_sizeOf_61 62 rfl ?_
            refine g_RX5_151 C dX5_sizeOf_62 65 rfl ?_
            exact r_iret C hE hr hlk dX5_sizeOf_65 h
          · replace h := h.2
            by_cases c6 : a1 = 5
            · replace h := h.1 c6
              refine r_sw C 5 c6 66 dX5_sizeOf_1 (by decide) (by decide) rfl rfl ?_
              refine r_aload_n C 0 rfl dX5_sizeOf_66 67 rfl ?_
              refine g_RX5_154 C dX5_sizeOf_67 70 rfl ?_
              exact r_iret C hE hr hlk dX5_sizeOf_70 h
            · replace h := h.2
              by_cases c7 : a1 = 6
              · replace h := h.1 c7
                refine r_sw C 6 c7 71 dX5_sizeOf_1 (by decide) (by decide) rfl rfl ?_
                refine r_bipush C 8 rfl dX5_sizeOf_71 73 rfl ?_
                exact r_iret C hE hr hlk dX5_sizeOf_73 h
              · replace h := h.2
                replace h := h c1 c2 c3 c4 c5 c6 c7
                have hsw : (a1).toInt < 0 ∨ 6 < (a1).toInt := by
                  have c1t := lv_neT (k := 0) (a := 0) c1 (by decide)
                  have c2t := lv_neT (k := 1) (a := 1) c2 (by decide)
                  have c3t := lv_neT (k := 2) (a := 2) c3 (by decide)
                  have c4t := lv_neT (k := 3) (a := 3) c4 (by decide)
                  have c5t := lv_neT (k := 4) (a := 4) c5 (by decide)
                  have c6t := lv_neT (k := 5) (a := 5) c6 (by decide)
                  have c7t := lv_neT (k := 6) (a := 6) c7 (by decide)
                  omega
                refine r_tableOut C 74 dX5_sizeOf_1 hsw rfl ?_
                refine r_iconst C 0 rfl dX5_sizeOf_74 75 rfl ?_
                exact r_iret C hE hr hlk dX5_sizeOf_75 h
set_option maxRecDepth 100000 in
set_option maxHeartbeats 4000000 in
theorem ctX5_row {l : Launch} {D : va_G} {A : Nat → Nat} {cI : ClassId} {X : (Nat → Prop) → State → Heap → Prop} {a1 : Int32} {a2 : Int32} {S : Nat → Nat → Int32} {Q : Int32 → (Nat → Nat → Int32) → Prop} (hX : StX X) (hi : Apart 23 A)  (h : wX5_row a1 a2 S Q) : Ct l D (tyM cI) 23 A (ceM A cI) X yX5_row cX5_row 3 (some .int) 1 22 [.ref (A 0), .int a1, .int a2] S rI Q := by
  refine Ct.of (by decide +kernel) hX hi [(0, .ref (A 0)), (1, .int a1), (2, .int a2)] rfl (Nat.le_of_ble_eq_true rfl) ?_
  intro p e s m args below meth c Acc C hr hlk Qf hE
  have b31 : ∀ (y31_0 : Int32) (S : Nat → Nat → Int32), wX5_row_b31 a1 a2  y31_0 S Q → J p l e { frames := 1, cells := 0, slots := 0, locals := 22 } s m args below meth c 0 0 Qf D 23 A (ceM A cI) Acc 3 S 31 [(0, .ref (A 0)), (1, .int a1), (2, .int a2)] [.int y31_0, .ref (A 0)] := by
    intro  y31_0 S h
    unfold wX5_row_b31 at h
    refine p_RX5_87 C (x := y31_0) dX5_row_31 34 rfl (fun S9 e10 => ?_)
    replace h := h S9 e10
    refine r_aload_n C 0 rfl dX5_row_34 35 rfl ?_
    refine g_RX5_87 C dX5_row_35 38 rfl ?_
    refine r_if_le C 43 dX5_row_38 41 rfl rfl (fun c11 => ?_) (fun c11 => ?_)
    · replace h := h.1 c11
      refine r_iload_n C 1 rfl dX5_row_43 44 rfl ?_
      by_cases c12 : a1 = 0
      · replace h := h.1 c12
        refine r_sw C 0 c12 84 dX5_row_44 (by decide) (by decide) rfl rfl ?_
        refine r_aload_n C 0 rfl dX5_row_84 85 rfl ?_
        refine g_RX5_46 C dX5_row_85 88 rfl ?_
        refine r_sipush C 1000 rfl dX5_row_88 91 rfl ?_
        refine r_iload_n C 1 rfl dX5_row_91 92 rfl ?_
        refine r_imul C dX5_row_92 93 rfl ?_
        refine r_iload_n C 2 rfl dX5_row_93 94 rfl ?_
        refine r_iadd C dX5_row_94 95 rfl ?_
        refine i_M (k := 13) C (Nat.le_of_ble_eq_true rfl) (Nat.le_of_ble_eq_true rfl) h.1 dX5_row_95 96 rfl ?_
        replace h := h.2
        exact r_iret C hE hr hlk dX5_row_96 h
      · replace h := h.2
        by_cases c13 : a1 = 1
        · replace h := h.1 c13
          refine r_sw C 1 c13 84 dX5_row_44 (by decide) (by decide) rfl rfl ?_
          refine r_aload_n C 0 rfl dX5_row_84 85 rfl ?_
          refine g_RX5_46 C dX5_row_85 88 rfl ?_
          refine r_sipush C 1000 rfl dX5_row_88 91 rfl ?_
          refine r_iload_n C 1 rfl dX5_row_91 92 rfl ?_
          refine r_imul C dX5_row_92 93 rfl ?_
          refine r_iload_n C 2 rfl dX5_row_93 94 rfl ?_
          refine r_iadd C dX5_row_94 95 rfl ?_
          refine i_M (k := 13) C (Nat.le_of_ble_eq_true rfl) (Nat.le_of_ble_eq_true rfl) h.1 dX5_row_95 96 rfl ?_
          replace h := h.2
          exact r_iret C hE hr hlk dX5_row_96 h
        · replace h := h.2
          by_cases c14 : a1 = 2
          · replace h := h.1 c14
            refine r_sw C 2 c14 97 dX5_row_44 (by decide) (by decide) rfl rfl ?_
            refine r_aload_n C 0 rfl dX5_row_97 98 rfl ?_
            refine g_RX5_40 C dX5_row_98 101 rfl ?_
            refine r_iload_n C 2 rfl dX5_row_101 102 rfl ?_
            refine i_M (k := 11) C (Nat.le_of_ble_eq_true rfl) (Nat.le_of_ble_eq_true rfl) h.1 dX5_row_102 103 rfl ?_
            replace h := h.2
            exact r_iret C hE hr hlk dX5_row_103 h
          · replace h := h.2
            by_cases c15 : a1 = 3
            · replace h := h.1 c15
              refine r_sw C 3 c15 104 dX5_row_44 (by decide) (by decide) rfl rfl ?_
              refine r_aload_n C 0 rfl dX5_row_104 105 rfl ?_
              refine g_RX5_28 C dX5_row_105 108 rfl ?_
              refine r_iload_n C 2 rfl dX5_row_108 109 rfl ?_
              refine i_M (k := 7) C (Nat.le_of_ble_eq_true rfl) (Nat.le_of_ble_eq_true rfl) h.1 dX5_row_109 110 rfl ?_
              replace h := h.2
              exact r_iret C hE hr hlk dX5_row_110 h
            · replace h := h.2
              by_cases c16 : a1 = 4
              · replace h := h.1 c16
                refine r_sw C 4 c16 111 dX5_row_44 (by decide) (by decide) rfl rfl ?_
                refine r_aload_n C 0 rfl dX5_row_111 112 rfl ?_
                refine g_RX5_34 C dX5_row_112 115 rfl ?_
                refine r_iload_n C 2 rfl dX5_row_115 116 rfl ?_
                refine i_M (k := 9) C (Nat.le_of_ble_eq_true rfl) (Nat.le_of_ble_eq_true rfl) h.1 dX5_row_116 117 rfl ?_
                replace h := h.2
                exact r_iret C hE hr hlk dX5_row_117 h
              · replace h := h.2
                by_cases c17 : a1 = 5
                · replace h := h.1 c17
                  refine r_sw C 5 c17 118 dX5_row_44 (by decide) (by decide) rfl rfl ?_
                  refine r_aload_n C 0 rfl dX5_row_118 119 rfl ?_
                  refine g_RX5_37 C dX5_row_119 122 rfl ?_
                  refine r_iload_n C 2 rfl dX5_row_122 123 rfl ?_
                  refine i_M (k := 10) C (Nat.le_of_ble_eq_true rfl) (Nat.le_of_ble_eq_true rfl) h.1 dX5_row_123 124 rfl ?_
                  replace h := h.2
                  exact r_iret C hE hr hlk dX5_row_124 h
                · replace h := h.2
                  replace h := h c12 c13 c14 c15 c16 c17
                  have hsw : (a1).toInt < 0 ∨ 5 < (a1).toInt := by
                    have c12t := lv_neT (k := 0) (a := 0) c12 (by decide)
                    have c13t := lv_neT (k := 1) (a := 1) c13 (by decide)
                    have c14t := lv_neT (k := 2) (a := 2) c14 (by decide)
                    have c15t := lv_neT (k := 3) (a := 3) c15 (by decide)
                    have c16t := lv_neT (k := 4) (a := 4) c16 (by decide)
                    have c17t := lv_neT (k := 5) (a := 5) c17 (by decide)
                    omega
                  refine r_tableOut C 125 dX5_row_44 hsw rfl ?_
                  refine r_aload_n C 0 rfl dX5_row_125 126 rfl ?_
                  refine g_RX5_31 C dX5_row_126 129 rfl ?_
                  refine r_iload_n C 2 rfl dX5_row_129 130 rfl ?_
                  refine i_M (k := 8) C (Nat.le_of_ble_eq_true rfl) (Nat.le_of_ble_eq_true rfl) h.1 dX5_row_130 131 rfl ?_
                  replace h := h.2
                  exact r_iret C hE hr hlk dX5_row_131 h
    · replace h := h.2 c11
      refine r_iconst C 0 rfl dX5_row_41 42 rfl ?_
      exact r_iret C hE hr hlk dX5_row_42 h
  have b30 : ∀  (S : Nat → Nat → Int32), wX5_row_b30 a1 a2   S Q → J p l e { frames := 1, cells := 0, slots := 0, locals := 22 } s m args below meth c 0 0 Qf D 23 A (ceM A cI) Acc 3 S 30 [(0, .ref (A 0)), (1, .int a1), (2, .int a2)] [.ref (A 0)] := by
    intro   S h
    unfold wX5_row_b30 at h
    refine r_iconst C 1 rfl dX5_row_30 31 rfl ?_
    refine r_sub [(0, .ref (A 0)), (1, .int a1), (2, .int a2)] [0, 1, 2] rfl ?_
    exact b31  1  S h
  unfold wX5_row at h
  refine r_aload_n C 0 rfl dX5_row_0 1 rfl ?_
  refine r_iload_n C 1 rfl dX5_row_1 2 rfl ?_
  refine r_iconst C 0 rfl dX5_row_2 3 rfl ?_
  refine r_bipush C 6 rfl dX5_row_3 5 rfl ?_
  refine k_RX5_90 C (ctX5_in hX hi  h) ⟨(Nat.le_of_ble_eq_true rfl), (Nat.le_of_ble_eq_true rfl)⟩ (Nat.le_of_ble_eq_true rfl) ⟨Nat.le_refl 0, Nat.le_refl 0⟩ dX5_row_5 8 rfl (fun r1 S2 h => ?_)
  rcases bool_or r1 with c3 | c3
  · replace h := h.1 c3
    refine r_if_eqF C c3 30 dX5_row_8 11 rfl rfl ?_
    refine r_sub [(0, .ref (A 0)), (1, .int a1), (2, .int a2)] [0, 1, 2] rfl ?_
    exact b30    S2 h
  · replace h := h.2 c3
    refine r_if_eqT C c3 30 dX5_row_8 11 rfl rfl ?_
    refine r_iload_n C 2 rfl dX5_row_11 12 rfl ?_
    refine r_iconst C 0 rfl dX5_row_12 13 rfl ?_
    refine r_aload_n C 0 rfl dX5_row_13 14 rfl ?_
    refine r_iload_n C 1 rfl dX5_row_14 15 rfl ?_
    refine k_RX5_191 C (ctX5_sizeOf hX hi  h) ⟨(Nat.le_of_ble_eq_true rfl), (Nat.le_of_ble_eq_true rfl)⟩ (Nat.le_of_ble_eq_true rfl) ⟨Nat.le_refl 0, Nat.le_refl 0⟩ dX5_row_15 18 rfl (fun r4 S5 h => ?_)
    refine r_iconst C 1 rfl dX5_row_18 19 rfl ?_
    refine r_isub C dX5_row_19 20 rfl ?_
    refine k_RX5_90 C (ctX5_in hX hi  h) ⟨(Nat.le_of_ble_eq_true rfl), (Nat.le_of_ble_eq_true rfl)⟩ (Nat.le_of_ble_eq_true rfl) ⟨Nat.le_refl 0, Nat.le_refl 0⟩ dX5_row_20 23 rfl (fun r6 S7 h => ?_)
    rcases bool_or r6 with c8 | c8
    · replace h := h.1 c8
      refine r_if_eqF C c8 30 dX5_row_23 26 rfl rfl ?_
      refine r_sub [(0, .ref (A 0)), (1, .int a1), (2, .int a2)] [0, 1, 2] rfl ?_
      exact b30    S7 h
    · replace h := h.2 c8
      refine r_if_eqT C c8 30 dX5_row_23 26 rfl rfl ?_
      refine r_iconst C 0 rfl dX5_row_26 27 rfl ?_
      refine r_goto C 31 dX5_row_27 rfl ?_
      refine r_sub [(0, .ref (A 0)), (1, .int a1), (2, .int a2)] [0, 1, 2] rfl ?_
      exact b31  0  S7 h
set_option maxRecDepth 100000 in
set_option maxHeartbeats 4000000 in
theorem ctX5_code {l : Launch} {D : va_G} {A : Nat → Nat} {cI : ClassId} {X : (Nat → Prop) → State → Heap → Prop} {a1 : Int32} {a2 : Int32} {a3 : Int32} {a4 : Int32} {S : Nat → Nat → Int32} {Q : Int32 → (Nat → Nat → Int32) → Prop} (hX : StX X) (hi : Apart 23 A)  (h : wX5_code a1 a2 a3 a4 S Q) : Ct l D (tyM cI) 23 A (ceM A cI) X yX5_code cX5_code 5 (some .int) 0 0 [.ref (A 0), .int a1, .int a2, .int a3, .int a4] S rI Q := by
  refine Ct.of (by decide +kernel) hX hi [(0, .ref (A 0)), (1, .int a1), (2, .int a2), (3, .int a3), (4, .int a4)] rfl (Nat.le_of_ble_eq_true rfl) ?_
  intro p e s m args below meth c Acc C hr hlk Qf hE
  have b15 : ∀ (y15_0 : Int32) (S : Nat → Nat → Int32), wX5_code_b15 a1 a2 a3 a4  y15_0 S Q → J p l e { frames := 0, cells := 0, slots := 0, locals := 0 } s m args below meth c 0 0 Qf D 23 A (ceM A cI) Acc 5 S 15 [(0, .ref (A 0)), (1, .int a1), (2, .int a2), (3, .int a3), (4, .int a4)] [.int y15_0, .ref (A 0)] := by
    intro  y15_0 S h
    unfold wX5_code_b15 at h
    refine p_RX5_87 C (x := y15_0) dX5_code_15 18 rfl (fun S2 e3 => ?_)
    replace h := h S2 e3
    refine r_aload_n C 0 rfl dX5_code_18 19 rfl ?_
    refine g_RX5_87 C dX5_code_19 22 rfl ?_
    refine r_if_le C 27 dX5_code_22 25 rfl rfl (fun c4 => ?_) (fun c4 => ?_)
    · replace h := h.1 c4
      refine r_aload_n C 0 rfl dX5_code_27 28 rfl ?_
      refine g_RX5_61 C dX5_code_28 31 rfl ?_
      refine r_iconst C 4 rfl dX5_code_31 32 rfl ?_
      refine r_aload_n C 0 rfl dX5_code_32 33 rfl ?_
      refine g_RX5_194 C dX5_code_33 36 rfl ?_
      refine r_imul C dX5_code_36 37 rfl ?_
      refine r_iload_n C 1 rfl dX5_code_37 38 rfl ?_
      refine s_M (k := 18) C (Nat.le_of_ble_eq_true rfl) (Nat.le_of_ble_eq_true rfl) h.1 dX5_code_38 39 rfl (fun S5 e6 => ?_)
      replace h := h.2
      replace h := h S5 e6
      refine r_aload_n C 0 rfl dX5_code_39 40 rfl ?_
      refine g_RX5_61 C dX5_code_40 43 rfl ?_
      refine r_iconst C 4 rfl dX5_code_43 44 rfl ?_
      refine r_aload_n C 0 rfl dX5_code_44 45 rfl ?_
      refine g_RX5_194 C dX5_code_45 48 rfl ?_
      refine r_imul C dX5_code_48 49 rfl ?_
      refine r_iconst C 1 rfl dX5_code_49 50 rfl ?_
      refine r_iadd C dX5_code_50 51 rfl ?_
      refine r_iload_n C 2 rfl dX5_code_51 52 rfl ?_
      refine s_M (k := 18) C (Nat.le_of_ble_eq_true rfl) (Nat.le_of_ble_eq_true rfl) h.1 dX5_code_52 53 rfl (fun S7 e8 => ?_)
      replace h := h.2
      replace h := h S7 e8
      refine r_aload_n C 0 rfl dX5_code_53 54 rfl ?_
      refine g_RX5_61 C dX5_code_54 57 rfl ?_
      refine r_iconst C 4 rfl dX5_code_57 58 rfl ?_
      refine r_aload_n C 0 rfl dX5_code_58 59 rfl ?_
      refine g_RX5_194 C dX5_code_59 62 rfl ?_
      refine r_imul C dX5_code_62 63 rfl ?_
      refine r_iconst C 2 rfl dX5_code_63 64 rfl ?_
      refine r_iadd C dX5_code_64 65 rfl ?_
      refine r_iload_n C 3 rfl dX5_code_65 66 rfl ?_
      refine s_M (k := 18) C (Nat.le_of_ble_eq_true rfl) (Nat.le_of_ble_eq_true rfl) h.1 dX5_code_66 67 rfl (fun S9 e10 => ?_)
      replace h := h.2
      replace h := h S9 e10
      refine r_aload_n C 0 rfl dX5_code_67 68 rfl ?_
      refine g_RX5_61 C dX5_code_68 71 rfl ?_
      refine r_iconst C 4 rfl dX5_code_71 72 rfl ?_
      refine r_aload_n C 0 rfl dX5_code_72 73 rfl ?_
      refine g_RX5_194 C dX5_code_73 76 rfl ?_
      refine r_imul C dX5_code_76 77 rfl ?_
      refine r_iconst C 3 rfl dX5_code_77 78 rfl ?_
      refine r_iadd C dX5_code_78 79 rfl ?_
      refine r_iload C 4 rfl dX5_code_79 81 rfl ?_
      refine s_M (k := 18) C (Nat.le_of_ble_eq_true rfl) (Nat.le_of_ble_eq_true rfl) h.1 dX5_code_81 82 rfl (fun S11 e12 => ?_)
      replace h := h.2
      replace h := h S11 e12
      refine r_aload_n C 0 rfl dX5_code_82 83 rfl ?_
      refine r_dup C rfl dX5_code_83 84 rfl ?_
      refine g_RX5_194 C dX5_code_84 87 rfl ?_
      refine r_iconst C 1 rfl dX5_code_87 88 rfl ?_
      refine r_iadd C dX5_code_88 89 rfl ?_
      refine p_RX5_194 C (x := ((S11 0 29) + 1)) dX5_code_89 92 rfl (fun S13 e14 => ?_)
      replace h := h S13 e14
      refine r_aload_n C 0 rfl dX5_code_92 93 rfl ?_
      refine g_RX5_194 C dX5_code_93 96 rfl ?_
      exact r_iret C hE hr hlk dX5_code_96 h
    · replace h := h.2 c4
      refine r_iconst C 0 rfl dX5_code_25 26 rfl ?_
      exact r_iret C hE hr hlk dX5_code_26 h
  unfold wX5_code at h
  refine r_aload_n C 0 rfl dX5_code_0 1 rfl ?_
  refine r_aload_n C 0 rfl dX5_code_1 2 rfl ?_
  refine g_RX5_194 C dX5_code_2 5 rfl ?_
  refine r_bipush C 64 rfl dX5_code_5 7 rfl ?_
  refine r_icmp_ne C 14 dX5_code_7 10 rfl rfl (fun c1 => ?_) (fun c1 => ?_)
  · replace h := h.1 c1
    refine r_iconst C 1 rfl dX5_code_10 11 rfl ?_
    refine r_goto C 15 dX5_code_11 rfl ?_
    refine r_sub [(0, .ref (A 0)), (1, .int a1), (2, .int a2), (3, .int a3), (4, .int a4)] [0, 1, 2, 3, 4] rfl ?_
    exact b15  1  S h
  · replace h := h.2 c1
    refine r_iconst C 0 rfl dX5_code_14 15 rfl ?_
    refine r_sub [(0, .ref (A 0)), (1, .int a1), (2, .int a2), (3, .int a3), (4, .int a4)] [0, 1, 2, 3, 4] rfl ?_
    exact b15  0  S h
set_option maxRecDepth 100000 in
set_option maxHeartbeats 4000000 in
theorem ctX5_scrap {l : Launch} {D : va_G} {A : Nat → Nat} {cI : ClassId} {X : (Nat → Prop) → State → Heap → Prop}  {S : Nat → Nat → Int32} {Q : Int32 → (Nat → Nat → Int32) → Prop} (hX : StX X) (hi : Apart 23 A)  (h : wX5_scrap  S Q) : Ct l D (tyM cI) 23 A (ceM A cI) X yX5_scrap cX5_scrap 2 (some .int) 0 0 [.ref (A 0)] S rI Q := by
  refine Ct.of (by decide +kernel) hX hi [(0, .ref (A 0))] rfl (Nat.le_of_ble_eq_true rfl) ?_
  intro p e s m args below meth c Acc C hr hlk Qf hE
  unfold wX5_scrap at h
  refine r_aload_n C 0 rfl dX5_scrap_0 1 rfl ?_
  refine r_iconst C 0 rfl dX5_scrap_1 2 rfl ?_
  refine p_RX5_87 C (x := 0) dX5_scrap_2 5 rfl (fun S1 e2 => ?_)
  replace h := h S1 e2
  refine r_aload_n C 0 rfl dX5_scrap_5 6 rfl ?_
  refine g_RX5_194 C dX5_scrap_6 9 rfl ?_
  refine r_istore_n C [(1, .int (S1 0 29)), (0, .ref (A 0))] (Nat.le_of_ble_eq_true rfl) rfl dX5_scrap_9 10 rfl ?_
  refine r_aload_n C 1 rfl dX5_scrap_10 11 rfl ?_
  refine r_iconst C 0 rfl dX5_scrap_11 12 rfl ?_
  refine p_RX5_194 C (x := 0) dX5_scrap_12 15 rfl (fun S3 e4 => ?_)
  replace h := h S3 e4
  refine r_iload_n C 0 rfl dX5_scrap_15 16 rfl ?_
  exact r_iret C hE hr hlk dX5_scrap_16 h
set_option maxRecDepth 100000 in
set_option maxHeartbeats 4000000 in
theorem ctX5_isNumber {l : Launch} {D : va_G} {A : Nat → Nat} {cI : ClassId} {X : (Nat → Prop) → State → Heap → Prop} {a0 : Int32} {S : Nat → Nat → Int32} {Q : Bool → (Nat → Nat → Int32) → Prop} (hX : StX X) (hi : Apart 23 A)  (h : wX5_isNumber a0 S Q) : Ct l D (tyM cI) 23 A (ceM A cI) X yX5_isNumber cX5_isNumber 1 (some .boolean) 1 22 [.int a0] S rZ Q := by
  refine Ct.of (by decide +kernel) hX hi [(0, .int a0)] rfl (Nat.le_of_ble_eq_true rfl) ?_
  intro p e s m args below meth c Acc C hr hlk Qf hE
  unfold wX5_isNumber at h
  refine r_iload_n C 0 rfl dX5_isNumber_0 1 rfl ?_
  refine r_iconst C 0 rfl dX5_isNumber_1 2 rfl ?_
  refine r_bipush C 7 rfl dX5_isNumber_2 4 rfl ?_
  refine k_RX5_90 C (ctX5_in hX hi  h) ⟨(Nat.le_of_ble_eq_true rfl), (Nat.le_of_ble_eq_true rfl)⟩ (Nat.le_of_ble_eq_true rfl) ⟨Nat.le_refl 0, Nat.le_refl 0⟩ dX5_isNumber_4 7 rfl (fun r1 S2 h => ?_)
  exact r_zret C hE hr hlk (r := r1) dX5_isNumber_7 h
set_option maxRecDepth 100000 in
set_option maxHeartbeats 4000000 in
theorem ctX5_isPlace {l : Launch} {D : va_G} {A : Nat → Nat} {cI : ClassId} {X : (Nat → Prop) → State → Heap → Prop} {a1 : Int32} {S : Nat → Nat → Int32} {Q : Bool → (Nat → Nat → Int32) → Prop} (hX : StX X) (hi : Apart 23 A)  (h : wX5_isPlace a1 S Q) : Ct l D (tyM cI) 23 A (ceM A cI) X yX5_isPlace cX5_isPlace 2 (some .boolean) 1 22 [.ref (A 0), .int a1] S rZ Q := by
  refine Ct.of (by decide +kernel) hX hi [(0, .ref (A 0)), (1, .int a1)] rfl (Nat.le_of_ble_eq_true rfl) ?_
  intro p e s m args below meth c Acc C hr hlk Qf hE
  unfold wX5_isPlace at h
  refine r_iload_n C 1 rfl dX5_isPlace_0 1 rfl ?_
  refine r_iconst C 0 rfl dX5_isPlace_1 2 rfl ?_
  refine r_aload_n C 0 rfl dX5_isPlace_2 3 rfl ?_
  refine g_RX5_194 C dX5_isPlace_3 6 rfl ?_
  refine k_RX5_90 C (ctX5_in hX hi  h) ⟨(Nat.le_of_ble_eq_true rfl), (Nat.le_of_ble_eq_true rfl)⟩ (Nat.le_of_ble_eq_true rfl) ⟨Nat.le_refl 0, Nat.le_refl 0⟩ dX5_isPlace_6 9 rfl (fun r1 S2 h => ?_)
  exact r_zret C hE hr hlk (r := r1) dX5_isPlace_9 h
set_option maxRecDepth 100000 in
set_option maxHeartbeats 4000000 in
theorem ctX5_isField {l : Launch} {D : va_G} {A : Nat → Nat} {cI : ClassId} {X : (Nat → Prop) → State → Heap → Prop} {a0 : Int32} {S : Nat → Nat → Int32} {Q : Bool → (Nat → Nat → Int32) → Prop} (hX : StX X) (hi : Apart 23 A)  (h : wX5_isField a0 S Q) : Ct l D (tyM cI) 23 A (ceM A cI) X yX5_isField cX5_isField 1 (some .boolean) 1 22 [.int a0] S rZ Q := by
  refine Ct.of (by decide +kernel) hX hi [(0, .int a0)] rfl (Nat.le_of_ble_eq_true rfl) ?_
  intro p e s m args below meth c Acc C hr hlk Qf hE
  unfold wX5_isField at h
  refine r_iload_n C 0 rfl dX5_isField_0 1 rfl ?_
  refine r_iconst C 0 rfl dX5_isField_1 2 rfl ?_
  refine r_iconst C 5 rfl dX5_isField_2 3 rfl ?_
  refine k_RX5_90 C (ctX5_in hX hi  h) ⟨(Nat.le_of_ble_eq_true rfl), (Nat.le_of_ble_eq_true rfl)⟩ (Nat.le_of_ble_eq_true rfl) ⟨Nat.le_refl 0, Nat.le_refl 0⟩ dX5_isField_3 6 rfl (fun r1 S2 h => ?_)
  exact r_zret C hE hr hlk (r := r1) dX5_isField_6 h
set_option maxRecDepth 100000 in
set_option maxHeartbeats 4000000 in
theorem ctX5_isRight {l : Launch} {D : va_G} {A : Nat → Nat} {cI : ClassId} {X : (Nat → Prop) → State → Heap → Prop} {a1 : Int32} {a2 : Int32} {a3 : Int32} {a4 : Int32} {S : Nat → Nat → Int32} {Q : Bool → (Nat → Nat → Int32) → Prop} (hX : StX X) (hi : Apart 23 A)  (h : wX5_isRight a1 a2 a3 a4 S Q) : Ct l D (tyM cI) 23 A (ceM A cI) X yX5_isRight cX5_isRight 5 (some .boolean) 2 43 [.ref (A 0), .int a1, .int a2, .int a3, .int a4] S rZ Q := by
  refine Ct.of (by decide +kernel) hX hi [(0, .ref (A 0)), (1, .int a1), (2, .int a2), (3, .int a3), (4, .int a4)] rfl (Nat.le_of_ble_eq_true rfl) ?_
  intro p e s m args below meth c Acc C hr hlk Qf hE
  have b137 : ∀  (S : Nat → Nat → Int32), wX5_isRight_b137 a1 a2 a3 a4   S Q → J p l e { frames := 2, cells := 0, slots := 0, locals := 43 } s m args below meth c 0 0 Qf D 23 A (ceM A cI) Acc 5 S 137 [] [] := by
    intro   S h
    unfold wX5_isRight_b137 at h
    refine r_iconst C 1 rfl dX5_isRight_137 138 rfl ?_
    refine r_goto C 142 dX5_isRight_138 rfl ?_
    exact r_zret C hE hr hlk (r := true) dX5_isRight_142 h
  have b190 : ∀  (S : Nat → Nat → Int32), wX5_isRight_b190 a1 a2 a3 a4   S Q → J p l e { frames := 2, cells := 0, slots := 0, locals := 43 } s m args below meth c 0 0 Qf D 23 A (ceM A cI) Acc 5 S 190 [] [] := by
    intro   S h
    unfold wX5_isRight_b190 at h
    refine r_iconst C 1 rfl dX5_isRight_190 191 rfl ?_
    refine r_goto C 195 dX5_isRight_191 rfl ?_
    exact r_zret C hE hr hlk (r := true) dX5_isRight_195 h
  unfold wX5_isRight at h
  refine r_iload_n C 1 rfl dX5_isRight_0 1 rfl ?_
  by_cases c1 : a1 = 0
  · replace h := h.1 c1
    refine r_sw C 0 c1 76 dX5_isRight_1 (by decide) (by decide) rfl rfl ?_
    refine r_iconst C 1 rfl dX5_isRight_76 77 rfl ?_
    exact r_zret C hE hr hlk (r := true) dX5_isRight_77 h
  · replace h := h.2
    by_cases c2 : a1 = 1
    · replace h := h.1 c2
      refine r_sw C 1 c2 78 dX5_isRight_1 (by decide) (by decide) rfl rfl ?_
      refine r_iload_n C 2 rfl dX5_isRight_78 79 rfl ?_
      refine k_RX5_175 C (ctX5_isRoot hX hi  h) ⟨(Nat.le_of_ble_eq_true rfl), (Nat.le_of_ble_eq_true rfl)⟩ (Nat.le_of_ble_eq_true rfl) ⟨Nat.le_refl 0, Nat.le_refl 0⟩ dX5_isRight_79 82 rfl (fun r3 S4 h => ?_)
      rcases bool_or r3 with c5 | c5
      · replace h := h.1 c5
        refine r_if_eqF C c5 107 dX5_isRight_82 85 rfl rfl ?_
        refine r_iconst C 0 rfl dX5_isRight_107 108 rfl ?_
        exact r_zret C hE hr hlk (r := false) dX5_isRight_108 h
      · replace h := h.2 c5
        refine r_if_eqT C c5 107 dX5_isRight_82 85 rfl rfl ?_
        refine r_iload_n C 3 rfl dX5_isRight_85 86 rfl ?_
        refine r_iconst C 0 rfl dX5_isRight_86 87 rfl ?_
        refine r_bipush C 6 rfl dX5_isRight_87 89 rfl ?_
        refine k_RX5_90 C (ctX5_in hX hi  h) ⟨(Nat.le_of_ble_eq_true rfl), (Nat.le_of_ble_eq_true rfl)⟩ (Nat.le_of_ble_eq_true rfl) ⟨Nat.le_refl 0, Nat.le_refl 0⟩ dX5_isRight_89 92 rfl (fun r6 S7 h => ?_)
        rcases bool_or r6 with c8 | c8
        · replace h := h.1 c8
          refine r_if_eqF C c8 107 dX5_isRight_92 95 rfl rfl ?_
          refine r_iconst C 0 rfl dX5_isRight_107 108 rfl ?_
          exact r_zret C hE hr hlk (r := false) dX5_isRight_108 h
        · replace h := h.2 c8
          refine r_if_eqT C c8 107 dX5_isRight_92 95 rfl rfl ?_
          refine r_iload C 4 rfl dX5_isRight_95 97 rfl ?_
          refine k_RX5_197 C (ctX5_isNumber hX hi  h) ⟨(Nat.le_of_ble_eq_true rfl), (Nat.le_of_ble_eq_true rfl)⟩ (Nat.le_of_ble_eq_true rfl) ⟨Nat.le_refl 0, Nat.le_refl 0⟩ dX5_isRight_97 100 rfl (fun r9 S10 h => ?_)
          rcases bool_or r9 with c11 | c11
          · replace h := h.1 c11
            refine r_if_eqF C c11 107 dX5_isRight_100 103 rfl rfl ?_
            refine r_iconst C 0 rfl dX5_isRight_107 108 rfl ?_
            exact r_zret C hE hr hlk (r := false) dX5_isRight_108 h
          · replace h := h.2 c11
            refine r_if_eqT C c11 107 dX5_isRight_100 103 rfl rfl ?_
            refine r_iconst C 1 rfl dX5_isRight_103 104 rfl ?_
            refine r_goto C 108 dX5_isRight_104 rfl ?_
            exact r_zret C hE hr hlk (r := true) dX5_isRight_108 h
    · replace h := h.2
      by_cases c12 : a1 = 2
      · replace h := h.1 c12
        refine r_sw C 2 c12 109 dX5_isRight_1 (by decide) (by decide) rfl rfl ?_
        refine r_iload_n C 2 rfl dX5_isRight_109 110 rfl ?_
        refine k_RX5_175 C (ctX5_isRoot hX hi  h) ⟨(Nat.le_of_ble_eq_true rfl), (Nat.le_of_ble_eq_true rfl)⟩ (Nat.le_of_ble_eq_true rfl) ⟨Nat.le_refl 0, Nat.le_refl 0⟩ dX5_isRight_110 113 rfl (fun r13 S14 h => ?_)
        rcases bool_or r13 with c15 | c15
        · replace h := h.1 c15
          refine r_if_eqF C c15 141 dX5_isRight_113 116 rfl rfl ?_
          refine r_iconst C 0 rfl dX5_isRight_141 142 rfl ?_
          exact r_zret C hE hr hlk (r := false) dX5_isRight_142 h
        · replace h := h.2 c15
          refine r_if_eqT C c15 141 dX5_isRight_113 116 rfl rfl ?_
          refine r_iload_n C 3 rfl dX5_isRight_116 117 rfl ?_
          refine k_RX5_200 C (ctX5_isField hX hi  h) ⟨(Nat.le_of_ble_eq_true rfl), (Nat.le_of_ble_eq_true rfl)⟩ (Nat.le_of_ble_eq_true rfl) ⟨Nat.le_refl 0, Nat.le_refl 0⟩ dX5_isRight_117 120 rfl (fun r16 S17 h => ?_)
          rcases bool_or r16 with c18 | c18
          · replace h := h.1 c18
            refine r_if_eqF C c18 141 dX5_isRight_120 123 rfl rfl ?_
            refine r_iconst C 0 rfl dX5_isRight_141 142 rfl ?_
            exact r_zret C hE hr hlk (r := false) dX5_isRight_142 h
          · replace h := h.2 c18
            refine r_if_eqT C c18 141 dX5_isRight_120 123 rfl rfl ?_
            refine r_iload C 4 rfl dX5_isRight_123 125 rfl ?_
            refine r_iconst C (-1 : Int32) rfl dX5_isRight_125 126 rfl ?_
            refine r_icmp_eq C 137 dX5_isRight_126 129 rfl rfl (fun c19 => ?_) (fun c19 => ?_)
            · replace h := h.1 c19
              refine r_sub [] [] rfl ?_
              exact b137    S17 h
            · replace h := h.2 c19
              refine r_iload C 4 rfl dX5_isRight_129 131 rfl ?_
              refine k_RX5_175 C (ctX5_isRoot hX hi  h) ⟨(Nat.le_of_ble_eq_true rfl), (Nat.le_of_ble_eq_true rfl)⟩ (Nat.le_of_ble_eq_true rfl) ⟨Nat.le_refl 0, Nat.le_refl 0⟩ dX5_isRight_131 134 rfl (fun r20 S21 h => ?_)
              rcases bool_or r20 with c22 | c22
              · replace h := h.1 c22
                refine r_if_eqF C c22 141 dX5_isRight_134 137 rfl rfl ?_
                refine r_iconst C 0 rfl dX5_isRight_141 142 rfl ?_
                exact r_zret C hE hr hlk (r := false) dX5_isRight_142 h
              · replace h := h.2 c22
                refine r_if_eqT C c22 141 dX5_isRight_134 137 rfl rfl ?_
                refine r_sub [] [] rfl ?_
                exact b137    S21 h
      · replace h := h.2
        by_cases c23 : a1 = 3
        · replace h := h.1 c23
          refine r_sw C 3 c23 143 dX5_isRight_1 (by decide) (by decide) rfl rfl ?_
          refine r_iload_n C 2 rfl dX5_isRight_143 144 rfl ?_
          refine k_RX5_175 C (ctX5_isRoot hX hi  h) ⟨(Nat.le_of_ble_eq_true rfl), (Nat.le_of_ble_eq_true rfl)⟩ (Nat.le_of_ble_eq_true rfl) ⟨Nat.le_refl 0, Nat.le_refl 0⟩ dX5_isRight_144 147 rfl (fun r24 S25 h => ?_)
          rcases bool_or r24 with c26 | c26
          · replace h := h.1 c26
            refine r_if_eqF C c26 169 dX5_isRight_147 150 rfl rfl ?_
            refine r_iconst C 0 rfl dX5_isRight_169 170 rfl ?_
            exact r_zret C hE hr hlk (r := false) dX5_isRight_170 h
          · replace h := h.2 c26
            refine r_if_eqT C c26 169 dX5_isRight_147 150 rfl rfl ?_
            refine r_iload_n C 3 rfl dX5_isRight_150 151 rfl ?_
            refine k_RX5_175 C (ctX5_isRoot hX hi  h) ⟨(Nat.le_of_ble_eq_true rfl), (Nat.le_of_ble_eq_true rfl)⟩ (Nat.le_of_ble_eq_true rfl) ⟨Nat.le_refl 0, Nat.le_refl 0⟩ dX5_isRight_151 154 rfl (fun r27 S28 h => ?_)
            rcases bool_or r27 with c29 | c29
            · replace h := h.1 c29
              refine r_if_eqF C c29 169 dX5_isRight_154 157 rfl rfl ?_
              refine r_iconst C 0 rfl dX5_isRight_169 170 rfl ?_
              exact r_zret C hE hr hlk (r := false) dX5_isRight_170 h
            · replace h := h.2 c29
              refine r_if_eqT C c29 169 dX5_isRight_154 157 rfl rfl ?_
              refine r_iload C 4 rfl dX5_isRight_157 159 rfl ?_
              refine k_RX5_200 C (ctX5_isField hX hi  h) ⟨(Nat.le_of_ble_eq_true rfl), (Nat.le_of_ble_eq_true rfl)⟩ (Nat.le_of_ble_eq_true rfl) ⟨Nat.le_refl 0, Nat.le_refl 0⟩ dX5_isRight_159 162 rfl (fun r30 S31 h => ?_)
              rcases bool_or r30 with c32 | c32
              · replace h := h.1 c32
                refine r_if_eqF C c32 169 dX5_isRight_162 165 rfl rfl ?_
                refine r_iconst C 0 rfl dX5_isRight_169 170 rfl ?_
                exact r_zret C hE hr hlk (r := false) dX5_isRight_170 h
              · replace h := h.2 c32
                refine r_if_eqT C c32 169 dX5_isRight_162 165 rfl rfl ?_
                refine r_iconst C 1 rfl dX5_isRight_165 166 rfl ?_
                refine r_goto C 170 dX5_isRight_166 rfl ?_
                exact r_zret C hE hr hlk (r := true) dX5_isRight_170 h
        · replace h := h.2
          by_cases c33 : a1 = 4
          · replace h := h.1 c33
            refine r_sw C 4 c33 171 dX5_isRight_1 (by decide) (by decide) rfl rfl ?_
            refine r_iload_n C 2 rfl dX5_isRight_171 172 rfl ?_
            refine k_RX5_175 C (ctX5_isRoot hX hi  h) ⟨(Nat.le_of_ble_eq_true rfl), (Nat.le_of_ble_eq_true rfl)⟩ (Nat.le_of_ble_eq_true rfl) ⟨Nat.le_refl 0, Nat.le_refl 0⟩ dX5_isRight_172 175 rfl (fun r34 S35 h => ?_)
            rcases bool_or r34 with c36 | c36
            · replace h := h.1 c36
              refine r_if_eqF C c36 194 dX5_isRight_175 178 rfl rfl ?_
              refine r_iconst C 0 rfl dX5_isRight_194 195 rfl ?_
              exact r_zret C hE hr hlk (r := false) dX5_isRight_195 h
            · replace h := h.2 c36
              refine r_if_eqT C c36 194 dX5_isRight_175 178 rfl rfl ?_
              refine r_iload_n C 3 rfl dX5_isRight_178 179 rfl ?_
              refine r_iconst C (-1 : Int32) rfl dX5_isRight_179 180 rfl ?_
              refine r_icmp_eq C 190 dX5_isRight_180 183 rfl rfl (fun c37 => ?_) (fun c37 => ?_)
              · replace h := h.1 c37
                refine r_sub [] [] rfl ?_
                exact b190    S35 h
              · replace h := h.2 c37
                refine r_iload_n C 3 rfl dX5_isRight_183 184 rfl ?_
                refine k_RX5_175 C (ctX5_isRoot hX hi  h) ⟨(Nat.le_of_ble_eq_true rfl), (Nat.le_of_ble_eq_true rfl)⟩ (Nat.le_of_ble_eq_true rfl) ⟨Nat.le_refl 0, Nat.le_refl 0⟩ dX5_isRight_184 187 rfl (fun r38 S39 h => ?_)
                rcases bool_or r38 with c40 | c40
                · replace h := h.1 c40
                  refine r_if_eqF C c40 194 dX5_isRight_187 190 rfl rfl ?_
                  refine r_iconst C 0 rfl dX5_isRight_194 195 rfl ?_
                  exact r_zret C hE hr hlk (r := false) dX5_isRight_195 h
                · replace h := h.2 c40
                  refine r_if_eqT C c40 194 dX5_isRight_187 190 rfl rfl ?_
                  refine r_sub [] [] rfl ?_
                  exact b190    S39 h
          · replace h := h.2
            by_cases c41 : a1 = 5
            · replace h := h.1 c41
              refine r_sw C 5 c41 196 dX5_isRight_1 (by decide) (by decide) rfl rfl ?_
              refine r_iload_n C 2 rfl dX5_isRight_196 197 rfl ?_
              refine k_RX5_175 C (ctX5_isRoot hX hi  h) ⟨(Nat.le_of_ble_eq_true rfl), (Nat.le_of_ble_eq_true rfl)⟩ (Nat.le_of_ble_eq_true rfl) ⟨Nat.le_refl 0, Nat.le_refl 0⟩ dX5_isRight_197 200 rfl (fun r42 S43 h => ?_)
              exact r_zret C hE hr hlk (r := r42) dX5_isRight_200 h
            · replace h := h.2
              by_cases c44 : a1 = 6
              · replace h := h.1 c44
                refine r_sw C 6 c44 196 dX5_isRight_1 (by decide) (by decide) rfl rfl ?_
                refine r_iload_n C 2 rfl dX5_isRight_196 197 rfl ?_
                refine k_RX5_175 C (ctX5_isRoot hX hi  h) ⟨(Nat.le_of_ble_eq_true rfl), (Nat.le_of_ble_eq_true rfl)⟩ (Nat.le_of_ble_eq_true rfl) ⟨Nat.le_refl 0, Nat.le_refl 0⟩ dX5_isRight_197 200 rfl (fun r45 S46 h => ?_)
                exact r_zret C hE hr hlk (r := r45) dX5_isRight_200 h
              · replace h := h.2
                by_cases c47 : a1 = 7
                · replace h := h.1 c47
                  refine r_sw C 7 c47 201 dX5_isRight_1 (by decide) (by decide) rfl rfl ?_
                  refine r_iload_n C 2 rfl dX5_isRight_201 202 rfl ?_
                  refine k_RX5_197 C (ctX5_isNumber hX hi  h) ⟨(Nat.le_of_ble_eq_true rfl), (Nat.le_of_ble_eq_true rfl)⟩ (Nat.le_of_ble_eq_true rfl) ⟨Nat.le_refl 0, Nat.le_refl 0⟩ dX5_isRight_202 205 rfl (fun r48 S49 h => ?_)
                  exact r_zret C hE hr hlk (r := r48) dX5_isRight_205 h
                · replace h := h.2
                  by_cases c50 : a1 = 8
                  · replace h := h.1 c50
                    refine r_sw C 8 c50 206 dX5_isRight_1 (by decide) (by decide) rfl rfl ?_
                    refine r_iload_n C 2 rfl dX5_isRight_206 207 rfl ?_
                    refine k_RX5_197 C (ctX5_isNumber hX hi  h) ⟨(Nat.le_of_ble_eq_true rfl), (Nat.le_of_ble_eq_true rfl)⟩ (Nat.le_of_ble_eq_true rfl) ⟨Nat.le_refl 0, Nat.le_refl 0⟩ dX5_isRight_207 210 rfl (fun r51 S52 h => ?_)
                    rcases bool_or r51 with c53 | c53
                    · replace h := h.1 c53
                      refine r_if_eqF C c53 232 dX5_isRight_210 213 rfl rfl ?_
                      refine r_iconst C 0 rfl dX5_isRight_232 233 rfl ?_
                      exact r_zret C hE hr hlk (r := false) dX5_isRight_233 h
                    · replace h := h.2 c53
                      refine r_if_eqT C c53 232 dX5_isRight_210 213 rfl rfl ?_
                      refine r_iload_n C 3 rfl dX5_isRight_213 214 rfl ?_
                      refine k_RX5_197 C (ctX5_isNumber hX hi  h) ⟨(Nat.le_of_ble_eq_true rfl), (Nat.le_of_ble_eq_true rfl)⟩ (Nat.le_of_ble_eq_true rfl) ⟨Nat.le_refl 0, Nat.le_refl 0⟩ dX5_isRight_214 217 rfl (fun r54 S55 h => ?_)
                      rcases bool_or r54 with c56 | c56
                      · replace h := h.1 c56
                        refine r_if_eqF C c56 232 dX5_isRight_217 220 rfl rfl ?_
                        refine r_iconst C 0 rfl dX5_isRight_232 233 rfl ?_
                        exact r_zret C hE hr hlk (r := false) dX5_isRight_233 h
                      · replace h := h.2 c56
                        refine r_if_eqT C c56 232 dX5_isRight_217 220 rfl rfl ?_
                        refine r_iload C 4 rfl dX5_isRight_220 222 rfl ?_
                        refine k_RX5_197 C (ctX5_isNumber hX hi  h) ⟨(Nat.le_of_ble_eq_true rfl), (Nat.le_of_ble_eq_true rfl)⟩ (Nat.le_of_ble_eq_true rfl) ⟨Nat.le_refl 0, Nat.le_refl 0⟩ dX5_isRight_222 225 rfl (fun r57 S58 h => ?_)
                        rcases bool_or r57 with c59 | c59
                        · replace h := h.1 c59
                          refine r_if_eqF C c59 232 dX5_isRight_225 228 rfl rfl ?_
                          refine r_iconst C 0 rfl dX5_isRight_232 233 rfl ?_
                          exact r_zret C hE hr hlk (r := false) dX5_isRight_233 h
                        · replace h := h.2 c59
                          refine r_if_eqT C c59 232 dX5_isRight_225 228 rfl rfl ?_
                          refine r_iconst C 1 rfl dX5_isRight_228 229 rfl ?_
                          refine r_goto C 233 dX5_isRight_229 rfl ?_
                          exact r_zret C hE hr hlk (r := true) dX5_isRight_233 h
                  · replace h := h.2
                    by_cases c60 : a1 = 9
                    · replace h := h.1 c60
                      refine r_sw C 9 c60 234 dX5_isRight_1 (by decide) (by decide) rfl rfl ?_
                      refine r_iload_n C 2 rfl dX5_isRight_234 235 rfl ?_
                      refine k_RX5_197 C (ctX5_isNumber hX hi  h) ⟨(Nat.le_of_ble_eq_true rfl), (Nat.le_of_ble_eq_true rfl)⟩ (Nat.le_of_ble_eq_true rfl) ⟨Nat.le_refl 0, Nat.le_refl 0⟩ dX5_isRight_235 238 rfl (fun r61 S62 h => ?_)
                      rcases bool_or r61 with c63 | c63
                      · replace h := h.1 c63
                        refine r_if_eqF C c63 252 dX5_isRight_238 241 rfl rfl ?_
                        refine r_iconst C 0 rfl dX5_isRight_252 253 rfl ?_
                        exact r_zret C hE hr hlk (r := false) dX5_isRight_253 h
                      · replace h := h.2 c63
                        refine r_if_eqT C c63 252 dX5_isRight_238 241 rfl rfl ?_
                        refine r_iload_n C 3 rfl dX5_isRight_241 242 rfl ?_
                        refine k_RX5_175 C (ctX5_isRoot hX hi  h) ⟨(Nat.le_of_ble_eq_true rfl), (Nat.le_of_ble_eq_true rfl)⟩ (Nat.le_of_ble_eq_true rfl) ⟨Nat.le_refl 0, Nat.le_refl 0⟩ dX5_isRight_242 245 rfl (fun r64 S65 h => ?_)
                        rcases bool_or r64 with c66 | c66
                        · replace h := h.1 c66
                          refine r_if_eqF C c66 252 dX5_isRight_245 248 rfl rfl ?_
                          refine r_iconst C 0 rfl dX5_isRight_252 253 rfl ?_
                          exact r_zret C hE hr hlk (r := false) dX5_isRight_253 h
                        · replace h := h.2 c66
                          refine r_if_eqT C c66 252 dX5_isRight_245 248 rfl rfl ?_
                          refine r_iconst C 1 rfl dX5_isRight_248 249 rfl ?_
                          refine r_goto C 253 dX5_isRight_249 rfl ?_
                          exact r_zret C hE hr hlk (r := true) dX5_isRight_253 h
                    · replace h := h.2
                      by_cases c67 : a1 = 10
                      · replace h := h.1 c67
                        refine r_sw C 10 c67 254 dX5_isRight_1 (by decide) (by decide) rfl rfl ?_
                        refine r_iload_n C 2 rfl dX5_isRight_254 255 rfl ?_
                        refine k_RX5_175 C (ctX5_isRoot hX hi  h) ⟨(Nat.le_of_ble_eq_true rfl), (Nat.le_of_ble_eq_true rfl)⟩ (Nat.le_of_ble_eq_true rfl) ⟨Nat.le_refl 0, Nat.le_refl 0⟩ dX5_isRight_255 258 rfl (fun r68 S69 h => ?_)
                        rcases bool_or r68 with c70 | c70
                        · replace h := h.1 c70
                          refine r_if_eqF C c70 273 dX5_isRight_258 261 rfl rfl ?_
                          refine r_iconst C 0 rfl dX5_isRight_273 274 rfl ?_
                          exact r_zret C hE hr hlk (r := false) dX5_isRight_274 h
                        · replace h := h.2 c70
                          refine r_if_eqT C c70 273 dX5_isRight_258 261 rfl rfl ?_
                          refine r_aload_n C 0 rfl dX5_isRight_261 262 rfl ?_
                          refine r_iload_n C 3 rfl dX5_isRight_262 263 rfl ?_
                          refine k_RX5_203 C (ctX5_isPlace hX hi  h) ⟨(Nat.le_of_ble_eq_true rfl), (Nat.le_of_ble_eq_true rfl)⟩ (Nat.le_of_ble_eq_true rfl) ⟨Nat.le_refl 0, Nat.le_refl 0⟩ dX5_isRight_263 266 rfl (fun r71 S72 h => ?_)
                          rcases bool_or r71 with c73 | c73
                          · replace h := h.1 c73
                            refine r_if_eqF C c73 273 dX5_isRight_266 269 rfl rfl ?_
                            refine r_iconst C 0 rfl dX5_isRight_273 274 rfl ?_
                            exact r_zret C hE hr hlk (r := false) dX5_isRight_274 h
                          · replace h := h.2 c73
                            refine r_if_eqT C c73 273 dX5_isRight_266 269 rfl rfl ?_
                            refine r_iconst C 1 rfl dX5_isRight_269 270 rfl ?_
                            refine r_goto C 274 dX5_isRight_270 rfl ?_
                            exact r_zret C hE hr hlk (r := true) dX5_isRight_274 h
                      · replace h := h.2
                        by_cases c74 : a1 = 11
                        · replace h := h.1 c74
                          refine r_sw C 11 c74 275 dX5_isRight_1 (by decide) (by decide) rfl rfl ?_
                          refine r_iload_n C 2 rfl dX5_isRight_275 276 rfl ?_
                          refine k_RX5_197 C (ctX5_isNumber hX hi  h) ⟨(Nat.le_of_ble_eq_true rfl), (Nat.le_of_ble_eq_true rfl)⟩ (Nat.le_of_ble_eq_true rfl) ⟨Nat.le_refl 0, Nat.le_refl 0⟩ dX5_isRight_276 279 rfl (fun r75 S76 h => ?_)
                          rcases bool_or r75 with c77 | c77
                          · replace h := h.1 c77
                            refine r_if_eqF C c77 302 dX5_isRight_279 282 rfl rfl ?_
                            refine r_iconst C 0 rfl dX5_isRight_302 303 rfl ?_
                            exact r_zret C hE hr hlk (r := false) dX5_isRight_303 h
                          · replace h := h.2 c77
                            refine r_if_eqT C c77 302 dX5_isRight_279 282 rfl rfl ?_
                            refine r_iload_n C 3 rfl dX5_isRight_282 283 rfl ?_
                            refine k_RX5_197 C (ctX5_isNumber hX hi  h) ⟨(Nat.le_of_ble_eq_true rfl), (Nat.le_of_ble_eq_true rfl)⟩ (Nat.le_of_ble_eq_true rfl) ⟨Nat.le_refl 0, Nat.le_refl 0⟩ dX5_isRight_283 286 rfl (fun r78 S79 h => ?_)
                            rcases bool_or r78 with c80 | c80
                            · replace h := h.1 c80
                              refine r_if_eqF C c80 302 dX5_isRight_286 289 rfl rfl ?_
                              refine r_iconst C 0 rfl dX5_isRight_302 303 rfl ?_
                              exact r_zret C hE hr hlk (r := false) dX5_isRight_303 h
                            · replace h := h.2 c80
                              refine r_if_eqT C c80 302 dX5_isRight_286 289 rfl rfl ?_
                              refine r_aload_n C 0 rfl dX5_isRight_289 290 rfl ?_
                              refine r_iload C 4 rfl dX5_isRight_290 292 rfl ?_
                              refine k_RX5_203 C (ctX5_isPlace hX hi  h) ⟨(Nat.le_of_ble_eq_true rfl), (Nat.le_of_ble_eq_true rfl)⟩ (Nat.le_of_ble_eq_true rfl) ⟨Nat.le_refl 0, Nat.le_refl 0⟩ dX5_isRight_292 295 rfl (fun r81 S82 h => ?_)
                              rcases bool_or r81 with c83 | c83
                              · replace h := h.1 c83
                                refine r_if_eqF C c83 302 dX5_isRight_295 298 rfl rfl ?_
                                refine r_iconst C 0 rfl dX5_isRight_302 303 rfl ?_
                                exact r_zret C hE hr hlk (r := false) dX5_isRight_303 h
                              · replace h := h.2 c83
                                refine r_if_eqT C c83 302 dX5_isRight_295 298 rfl rfl ?_
                                refine r_iconst C 1 rfl dX5_isRight_298 299 rfl ?_
                                refine r_goto C 303 dX5_isRight_299 rfl ?_
                                exact r_zret C hE hr hlk (r := true) dX5_isRight_303 h
                        · replace h := h.2
                          by_cases c84 : a1 = 12
                          · replace h := h.1 c84
                            refine r_sw C 12 c84 304 dX5_isRight_1 (by decide) (by decide) rfl rfl ?_
                            refine r_aload_n C 0 rfl dX5_isRight_304 305 rfl ?_
                            refine r_iload_n C 2 rfl dX5_isRight_305 306 rfl ?_
                            refine k_RX5_203 C (ctX5_isPlace hX hi  h) ⟨(Nat.le_of_ble_eq_true rfl), (Nat.le_of_ble_eq_true rfl)⟩ (Nat.le_of_ble_eq_true rfl) ⟨Nat.le_refl 0, Nat.le_refl 0⟩ dX5_isRight_306 309 rfl (fun r85 S86 h => ?_)
                            exact r_zret C hE hr hlk (r := r85) dX5_isRight_309 h
                          · replace h := h.2
                            by_cases c87 : a1 = 13
                            · replace h := h.1 c87
                              refine r_sw C 13 c87 310 dX5_isRight_1 (by decide) (by decide) rfl rfl ?_
                              refine r_iload_n C 2 rfl dX5_isRight_310 311 rfl ?_
                              refine k_RX5_175 C (ctX5_isRoot hX hi  h) ⟨(Nat.le_of_ble_eq_true rfl), (Nat.le_of_ble_eq_true rfl)⟩ (Nat.le_of_ble_eq_true rfl) ⟨Nat.le_refl 0, Nat.le_refl 0⟩ dX5_isRight_311 314 rfl (fun r88 S89 h => ?_)
                              rcases bool_or r88 with c90 | c90
                              · replace h := h.1 c90
                                refine r_if_eqF C c90 337 dX5_isRight_314 317 rfl rfl ?_
                                refine r_iconst C 0 rfl dX5_isRight_337 338 rfl ?_
                                exact r_zret C hE hr hlk (r := false) dX5_isRight_338 h
                              · replace h := h.2 c90
                                refine r_if_eqT C c90 337 dX5_isRight_314 317 rfl rfl ?_
                                refine r_iload_n C 3 rfl dX5_isRight_317 318 rfl ?_
                                refine k_RX5_175 C (ctX5_isRoot hX hi  h) ⟨(Nat.le_of_ble_eq_true rfl), (Nat.le_of_ble_eq_true rfl)⟩ (Nat.le_of_ble_eq_true rfl) ⟨Nat.le_refl 0, Nat.le_refl 0⟩ dX5_isRight_318 321 rfl (fun r91 S92 h => ?_)
                                rcases bool_or r91 with c93 | c93
                                · replace h := h.1 c93
                                  refine r_if_eqF C c93 337 dX5_isRight_321 324 rfl rfl ?_
                                  refine r_iconst C 0 rfl dX5_isRight_337 338 rfl ?_
                                  exact r_zret C hE hr hlk (r := false) dX5_isRight_338 h
                                · replace h := h.2 c93
                                  refine r_if_eqT C c93 337 dX5_isRight_321 324 rfl rfl ?_
                                  refine r_aload_n C 0 rfl dX5_isRight_324 325 rfl ?_
                                  refine r_iload C 4 rfl dX5_isRight_325 327 rfl ?_
                                  refine k_RX5_203 C (ctX5_isPlace hX hi  h) ⟨(Nat.le_of_ble_eq_true rfl), (Nat.le_of_ble_eq_true rfl)⟩ (Nat.le_of_ble_eq_true rfl) ⟨Nat.le_refl 0, Nat.le_refl 0⟩ dX5_isRight_327 330 rfl (fun r94 S95 h => ?_)
                                  rcases bool_or r94 with c96 | c96
                                  · replace h := h.1 c96
                                    refine r_if_eqF C c96 337 dX5_isRight_330 333 rfl rfl ?_
                                    refine r_iconst C 0 rfl dX5_isRight_337 338 rfl ?_
                                    exact r_zret C hE hr hlk (r := false) dX5_isRight_338 h
                                  · replace h := h.2 c96
                                    refine r_if_eqT C c96 337 dX5_isRight_330 333 rfl rfl ?_
                                    refine r_iconst C 1 rfl dX5_isRight_333 334 rfl ?_
                                    refine r_goto C 338 dX5_isRight_334 rfl ?_
                                    exact r_zret C hE hr hlk (r := true) dX5_isRight_338 h
                            · replace h := h.2
                              by_cases c97 : a1 = 14
                              · replace h := h.1 c97
                                refine r_sw C 14 c97 78 dX5_isRight_1 (by decide) (by decide) rfl rfl ?_
                                refine r_iload_n C 2 rfl dX5_isRight_78 79 rfl ?_
                                refine k_RX5_175 C (ctX5_isRoot hX hi  h) ⟨(Nat.le_of_ble_eq_true rfl), (Nat.le_of_ble_eq_true rfl)⟩ (Nat.le_of_ble_eq_true rfl) ⟨Nat.le_refl 0, Nat.le_refl 0⟩ dX5_isRight_79 82 rfl (fun r98 S99 h => ?_)
                                rcases bool_or r98 with c100 | c100
                                · replace h := h.1 c100
                                  refine r_if_eqF C c100 107 dX5_isRight_82 85 rfl rfl ?_
                                  refine r_iconst C 0 rfl dX5_isRight_107 108 rfl ?_
                                  exact r_zret C hE hr hlk (r := false) dX5_isRight_108 h
                                · replace h := h.2 c100
                                  refine r_if_eqT C c100 107 dX5_isRight_82 85 rfl rfl ?_
                                  refine r_iload_n C 3 rfl dX5_isRight_85 86 rfl ?_
                                  refine r_iconst C 0 rfl dX5_isRight_86 87 rfl ?_
                                  refine r_bipush C 6 rfl dX5_isRight_87 89 rfl ?_
                                  refine k_RX5_90 C (ctX5_in hX hi  h) ⟨(Nat.le_of_ble_eq_true rfl), (Nat.le_of_ble_eq_true rfl)⟩ (Nat.le_of_ble_eq_true rfl) ⟨Nat.le_refl 0, Nat.le_refl 0⟩ dX5_isRight_89 92 rfl (fun r101 S102 h => ?_)
                                  rcases bool_or r101 with c103 | c103
                                  · replace h := h.1 c103
                                    refine r_if_eqF C c103 107 dX5_isRight_92 95 rfl rfl ?_
                                    refine r_iconst C 0 rfl dX5_isRight_107 108 rfl ?_
                                    exact r_zret C hE hr hlk (r := false) dX5_isRight_108 h
                                  · replace h := h.2 c103
                                    refine r_if_eqT C c103 107 dX5_isRight_92 95 rfl rfl ?_
                                    refine r_iload C 4 rfl dX5_isRight_95 97 rfl ?_
                                    refine k_RX5_197 C (ctX5_isNumber hX hi  h) ⟨(Nat.le_of_ble_eq_true rfl), (Nat.le_of_ble_eq_true rfl)⟩ (Nat.le_of_ble_eq_true rfl) ⟨Nat.le_refl 0, Nat.le_refl 0⟩ dX5_isRight_97 100 rfl (fun r104 S105 h => ?_)
                                    rcases bool_or r104 with c106 | c106
                                    · replace h := h.1 c106
                                      refine r_if_eqF C c106 107 dX5_isRight_100 103 rfl rfl ?_
                                      refine r_iconst C 0 rfl dX5_isRight_107 108 rfl ?_
                                      exact r_zret C hE hr hlk (r := false) dX5_isRight_108 h
                                    · replace h := h.2 c106
                                      refine r_if_eqT C c106 107 dX5_isRight_100 103 rfl rfl ?_
                                      refine r_iconst C 1 rfl dX5_isRight_103 104 rfl ?_
                                      refine r_goto C 108 dX5_isRight_104 rfl ?_
                                      exact r_zret C hE hr hlk (r := true) dX5_isRight_108 h
                              · replace h := h.2
                                replace h := h c1 c2 c12 c23 c33 c41 c44 c47 c50 c60 c67 c74 c84 c87 c97
                                have hsw : (a1).toInt < 0 ∨ 14 < (a1).toInt := by
                                  have c1t := lv_neT (k := 0) (a := 0) c1 (by decide)
                                  have c2t := lv_neT (k := 1) (a := 1) c2 (by decide)
                                  have c12t := lv_neT (k := 2) (a := 2) c12 (by decide)
                                  have c23t := lv_neT (k := 3) (a := 3) c23 (by decide)
                                  have c33t := lv_neT (k := 4) (a := 4) c33 (by decide)
                                  have c41t := lv_neT (k := 5) (a := 5) c41 (by decide)
                                  have c44t := lv_neT (k := 6) (a := 6) c44 (by decide)
                                  have c47t := lv_neT (k := 7) (a := 7) c47 (by decide)
                                  have c50t := lv_neT (k := 8) (a := 8) c50 (by decide)
                                  have c60t := lv_neT (k := 9) (a := 9) c60 (by decide)
                                  have c67t := lv_neT (k := 10) (a := 10) c67 (by decide)
                                  have c74t := lv_neT (k := 11) (a := 11) c74 (by decide)
                                  have c84t := lv_neT (k := 12) (a := 12) c84 (by decide)
                                  have c87t := lv_neT (k := 13) (a := 13) c87 (by decide)
                                  have c97t := lv_neT (k := 14) (a := 14) c97 (by decide)
                                  omega
                                refine r_tableOut C 339 dX5_isRight_1 hsw rfl ?_
                                refine r_iconst C 0 rfl dX5_isRight_339 340 rfl ?_
                                exact r_zret C hE hr hlk (r := false) dX5_isRight_340 h
set_option maxRecDepth 100000 in
set_option maxHeartbeats 4000000 in
theorem ctX5_hindered {l : Launch} {D : va_G} {A : Nat → Nat} {cI : ClassId} {X : (Nat → Prop) → State → Heap → Prop} {a1 : Int32} {a2 : Int32} {a3 : Int32} {a4 : Int32} {S : Nat → Nat → Int32} {Q : Int32 → (Nat → Nat → Int32) → Prop} (hX : StX X) (hi : Apart 23 A)  (h : wX5_hindered a1 a2 a3 a4 S Q) : Ct l D (tyM cI) 23 A (ceM A cI) X yX5_hindered cX5_hindered 6 (some .int) 1 21 [.ref (A 0), .int a1, .int a2, .int a3, .int a4] S rI Q := by
  refine Ct.of (by decide +kernel) hX hi [(0, .ref (A 0)), (1, .int a1), (2, .int a2), (3, .int a3), (4, .int a4)] rfl (Nat.le_of_ble_eq_true rfl) ?_
  intro p e s m args below meth c Acc C hr hlk Qf hE
  have b113 : ∀  (S : Nat → Nat → Int32), wX5_hindered_b113 a1 a2 a3 a4   S Q → J p l e { frames := 1, cells := 0, slots := 0, locals := 21 } s m args below meth c 0 0 Qf D 23 A (ceM A cI) Acc 6 S 113 [] [] := by
    intro   S h
    unfold wX5_hindered_b113 at h
    refine r_iconst C 4 rfl dX5_hindered_113 114 rfl ?_
    refine r_goto C 118 dX5_hindered_114 rfl ?_
    exact r_iret C hE hr hlk dX5_hindered_118 h
  have b100 : ∀  (S : Nat → Nat → Int32), wX5_hindered_b100 a1 a2 a3 a4   S Q → J p l e { frames := 1, cells := 0, slots := 0, locals := 21 } s m args below meth c 0 0 Qf D 23 A (ceM A cI) Acc 6 S 100 [(0, .ref (A 0)), (1, .int a1)] [] := by
    intro   S h
    unfold wX5_hindered_b100 at h
    refine r_iload_n C 1 rfl dX5_hindered_100 101 rfl ?_
    refine r_bipush C 6 rfl dX5_hindered_101 103 rfl ?_
    refine r_icmp_ne C 117 dX5_hindered_103 106 rfl rfl (fun c16 => ?_) (fun c16 => ?_)
    · replace h := h.1 c16
      refine r_aload_n C 0 rfl dX5_hindered_106 107 rfl ?_
      refine g_RX5_157 C dX5_hindered_107 110 rfl ?_
      refine r_if_ne C 117 dX5_hindered_110 113 rfl rfl (fun c17 => ?_) (fun c17 => ?_)
      · replace h := h.1 c17
        refine r_sub [] [] rfl ?_
        exact b113    S h
      · replace h := h.2 c17
        refine r_iconst C 0 rfl dX5_hindered_117 118 rfl ?_
        exact r_iret C hE hr hlk dX5_hindered_118 h
    · replace h := h.2 c16
      refine r_iconst C 0 rfl dX5_hindered_117 118 rfl ?_
      exact r_iret C hE hr hlk dX5_hindered_118 h
  have b86 : ∀  (S : Nat → Nat → Int32), wX5_hindered_b86 a1 a2 a3 a4   S Q → J p l e { frames := 1, cells := 0, slots := 0, locals := 21 } s m args below meth c 0 0 Qf D 23 A (ceM A cI) Acc 6 S 86 [(0, .ref (A 0)), (1, .int a1)] [] := by
    intro   S h
    unfold wX5_hindered_b86 at h
    refine r_iload_n C 1 rfl dX5_hindered_86 87 rfl ?_
    refine r_iconst C 5 rfl dX5_hindered_87 88 rfl ?_
    refine r_icmp_ne C 100 dX5_hindered_88 91 rfl rfl (fun c14 => ?_) (fun c14 => ?_)
    · replace h := h.1 c14
      refine r_aload_n C 0 rfl dX5_hindered_91 92 rfl ?_
      refine g_RX5_157 C dX5_hindered_92 95 rfl ?_
      refine r_bipush C 40 rfl dX5_hindered_95 97 rfl ?_
      refine r_icmp_eq C 113 dX5_hindered_97 100 rfl rfl (fun c15 => ?_) (fun c15 => ?_)
      · replace h := h.1 c15
        refine r_sub [] [] rfl ?_
        exact b113    S h
      · replace h := h.2 c15
        refine r_sub [(0, .ref (A 0)), (1, .int a1)] [0, 1] rfl ?_
        exact b100    S h
    · replace h := h.2 c14
      refine r_sub [(0, .ref (A 0)), (1, .int a1)] [0, 1] rfl ?_
      exact b100    S h
  have b64 : ∀  (S : Nat → Nat → Int32), wX5_hindered_b64 a1 a2 a3 a4   S Q → J p l e { frames := 1, cells := 0, slots := 0, locals := 21 } s m args below meth c 0 0 Qf D 23 A (ceM A cI) Acc 6 S 64 [(0, .ref (A 0)), (1, .int a1), (3, .int a3), (4, .int a4)] [] := by
    intro   S h
    unfold wX5_hindered_b64 at h
    refine r_iload_n C 1 rfl dX5_hindered_64 65 rfl ?_
    refine r_iconst C 3 rfl dX5_hindered_65 66 rfl ?_
    refine r_icmp_ne C 86 dX5_hindered_66 69 rfl rfl (fun c10 => ?_) (fun c10 => ?_)
    · replace h := h.1 c10
      refine r_iload C 3 rfl dX5_hindered_69 71 rfl ?_
      refine r_aload_n C 0 rfl dX5_hindered_71 72 rfl ?_
      refine r_aload_n C 0 rfl dX5_hindered_72 73 rfl ?_
      refine g_RX5_25 C dX5_hindered_73 76 rfl ?_
      refine r_iload_n C 2 rfl dX5_hindered_76 77 rfl ?_
      refine i_M (k := 6) C (Nat.le_of_ble_eq_true rfl) (Nat.le_of_ble_eq_true rfl) h.1 dX5_hindered_77 78 rfl ?_
      replace h := h.2
      refine k_RX5_121 C (ctX5_fields hX hi  h) ⟨(Nat.le_of_ble_eq_true rfl), (Nat.le_of_ble_eq_true rfl)⟩ (Nat.le_of_ble_eq_true rfl) ⟨Nat.le_refl 0, Nat.le_refl 0⟩ dX5_hindered_78 81 rfl (fun r11 S12 h => ?_)
      refine r_icmp_lt C 86 dX5_hindered_81 84 rfl rfl (fun c13 => ?_) (fun c13 => ?_)
      · replace h := h.1 c13
        refine r_sub [(0, .ref (A 0)), (1, .int a1)] [0, 1] rfl ?_
        exact b86    S12 h
      · replace h := h.2 c13
        refine r_iconst C 3 rfl dX5_hindered_84 85 rfl ?_
        exact r_iret C hE hr hlk dX5_hindered_85 h
    · replace h := h.2 c10
      refine r_sub [(0, .ref (A 0)), (1, .int a1)] [0, 1] rfl ?_
      exact b86    S h
  have b45 : ∀  (S : Nat → Nat → Int32), wX5_hindered_b45 a1 a2 a3 a4   S Q → J p l e { frames := 1, cells := 0, slots := 0, locals := 21 } s m args below meth c 0 0 Qf D 23 A (ceM A cI) Acc 6 S 45 [(0, .ref (A 0)), (1, .int a1), (2, .int a2), (3, .int a3), (4, .int a4)] [] := by
    intro   S h
    unfold wX5_hindered_b45 at h
    refine r_iload_n C 1 rfl dX5_hindered_45 46 rfl ?_
    refine r_iconst C 2 rfl dX5_hindered_46 47 rfl ?_
    refine r_icmp_ne C 64 dX5_hindered_47 50 rfl rfl (fun c6 => ?_) (fun c6 => ?_)
    · replace h := h.1 c6
      refine r_iload_n C 3 rfl dX5_hindered_50 51 rfl ?_
      refine r_aload_n C 0 rfl dX5_hindered_51 52 rfl ?_
      refine r_aload_n C 0 rfl dX5_hindered_52 53 rfl ?_
      refine g_RX5_25 C dX5_hindered_53 56 rfl ?_
      refine r_iload_n C 2 rfl dX5_hindered_56 57 rfl ?_
      refine i_M (k := 6) C (Nat.le_of_ble_eq_true rfl) (Nat.le_of_ble_eq_true rfl) h.1 dX5_hindered_57 58 rfl ?_
      replace h := h.2
      refine k_RX5_121 C (ctX5_fields hX hi  h) ⟨(Nat.le_of_ble_eq_true rfl), (Nat.le_of_ble_eq_true rfl)⟩ (Nat.le_of_ble_eq_true rfl) ⟨Nat.le_refl 0, Nat.le_refl 0⟩ dX5_hindered_58 61 rfl (fun r7 S8 h => ?_)
      refine r_icmp_ge C 84 dX5_hindered_61 64 rfl rfl (fun c9 => ?_) (fun c9 => ?_)
      · replace h := h.1 c9
        refine r_iconst C 3 rfl dX5_hindered_84 85 rfl ?_
        exact r_iret C hE hr hlk dX5_hindered_85 h
      · replace h := h.2 c9
        refine r_sub [(0, .ref (A 0)), (1, .int a1), (3, .int a3), (4, .int a4)] [0, 1, 3, 4] rfl ?_
        exact b64    S8 h
    · replace h := h.2 c6
      refine r_sub [(0, .ref (A 0)), (1, .int a1), (3, .int a3), (4, .int a4)] [0, 1, 3, 4] rfl ?_
      exact b64    S h
  have b25 : ∀ (y25_0 : Int32) (S : Nat → Nat → Int32), wX5_hindered_b25 a1 a2 a3 a4  y25_0 S Q → J p l e { frames := 1, cells := 0, slots := 0, locals := 21 } s m args below meth c 0 0 Qf D 23 A (ceM A cI) Acc 6 S 25 [(0, .ref (A 0)), (1, .int a1), (2, .int a2), (3, .int a3), (4, .int a4)] [.int y25_0] := by
    intro  y25_0 S h
    unfold wX5_hindered_b25 at h
    refine r_istore C [(5, .int y25_0), (0, .ref (A 0)), (1, .int a1), (2, .int a2), (3, .int a3), (4, .int a4)] (Nat.le_of_ble_eq_true rfl) rfl dX5_hindered_25 27 rfl ?_
    refine r_iload C 0 rfl dX5_hindered_27 29 rfl ?_
    refine r_iconst C (-1 : Int32) rfl dX5_hindered_29 30 rfl ?_
    refine r_icmp_eq C 45 dX5_hindered_30 33 rfl rfl (fun c4 => ?_) (fun c4 => ?_)
    · replace h := h.1 c4
      refine r_sub [(0, .ref (A 0)), (1, .int a1), (2, .int a2), (3, .int a3), (4, .int a4)] [1, 2, 3, 4, 5] rfl ?_
      exact b45    S h
    · replace h := h.2 c4
      refine r_aload_n C 1 rfl dX5_hindered_33 34 rfl ?_
      refine g_RX5_25 C dX5_hindered_34 37 rfl ?_
      refine r_iload C 0 rfl dX5_hindered_37 39 rfl ?_
      refine i_M (k := 6) C (Nat.le_of_ble_eq_true rfl) (Nat.le_of_ble_eq_true rfl) h.1 dX5_hindered_39 40 rfl ?_
      replace h := h.2
      refine r_if_ne C 45 dX5_hindered_40 43 rfl rfl (fun c5 => ?_) (fun c5 => ?_)
      · replace h := h.1 c5
        refine r_iconst C 2 rfl dX5_hindered_43 44 rfl ?_
        exact r_iret C hE hr hlk dX5_hindered_44 h
      · replace h := h.2 c5
        refine r_sub [(0, .ref (A 0)), (1, .int a1), (2, .int a2), (3, .int a3), (4, .int a4)] [1, 2, 3, 4, 5] rfl ?_
        exact b45    S h
  have b20 : ∀  (S : Nat → Nat → Int32), wX5_hindered_b20 a1 a2 a3 a4   S Q → J p l e { frames := 1, cells := 0, slots := 0, locals := 21 } s m args below meth c 0 0 Qf D 23 A (ceM A cI) Acc 6 S 20 [(0, .ref (A 0)), (1, .int a1), (2, .int a2), (3, .int a3), (4, .int a4)] [] := by
    intro   S h
    unfold wX5_hindered_b20 at h
    refine r_iload_n C 3 rfl dX5_hindered_20 21 rfl ?_
    refine r_goto C 25 dX5_hindered_21 rfl ?_
    refine r_sub [(0, .ref (A 0)), (1, .int a1), (2, .int a2), (3, .int a3), (4, .int a4)] [0, 1, 2, 3, 4] rfl ?_
    exact b25  a3  S h
  unfold wX5_hindered at h
  refine r_iload_n C 1 rfl dX5_hindered_0 1 rfl ?_
  refine r_iconst C 2 rfl dX5_hindered_1 2 rfl ?_
  refine r_icmp_ne C 9 dX5_hindered_2 5 rfl rfl (fun c1 => ?_) (fun c1 => ?_)
  · replace h := h.1 c1
    refine r_iload_n C 2 rfl dX5_hindered_5 6 rfl ?_
    refine r_goto C 25 dX5_hindered_6 rfl ?_
    refine r_sub [(0, .ref (A 0)), (1, .int a1), (2, .int a2), (3, .int a3), (4, .int a4)] [0, 1, 2, 3, 4] rfl ?_
    exact b25  a2  S h
  · replace h := h.2 c1
    refine r_iload_n C 1 rfl dX5_hindered_9 10 rfl ?_
    refine r_iconst C 3 rfl dX5_hindered_10 11 rfl ?_
    refine r_icmp_eq C 20 dX5_hindered_11 14 rfl rfl (fun c2 => ?_) (fun c2 => ?_)
    · replace h := h.1 c2
      refine r_sub [(0, .ref (A 0)), (1, .int a1), (2, .int a2), (3, .int a3), (4, .int a4)] [0, 1, 2, 3, 4] rfl ?_
      exact b20    S h
    · replace h := h.2 c2
      refine r_iload_n C 1 rfl dX5_hindered_14 15 rfl ?_
      refine r_bipush C 9 rfl dX5_hindered_15 17 rfl ?_
      refine r_icmp_ne C 24 dX5_hindered_17 20 rfl rfl (fun c3 => ?_) (fun c3 => ?_)
      · replace h := h.1 c3
        refine r_sub [(0, .ref (A 0)), (1, .int a1), (2, .int a2), (3, .int a3), (4, .int a4)] [0, 1, 2, 3, 4] rfl ?_
        exact b20    S h
      · replace h := h.2 c3
        refine r_iconst C (-1 : Int32) rfl dX5_hindered_24 25 rfl ?_
        refine r_sub [(0, .ref (A 0)), (1, .int a1), (2, .int a2), (3, .int a3), (4, .int a4)] [0, 1, 2, 3, 4] rfl ?_
        exact b25  (-1 : Int32)  S h
set_option maxRecDepth 100000 in
set_option maxHeartbeats 4000000 in
theorem ctX5_does {l : Launch} {D : va_G} {A : Nat → Nat} {cI : ClassId} {X : (Nat → Prop) → State → Heap → Prop} {a1 : Int32} {a2 : Int32} {a3 : Int32} {a4 : Int32} {a5 : Int32} {S : Nat → Nat → Int32} {Q : Int32 → (Nat → Nat → Int32) → Prop} (hX : StX X) (hi : Apart 23 A)  (h : wX5_does a1 a2 a3 a4 a5 S Q) : Ct l D (tyM cI) 23 A (ceM A cI) X yX5_does cX5_does 8 (some .int) 7 164 [.ref (A 0), .int a1, .int a2, .int a3, .int a4, .int a5] S rI Q := by
  refine Ct.of (by decide +kernel) hX hi [(0, .ref (A 0)), (1, .int a1), (2, .int a2), (3, .int a3), (4, .int a4), (5, .int a5)] rfl (Nat.le_of_ble_eq_true rfl) ?_
  intro p e s m args below meth c Acc C hr hlk Qf hE
  have b123 : ∀ (x123_7 : Int32) (x123_6 : Int32) (y123_0 : Int32) (y123_1 : Int32) (S : Nat → Nat → Int32), wX5_does_b123 a1 a2 a3 a4 a5  x123_7 x123_6 y123_0 y123_1 S Q → J p l e { frames := 7, cells := 0, slots := 0, locals := 164 } s m args below meth c 0 0 Qf D 23 A (ceM A cI) Acc 8 S 123 [(7, .int x123_7), (6, .int x123_6)] [.int y123_0, .int y123_1, .ref (A 6)] := by
    intro  x123_7 x123_6 y123_0 y123_1 S h
    unfold wX5_does_b123 at h
    refine s_M (k := 6) C (Nat.le_of_ble_eq_true rfl) (Nat.le_of_ble_eq_true rfl) h.1 dX5_does_123 124 rfl (fun S48 e49 => ?_)
    replace h := h.2
    replace h := h S48 e49
    refine r_iload C 0 rfl dX5_does_124 126 rfl ?_
    refine r_if_eq C 134 dX5_does_126 129 rfl rfl (fun c50 => ?_) (fun c50 => ?_)
    · replace h := h.1 c50
      refine r_iconst C (-1 : Int32) rfl dX5_does_134 135 rfl ?_
      exact r_iret C hE hr hlk dX5_does_135 h
    · replace h := h.2 c50
      refine r_iload C 1 rfl dX5_does_129 131 rfl ?_
      refine r_goto C 135 dX5_does_131 rfl ?_
      exact r_iret C hE hr hlk dX5_does_135 h
  have b97 : ∀ (x97_6 : Int32) (y97_0 : Int32) (y97_1 : Int32) (y97_2 : Int32) (S : Nat → Nat → Int32), wX5_does_b97 a1 a2 a3 a4 a5  x97_6 y97_0 y97_1 y97_2 S Q → J p l e { frames := 7, cells := 0, slots := 0, locals := 164 } s m args below meth c 0 0 Qf D 23 A (ceM A cI) Acc 8 S 97 [(6, .int x97_6), (0, .ref (A 0)), (3, .int a3)] [.int y97_0, .int y97_1, .int y97_2, .ref (A 0)] := by
    intro  x97_6 y97_0 y97_1 y97_2 S h
    unfold wX5_does_b97 at h
    refine k_RX5_178 C (ctX5_object hX hi  h) ⟨(Nat.le_of_ble_eq_true rfl), (Nat.le_of_ble_eq_true rfl)⟩ (Nat.le_of_ble_eq_true rfl) ⟨Nat.le_refl 0, Nat.le_refl 0⟩ dX5_does_97 100 rfl (fun r41 S42 h => ?_)
    refine r_istore C [(7, .int r41), (6, .int x97_6), (0, .ref (A 0)), (3, .int a3)] (Nat.le_of_ble_eq_true rfl) rfl dX5_does_100 102 rfl ?_
    refine r_aload_n C 2 rfl dX5_does_102 103 rfl ?_
    refine g_RX5_25 C dX5_does_103 106 rfl ?_
    refine r_iload_n C 3 rfl dX5_does_106 107 rfl ?_
    refine r_iload C 0 rfl dX5_does_107 109 rfl ?_
    refine r_if_eq C 117 dX5_does_109 112 rfl rfl (fun c43 => ?_) (fun c43 => ?_)
    · replace h := h.1 c43
      refine r_aload_n C 2 rfl dX5_does_117 118 rfl ?_
      refine g_RX5_25 C dX5_does_118 121 rfl ?_
      refine r_iload_n C 3 rfl dX5_does_121 122 rfl ?_
      refine i_M (k := 6) C (Nat.le_of_ble_eq_true rfl) (Nat.le_of_ble_eq_true rfl) h.1 dX5_does_122 123 rfl ?_
      replace h := h.2
      refine r_sub [(7, .int r41), (6, .int x97_6)] [0, 1] rfl ?_
      exact b123  r41 x97_6 (S42 6 a3.toNatClampNeg) a3  S42 h
    · replace h := h.2 c43
      refine r_iload C 0 rfl dX5_does_112 114 rfl ?_
      refine r_goto C 123 dX5_does_114 rfl ?_
      refine r_sub [(7, .int r41), (6, .int x97_6)] [0, 1] rfl ?_
      exact b123  r41 x97_6 r41 a3  S42 h
  have b165 : ∀ (x165_6 : Int32) (y165_0 : Int32) (y165_1 : Int32) (S : Nat → Nat → Int32), wX5_does_b165 a1 a2 a3 a4 a5  x165_6 y165_0 y165_1 S Q → J p l e { frames := 7, cells := 0, slots := 0, locals := 164 } s m args below meth c 0 0 Qf D 23 A (ceM A cI) Acc 8 S 165 [(6, .int x165_6)] [.int y165_0, .int y165_1, .ref (A 0)] := by
    intro  x165_6 y165_0 y165_1 S h
    unfold wX5_does_b165 at h
    refine k_RX5_182 C (ctX5_store hX hi  h) ⟨(Nat.le_of_ble_eq_true rfl), (Nat.le_of_ble_eq_true rfl)⟩ (Nat.le_of_ble_eq_true rfl) ⟨Nat.le_refl 0, Nat.le_refl 0⟩ dX5_does_165 168 rfl (fun S45 h => ?_)
    refine r_iload C 0 rfl dX5_does_168 170 rfl ?_
    exact r_iret C hE hr hlk dX5_does_170 h
  have b219 : ∀ (x219_6 : Int32) (y219_0 : Int32) (y219_1 : Int32) (S : Nat → Nat → Int32), wX5_does_b219 a1 a2 a3 a4 a5  x219_6 y219_0 y219_1 S Q → J p l e { frames := 7, cells := 0, slots := 0, locals := 164 } s m args below meth c 0 0 Qf D 23 A (ceM A cI) Acc 8 S 219 [(6, .int x219_6)] [.int y219_0, .int y219_1, .ref (A 6)] := by
    intro  x219_6 y219_0 y219_1 S h
    unfold wX5_does_b219 at h
    refine s_M (k := 6) C (Nat.le_of_ble_eq_true rfl) (Nat.le_of_ble_eq_true rfl) h.1 dX5_does_219 220 rfl (fun S46 e47 => ?_)
    replace h := h.2
    replace h := h S46 e47
    refine r_iload C 0 rfl dX5_does_220 222 rfl ?_
    exact r_iret C hE hr hlk dX5_does_222 h
  unfold wX5_does at h
  refine r_iload_n C 1 rfl dX5_does_0 1 rfl ?_
  refine r_iconst C 1 rfl dX5_does_1 2 rfl ?_
  refine r_iadd C dX5_does_2 3 rfl ?_
  refine r_topi (fun x1 e2 => ?_)
  replace h := h x1 e2
  refine r_istore C [(6, .int x1), (0, .ref (A 0)), (1, .int a1), (2, .int a2), (3, .int a3), (4, .int a4), (5, .int a5)] (Nat.le_of_ble_eq_true rfl) rfl dX5_does_3 5 rfl ?_
  refine r_iload_n C 3 rfl dX5_does_5 6 rfl ?_
  by_cases c3 : a2 = 1
  · replace h := h.1 c3
    refine r_sw C 1 c3 76 dX5_does_6 (by decide) (by decide) rfl rfl ?_
    refine r_aload_n C 1 rfl dX5_does_76 77 rfl ?_
    refine r_iload C 5 rfl dX5_does_77 79 rfl ?_
    refine r_aload_n C 1 rfl dX5_does_79 80 rfl ?_
    refine g_RX5_58 C dX5_does_80 83 rfl ?_
    refine r_iload C 6 rfl dX5_does_83 85 rfl ?_
    refine i_M (k := 17) C (Nat.le_of_ble_eq_true rfl) (Nat.le_of_ble_eq_true rfl) h.1 dX5_does_85 86 rfl ?_
    replace h := h.2
    refine r_iload_n C 3 rfl dX5_does_86 87 rfl ?_
    refine r_bipush C 14 rfl dX5_does_87 89 rfl ?_
    refine r_icmp_ne C 96 dX5_does_89 92 rfl rfl (fun c4 => ?_) (fun c4 => ?_)
    · replace h := h.1 c4
      refine r_iconst C 1 rfl dX5_does_92 93 rfl ?_
      refine r_goto C 97 dX5_does_93 rfl ?_
      refine r_sub [(6, .int x1), (0, .ref (A 0)), (3, .int a3)] [0, 1, 4] rfl ?_
      exact b97  x1 1 (S 17 a5.toNatClampNeg) a4  S h
    · replace h := h.2 c4
      refine r_iconst C 0 rfl dX5_does_96 97 rfl ?_
      refine r_sub [(6, .int x1), (0, .ref (A 0)), (3, .int a3)] [0, 1, 4] rfl ?_
      exact b97  x1 0 (S 17 a5.toNatClampNeg) a4  S h
  · replace h := h.2
    by_cases c5 : a2 = 2
    · replace h := h.1 c5
      refine r_sw C 2 c5 136 dX5_does_6 (by decide) (by decide) rfl rfl ?_
      refine r_aload_n C 1 rfl dX5_does_136 137 rfl ?_
      refine r_aload_n C 1 rfl dX5_does_137 138 rfl ?_
      refine g_RX5_25 C dX5_does_138 141 rfl ?_
      refine r_iload_n C 4 rfl dX5_does_141 142 rfl ?_
      refine i_M (k := 6) C (Nat.le_of_ble_eq_true rfl) (Nat.le_of_ble_eq_true rfl) h.1 dX5_does_142 143 rfl ?_
      replace h := h.2
      refine r_iconst C 2 rfl dX5_does_143 144 rfl ?_
      refine r_iadd C dX5_does_144 145 rfl ?_
      refine r_iload C 5 rfl dX5_does_145 147 rfl ?_
      refine r_iadd C dX5_does_147 148 rfl ?_
      refine r_iload C 6 rfl dX5_does_148 150 rfl ?_
      refine r_iconst C (-1 : Int32) rfl dX5_does_150 151 rfl ?_
      refine r_icmp_ne C 158 dX5_does_151 154 rfl rfl (fun c6 => ?_) (fun c6 => ?_)
      · replace h := h.1 c6
        refine r_iconst C 0 rfl dX5_does_154 155 rfl ?_
        refine r_goto C 165 dX5_does_155 rfl ?_
        refine r_sub [(6, .int x1)] [0] rfl ?_
        exact b165  x1 0 (((S 6 a3.toNatClampNeg) + 2) + a4)  S h
      · replace h := h.2 c6
        refine r_aload_n C 1 rfl dX5_does_158 159 rfl ?_
        refine g_RX5_25 C dX5_does_159 162 rfl ?_
        refine r_iload C 6 rfl dX5_does_162 164 rfl ?_
        refine i_M (k := 6) C (Nat.le_of_ble_eq_true rfl) (Nat.le_of_ble_eq_true rfl) h.1 dX5_does_164 165 rfl ?_
        replace h := h.2
        refine r_sub [(6, .int x1)] [0] rfl ?_
        exact b165  x1 (S 6 a5.toNatClampNeg) (((S 6 a3.toNatClampNeg) + 2) + a4)  S h
    · replace h := h.2
      by_cases c7 : a2 = 3
      · replace h := h.1 c7
        refine r_sw C 3 c7 171 dX5_does_6 (by decide) (by decide) rfl rfl ?_
        refine r_aload_n C 1 rfl dX5_does_171 172 rfl ?_
        refine g_RX5_25 C dX5_does_172 175 rfl ?_
        refine r_iload_n C 4 rfl dX5_does_175 176 rfl ?_
        refine r_aload_n C 1 rfl dX5_does_176 177 rfl ?_
        refine g_RX5_7 C dX5_does_177 180 rfl ?_
        refine r_aload_n C 1 rfl dX5_does_180 181 rfl ?_
        refine g_RX5_25 C dX5_does_181 184 rfl ?_
        refine r_iload C 5 rfl dX5_does_184 186 rfl ?_
        refine i_M (k := 6) C (Nat.le_of_ble_eq_true rfl) (Nat.le_of_ble_eq_true rfl) h.1 dX5_does_186 187 rfl ?_
        replace h := h.2
        refine r_iconst C 2 rfl dX5_does_187 188 rfl ?_
        refine r_iadd C dX5_does_188 189 rfl ?_
        refine r_iload C 6 rfl dX5_does_189 191 rfl ?_
        refine r_iadd C dX5_does_191 192 rfl ?_
        refine i_M (k := 1) C (Nat.le_of_ble_eq_true rfl) (Nat.le_of_ble_eq_true rfl) h.1 dX5_does_192 193 rfl ?_
        replace h := h.2
        refine s_M (k := 6) C (Nat.le_of_ble_eq_true rfl) (Nat.le_of_ble_eq_true rfl) h.1 dX5_does_193 194 rfl (fun S8 e9 => ?_)
        replace h := h.2
        replace h := h S8 e9
        refine r_iload C 0 rfl dX5_does_194 196 rfl ?_
        exact r_iret C hE hr hlk dX5_does_196 h
      · replace h := h.2
        by_cases c10 : a2 = 4
        · replace h := h.1 c10
          refine r_sw C 4 c10 197 dX5_does_6 (by decide) (by decide) rfl rfl ?_
          refine r_aload_n C 1 rfl dX5_does_197 198 rfl ?_
          refine g_RX5_25 C dX5_does_198 201 rfl ?_
          refine r_iload_n C 4 rfl dX5_does_201 202 rfl ?_
          refine r_iload C 5 rfl dX5_does_202 204 rfl ?_
          refine r_iconst C (-1 : Int32) rfl dX5_does_204 205 rfl ?_
          refine r_icmp_ne C 212 dX5_does_205 208 rfl rfl (fun c11 => ?_) (fun c11 => ?_)
          · replace h := h.1 c11
            refine r_iconst C 0 rfl dX5_does_208 209 rfl ?_
            refine r_goto C 219 dX5_does_209 rfl ?_
            refine r_sub [(6, .int x1)] [0] rfl ?_
            exact b219  x1 0 a3  S h
          · replace h := h.2 c11
            refine r_aload_n C 1 rfl dX5_does_212 213 rfl ?_
            refine g_RX5_25 C dX5_does_213 216 rfl ?_
            refine r_iload C 5 rfl dX5_does_216 218 rfl ?_
            refine i_M (k := 6) C (Nat.le_of_ble_eq_true rfl) (Nat.le_of_ble_eq_true rfl) h.1 dX5_does_218 219 rfl ?_
            replace h := h.2
            refine r_sub [(6, .int x1)] [0] rfl ?_
            exact b219  x1 (S 6 a4.toNatClampNeg) a3  S h
        · replace h := h.2
          by_cases c12 : a2 = 5
          · replace h := h.1 c12
            refine r_sw C 5 c12 223 dX5_does_6 (by decide) (by decide) rfl rfl ?_
            refine r_aload_n C 1 rfl dX5_does_223 224 rfl ?_
            refine g_RX5_28 C dX5_does_224 227 rfl ?_
            refine r_aload_n C 1 rfl dX5_does_227 228 rfl ?_
            refine g_RX5_157 C dX5_does_228 231 rfl ?_
            refine r_aload_n C 1 rfl dX5_does_231 232 rfl ?_
            refine g_RX5_25 C dX5_does_232 235 rfl ?_
            refine r_iload_n C 4 rfl dX5_does_235 236 rfl ?_
            refine i_M (k := 6) C (Nat.le_of_ble_eq_true rfl) (Nat.le_of_ble_eq_true rfl) h.1 dX5_does_236 237 rfl ?_
            replace h := h.2
            refine s_M (k := 7) C (Nat.le_of_ble_eq_true rfl) (Nat.le_of_ble_eq_true rfl) h.1 dX5_does_237 238 rfl (fun S13 e14 => ?_)
            replace h := h.2
            replace h := h S13 e14
            refine r_aload_n C 1 rfl dX5_does_238 239 rfl ?_
            refine r_dup C rfl dX5_does_239 240 rfl ?_
            refine g_RX5_157 C dX5_does_240 243 rfl ?_
            refine r_iconst C 1 rfl dX5_does_243 244 rfl ?_
            refine r_iadd C dX5_does_244 245 rfl ?_
            refine p_RX5_157 C (x := ((S13 0 9) + 1)) dX5_does_245 248 rfl (fun S15 e16 => ?_)
            replace h := h S15 e16
            refine r_iload C 0 rfl dX5_does_248 250 rfl ?_
            exact r_iret C hE hr hlk dX5_does_250 h
          · replace h := h.2
            by_cases c17 : a2 = 6
            · replace h := h.1 c17
              refine r_sw C 6 c17 251 dX5_does_6 (by decide) (by decide) rfl rfl ?_
              refine r_aload_n C 1 rfl dX5_does_251 252 rfl ?_
              refine r_dup C rfl dX5_does_252 253 rfl ?_
              refine g_RX5_157 C dX5_does_253 256 rfl ?_
              refine r_iconst C 1 rfl dX5_does_256 257 rfl ?_
              refine r_isub C dX5_does_257 258 rfl ?_
              refine p_RX5_157 C (x := ((S 0 9) - 1)) dX5_does_258 261 rfl (fun S18 e19 => ?_)
              replace h := h S18 e19
              refine r_aload_n C 1 rfl dX5_does_261 262 rfl ?_
              refine g_RX5_25 C dX5_does_262 265 rfl ?_
              refine r_iload_n C 4 rfl dX5_does_265 266 rfl ?_
              refine r_aload_n C 1 rfl dX5_does_266 267 rfl ?_
              refine g_RX5_28 C dX5_does_267 270 rfl ?_
              refine r_aload_n C 1 rfl dX5_does_270 271 rfl ?_
              refine g_RX5_157 C dX5_does_271 274 rfl ?_
              refine i_M (k := 7) C (Nat.le_of_ble_eq_true rfl) (Nat.le_of_ble_eq_true rfl) h.1 dX5_does_274 275 rfl ?_
              replace h := h.2
              refine s_M (k := 6) C (Nat.le_of_ble_eq_true rfl) (Nat.le_of_ble_eq_true rfl) h.1 dX5_does_275 276 rfl (fun S20 e21 => ?_)
              replace h := h.2
              replace h := h S20 e21
              refine r_iload C 0 rfl dX5_does_276 278 rfl ?_
              exact r_iret C hE hr hlk dX5_does_278 h
            · replace h := h.2
              by_cases c22 : a2 = 7
              · replace h := h.1 c22
                refine r_sw C 7 c22 279 dX5_does_6 (by decide) (by decide) rfl rfl ?_
                refine r_aload_n C 1 rfl dX5_does_279 280 rfl ?_
                refine g_RX5_58 C dX5_does_280 283 rfl ?_
                refine r_iload_n C 4 rfl dX5_does_283 284 rfl ?_
                refine r_iload C 5 rfl dX5_does_284 286 rfl ?_
                refine s_M (k := 17) C (Nat.le_of_ble_eq_true rfl) (Nat.le_of_ble_eq_true rfl) h.1 dX5_does_286 287 rfl (fun S23 e24 => ?_)
                replace h := h.2
                replace h := h S23 e24
                refine r_iload C 0 rfl dX5_does_287 289 rfl ?_
                exact r_iret C hE hr hlk dX5_does_289 h
              · replace h := h.2
                by_cases c25 : a2 = 8
                · replace h := h.1 c25
                  refine r_sw C 8 c25 290 dX5_does_6 (by decide) (by decide) rfl rfl ?_
                  refine r_aload_n C 1 rfl dX5_does_290 291 rfl ?_
                  refine g_RX5_58 C dX5_does_291 294 rfl ?_
                  refine r_iload_n C 4 rfl dX5_does_294 295 rfl ?_
                  refine r_aload_n C 1 rfl dX5_does_295 296 rfl ?_
                  refine g_RX5_58 C dX5_does_296 299 rfl ?_
                  refine r_iload C 5 rfl dX5_does_299 301 rfl ?_
                  refine i_M (k := 17) C (Nat.le_of_ble_eq_true rfl) (Nat.le_of_ble_eq_true rfl) h.1 dX5_does_301 302 rfl ?_
                  replace h := h.2
                  refine r_aload_n C 1 rfl dX5_does_302 303 rfl ?_
                  refine g_RX5_58 C dX5_does_303 306 rfl ?_
                  refine r_iload C 6 rfl dX5_does_306 308 rfl ?_
                  refine i_M (k := 17) C (Nat.le_of_ble_eq_true rfl) (Nat.le_of_ble_eq_true rfl) h.1 dX5_does_308 309 rfl ?_
                  replace h := h.2
                  refine r_iadd C dX5_does_309 310 rfl ?_
                  refine s_M (k := 17) C (Nat.le_of_ble_eq_true rfl) (Nat.le_of_ble_eq_true rfl) h.1 dX5_does_310 311 rfl (fun S26 e27 => ?_)
                  replace h := h.2
                  replace h := h S26 e27
                  refine r_iload C 0 rfl dX5_does_311 313 rfl ?_
                  exact r_iret C hE hr hlk dX5_does_313 h
                · replace h := h.2
                  by_cases c28 : a2 = 9
                  · replace h := h.1 c28
                    refine r_sw C 9 c28 314 dX5_does_6 (by decide) (by decide) rfl rfl ?_
                    refine r_aload_n C 1 rfl dX5_does_314 315 rfl ?_
                    refine g_RX5_58 C dX5_does_315 318 rfl ?_
                    refine r_iload_n C 4 rfl dX5_does_318 319 rfl ?_
                    refine r_aload_n C 1 rfl dX5_does_319 320 rfl ?_
                    refine g_RX5_7 C dX5_does_320 323 rfl ?_
                    refine r_aload_n C 1 rfl dX5_does_323 324 rfl ?_
                    refine g_RX5_25 C dX5_does_324 327 rfl ?_
                    refine r_iload C 5 rfl dX5_does_327 329 rfl ?_
                    refine i_M (k := 6) C (Nat.le_of_ble_eq_true rfl) (Nat.le_of_ble_eq_true rfl) h.1 dX5_does_329 330 rfl ?_
                    replace h := h.2
                    refine r_iconst C 1 rfl dX5_does_330 331 rfl ?_
                    refine r_iadd C dX5_does_331 332 rfl ?_
                    refine i_M (k := 1) C (Nat.le_of_ble_eq_true rfl) (Nat.le_of_ble_eq_true rfl) h.1 dX5_does_332 333 rfl ?_
                    replace h := h.2
                    refine s_M (k := 17) C (Nat.le_of_ble_eq_true rfl) (Nat.le_of_ble_eq_true rfl) h.1 dX5_does_333 334 rfl (fun S29 e30 => ?_)
                    replace h := h.2
                    replace h := h S29 e30
                    refine r_iload C 0 rfl dX5_does_334 336 rfl ?_
                    exact r_iret C hE hr hlk dX5_does_336 h
                  · replace h := h.2
                    by_cases c31 : a2 = 10
                    · replace h := h.1 c31
                      refine r_sw C 10 c31 337 dX5_does_6 (by decide) (by decide) rfl rfl ?_
                      refine r_aload_n C 1 rfl dX5_does_337 338 rfl ?_
                      refine g_RX5_25 C dX5_does_338 341 rfl ?_
                      refine r_iload_n C 4 rfl dX5_does_341 342 rfl ?_
                      refine i_M (k := 6) C (Nat.le_of_ble_eq_true rfl) (Nat.le_of_ble_eq_true rfl) h.1 dX5_does_342 343 rfl ?_
                      replace h := h.2
                      refine r_if_ne C 351 dX5_does_343 346 rfl rfl (fun c32 => ?_) (fun c32 => ?_)
                      · replace h := h.1 c32
                        refine r_iload C 5 rfl dX5_does_346 348 rfl ?_
                        refine r_goto C 353 dX5_does_348 rfl ?_
                        exact r_iret C hE hr hlk dX5_does_353 h
                      · replace h := h.2 c32
                        refine r_iload C 0 rfl dX5_does_351 353 rfl ?_
                        exact r_iret C hE hr hlk dX5_does_353 h
                    · replace h := h.2
                      by_cases c33 : a2 = 11
                      · replace h := h.1 c33
                        refine r_sw C 11 c33 354 dX5_does_6 (by decide) (by decide) rfl rfl ?_
                        refine r_aload_n C 1 rfl dX5_does_354 355 rfl ?_
                        refine g_RX5_58 C dX5_does_355 358 rfl ?_
                        refine r_iload_n C 4 rfl dX5_does_358 359 rfl ?_
                        refine i_M (k := 17) C (Nat.le_of_ble_eq_true rfl) (Nat.le_of_ble_eq_true rfl) h.1 dX5_does_359 360 rfl ?_
                        replace h := h.2
                        refine r_aload_n C 1 rfl dX5_does_360 361 rfl ?_
                        refine g_RX5_58 C dX5_does_361 364 rfl ?_
                        refine r_iload C 5 rfl dX5_does_364 366 rfl ?_
                        refine i_M (k := 17) C (Nat.le_of_ble_eq_true rfl) (Nat.le_of_ble_eq_true rfl) h.1 dX5_does_366 367 rfl ?_
                        replace h := h.2
                        refine r_icmp_ge C 375 dX5_does_367 370 rfl rfl (fun c34 => ?_) (fun c34 => ?_)
                        · replace h := h.1 c34
                          refine r_iload C 0 rfl dX5_does_375 377 rfl ?_
                          exact r_iret C hE hr hlk dX5_does_377 h
                        · replace h := h.2 c34
                          refine r_iload C 6 rfl dX5_does_370 372 rfl ?_
                          refine r_goto C 377 dX5_does_372 rfl ?_
                          exact r_iret C hE hr hlk dX5_does_377 h
                      · replace h := h.2
                        by_cases c35 : a2 = 12
                        · replace h := h.1 c35
                          refine r_sw C 12 c35 378 dX5_does_6 (by decide) (by decide) rfl rfl ?_
                          refine r_iload_n C 4 rfl dX5_does_378 379 rfl ?_
                          exact r_iret C hE hr hlk dX5_does_379 h
                        · replace h := h.2
                          by_cases c36 : a2 = 13
                          · replace h := h.1 c36
                            refine r_sw C 13 c36 380 dX5_does_6 (by decide) (by decide) rfl rfl ?_
                            refine r_aload_n C 1 rfl dX5_does_380 381 rfl ?_
                            refine g_RX5_25 C dX5_does_381 384 rfl ?_
                            refine r_iload_n C 4 rfl dX5_does_384 385 rfl ?_
                            refine i_M (k := 6) C (Nat.le_of_ble_eq_true rfl) (Nat.le_of_ble_eq_true rfl) h.1 dX5_does_385 386 rfl ?_
                            replace h := h.2
                            refine r_aload_n C 1 rfl dX5_does_386 387 rfl ?_
                            refine g_RX5_25 C dX5_does_387 390 rfl ?_
                            refine r_iload C 5 rfl dX5_does_390 392 rfl ?_
                            refine i_M (k := 6) C (Nat.le_of_ble_eq_true rfl) (Nat.le_of_ble_eq_true rfl) h.1 dX5_does_392 393 rfl ?_
                            replace h := h.2
                            refine r_icmp_ne C 401 dX5_does_393 396 rfl rfl (fun c37 => ?_) (fun c37 => ?_)
                            · replace h := h.1 c37
                              refine r_iload C 6 rfl dX5_does_396 398 rfl ?_
                              refine r_goto C 403 dX5_does_398 rfl ?_
                              exact r_iret C hE hr hlk dX5_does_403 h
                            · replace h := h.2 c37
                              refine r_iload C 0 rfl dX5_does_401 403 rfl ?_
                              exact r_iret C hE hr hlk dX5_does_403 h
                          · replace h := h.2
                            by_cases c38 : a2 = 14
                            · replace h := h.1 c38
                              refine r_sw C 14 c38 76 dX5_does_6 (by decide) (by decide) rfl rfl ?_
                              refine r_aload_n C 1 rfl dX5_does_76 77 rfl ?_
                              refine r_iload C 5 rfl dX5_does_77 79 rfl ?_
                              refine r_aload_n C 1 rfl dX5_does_79 80 rfl ?_
                              refine g_RX5_58 C dX5_does_80 83 rfl ?_
                              refine r_iload C 6 rfl dX5_does_83 85 rfl ?_
                              refine i_M (k := 17) C (Nat.le_of_ble_eq_true rfl) (Nat.le_of_ble_eq_true rfl) h.1 dX5_does_85 86 rfl ?_
                              replace h := h.2
                              refine r_iload_n C 3 rfl dX5_does_86 87 rfl ?_
                              refine r_bipush C 14 rfl dX5_does_87 89 rfl ?_
                              refine r_icmp_ne C 96 dX5_does_89 92 rfl rfl (fun c39 => ?_) (fun c39 => ?_)
                              · replace h := h.1 c39
                                refine r_iconst C 1 rfl dX5_does_92 93 rfl ?_
                                refine r_goto C 97 dX5_does_93 rfl ?_
                                refine r_sub [(6, .int x1), (0, .ref (A 0)), (3, .int a3)] [0, 1, 4] rfl ?_
                                exact b97  x1 1 (S 17 a5.toNatClampNeg) a4  S h
                              · replace h := h.2 c39
                                refine r_iconst C 0 rfl dX5_does_96 97 rfl ?_
                                refine r_sub [(6, .int x1), (0, .ref (A 0)), (3, .int a3)] [0, 1, 4] rfl ?_
                                exact b97  x1 0 (S 17 a5.toNatClampNeg) a4  S h
                            · replace h := h.2
                              replace h := h c3 c5 c7 c10 c12 c17 c22 c25 c28 c31 c33 c35 c36 c38
                              have hsw : (a2).toInt < 1 ∨ 14 < (a2).toInt := by
                                have c3t := lv_neT (k := 1) (a := 1) c3 (by decide)
                                have c5t := lv_neT (k := 2) (a := 2) c5 (by decide)
                                have c7t := lv_neT (k := 3) (a := 3) c7 (by decide)
                                have c10t := lv_neT (k := 4) (a := 4) c10 (by decide)
                                have c12t := lv_neT (k := 5) (a := 5) c12 (by decide)
                                have c17t := lv_neT (k := 6) (a := 6) c17 (by decide)
                                have c22t := lv_neT (k := 7) (a := 7) c22 (by decide)
                                have c25t := lv_neT (k := 8) (a := 8) c25 (by decide)
                                have c28t := lv_neT (k := 9) (a := 9) c28 (by decide)
                                have c31t := lv_neT (k := 10) (a := 10) c31 (by decide)
                                have c33t := lv_neT (k := 11) (a := 11) c33 (by decide)
                                have c35t := lv_neT (k := 12) (a := 12) c35 (by decide)
                                have c36t := lv_neT (k := 13) (a := 13) c36 (by decide)
                                have c38t := lv_neT (k := 14) (a := 14) c38 (by decide)
                                omega
                              refine r_tableOut C 380 dX5_does_6 hsw rfl ?_
                              refine r_aload_n C 1 rfl dX5_does_380 381 rfl ?_
                              refine g_RX5_25 C dX5_does_381 384 rfl ?_
                              refine r_iload_n C 4 rfl dX5_does_384 385 rfl ?_
                              refine i_M (k := 6) C (Nat.le_of_ble_eq_true rfl) (Nat.le_of_ble_eq_true rfl) h.1 dX5_does_385 386 rfl ?_
                              replace h := h.2
                              refine r_aload_n C 1 rfl dX5_does_386 387 rfl ?_
                              refine g_RX5_25 C dX5_does_387 390 rfl ?_
                              refine r_iload C 5 rfl dX5_does_390 392 rfl ?_
                              refine i_M (k := 6) C (Nat.le_of_ble_eq_true rfl) (Nat.le_of_ble_eq_true rfl) h.1 dX5_does_392 393 rfl ?_
                              replace h := h.2
                              refine r_icmp_ne C 401 dX5_does_393 396 rfl rfl (fun c40 => ?_) (fun c40 => ?_)
                              · replace h := h.1 c40
                                refine r_iload C 6 rfl dX5_does_396 398 rfl ?_
                                refine r_goto C 403 dX5_does_398 rfl ?_
                                exact r_iret C hE hr hlk dX5_does_403 h
                              · replace h := h.2 c40
                                refine r_iload C 0 rfl dX5_does_401 403 rfl ?_
                                exact r_iret C hE hr hlk dX5_does_403 h
set_option maxRecDepth 100000 in
set_option maxHeartbeats 4000000 in
theorem ctX5_run {l : Launch} {D : va_G} {A : Nat → Nat} {cI : ClassId} {X : (Nat → Prop) → State → Heap → Prop} {a1 : Int32} {a2 : Int32} {S : Nat → Nat → Int32} {Q : Int32 → (Nat → Nat → Int32) → Prop} (hX : StX X) (hi : Apart 23 A)  (h : wX5_run a1 a2 S Q) : Ct l D (tyM cI) 23 A (ceM A cI) X yX5_run cX5_run 10 (some .int) 8 191 [.ref (A 0), .int a1, .int a2] S rI Q := by
  refine Ct.of (by decide +kernel) hX hi [(0, .ref (A 0)), (1, .int a1), (2, .int a2)] rfl (Nat.le_of_ble_eq_true rfl) ?_
  intro p e s m args below meth c Acc C hr hlk Qf hE
  have b48 : ∀ (nn : Nat) (x48_3 : Int32) (S : Nat → Nat → Int32), wX5_run_b48 a1 a2  nn x48_3 S Q → J p l e { frames := 8, cells := 0, slots := 0, locals := 191 } s m args below meth c 0 0 Qf D 23 A (ceM A cI) Acc 10 S 48 [(3, .int x48_3), (0, .ref (A 0)), (2, .int a2)] [] := by
    intro nn
    induction nn with
    | zero => intro x48_3 S h; exact False.elim h
    | succ nn ih =>
      intro x48_3 S h
      rw [wX5_run_b48] at h
      refine r_aload_n C 1 rfl dX5_run_48 49 rfl ?_
      refine g_RX5_206 C dX5_run_49 52 rfl ?_
      refine r_aload_n C 1 rfl dX5_run_52 53 rfl ?_
      refine g_RX5_194 C dX5_run_53 56 rfl ?_
      refine r_icmp_ge C 229 dX5_run_56 59 rfl rfl (fun c13 => ?_) (fun c13 => ?_)
      · replace h := h.1 c13
        refine r_iconst C 0 rfl dX5_run_229 230 rfl ?_
        exact r_iret C hE hr hlk dX5_run_230 h
      · replace h := h.2 c13
        refine r_iload_n C 0 rfl dX5_run_59 60 rfl ?_
        refine r_iload_n C 2 rfl dX5_run_60 61 rfl ?_
        refine r_icmp_ne C 67 dX5_run_61 64 rfl rfl (fun c14 => ?_) (fun c14 => ?_)
        · replace h := h.1 c14
          refine r_bipush C 6 rfl dX5_run_64 66 rfl ?_
          exact r_iret C hE hr hlk dX5_run_66 h
        · replace h := h.2 c14
          refine r_aload_n C 1 rfl dX5_run_67 68 rfl ?_
          refine g_RX5_61 C dX5_run_68 71 rfl ?_
          refine r_iconst C 4 rfl dX5_run_71 72 rfl ?_
          refine r_aload_n C 1 rfl dX5_run_72 73 rfl ?_
          refine g_RX5_206 C dX5_run_73 76 rfl ?_
          refine r_imul C dX5_run_76 77 rfl ?_
          refine i_M (k := 18) C (Nat.le_of_ble_eq_true rfl) (Nat.le_of_ble_eq_true rfl) h.1 dX5_run_77 78 rfl ?_
          replace h := h.2
          refine r_topi (fun x15 e16 => ?_)
          replace h := h x15 e16
          refine r_istore C [(4, .int x15), (3, .int x48_3), (0, .ref (A 0)), (2, .int a2)] (Nat.le_of_ble_eq_true rfl) rfl dX5_run_78 80 rfl ?_
          refine r_aload_n C 2 rfl dX5_run_80 81 rfl ?_
          refine g_RX5_61 C dX5_run_81 84 rfl ?_
          refine r_iconst C 4 rfl dX5_run_84 85 rfl ?_
          refine r_aload_n C 2 rfl dX5_run_85 86 rfl ?_
          refine g_RX5_206 C dX5_run_86 89 rfl ?_
          refine r_imul C dX5_run_89 90 rfl ?_
          refine r_iconst C 1 rfl dX5_run_90 91 rfl ?_
          refine r_iadd C dX5_run_91 92 rfl ?_
          refine i_M (k := 18) C (Nat.le_of_ble_eq_true rfl) (Nat.le_of_ble_eq_true rfl) h.1 dX5_run_92 93 rfl ?_
          replace h := h.2
          refine r_topi (fun x17 e18 => ?_)
          replace h := h x17 e18
          refine r_istore C [(5, .int x17), (4, .int x15), (3, .int x48_3), (0, .ref (A 0)), (2, .int a2)] (Nat.le_of_ble_eq_true rfl) rfl dX5_run_93 95 rfl ?_
          refine r_aload_n C 3 rfl dX5_run_95 96 rfl ?_
          refine g_RX5_61 C dX5_run_96 99 rfl ?_
          refine r_iconst C 4 rfl dX5_run_99 100 rfl ?_
          refine r_aload_n C 3 rfl dX5_run_100 101 rfl ?_
          refine g_RX5_206 C dX5_run_101 104 rfl ?_
          refine r_imul C dX5_run_104 105 rfl ?_
          refine r_iconst C 2 rfl dX5_run_105 106 rfl ?_
          refine r_iadd C dX5_run_106 107 rfl ?_
          refine i_M (k := 18) C (Nat.le_of_ble_eq_true rfl) (Nat.le_of_ble_eq_true rfl) h.1 dX5_run_107 108 rfl ?_
          replace h := h.2
          refine r_topi (fun x19 e20 => ?_)
          replace h := h x19 e20
          refine r_istore C [(6, .int x19), (5, .int x17), (4, .int x15), (3, .int x48_3), (0, .ref (A 0)), (2, .int a2)] (Nat.le_of_ble_eq_true rfl) rfl dX5_run_108 110 rfl ?_
          refine r_aload_n C 4 rfl dX5_run_110 111 rfl ?_
          refine g_RX5_61 C dX5_run_111 114 rfl ?_
          refine r_iconst C 4 rfl dX5_run_114 115 rfl ?_
          refine r_aload_n C 4 rfl dX5_run_115 116 rfl ?_
          refine g_RX5_206 C dX5_run_116 119 rfl ?_
          refine r_imul C dX5_run_119 120 rfl ?_
          refine r_iconst C 3 rfl dX5_run_120 121 rfl ?_
          refine r_iadd C dX5_run_121 122 rfl ?_
          refine i_M (k := 18) C (Nat.le_of_ble_eq_true rfl) (Nat.le_of_ble_eq_true rfl) h.1 dX5_run_122 123 rfl ?_
          replace h := h.2
          refine r_topi (fun x21 e22 => ?_)
          replace h := h x21 e22
          refine r_istore C [(7, .int x21), (6, .int x19), (5, .int x17), (4, .int x15), (3, .int x48_3), (0, .ref (A 0)), (2, .int a2)] (Nat.le_of_ble_eq_true rfl) rfl dX5_run_123 125 rfl ?_
          refine r_aload_n C 5 rfl dX5_run_125 126 rfl ?_
          refine r_iload C 3 rfl dX5_run_126 128 rfl ?_
          refine r_iload C 2 rfl dX5_run_128 130 rfl ?_
          refine r_iload C 1 rfl dX5_run_130 132 rfl ?_
          refine r_iload C 0 rfl dX5_run_132 134 rfl ?_
          refine k_RX5_209 C (ctX5_isRight hX hi  h) ⟨(Nat.le_of_ble_eq_true rfl), (Nat.le_of_ble_eq_true rfl)⟩ (Nat.le_of_ble_eq_true rfl) ⟨Nat.le_refl 0, Nat.le_refl 0⟩ dX5_run_134 137 rfl (fun r23 S24 h => ?_)
          rcases bool_or r23 with c25 | c25
          · replace h := h.1 c25
            refine r_if_neF C c25 142 dX5_run_137 140 rfl rfl ?_
            refine r_iconst C 1 rfl dX5_run_140 141 rfl ?_
            exact r_iret C hE hr hlk dX5_run_141 h
          · replace h := h.2 c25
            refine r_if_neT C c25 142 dX5_run_137 140 rfl rfl ?_
            refine r_aload_n C 5 rfl dX5_run_142 143 rfl ?_
            refine r_iload C 3 rfl dX5_run_143 145 rfl ?_
            refine r_iload C 2 rfl dX5_run_145 147 rfl ?_
            refine r_iload C 1 rfl dX5_run_147 149 rfl ?_
            refine r_iload C 0 rfl dX5_run_149 151 rfl ?_
            refine k_RX5_213 C (ctX5_hindered hX hi  h) ⟨(Nat.le_of_ble_eq_true rfl), (Nat.le_of_ble_eq_true rfl)⟩ (Nat.le_of_ble_eq_true rfl) ⟨Nat.le_refl 0, Nat.le_refl 0⟩ dX5_run_151 154 rfl (fun r26 S27 h => ?_)
            refine r_istore C [(8, .int r26), (7, .int x21), (6, .int x19), (5, .int x17), (4, .int x15), (3, .int x48_3), (0, .ref (A 0)), (2, .int a2)] (Nat.le_of_ble_eq_true rfl) rfl dX5_run_154 156 rfl ?_
            refine r_iload C 0 rfl dX5_run_156 158 rfl ?_
            refine r_if_le C 164 dX5_run_158 161 rfl rfl (fun c28 => ?_) (fun c28 => ?_)
            · replace h := h.1 c28
              refine r_iload C 4 rfl dX5_run_164 166 rfl ?_
              refine r_if_ne C 181 dX5_run_166 169 rfl rfl (fun c29 => ?_) (fun c29 => ?_)
              · replace h := h.1 c29
                refine r_aload_n C 6 rfl dX5_run_169 170 rfl ?_
                refine r_dup C rfl dX5_run_170 171 rfl ?_
                refine g_RX5_217 C dX5_run_171 174 rfl ?_
                refine r_iconst C 1 rfl dX5_run_174 175 rfl ?_
                refine r_iadd C dX5_run_175 176 rfl ?_
                refine p_RX5_217 C (x := ((S27 0 26) + 1)) dX5_run_176 179 rfl (fun S30 e31 => ?_)
                replace h := h S30 e31
                refine r_iconst C 0 rfl dX5_run_179 180 rfl ?_
                exact r_iret C hE hr hlk dX5_run_180 h
              · replace h := h.2 c29
                refine r_aload_n C 6 rfl dX5_run_181 182 rfl ?_
                refine r_aload_n C 6 rfl dX5_run_182 183 rfl ?_
                refine g_RX5_206 C dX5_run_183 186 rfl ?_
                refine r_iload C 4 rfl dX5_run_186 188 rfl ?_
                refine r_iload C 3 rfl dX5_run_188 190 rfl ?_
                refine r_iload C 2 rfl dX5_run_190 192 rfl ?_
                refine r_iload C 1 rfl dX5_run_192 194 rfl ?_
                refine k_RX5_220 C (ctX5_does hX hi  h) ⟨(Nat.le_of_ble_eq_true rfl), (Nat.le_of_ble_eq_true rfl)⟩ (Nat.le_of_ble_eq_true rfl) ⟨Nat.le_refl 0, Nat.le_refl 0⟩ dX5_run_194 197 rfl (fun r32 S33 h => ?_)
                refine r_istore C [(9, .int r32), (8, .int r26), (7, .int x21), (6, .int x19), (5, .int x17), (4, .int x15), (3, .int x48_3), (0, .ref (A 0)), (2, .int a2)] (Nat.le_of_ble_eq_true rfl) rfl dX5_run_197 199 rfl ?_
                refine r_iload C 0 rfl dX5_run_199 201 rfl ?_
                refine r_iconst C (-1 : Int32) rfl dX5_run_201 202 rfl ?_
                refine r_icmp_ne C 207 dX5_run_202 205 rfl rfl (fun c34 => ?_) (fun c34 => ?_)
                · replace h := h.1 c34
                  refine r_iconst C 5 rfl dX5_run_205 206 rfl ?_
                  exact r_iret C hE hr hlk dX5_run_206 h
                · replace h := h.2 c34
                  refine r_aload_n C 7 rfl dX5_run_207 208 rfl ?_
                  refine r_dup C rfl dX5_run_208 209 rfl ?_
                  refine g_RX5_217 C dX5_run_209 212 rfl ?_
                  refine r_iconst C 1 rfl dX5_run_212 213 rfl ?_
                  refine r_iadd C dX5_run_213 214 rfl ?_
                  refine p_RX5_217 C (x := ((S33 0 26) + 1)) dX5_run_214 217 rfl (fun S35 e36 => ?_)
                  replace h := h S35 e36
                  refine r_aload_n C 7 rfl dX5_run_217 218 rfl ?_
                  refine r_iload C 0 rfl dX5_run_218 220 rfl ?_
                  refine p_RX5_206 C (x := r32) dX5_run_220 223 rfl (fun S37 e38 => ?_)
                  replace h := h S37 e38
                  obtain ⟨x39, e40⟩ : ∃ z : Int32, z = x48_3 + 1 := ⟨_, rfl⟩
                  replace h := h x39 e40
                  refine r_iinc (n := 1) C 6 rfl x39 (by rw [e40]; rfl) [(3, .int x39), (9, .int r32), (8, .int r26), (7, .int x21), (6, .int x19), (5, .int x17), (4, .int x15), (0, .ref (A 0)), (2, .int a2)] (Nat.le_of_ble_eq_true rfl) rfl dX5_run_223 226 rfl ?_
                  refine r_goto C 48 dX5_run_226 rfl ?_
                  refine r_sub [(3, .int x39), (0, .ref (A 0)), (2, .int a2)] [0, 7, 8] rfl ?_
                  exact ih x39  S37 h
            · replace h := h.2 c28
              refine r_iload C 0 rfl dX5_run_161 163 rfl ?_
              exact r_iret C hE hr hlk dX5_run_163 h
  have b29 : ∀ (y29_0 : Int32) (S : Nat → Nat → Int32), wX5_run_b29 a1 a2  y29_0 S Q → J p l e { frames := 8, cells := 0, slots := 0, locals := 191 } s m args below meth c 0 0 Qf D 23 A (ceM A cI) Acc 10 S 29 [(0, .ref (A 0)), (1, .int a1), (2, .int a2)] [.int y29_0, .ref (A 0)] := by
    intro  y29_0 S h
    unfold wX5_run_b29 at h
    refine p_RX5_87 C (x := y29_0) dX5_run_29 32 rfl (fun S7 e8 => ?_)
    replace h := h S7 e8
    refine r_aload_n C 0 rfl dX5_run_32 33 rfl ?_
    refine g_RX5_87 C dX5_run_33 36 rfl ?_
    refine r_if_le C 41 dX5_run_36 39 rfl rfl (fun c9 => ?_) (fun c9 => ?_)
    · replace h := h.1 c9
      refine r_aload_n C 0 rfl dX5_run_41 42 rfl ?_
      refine r_iload_n C 1 rfl dX5_run_42 43 rfl ?_
      refine p_RX5_206 C (x := a1) dX5_run_43 46 rfl (fun S10 e11 => ?_)
      replace h := h S10 e11
      refine r_iconst C 0 rfl dX5_run_46 47 rfl ?_
      refine r_istore_n C [(3, .int 0), (0, .ref (A 0)), (1, .int a1), (2, .int a2)] (Nat.le_of_ble_eq_true rfl) rfl dX5_run_47 48 rfl ?_
      refine r_sub [(3, .int 0), (0, .ref (A 0)), (2, .int a2)] [0, 1, 3] rfl ?_
      obtain ⟨f12, h⟩ := h
      exact b48  f12 0  S10 h
    · replace h := h.2 c9
      refine r_iconst C 0 rfl dX5_run_39 40 rfl ?_
      exact r_iret C hE hr hlk dX5_run_40 h
  unfold wX5_run at h
  refine r_aload_n C 0 rfl dX5_run_0 1 rfl ?_
  refine r_aload_n C 0 rfl dX5_run_1 2 rfl ?_
  refine r_iload_n C 1 rfl dX5_run_2 3 rfl ?_
  refine k_RX5_203 C (ctX5_isPlace hX hi  h) ⟨(Nat.le_of_ble_eq_true rfl), (Nat.le_of_ble_eq_true rfl)⟩ (Nat.le_of_ble_eq_true rfl) ⟨Nat.le_refl 0, Nat.le_refl 0⟩ dX5_run_3 6 rfl (fun r1 S2 h => ?_)
  rcases bool_or r1 with c3 | c3
  · replace h := h.1 c3
    refine r_if_neF C c3 13 dX5_run_6 9 rfl rfl ?_
    refine r_iconst C 1 rfl dX5_run_9 10 rfl ?_
    refine r_goto C 29 dX5_run_10 rfl ?_
    refine r_sub [(0, .ref (A 0)), (1, .int a1), (2, .int a2)] [0, 1, 2] rfl ?_
    exact b29  1  S2 h
  · replace h := h.2 c3
    refine r_if_neT C c3 13 dX5_run_6 9 rfl rfl ?_
    refine r_iload_n C 2 rfl dX5_run_13 14 rfl ?_
    refine r_iconst C 0 rfl dX5_run_14 15 rfl ?_
    refine r_sipush C 400 rfl dX5_run_15 18 rfl ?_
    refine k_RX5_90 C (ctX5_in hX hi  h) ⟨(Nat.le_of_ble_eq_true rfl), (Nat.le_of_ble_eq_true rfl)⟩ (Nat.le_of_ble_eq_true rfl) ⟨Nat.le_refl 0, Nat.le_refl 0⟩ dX5_run_18 21 rfl (fun r4 S5 h => ?_)
    rcases bool_or r4 with c6 | c6
    · replace h := h.1 c6
      refine r_if_neF C c6 28 dX5_run_21 24 rfl rfl ?_
      refine r_iconst C 2 rfl dX5_run_24 25 rfl ?_
      refine r_goto C 29 dX5_run_25 rfl ?_
      refine r_sub [(0, .ref (A 0)), (1, .int a1), (2, .int a2)] [0, 1, 2] rfl ?_
      exact b29  2  S5 h
    · replace h := h.2 c6
      refine r_if_neT C c6 28 dX5_run_21 24 rfl rfl ?_
      refine r_iconst C 0 rfl dX5_run_28 29 rfl ?_
      refine r_sub [(0, .ref (A 0)), (1, .int a1), (2, .int a2)] [0, 1, 2] rfl ?_
      exact b29  0  S5 h
set_option maxRecDepth 100000 in
set_option maxHeartbeats 4000000 in
theorem ctX5_count {l : Launch} {D : va_G} {A : Nat → Nat} {cI : ClassId} {X : (Nat → Prop) → State → Heap → Prop} {a1 : Int32} {S : Nat → Nat → Int32} {Q : Int32 → (Nat → Nat → Int32) → Prop} (hX : StX X) (hi : Apart 23 A)  (h : wX5_count a1 S Q) : Ct l D (tyM cI) 23 A (ceM A cI) X yX5_count cX5_count 2 (some .int) 1 22 [.ref (A 0), .int a1] S rI Q := by
  refine Ct.of (by decide +kernel) hX hi [(0, .ref (A 0)), (1, .int a1)] rfl (Nat.le_of_ble_eq_true rfl) ?_
  intro p e s m args below meth c Acc C hr hlk Qf hE
  have b16 : ∀ (y16_0 : Int32) (S : Nat → Nat → Int32), wX5_count_b16 a1  y16_0 S Q → J p l e { frames := 1, cells := 0, slots := 0, locals := 22 } s m args below meth c 0 0 Qf D 23 A (ceM A cI) Acc 2 S 16 [(0, .ref (A 0)), (1, .int a1)] [.int y16_0, .ref (A 0)] := by
    intro  y16_0 S h
    unfold wX5_count_b16 at h
    refine p_RX5_87 C (x := y16_0) dX5_count_16 19 rfl (fun S4 e5 => ?_)
    replace h := h S4 e5
    refine r_aload_n C 0 rfl dX5_count_19 20 rfl ?_
    refine g_RX5_87 C dX5_count_20 23 rfl ?_
    refine r_if_le C 28 dX5_count_23 26 rfl rfl (fun c6 => ?_) (fun c6 => ?_)
    · replace h := h.1 c6
      refine r_iload_n C 1 rfl dX5_count_28 29 rfl ?_
      refine r_iconst C 3 rfl dX5_count_29 30 rfl ?_
      refine r_icmp_ge C 40 dX5_count_30 33 rfl rfl (fun c7 => ?_) (fun c7 => ?_)
      · replace h := h.1 c7
        refine r_iload_n C 1 rfl dX5_count_40 41 rfl ?_
        refine r_bipush C 9 rfl dX5_count_41 43 rfl ?_
        refine r_icmp_ge C 54 dX5_count_43 46 rfl rfl (fun c8 => ?_) (fun c8 => ?_)
        · replace h := h.1 c8
          refine r_iload_n C 1 rfl dX5_count_54 55 rfl ?_
          refine r_bipush C 12 rfl dX5_count_55 57 rfl ?_
          refine r_icmp_ge C 70 dX5_count_57 60 rfl rfl (fun c9 => ?_) (fun c9 => ?_)
          · replace h := h.1 c9
            refine r_iload_n C 1 rfl dX5_count_70 71 rfl ?_
            refine r_bipush C 12 rfl dX5_count_71 73 rfl ?_
            refine r_icmp_ne C 83 dX5_count_73 76 rfl rfl (fun c10 => ?_) (fun c10 => ?_)
            · replace h := h.1 c10
              refine r_aload_n C 0 rfl dX5_count_76 77 rfl ?_
              refine g_RX5_112 C dX5_count_77 80 rfl ?_
              refine r_goto C 144 dX5_count_80 rfl ?_
              exact r_iret C hE hr hlk dX5_count_144 h
            · replace h := h.2 c10
              refine r_iload_n C 1 rfl dX5_count_83 84 rfl ?_
              refine r_bipush C 13 rfl dX5_count_84 86 rfl ?_
              refine r_icmp_ne C 96 dX5_count_86 89 rfl rfl (fun c11 => ?_) (fun c11 => ?_)
              · replace h := h.1 c11
                refine r_aload_n C 0 rfl dX5_count_89 90 rfl ?_
                refine g_RX5_169 C dX5_count_90 93 rfl ?_
                refine r_goto C 144 dX5_count_93 rfl ?_
                exact r_iret C hE hr hlk dX5_count_144 h
              · replace h := h.2 c11
                refine r_iload_n C 1 rfl dX5_count_96 97 rfl ?_
                refine r_bipush C 14 rfl dX5_count_97 99 rfl ?_
                refine r_icmp_ne C 109 dX5_count_99 102 rfl rfl (fun c12 => ?_) (fun c12 => ?_)
                · replace h := h.1 c12
                  refine r_aload_n C 0 rfl dX5_count_102 103 rfl ?_
                  refine g_RX5_135 C dX5_count_103 106 rfl ?_
                  refine r_goto C 144 dX5_count_106 rfl ?_
                  exact r_iret C hE hr hlk dX5_count_144 h
                · replace h := h.2 c12
                  refine r_iload_n C 1 rfl dX5_count_109 110 rfl ?_
                  refine r_bipush C 15 rfl dX5_count_110 112 rfl ?_
                  refine r_icmp_ne C 122 dX5_count_112 115 rfl rfl (fun c13 => ?_) (fun c13 => ?_)
                  · replace h := h.1 c13
                    refine r_aload_n C 0 rfl dX5_count_115 116 rfl ?_
                    refine g_RX5_217 C dX5_count_116 119 rfl ?_
                    refine r_goto C 144 dX5_count_119 rfl ?_
                    exact r_iret C hE hr hlk dX5_count_144 h
                  · replace h := h.2 c13
                    refine r_iload_n C 1 rfl dX5_count_122 123 rfl ?_
                    refine r_bipush C 16 rfl dX5_count_123 125 rfl ?_
                    refine r_icmp_ne C 135 dX5_count_125 128 rfl rfl (fun c14 => ?_) (fun c14 => ?_)
                    · replace h := h.1 c14
                      refine r_aload_n C 0 rfl dX5_count_128 129 rfl ?_
                      refine g_RX5_206 C dX5_count_129 132 rfl ?_
                      refine r_goto C 144 dX5_count_132 rfl ?_
                      exact r_iret C hE hr hlk dX5_count_144 h
                    · replace h := h.2 c14
                      refine r_aload_n C 0 rfl dX5_count_135 136 rfl ?_
                      refine g_RX5_58 C dX5_count_136 139 rfl ?_
                      refine r_iload_n C 1 rfl dX5_count_139 140 rfl ?_
                      refine r_bipush C 17 rfl dX5_count_140 142 rfl ?_
                      refine r_isub C dX5_count_142 143 rfl ?_
                      refine i_M (k := 17) C (Nat.le_of_ble_eq_true rfl) (Nat.le_of_ble_eq_true rfl) h.1 dX5_count_143 144 rfl ?_
                      replace h := h.2
                      exact r_iret C hE hr hlk dX5_count_144 h
          · replace h := h.2 c9
            refine r_aload_n C 0 rfl dX5_count_60 61 rfl ?_
            refine g_RX5_55 C dX5_count_61 64 rfl ?_
            refine r_iload_n C 1 rfl dX5_count_64 65 rfl ?_
            refine r_bipush C 9 rfl dX5_count_65 67 rfl ?_
            refine r_isub C dX5_count_67 68 rfl ?_
            refine i_M (k := 16) C (Nat.le_of_ble_eq_true rfl) (Nat.le_of_ble_eq_true rfl) h.1 dX5_count_68 69 rfl ?_
            replace h := h.2
            exact r_iret C hE hr hlk dX5_count_69 h
        · replace h := h.2 c8
          refine r_aload_n C 0 rfl dX5_count_46 47 rfl ?_
          refine r_iload_n C 1 rfl dX5_count_47 48 rfl ?_
          refine r_iconst C 3 rfl dX5_count_48 49 rfl ?_
          refine r_isub C dX5_count_49 50 rfl ?_
          refine k_RX5_191 C (ctX5_sizeOf hX hi  h) ⟨(Nat.le_of_ble_eq_true rfl), (Nat.le_of_ble_eq_true rfl)⟩ (Nat.le_of_ble_eq_true rfl) ⟨Nat.le_refl 0, Nat.le_refl 0⟩ dX5_count_50 53 rfl (fun r15 S16 h => ?_)
          exact r_iret C hE hr hlk dX5_count_53 h
      · replace h := h.2 c7
        refine r_aload_n C 0 rfl dX5_count_33 34 rfl ?_
        refine g_RX5_22 C dX5_count_34 37 rfl ?_
        refine r_iload_n C 1 rfl dX5_count_37 38 rfl ?_
        refine i_M (k := 5) C (Nat.le_of_ble_eq_true rfl) (Nat.le_of_ble_eq_true rfl) h.1 dX5_count_38 39 rfl ?_
        replace h := h.2
        exact r_iret C hE hr hlk dX5_count_39 h
    · replace h := h.2 c6
      refine r_iconst C 0 rfl dX5_count_26 27 rfl ?_
      exact r_iret C hE hr hlk dX5_count_27 h
  unfold wX5_count at h
  refine r_aload_n C 0 rfl dX5_count_0 1 rfl ?_
  refine r_iload_n C 1 rfl dX5_count_1 2 rfl ?_
  refine r_iconst C 0 rfl dX5_count_2 3 rfl ?_
  refine r_bipush C 24 rfl dX5_count_3 5 rfl ?_
  refine k_RX5_90 C (ctX5_in hX hi  h) ⟨(Nat.le_of_ble_eq_true rfl), (Nat.le_of_ble_eq_true rfl)⟩ (Nat.le_of_ble_eq_true rfl) ⟨Nat.le_refl 0, Nat.le_refl 0⟩ dX5_count_5 8 rfl (fun r1 S2 h => ?_)
  rcases bool_or r1 with c3 | c3
  · replace h := h.1 c3
    refine r_if_eqF C c3 15 dX5_count_8 11 rfl rfl ?_
    refine r_iconst C 1 rfl dX5_count_15 16 rfl ?_
    refine r_sub [(0, .ref (A 0)), (1, .int a1)] [0, 1] rfl ?_
    exact b16  1  S2 h
  · replace h := h.2 c3
    refine r_if_eqT C c3 15 dX5_count_8 11 rfl rfl ?_
    refine r_iconst C 0 rfl dX5_count_11 12 rfl ?_
    refine r_goto C 16 dX5_count_12 rfl ?_
    refine r_sub [(0, .ref (A 0)), (1, .int a1)] [0, 1] rfl ?_
    exact b16  0  S2 h
