/-! String.charAt on the one literal: the JDK's own methods, by hand -/
theorem ctJ_pk {l : Launch} {D : va_G} {A : Nat → Nat} {n : Nat → Nat} {cI cG cR : ClassId} {aK aV : Nat} {i N0 : Int32} {v3 : Value} {S : Nat → Nat → Int32} (hi : Apart 32 A) (hv : v3 = .null ∨ ∃ t, v3 = .ref t) (h0 : ¬ i < 0) (h1 : i < N0) : Ct l D (tyC cI cG cR) 32 A (ceC A n cI cG cR) (FxC aK aV) yJ3_checkIndex_8e157 cJ3_checkIndex_8e157 3 (some .int) 0 0 [.int i, .int N0, v3] S rI (fun r S1 => r = i ∧ S1 = S) := by
  have key : ∀ (L : List (Nat × Value)), lv_args 0 [.int i, .int N0, v3] = L → (lg_sl [.int i, .int N0, v3]).length ≤ 3 → L = [(0, .int i), (1, .int N0), (2, v3)] → Ct l D (tyC cI cG cR) 32 A (ceC A n cI cG cR) (FxC aK aV) yJ3_checkIndex_8e157 cJ3_checkIndex_8e157 3 (some .int) 0 0 [.int i, .int N0, v3] S rI (fun r S1 => r = i ∧ S1 = S) := by
    intro L hL hn hL2
    refine Ct.of (by decide +kernel) hFx hi L hL hn ?_
    subst hL2
    intro p e s m args below meth c Acc C hr hlk Qf hE
    refine r_iload_n C 0 rfl dJ3_checkIndex_8e157_0 1 rfl ?_
    refine r_if_lt C 9 dJ3_checkIndex_8e157_1 4 rfl rfl (fun q => absurd q h0) (fun _ => ?_)
    refine r_iload_n C 0 rfl dJ3_checkIndex_8e157_4 5 rfl ?_
    refine r_iload_n C 1 rfl dJ3_checkIndex_8e157_5 6 rfl ?_
    refine r_icmp_lt C 16 dJ3_checkIndex_8e157_6 9 rfl rfl (fun _ => ?_) (fun q => absurd h1 q)
    refine r_iload_n C 0 rfl dJ3_checkIndex_8e157_16 17 rfl ?_
    exact r_iret C hE hr hlk dJ3_checkIndex_8e157_17 ⟨rfl, rfl⟩
  rcases hv with rfl | ⟨t, rfl⟩
  · exact key _ rfl (Nat.le_of_ble_eq_true rfl) rfl
  · exact key _ rfl (Nat.le_of_ble_eq_true rfl) rfl
theorem ctJ_ci {l : Launch} {D : va_G} {A : Nat → Nat} {n : Nat → Nat} {cI cG cR : ClassId} {aK aV : Nat} {i N0 : Int32} {S : Nat → Nat → Int32} (hi : Apart 32 A) (h0 : ¬ i < 0) (h1 : i < N0) : Ct l D (tyC cI cG cR) 32 A (ceC A n cI cG cR) (FxC aK aV) yJ0_checkIndex_df160 cJ0_checkIndex_df160 2 none 1 22 [.int i, .int N0] S rU (fun _ S1 => S1 = S) := by
  refine Ct.of (by decide +kernel) hFx hi [(0, .int i), (1, .int N0)] rfl (Nat.le_of_ble_eq_true rfl) ?_
  intro p e s m args below meth c Acc C hr hlk Qf hE
  have key : ∀ v3 : Value, (v3 = .null ∨ ∃ t, v3 = .ref t) → va_Z "jdk/internal/util/Preconditions" "SIOOBE_FORMATTER" "Ljava/util/function/BiFunction;" v3 Acc s s.heap → J p l e { frames := 1, cells := 0, slots := 0, locals := 22 } s m args below meth c 0 0 Qf D 32 A (ceC A n cI cG cR) Acc 2 S 0 [(0, .int i), (1, .int N0)] [] := by
    intro v3 hv hZ
    refine r_iload_n C 0 rfl dJ0_checkIndex_df160_0 1 rfl ?_
    refine r_iload_n C 1 rfl dJ0_checkIndex_df160_1 2 rfl ?_
    refine r_x_gets C hZ f_f1053 dJ0_checkIndex_df160_2 5 rfl ?_
    refine r_callS C (As := [.int i, .int N0, v3]) [] (ctJ_pk hi hv h0 h1) f_pk_cd f_iP f_pk_st f_l1059 ⟨by decide +kernel, by decide +kernel, (show (parseMethodDescriptor yJ3_checkIndex_8e157.desc).map (fun d => d.parameters.length) = some 3 by decide +kernel)⟩ ⟨(Nat.le_of_ble_eq_true rfl), (Nat.le_of_ble_eq_true rfl)⟩ rfl (Nat.le_of_ble_eq_true rfl) ⟨Nat.le_refl 0, Nat.le_refl 0⟩ dJ0_checkIndex_df160_5 8 rfl (fun r S1 h => ?_)
    obtain ⟨rfl, rfl⟩ := h
    refine r_pop C rfl dJ0_checkIndex_df160_8 9 rfl ?_
    exact r_vret C hE hr hlk (r := ()) dJ0_checkIndex_df160_9 rfl
  rcases C.2.2.2.2.2.2.2.2.2.2.2.2.2.2.1 with h | ⟨t, h⟩
  · exact key .null (Or.inl rfl) h
  · exact key (.ref t) (Or.inr ⟨t, rfl⟩) h
theorem told_ok : ∀ j, j < 59 → (TOLDb.getD j 0 &&& 255).toUInt32.toUInt16.toUInt32.toInt32 = TOLDb.getD j 0 ∧ narrow .char (.int (TOLDb.getD j 0)) = .int (TOLDb.getD j 0) := by decide +kernel
theorem r_cret {p : Program} {l : Launch} {e : Env} {R : Room} {s : State} {m : MethodId} {args : Array Value} {below : List Frame} {meth : Method} {c : Code} {Qf : State → Prop} {D : va_G} {N : Nat} {A : Nat → Nat} {ce : Nat → (Nat → Int32) → va_E} {Acc : Nat → Prop} {nL : Nat} {S : Nat → Nat → Int32} {pc : Nat} {L : List (Nat × Value)} {cc : ByteArray} {own : String} {tys : List (ClassId × FieldType)} {X : (Nat → Prop) → State → Heap → Prop} (C : Cx p s m args c cc nL own D tys N A X Acc) {Q : Int32 → (Nat → Nat → Int32) → Prop} (hE : Qf = MQ below (QQ rI Q D tys N A ce Acc) args s 0 0 Acc) (hr : meth.sig.returnType = some .char) (hlk : meth.locks = false) {r : Int32} (hn : narrow .char (.int r) = .int r) (d : decode cc pc = .ok (.ireturn, 1)) (h : Q r S) : J p l e R s m args below meth c 0 0 Qf D N A ce Acc nL S pc L [.int r] := by
  subst hE
  intro H locs ls hP hS hl
  exact W.zret (hlocks := hlk) C.1 C.2.1 hr hn (fun t ht hW => ⟨⟨r, S, rfl, h, by rw [ht]; exact hP, va_K.moved hW.alike C.2.2.2.2.2.1⟩, hS.F ht⟩) hS.2.2 d
theorem ctJ_c1 {l : Launch} {D : va_G} {A : Nat → Nat} {n : Nat → Nat} {cI cG cR : ClassId} {aK aV : Nat} {i : Int32} {S : Nat → Nat → Int32} (hi : Apart 32 A) (h : vp_in i 59) : Ct l D (tyC cI cG cR) 32 A (ceC A n cI cG cR) (FxC aK aV) yJ1_charAt_3b067 cJ1_charAt_3b067 2 (some .char) 2 43 [.ref aV, .int i] S rI (fun r S1 => r = toldAt i ∧ S1 = S) := by
  refine Ct.of (by decide +kernel) hFx hi [(0, .ref aV), (1, .int i)] rfl (Nat.le_of_ble_eq_true rfl) ?_
  intro p e s m args below meth c Acc C hr hlk Qf hE
  have hT := (C.2.2.2.2.2.2.2.2.2.2.2.2.1.1 0 (by decide)).2.2.2
  obtain ⟨j, hj, rfl⟩ := vp_in_of h (by decide)
  have hk : (nI j).toNatClampNeg = j := nI_clamp (by omega)
  refine r_iload_n C 1 rfl dJ1_charAt_3b067_0 1 rfl ?_
  refine r_aload_n C 0 rfl dJ1_charAt_3b067_1 2 rfl ?_
  refine r_x_len C hT (v := 59) rfl dJ1_charAt_3b067_2 3 rfl ?_
  refine r_callS C (As := [.int (nI j), .int 59]) [] (ctJ_ci hi (nI_pos (by omega)) (show nI j < nI 59 from nI_lt hj (by decide))) f_ci_cd f_iS f_ci_st f_l9 ⟨by decide +kernel, by decide +kernel, (show (parseMethodDescriptor yJ0_checkIndex_df160.desc).map (fun d => d.parameters.length) = some 2 by decide +kernel)⟩ ⟨(Nat.le_of_ble_eq_true rfl), (Nat.le_of_ble_eq_true rfl)⟩ rfl (Nat.le_of_ble_eq_true rfl) ⟨Nat.le_refl 0, Nat.le_refl 0⟩ dJ1_charAt_3b067_3 6 rfl (fun r S1 h => ?_)
  subst h
  refine r_aload_n C 0 rfl dJ1_charAt_3b067_6 7 rfl ?_
  refine r_iload_n C 1 rfl dJ1_charAt_3b067_7 8 rfl ?_
  refine r_x_bald C hT (v := .int (TOLDb.getD j 0)) (by exact vp_in_nI hj (by decide)) (by rw [hk]; rfl) dJ1_charAt_3b067_8 9 rfl ?_
  refine r_sipush C 255 rfl dJ1_charAt_3b067_9 12 rfl ?_
  refine r_iand C dJ1_charAt_3b067_12 13 rfl ?_
  refine r_i2c C (told_ok j hj).1 dJ1_charAt_3b067_13 14 rfl ?_
  exact r_cret C hE hr hlk (told_ok j hj).2 dJ1_charAt_3b067_14 ⟨by unfold toldAt; rw [hk], rfl⟩
theorem ctJ_il {l : Launch} {D : va_G} {A : Nat → Nat} {n : Nat → Nat} {cI cG cR : ClassId} {aK aV : Nat} {S : Nat → Nat → Int32} (hi : Apart 32 A) : Ct l D (tyC cI cG cR) 32 A (ceC A n cI cG cR) (FxC aK aV) yJ0_isLatin1_aae02 cJ0_isLatin1_aae02 1 (some .boolean) 0 0 [.ref aK] S rZ (fun r S1 => r = true ∧ S1 = S) := by
  refine Ct.of (by decide +kernel) hFx hi [(0, .ref aK)] rfl (Nat.le_of_ble_eq_true rfl) ?_
  intro p e s m args below meth c Acc C hr hlk Qf hE
  have hE1 := (C.2.2.2.2.2.2.2.2.2.2.2.2.1.1 0 (by decide)).2.1
  refine r_x_gets C C.2.2.2.2.2.2.2.2.2.2.2.2.2.1 f_f38 dJ0_isLatin1_aae02_0 3 rfl ?_
  refine r_if_eq C 17 dJ0_isLatin1_aae02_3 6 rfl rfl (fun q => absurd q (by decide)) (fun _ => ?_)
  refine r_aload_n C 0 rfl dJ0_isLatin1_aae02_6 7 rfl ?_
  refine r_x_getf C hE1 f_f15 dJ0_isLatin1_aae02_7 10 rfl ?_
  refine r_if_ne C 17 dJ0_isLatin1_aae02_10 13 rfl rfl (fun _ => ?_) (fun q => absurd rfl q)
  refine r_iconst C 1 rfl dJ0_isLatin1_aae02_13 14 rfl ?_
  refine r_goto C 18 dJ0_isLatin1_aae02_14 rfl ?_
  exact r_zret C hE hr hlk (r := true) dJ0_isLatin1_aae02_18 ⟨rfl, rfl⟩
theorem ctJ_ca {l : Launch} {D : va_G} {A : Nat → Nat} {n : Nat → Nat} {cI cG cR : ClassId} {aK aV : Nat} {i : Int32} {S : Nat → Nat → Int32} (hi : Apart 32 A) (h : vp_in i 59) : Ct l D (tyC cI cG cR) 32 A (ceC A n cI cG cR) (FxC aK aV) yJ0_charAt_5068e cJ0_charAt_5068e 2 (some .char) 3 64 [.ref aK, .int i] S rI (fun r S1 => r = toldAt i ∧ S1 = S) := by
  refine Ct.of (by decide +kernel) hFx hi [(0, .ref aK), (1, .int i)] rfl (Nat.le_of_ble_eq_true rfl) ?_
  intro p e s m args below meth c Acc C hr hlk Qf hE
  have hE1 := (C.2.2.2.2.2.2.2.2.2.2.2.2.1.1 0 (by decide)).2.2.1
  refine r_aload_n C 0 rfl dJ0_charAt_5068e_0 1 rfl ?_
  refine r_x_callV C (As := []) (Q := (fun (r : Bool) S1 => r = true ∧ S1 = S)) [] (ctJ_il hi) rfl f_il_cd f_iS f_il_im f_il_se f_l492 ⟨by decide +kernel, by decide +kernel, by decide +kernel⟩ ⟨(Nat.le_of_ble_eq_true rfl), (Nat.le_of_ble_eq_true rfl)⟩ rfl (Nat.le_of_ble_eq_true rfl) ⟨Nat.le_refl 0, Nat.le_refl 0⟩ dJ0_charAt_5068e_1 4 rfl (fun r S1 h1 => ?_)
  obtain ⟨rfl, rfl⟩ := h1
  refine r_if_eqT C rfl 16 dJ0_charAt_5068e_4 7 rfl rfl ?_
  refine r_aload_n C 0 rfl dJ0_charAt_5068e_7 8 rfl ?_
  refine r_x_getf C hE1 f_f9 dJ0_charAt_5068e_8 11 rfl ?_
  refine r_iload_n C 1 rfl dJ0_charAt_5068e_11 12 rfl ?_
  refine r_callS C (As := [.ref aV, .int i]) [] (ctJ_c1 hi h) f_c1_cd f_iS1 f_c1_st f_l495 ⟨by decide +kernel, by decide +kernel, (show (parseMethodDescriptor yJ1_charAt_3b067.desc).map (fun d => d.parameters.length) = some 2 by decide +kernel)⟩ ⟨(Nat.le_of_ble_eq_true rfl), (Nat.le_of_ble_eq_true rfl)⟩ rfl (Nat.le_of_ble_eq_true rfl) ⟨Nat.le_refl 0, Nat.le_refl 0⟩ dJ0_charAt_5068e_12 15 rfl (fun r S2 h2 => ?_)
  obtain ⟨rfl, rfl⟩ := h2
  refine r_cret C hE hr hlk ?_ dJ0_charAt_5068e_15 ⟨rfl, rfl⟩
  obtain ⟨j, hj, rfl⟩ := vp_in_of h (by decide)
  unfold toldAt
  rw [nI_clamp (by omega)]
  exact (told_ok j hj).2
section KCH
theorem k_charAt {p : Program} {l : Launch} {e : Env} {R : Room} {s : State} {m : MethodId} {args : Array Value} {below : List Frame} {meth : Method} {c : Code} {cells slots : Nat} {Qf : State → Prop} {D : va_G} {A : Nat → Nat} {n : Nat → Nat} {cI cG cR : ClassId} {Acc : Nat → Prop} {nL : Nat} {S : Nat → Nat → Int32} {pc : Nat} {L : List (Nat × Value)} {cc : ByteArray} {aK aV : Nat} (C : Cx p s m args c cc nL RX2 D (tyC cI cG cR) 32 A (FxC aK aV) Acc) {i : Int32} {rest : List Value} (hi : Apart 32 A) (h : vp_in i 59) (hR : 3 + 1 ≤ R.frames ∧ 8 + (2 + 11) + 64 ≤ R.locals) (hcat : (rest.map fun v => v.category).sum ≤ 8) (hcs : cells ≤ R.cells ∧ slots ≤ R.slots) (d : decode cc pc = .ok (.invokevirtual 59, 3)) (q : Nat) (hq : pc + 3 = q) (K : J p l e R s m args below meth c cells slots Qf D 32 A (ceC A n cI cG cR) Acc nL S q L (.int (toldAt i) :: rest)) : J p l e R s m args below meth c cells slots Qf D 32 A (ceC A n cI cG cR) Acc nL S pc L (.int i :: .ref aK :: rest) := by
  refine r_x_callV C (As := [.int i]) (Q := (fun (r : Int32) S1 => r = toldAt i ∧ S1 = S)) rest (ctJ_ca hi h) rfl f_ca_cd f_iS f_ca_im f_ca_se f_l59 ⟨by decide +kernel, by decide +kernel, (show (parseMethodDescriptor yJ0_charAt_5068e.desc).map (fun d => d.parameters.length) = some 1 by decide +kernel)⟩ hR rfl hcat hcs d q hq (fun r S1 h1 => ?_)
  obtain ⟨rfl, rfl⟩ := h1
  exact K
end KCH
