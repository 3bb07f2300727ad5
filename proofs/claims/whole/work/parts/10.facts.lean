/-! FACTS that the class reads outside its world: two statics of Throwable, the literal TOLD of Machine, the link to a nest mate -/
def TOLDs : String := "--- rni rfq rrf rq- r-- r-- i-- iii ir- rp- iip p-- rrp rni"
def TOLDb : List Int32 := [45, 45, 45, 32, 114, 110, 105, 32, 114, 102, 113, 32, 114, 114, 102, 32, 114, 113, 45, 32, 114, 45, 45, 32, 114, 45, 45, 32, 105, 45, 45, 32, 105, 105, 105, 32, 105, 114, 45, 32, 114, 112, 45, 32, 105, 105, 112, 32, 112, 45, 45, 32, 114, 114, 112, 32, 114, 110, 105]
def toldAt (i : Int32) : Int32 := TOLDb.getD i.toNatClampNeg 0
def NGl : List Cond := [(.castable "java/lang/IndexOutOfBoundsException" "java/lang/IndexOutOfBoundsException"), (.declares ⟨"java/lang/RuntimeException", "<init>", "()V"⟩), (.declares ⟨"java/lang/Exception", "<init>", "()V"⟩), (.declares ⟨"java/lang/Throwable", "<init>", "()V"⟩), (.castable "java/lang/IllegalArgumentException" "java/lang/IllegalArgumentException"), (.castable "java/lang/IllegalStateException" "java/lang/IllegalStateException")]
def NGs (U : State) : Prop := ∀ w ∈ NGl, va_Nw w U
def FxC (aK aV : Nat) (B : Nat → Prop) (U : State) (H : Heap) : Prop := vx_Zq Bundle.tN "UNASSIGNED_STACK" Bundle.steD B U H ∧ vx_Zq Bundle.tN "SUPPRESSED_SENTINEL" Bundle.listD B U H ∧ vk_S 1 [59] [TOLDb] (fun _ => aK) (fun _ => aV) B U H ∧ va_Z "java/lang/String" "COMPACT_STRINGS" "Z" (.int 1) B U H ∧ va_Zq "jdk/internal/util/Preconditions" "SIOOBE_FORMATTER" "Ljava/util/function/BiFunction;" B U H ∧ va_Nw (.methodLinkNest RX2 69 yX4_isRoot "StoreNotes") U ∧ vk_R RX2 57 TOLDs aK U ∧ NGs U
theorem NGs.moved {s U : State} (hW : s.WarmedH U.vm) (h : NGs s) : NGs U := by
  intro w hw
  have h1 := h w hw
  simp only [NGl, List.mem_cons, List.not_mem_nil, or_false] at hw
  rcases hw with rfl | rfl | rfl | rfl | rfl | rfl
  · exact va_Nw.warmC hW h1
  · exact va_Nw.warmD hW h1
  · exact va_Nw.warmD hW h1
  · exact va_Nw.warmD hW h1
  · exact va_Nw.warmC hW h1
  · exact va_Nw.warmC hW h1
theorem NGs.use {s : State} {args : Array Value} (h : NGs s) : ∀ w ∈ NGl, w.before args s = true := fun w hw => va_Nw.use (List.all_eq_true.mp (show NGl.all (fun w => w.onTables) = true by decide +kernel) w hw) (h w hw)
theorem hFx {aK aV : Nat} : StX (FxC aK aV) := by
  refine ⟨fun B u U H hW h => ?_, fun B U H H1 h hq => ?_, fun B C U H h hBC => ?_⟩
  · obtain ⟨h1, h2, h3, h4, h5, h6, h7, h8⟩ := h
    exact ⟨h1.moved hW.alike, h2.moved hW.alike, h3.moved hW.alike, h4.moved hW.alike, h5.moved hW.alike, va_Nw.warmM hW h6, vk_R.warm hW h7, h8.moved hW⟩
  · obtain ⟨h1, h2, h3, h4, h5, h6, h7, h8⟩ := h
    exact ⟨h1.kept hq, h2.kept hq, h3.kept hq, h4.kept hq, h5.kept hq, h6, h7, h8⟩
  · obtain ⟨h1, h2, h3, h4, h5, h6, h7, h8⟩ := h
    exact ⟨h1.narrow hBC, h2.narrow hBC, h3.narrow hBC, h4.narrow hBC, h5.narrow hBC, h6, h7, h8⟩
theorem lt32 {k : Nat} (h : k < 29) : k < 32 := Nat.lt_of_lt_of_le h (Nat.le_of_ble_eq_true rfl)
theorem f_cd : Cond.code yX4_isRoot cX4_isRoot 1 (some .boolean) ∈ BIG := List.mem_filter.mpr ⟨List.mem_of_getElem? (i := 259) (by decide +kernel), by decide +kernel⟩
theorem f_in : Cond.initialized RX4 ∈ BIG := List.mem_filter.mpr ⟨List.mem_of_getElem? (i := 44) (by decide +kernel), by decide +kernel⟩
theorem f_st : Cond.static yX4_isRoot ∈ BIG := List.mem_filter.mpr ⟨List.mem_of_getElem? (i := 258) (by decide +kernel), by decide +kernel⟩
theorem f_ca_cd : Cond.code yJ0_charAt_5068e cJ0_charAt_5068e 2 (some .char) ∈ BIG := List.mem_filter.mpr ⟨List.mem_of_getElem? (i := 643) (by decide +kernel), by decide +kernel⟩
theorem f_ca_im : Cond.instanceMethod yJ0_charAt_5068e ∈ BIG := List.mem_filter.mpr ⟨List.mem_of_getElem? (i := 641) (by decide +kernel), by decide +kernel⟩
theorem f_ca_se : Cond.selects RJ0 yJ0_charAt_5068e yJ0_charAt_5068e ∈ BIG := List.mem_filter.mpr ⟨List.mem_of_getElem? (i := 642) (by decide +kernel), by decide +kernel⟩
theorem f_il_cd : Cond.code yJ0_isLatin1_aae02 cJ0_isLatin1_aae02 1 (some .boolean) ∈ BIG := List.mem_filter.mpr ⟨List.mem_of_getElem? (i := 647) (by decide +kernel), by decide +kernel⟩
theorem f_il_im : Cond.instanceMethod yJ0_isLatin1_aae02 ∈ BIG := List.mem_filter.mpr ⟨List.mem_of_getElem? (i := 645) (by decide +kernel), by decide +kernel⟩
theorem f_il_se : Cond.selects RJ0 yJ0_isLatin1_aae02 yJ0_isLatin1_aae02 ∈ BIG := List.mem_filter.mpr ⟨List.mem_of_getElem? (i := 646) (by decide +kernel), by decide +kernel⟩
theorem f_ci_cd : Cond.code yJ0_checkIndex_df160 cJ0_checkIndex_df160 2 none ∈ BIG := List.mem_filter.mpr ⟨List.mem_of_getElem? (i := 655) (by decide +kernel), by decide +kernel⟩
theorem f_ci_st : Cond.static yJ0_checkIndex_df160 ∈ BIG := List.mem_filter.mpr ⟨List.mem_of_getElem? (i := 654) (by decide +kernel), by decide +kernel⟩
theorem f_c1_cd : Cond.code yJ1_charAt_3b067 cJ1_charAt_3b067 2 (some .char) ∈ BIG := List.mem_filter.mpr ⟨List.mem_of_getElem? (i := 652) (by decide +kernel), by decide +kernel⟩
theorem f_c1_st : Cond.static yJ1_charAt_3b067 ∈ BIG := List.mem_filter.mpr ⟨List.mem_of_getElem? (i := 651) (by decide +kernel), by decide +kernel⟩
theorem f_pk_cd : Cond.code yJ3_checkIndex_8e157 cJ3_checkIndex_8e157 3 (some .int) ∈ BIG := List.mem_filter.mpr ⟨List.mem_of_getElem? (i := 660) (by decide +kernel), by decide +kernel⟩
theorem f_pk_st : Cond.static yJ3_checkIndex_8e157 ∈ BIG := List.mem_filter.mpr ⟨List.mem_of_getElem? (i := 659) (by decide +kernel), by decide +kernel⟩
theorem f_iS : Cond.initialized RJ0 ∈ BIG := List.mem_filter.mpr ⟨List.mem_of_getElem? (i := 58) (by decide +kernel), by decide +kernel⟩
theorem f_iS1 : Cond.initialized RJ1 ∈ BIG := List.mem_filter.mpr ⟨List.mem_of_getElem? (i := 59) (by decide +kernel), by decide +kernel⟩
theorem f_iP : Cond.initialized RJ3 ∈ BIG := List.mem_filter.mpr ⟨List.mem_of_getElem? (i := 60) (by decide +kernel), by decide +kernel⟩
theorem f_l59 : Cond.methodLink RX2 59 yJ0_charAt_5068e ∈ BIG := List.mem_filter.mpr ⟨List.mem_of_getElem? (i := 640) (by decide +kernel), by decide +kernel⟩
theorem f_l492 : Cond.methodLink RJ0 492 yJ0_isLatin1_aae02 ∈ BIG := List.mem_filter.mpr ⟨List.mem_of_getElem? (i := 644) (by decide +kernel), by decide +kernel⟩
theorem f_l495 : Cond.methodLink RJ0 495 yJ1_charAt_3b067 ∈ BIG := List.mem_filter.mpr ⟨List.mem_of_getElem? (i := 650) (by decide +kernel), by decide +kernel⟩
theorem f_l9 : Cond.methodLink RJ1 9 yJ0_checkIndex_df160 ∈ BIG := List.mem_filter.mpr ⟨List.mem_of_getElem? (i := 653) (by decide +kernel), by decide +kernel⟩
theorem f_l1059 : Cond.methodLink RJ0 1059 yJ3_checkIndex_8e157 ∈ BIG := List.mem_filter.mpr ⟨List.mem_of_getElem? (i := 658) (by decide +kernel), by decide +kernel⟩
theorem f_f38 : Cond.fieldLink RJ0 38 "java/lang/String" "COMPACT_STRINGS" "Z" ∈ BIG := List.mem_filter.mpr ⟨List.mem_of_getElem? (i := 648) (by decide +kernel), by decide +kernel⟩
theorem f_f15 : Cond.fieldLink RJ0 15 "java/lang/String" "coder" "B" ∈ BIG := List.mem_filter.mpr ⟨List.mem_of_getElem? (i := 1038) (by decide +kernel), by decide +kernel⟩
theorem f_f9 : Cond.fieldLink RJ0 9 "java/lang/String" "value" "[B" ∈ BIG := List.mem_filter.mpr ⟨List.mem_of_getElem? (i := 1039) (by decide +kernel), by decide +kernel⟩
theorem f_f1053 : Cond.fieldLink RJ0 1053 "jdk/internal/util/Preconditions" "SIOOBE_FORMATTER" "Ljava/util/function/BiFunction;" ∈ BIG := List.mem_filter.mpr ⟨List.mem_of_getElem? (i := 656) (by decide +kernel), by decide +kernel⟩
section FACTS
variable {p : Program} {l : Launch} {e : Env} {R : Room} {s : State} {m : MethodId} {args : Array Value} {below : List Frame} {meth : Method} {c : Code} {cells slots : Nat} {Qf : State → Prop} {D : va_G} {A : Nat → Nat} {n : Nat → Nat} {cI cG cR : ClassId} {Acc : Nat → Prop} {nL : Nat} {S : Nat → Nat → Int32} {pc : Nat} {L : List (Nat × Value)} {st : List Value} {cc : ByteArray} {aK aV : Nat} {own : String}
theorem k_nest_isRoot (C : Cx p s m args c cc nL RX2 D (tyC cI cG cR) 32 A (FxC aK aV) Acc) {a0 : Value} {Q : Bool → (Nat → Nat → Int32) → Prop} {fr lo : Nat} {rest : List Value} (h : Ct l D (tyC cI cG cR) 32 A (ceC A n cI cG cR) (FxC aK aV) yX4_isRoot cX4_isRoot 1 (some .boolean) fr lo [a0] S rZ Q) (hR : fr + 1 ≤ R.frames ∧ 8 + (1 + 11) + lo ≤ R.locals) (hcat : (rest.map fun v => v.category).sum ≤ 8) (hcs : cells ≤ R.cells ∧ slots ≤ R.slots) (d : decode cc pc = .ok (.invokestatic 69, 3)) (q : Nat) (hq : pc + 3 = q) (K : ∀ (r : Bool) S1, Q r S1 → J p l e R s m args below meth c cells slots Qf D 32 A (ceC A n cI cG cR) Acc nL S1 q L (.int (bI r) :: rest)) : J p l e R s m args below meth c cells slots Qf D 32 A (ceC A n cI cG cR) Acc nL S pc L (a0 :: rest) := by
  subst hq
  intro H locs ls hP hS hl
  have hts := C.2.2.2.2.1
  have hG : GoodIn (wsq yX4_isRoot cX4_isRoot 1 (some .boolean)) (wsq yX4_isRoot cX4_isRoot 1 (some .boolean)) := fun w hw => ⟨hw, by
    rcases List.mem_cons.mp hw with rfl | h
    · exact BIG_good _ f_cd
    · exact BIG_good _ h⟩
  refine r_after C hS hl (va_runSN (host := "StoreNotes") ⟨C.1, C.2.1, C.2.2.1, C.2.2.2.1, C.2.2.2.2.1⟩ (h H.size) ⟨va_cnB (Ts := wsq yX4_isRoot cX4_isRoot 1 (some .boolean)) 1 (fun w hw => by
    rcases List.mem_cons.mp hw with rfl | h
    · exact hts _ f_cd
    · exact hts _ h) hG rfl rfl rfl C.2.2.2.2.2.2.2.2.2.2.2.2.2.2.2.1 (hts _ f_in) ⟨by decide +kernel, by decide +kernel, (show (parseMethodDescriptor yX4_isRoot.desc).map (fun d => d.parameters.length) = some 1 by decide +kernel)⟩ hR, hts _ f_st, trivial⟩ ⟨PP_blind C.2.2.2.2.2.2.2.2.2.1, pre_in C hP hS _⟩ rfl rfl hl.1 rfl (lv_room hcat) d ⟨hcs.1, hcs.2⟩) K
theorem r_x_gets (C : Cx p s m args c cc nL own D (tyC cI cG cR) 32 A (FxC aK aV) Acc) {C0 nn dd : String} {v : Value} {index : Nat} (hZ : va_Z C0 nn dd v Acc s s.heap) (hlink : Cond.fieldLink own index C0 nn dd ∈ BIG) (d : decode cc pc = .ok (.getstatic index, 3)) (q : Nat) (hq : pc + 3 = q) (K : J p l e R s m args below meth c cells slots Qf D 32 A (ceC A n cI cG cR) Acc nL S q L (v :: st)) : J p l e R s m args below meth c cells slots Qf D 32 A (ceC A n cI cG cR) Acc nL S pc L st := by
  subst hq
  exact fun H locs ls hP hS hl => va_gets C.1 C.2.1 hZ hS C.2.2.2.1 (C.2.2.2.2.1 _ hlink) (fun _ h => h) d (K H locs ls hP hS hl)
theorem r_x_getf (C : Cx p s m args c cc nL own D (tyC cI cG cR) 32 A (FxC aK aV) Acc) {C0 nn dd : String} {v : Value} {index a : Nat} (hE : va_OF C0 nn dd v a Acc s s.heap) (hlink : Cond.fieldLink own index C0 nn dd ∈ BIG) (d : decode cc pc = .ok (.getfield index, 3)) (q : Nat) (hq : pc + 3 = q) (K : J p l e R s m args below meth c cells slots Qf D 32 A (ceC A n cI cG cR) Acc nL S q L (v :: st)) : J p l e R s m args below meth c cells slots Qf D 32 A (ceC A n cI cG cR) Acc nL S pc L (.ref a :: st) := by
  subst hq
  exact fun H locs ls hP hS hl => vk_getf C.1 C.2.1 hE hS C.2.2.2.1 (C.2.2.2.2.1 _ hlink) (fun _ h => h) d (K H locs ls hP hS hl)
theorem r_x_len (C : Cx p s m args c cc nL own D (tyC cI cG cR) 32 A (FxC aK aV) Acc) {N0 a : Nat} {f : Nat → Value} {v : Int32} (hT : va_T .byte a N0 f Acc s s.heap) (hv : Int32.ofNat N0 = v) (d : decode cc pc = .ok (.arraylength, 1)) (q : Nat) (hq : pc + 1 = q) (K : J p l e R s m args below meth c cells slots Qf D 32 A (ceC A n cI cG cR) Acc nL S q L (.int v :: st)) : J p l e R s m args below meth c cells slots Qf D 32 A (ceC A n cI cG cR) Acc nL S pc L (.ref a :: st) := by
  subst hq
  exact fun H locs ls hP hS hl => va_tlen C.1 C.2.1 hT hS hv d (K H locs ls hP hS hl)
theorem r_x_bald (C : Cx p s m args c cc nL own D (tyC cI cG cR) 32 A (FxC aK aV) Acc) {N0 a : Nat} {f : Nat → Value} {i : Int32} {v : Value} (hT : va_T .byte a N0 f Acc s s.heap) (hin : vp_in i N0) (hv : f i.toNatClampNeg = v) (d : decode cc pc = .ok (.baload, 1)) (q : Nat) (hq : pc + 1 = q) (K : J p l e R s m args below meth c cells slots Qf D 32 A (ceC A n cI cG cR) Acc nL S q L (v :: st)) : J p l e R s m args below meth c cells slots Qf D 32 A (ceC A n cI cG cR) Acc nL S pc L (.int i :: .ref a :: st) := by
  subst hq
  exact fun H locs ls hP hS hl => va_tb C.1 C.2.1 hT hS hin hv d (K H locs ls hP hS hl)
theorem r_i2c (C : Cx p s m args c cc nL own D (tyC cI cG cR) 32 A (FxC aK aV) Acc) {x v : Int32} (hv : x.toUInt32.toUInt16.toUInt32.toInt32 = v) (d : decode cc pc = .ok (.i2c, 1)) (q : Nat) (hq : pc + 1 = q) (K : J p l e R s m args below meth c cells slots Qf D 32 A (ceC A n cI cG cR) Acc nL S q L (.int v :: st)) : J p l e R s m args below meth c cells slots Qf D 32 A (ceC A n cI cG cR) Acc nL S pc L (.int x :: st) := by
  subst hq
  exact fun H locs ls hP hS hl => lv_i2c C.1 C.2.1 d hv (K H locs ls hP hS hl)
theorem r_ldcT (C : Cx p s m args c cc nL RX2 D (tyC cI cG cR) 32 A (FxC aK aV) Acc) (d : decode cc pc = .ok (.ldc 57, 2)) (q : Nat) (hq : pc + 2 = q) (K : J p l e R s m args below meth c cells slots Qf D 32 A (ceC A n cI cG cR) Acc nL S q L (.ref aK :: st)) : J p l e R s m args below meth c cells slots Qf D 32 A (ceC A n cI cG cR) Acc nL S pc L st := by
  subst hq
  exact fun H locs ls hP hS hl => va_ldcS C.1 C.2.1 C.2.2.2.1 C.2.2.2.2.2.2.2.2.2.2.2.2.2.2.2.2.1 d (K H locs ls hP hS hl)
/-- a call of a virtual method on the literal -/
theorem r_x_callV (C : Cx p s m args c cc nL own D (tyC cI cG cR) 32 A (FxC aK aV) Acc) {ρ : Type} {ret : ρ → Option Value} {Q : ρ → (Nat → Nat → Int32) → Prop} {y : MethodName} {cy : ByteArray} {ny : Nat} {ry : Option FieldType} {fr lo index : Nat} {As : List Value} (rest : List Value) {st0 : List Value}
    (h : Ct l D (tyC cI cG cR) 32 A (ceC A n cI cG cR) (FxC aK aV) y cy ny ry fr lo (.ref aK :: As) S ret Q) (hy : y.cls = "java/lang/String")
    (hcode : Cond.code y cy ny ry ∈ BIG) (hini : Cond.initialized y.cls ∈ BIG) (hinst : Cond.instanceMethod y ∈ BIG) (hsel : Cond.selects y.cls y y ∈ BIG) (hlink : Cond.methodLink own index y ∈ BIG)
    (hd : y.cls ≠ "java/lang/invoke/MethodHandle" ∧ y.cls ≠ "java/lang/invoke/VarHandle" ∧ (parseMethodDescriptor y.desc).map (fun d => d.parameters.length) = some As.length) (hR : fr + 1 ≤ R.frames ∧ 8 + (ny + 11) + lo ≤ R.locals) (hst : st0 = As.reverse ++ .ref aK :: rest) (hcat : (rest.map fun v => v.category).sum ≤ 8) (hcs : cells ≤ R.cells ∧ slots ≤ R.slots)
    (d : decode cc pc = .ok (.invokevirtual index, 3)) (q : Nat) (hq : pc + 3 = q) (K : ∀ (r : ρ) (S1 : Nat → Nat → Int32), Q r S1 → J p l e R s m args below meth c cells slots Qf D 32 A (ceC A n cI cG cR) Acc nL S1 q L ((ret r).toList ++ rest)) : J p l e R s m args below meth c cells slots Qf D 32 A (ceC A n cI cG cR) Acc nL S pc L st0 := by
  subst hq
  intro H locs ls hP hS hl
  have hE := C.2.2.2.2.2.2.2.2.2.2.2.2.1
  refine r_after C hS hl (va_runV (C := "java/lang/String") ⟨C.1, C.2.1, C.2.2.1, C.2.2.2.1, C.2.2.2.2.1⟩ (h H.size) ⟨cb_of C As.length hcode hini hlink hd hR, C.2.2.2.2.1 _ hinst, by rw [← hy]; exact C.2.2.2.2.1 _ hsel⟩ ⟨PP_blind C.2.2.2.2.2.2.2.2.2.1, vk_recv hE (i := 0) (by decide) hS, pre_in C hP hS _⟩ rfl rfl hl.1 hst (lv_room hcat) d ⟨hcs.1, hcs.2⟩) K
end FACTS
