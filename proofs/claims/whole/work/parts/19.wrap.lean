/-! the law's wrappers -/
def FxW (aK aV : Nat) (B : Nat → Prop) (U : State) (H : Heap) : Prop := FxC aK aV B U H ∧ va_Nc "java/lang/IllegalArgumentException" "java/lang/IndexOutOfBoundsException" U ∧ va_Nc "java/lang/IllegalStateException" "java/lang/IndexOutOfBoundsException" U
theorem hFw {aK aV : Nat} : StX (FxW aK aV) := ⟨fun B u U H hW h => ⟨hFx.1 B u U H hW h.1, h.2.1.moved hW.alike, h.2.2.moved hW.alike⟩, fun B U H H1 h hq => ⟨hFx.2.1 B U H H1 h.1 hq, h.2⟩, fun B C U H h hBC => ⟨hFx.2.2 B C U H h.1 hBC, h.2⟩⟩
def wsqW (y : MethodName) (cc : ByteArray) (n : Nat) (ret : Option FieldType) (hh : List (Nat × Nat × Nat × Nat)) : List Cond := .codeWith y cc n ret hh :: BIG
def PW (argsL : List Value) (w0 : va_W) (D : va_G) (tys : List (ClassId × FieldType)) (X : (Nat → Prop) → State → Heap → Prop) (sz : Nat) : Array Value → State → Prop :=
  va_Pc argsL (fun U => U.heap.size = sz ∧ va_P D vwCl w0 U.heap ∧ va_K D vwCl tys U ∧ va_D (fun _ => True) w0 ∧ X (va_A w0 sz) U U.heap)
def CnW (l : Launch) (D : va_G) (tys : List (ClassId × FieldType)) (X : (Nat → Prop) → State → Heap → Prop) (y : MethodName) (cy : ByteArray) (nL : Nat) (rt : Option FieldType) (hh : List (Nat × Nat × Nat × Nat)) (fr lo mc ms : Nat) (argsL : List Value) (w0 : va_W) (Qc : Option Value → va_W → Prop) : Prop :=
  ∀ sz, Met l y (wsqW y cy nL rt hh) ({ frames := fr, cells := mc, slots := ms, locals := lo }) (PW argsL w0 D tys X sz) (QN Qc D tys (va_A w0 sz)) mc ms (va_A w0 sz)
theorem PW_blind {argsL : List Value} {w0 : va_W} {D : va_G} {tys : List (ClassId × FieldType)} {X : (Nat → Prop) → State → Heap → Prop} {sz : Nat} (hX : StX X) : FrameBlind (PW argsL w0 D tys X sz) := by
  intro a U g mk q
  obtain ⟨q0, q1, qP, qK, qD, qX⟩ := q
  exact ⟨q0, q1, qP, va_K.moved (u := U) (U := U.calling g mk a) (Vm.Alike.refl U.vm) qK, qD, hX.1 _ U _ _ (State.WarmedH.refl U) qX⟩
def Catches (s : State) (args : Array Value) (c : Code) (pc : Nat) (E : String) (hpc : Nat) : Prop :=
  ∃ (pre : List ExceptionTableEntry) (x : ExceptionTableEntry) (suf : List ExceptionTableEntry), c.exceptionTable.toList = pre ++ x :: suf ∧ (∀ z ∈ pre, covers z pc = false ∨ (z.catchType ≠ 0 ∧ ∃ nm : String, (Cond.classLink RL z.catchType nm).before args s = true ∧ va_Nc E nm s)) ∧ covers x pc = true ∧ x.catchType ≠ 0 ∧ (∃ name : String, (Cond.classLink RL x.catchType name).before args s = true ∧ (Cond.castable E name).before args s = true) ∧ x.handlerPc = hpc
section WRAP
variable {p : Program} {l : Launch} {e : Env} {R : Room} {s : State} {m : MethodId} {args : Array Value} {below : List Frame} {meth : Method} {c : Code} {cells slots : Nat} {Qf : State → Prop} {D : va_G} {Acc : Nat → Prop} {nL : Nat} {ws : va_W} {pc : Nat} {L : List (Nat × Value)} {st : List Value} {cc : ByteArray} {own : String} {tys : List (ClassId × FieldType)}
theorem CnW.of {X : (Nat → Prop) → State → Heap → Prop} {y : MethodName} {rt : Option FieldType} {hh : List (Nat × Nat × Nat × Nat)} {fr lo mc ms : Nat} {argsL : List Value} {w0 : va_W} {Qc : Option Value → va_W → Prop}
    (hy : plainName y.cls = true) (L : List (Nat × Value)) (hL : lv_args 0 argsL = L) (hn : (lg_sl argsL).length ≤ nL)
    (body : ∀ (p : Program) (e : Env) (s : State) (m : MethodId) (args : Array Value) (below : List Frame) (meth : Method) (c : Code) (Acc : Nat → Prop), Cw p s m args c cc nL y.cls D tys Acc → meth.sig.returnType = rt → meth.locks = false → c.exceptionTable.toList = tableOf hh → X Acc s s.heap →
      ∀ Qf, Qf = MQ below (QN Qc D tys Acc) args s mc ms Acc → JW p l e ({ frames := fr, cells := mc, slots := ms, locals := lo }) s m args below meth c 0 0 Qf D Acc nL w0 0 L []) : CnW l D tys X y cc nL rt hh fr lo mc ms argsL w0 Qc := by
  intro sz
  refine va_MetW (cc := cc) (maxL := nL) (ret := rt) (hh := hh) hy rfl ?_
  intro p e s m args below meth c s₁ B hml hv
  obtain ⟨rfl, hsz, hP, hK, hD, hXs⟩ := hv
  subst hsz
  have hts := atoms_spec (ws := wsqW y cc nL rt hh) B.pre
  have hl := lv_entry argsL (n := nL) hn
  rw [lg_entry_eq]
  rw [hL] at hl
  exact body p e s m _ below meth c (va_A w0 s.heap.size) ⟨B.exec, B.bytes, hml, findClass_of_methodNamed B.named, fun w hw => hts w (List.mem_cons_of_mem _ hw), hK, fun q hq => Or.inr hq⟩ B.returns B.notSynchronized (vx_table (x := y) B (hts _ List.mem_cons_self)) hXs _ rfl s.heap [] _ ⟨hP, hD.self (sz := s.heap.size)⟩ va_S.rf hl
theorem n_i2l (C : Cw p s m args c cc nL own D tys Acc) {x : Int32} (d : decode cc pc = .ok (.i2l, 1)) (q : Nat) (hq : pc + 1 = q) (K : JW p l e R s m args below meth c cells slots Qf D Acc nL ws q L (.long x.toInt64 :: st)) : JW p l e R s m args below meth c cells slots Qf D Acc nL ws pc L (.int x :: st) := by
  subst hq
  exact fun H locs ls hP hS hl => lv_i2l C.1 C.2.1 d rfl (K H locs ls hP hS hl)
theorem n_last (C : Cw p s m args c cc nL own D tys Acc) (k t0 : Nat) {a : Nat} {cA : ClassId} {nn : Nat} {f : Nat → Int64} (ha : ws[k]? = some (a, .inl (cA, nn, .inr (.inl f)))) (ht : tys[t0]? = some (cA, .long)) {i : Int32} {x : Int64} (hin : vp_in i nn) (d : decode cc pc = .ok (.lastore, 1)) (q : Nat) (hq : pc + 1 = q) (w1 : va_W) (hw : ws.set k (a, .inl (cA, nn, .inr (.inl (vp_updL f i.toNatClampNeg x)))) = w1) (K : JW p l e R s m args below meth c cells slots Qf D Acc nL w1 q L st) : JW p l e R s m args below meth c cells slots Qf D Acc nL ws pc L (.long x :: .int i :: .ref a :: st) := by
  subst hq
  subst hw
  exact fun H locs ls hP hS hl => va_last C.1 C.2.1 C.2.2.2.2.2.1 hP.1 hP.2 hS k t0 ha ht hin d (fun H1 locs1 hP1 hD1 hS1 => K H1 locs1 ls ⟨hP1, hD1⟩ hS1 hl)
theorem n_lald (C : Cw p s m args c cc nL own D tys Acc) (k t0 : Nat) {a : Nat} {cA : ClassId} {nn : Nat} {f : Nat → Int64} (ha : ws[k]? = some (a, .inl (cA, nn, .inr (.inl f)))) (ht : tys[t0]? = some (cA, .long)) {i : Int32} (hin : vp_in i nn) (d : decode cc pc = .ok (.laload, 1)) (q : Nat) (hq : pc + 1 = q) (K : JW p l e R s m args below meth c cells slots Qf D Acc nL ws q L (.long (f i.toNatClampNeg) :: st)) : JW p l e R s m args below meth c cells slots Qf D Acc nL ws pc L (.int i :: .ref a :: st) := by
  subst hq
  exact fun H locs ls hP hS hl => va_lald C.1 C.2.1 C.2.2.2.2.2.1 hP.1 k t0 ha ht hin d (K H locs ls hP hS hl)
/-- the cells of a fixed world, among others -/
theorem A_wd {N : Nat} {A : Nat → Nat} {ce : Nat → (Nat → Int32) → va_E} {S : Nat → Nat → Int32} {sz : Nat} : ∀ q, va_A (wd N A ce S) sz q ↔ acc N A sz q := fun q => by
  constructor
  · rintro (⟨k, e, h⟩ | h)
    · obtain ⟨h1, h2⟩ := wd_of h
      exact Or.inl ⟨k, h1, congrArg Prod.fst h2⟩
    · exact Or.inr h
  · rintro (⟨k, h, rfl⟩ | h)
    · exact Or.inl ⟨k, _, wd_at h⟩
    · exact Or.inr h
/-- a call of a method that returns or throws, on a fixed world that lies among other cells; what is thrown is caught here -/
theorem n_callVX {aK aV : Nat} {n : Nat → Nat} {A : Nat → Nat} {cI cG cR cL : ClassId} (C : Cw p s m args c cc nL RL D [(cI, .int), (cG, .object "StoreNotes$Generation"), (cR, .object "StoreNotes$Row"), (cL, .long)] Acc) (hXs : FxW aK aV Acc s s.heap) {ρ : Type} {ret : ρ → Option Value} {Q : ρ → (Nat → Nat → Int32) → Prop} {QX : String → (Nat → Nat → Int32) → Prop} {y : MethodName} {cy : ByteArray} {ny : Nat} {ry : Option FieldType} {fr lo mc1 ms1 index : Nat} {As : List Value} {S : Nat → Nat → Int32} (wc : va_W) (rest : List Value) {st0 : List Value}
    (hw : ws = wd 32 A (ceC A n cI cG cR) S ++ wc) (h : Cv l D (tyC cI cG cR) 32 A (ceC A n cI cG cR) (FxC aK aV) y cy ny ry fr lo mc1 ms1 (.ref (A 0) :: As) S ret Q QX) (hi : Apart 32 A) (hy : y.cls = RX4)
    (hcode : Cond.code y cy ny ry ∈ BIG) (hini : Cond.initialized y.cls ∈ BIG) (hinst : Cond.instanceMethod y ∈ BIG) (hsel : Cond.selects y.cls y y ∈ BIG) (hlink : Cond.methodLink RL index y ∈ BIG)
    (hd : y.cls ≠ "java/lang/invoke/MethodHandle" ∧ y.cls ≠ "java/lang/invoke/VarHandle" ∧ (parseMethodDescriptor y.desc).map (fun d => d.parameters.length) = some As.length) (hR : fr + 1 ≤ R.frames ∧ 8 + (ny + 11) + lo ≤ R.locals) (hst : st0 = As.reverse ++ .ref (A 0) :: rest) (hcat : (rest.map fun v => v.category).sum ≤ 8) (c1 s1 : Nat) (hc : cells + mc1 = c1) (hs : slots + ms1 = s1) (hcs : c1 ≤ R.cells ∧ s1 ≤ R.slots)
    (d : decode cc pc = .ok (.invokevirtual index, 3)) (q : Nat) (hq : pc + 3 = q)
    (K : ∀ (r : ρ) (S1 : Nat → Nat → Int32), Q r S1 → JW p l e R s m args below meth c c1 s1 Qf D Acc nL (wd 32 A (ceC A n cI cG cR) S1 ++ wc) q L ((ret r).toList ++ rest))
    (KX : ∀ (E : String) (S1 : Nat → Nat → Int32), QX E S1 → ∃ hpc, Catches s args c pc E hpc ∧ ∀ b : Nat, JW p l e R s m args below meth c c1 s1 Qf D Acc nL (wd 32 A (ceC A n cI cG cR) S1 ++ wc) hpc L [.ref b]) : JW p l e R s m args below meth c cells slots Qf D Acc nL ws pc L st0 := by
  subst hq
  subst hw
  subst hc
  subst hs
  intro H locs ls hP hS hl
  have hts := C.2.2.2.2.1
  have hP' : va_P D vwCl ([] ++ (wd 32 A (ceC A n cI cG cR) S ++ wc)) H ∧ va_D Acc ([] ++ (wd 32 A (ceC A n cI cG cR) S ++ wc)) := hP
  have hF := mid_in C hP'.2 hS.1
  have hG : GoodIn (wsq y cy ny ry) (wsq y cy ny ry) := fun w hw => ⟨hw, by
    rcases List.mem_cons.mp hw with rfl | h
    · exact BIG_good _ hcode
    · exact BIG_good _ h⟩
  have cb : CallB R s args RL index y cy ny ry (wsq y cy ny ry) ({ frames := fr, cells := mc1, slots := ms1, locals := lo }) mc1 ms1 As.length := callB_of (Ts := wsq y cy ny ry) As.length (fun w hw => by
    rcases List.mem_cons.mp hw with rfl | h
    · exact hts _ hcode
    · exact hts _ h) hG rfl rfl rfl (hts _ hini) (hts _ hlink) hd hR
  have hK32 : va_K D vwCl (tyC cI cG cR) s := C.2.2.2.2.2.1.sub [0, 1, 2] rfl
  have hPw : va_P D vwCl (wd 32 A (ceC A n cI cG cR) S) H := (P_app.mp hP.1).1
  have pre : ∀ U : State, U.heap = H → s.WarmedH U.vm → PP (.ref (A 0) :: As) S D (tyC cI cG cR) 32 A (ceC A n cI cG cR) (FxC aK aV) H.size (Value.ref (A 0) :: As).toArray U := by
    intro U hU hW
    refine ⟨rfl, by rw [hU], by rw [hU]; exact hPw, va_K.moved hW.alike hK32, ?_⟩
    have h1 : FxC aK aV Acc s H := hFx.2.1 _ _ _ _ hXs.1 (fun a h1 h2 => hS.2.1 a h1 h2)
    have h2 : FxC aK aV (acc 32 A H.size) s H := hFx.2.2 _ _ _ _ h1 (fun q h => hF q ((A_wd q).mpr h))
    rw [hU]
    exact hFx.1 _ _ _ _ hW h2
  have hr := vx_runV (C := RX4) (e := e) (cells := cells) (slots := slots) (locs := locs) (below := below) (meth := meth) (H := H) (rest := rest) (g := F0 m pc ls st0) ⟨C.1, C.2.1, C.2.2.1, C.2.2.2.1, hts⟩ (h H.size) ⟨cb, hts _ hinst, by rw [← hy]; exact hts _ hsel⟩ ⟨PP_blind hFx, va_recv hK32 hPw (ci := 4) (q0 := 0) rfl (by rw [wd_at (by decide), heC_4]), pre⟩ rfl rfl hl.1 hst (lv_room hcat) d hcs
  have frame : ∀ (T' : State) (L1 : List Loc) (st₀ t : State), st₀.heap = H → T'.heap = t.heap → (∀ q ∈ L1, acc 32 A H.size q.base) → va_F (acc 32 A H.size) st₀ t → va_S Acc s.heap T'.heap (locs ++ L1) ∧ (∀ q : Nat, q < H.size → ¬ va_A (wd 32 A (ceC A n cI cG cR) S) H.size q → T'.heap[q]? = H[q]?) := by
    intro T' L1 st₀ t h0 e1 hL hF2
    obtain ⟨hz, hk⟩ := hF2
    rw [h0] at hz hk
    have hF3 : ∀ q, acc 32 A H.size q → Acc q := fun q h => hF q ((A_wd q).mpr h)
    exact ⟨⟨Nat.le_trans hS.1 (by rw [e1]; exact hz), fun q h1 h2 => by
      rw [e1, hk q (Nat.lt_of_lt_of_le h1 hS.1) (fun z => h2 (hF3 q z))]; exact hS.2.1 q h1 h2, fun q hq => by
      rcases List.mem_append.mp hq with h | h
      · exact hS.2.2 q h
      · exact hF3 _ (hL q h)⟩, fun q h1 h2 => by rw [e1]; exact hk q h1 (fun z => h2 ((A_wd q).mpr z))⟩
  have mid : ∀ (S1 : Nat → Nat → Int32) (H1 : Heap), va_P D vwCl (wd 32 A (ceC A n cI cG cR) S1) H1 → (∀ q : Nat, q < H.size → ¬ va_A (wd 32 A (ceC A n cI cG cR) S) H.size q → H1[q]? = H[q]?) → va_P D vwCl (wd 32 A (ceC A n cI cG cR) S1 ++ wc) H1 ∧ va_D Acc (wd 32 A (ceC A n cI cG cR) S1 ++ wc) := by
    intro S1 H1 hP1 hk
    exact PD_mid (wa := []) hP'.1 hP'.2 hk hF hP1 (wd_D hi (fun k hk => (A_wd _).mpr (Or.inl ⟨k, hk, rfl⟩)))
  intro T hT X0
  rcases hr T hT X0 with ⟨v, st₀, t, T', L1, h0, X', hL, e1, e2, ⟨⟨r, S1, hv, hq, hP1, hK1⟩, hF1⟩, st⟩ | ⟨qx, st₀, t, T', L1, E, ce0, h0, X', hL, e1, e2, ⟨⟨S1, hq, hP1, hK1⟩, hF1⟩, hcell, hcv, hcl, st⟩
  · cases hv
    obtain ⟨hS1, hk1⟩ := frame T' L1 st₀ t h0 e1 hL hF1
    obtain ⟨t2, a1, b1⟩ := K r S1 hq T'.heap (locs ++ L1) ls (mid S1 _ (by rw [e1]; exact hP1) hk1) hS1 hl T' rfl X'
    exact ⟨t2, st t2 a1, b1⟩
  · obtain ⟨hS1, hk1⟩ := frame T' L1 st₀ t h0 e1 hL hF1
    obtain ⟨hpc, ⟨pre9, x9, suf9, g1, g2, g3, g4, ⟨nm9, g5, g6⟩, rfl⟩, kk⟩ := KX E S1 hq
    have kk2 := kk qx T'.heap (locs ++ L1) ls (mid S1 _ (by rw [e1]; exact hP1) hk1) hS1 hl
    obtain ⟨t2, a1, b1⟩ := vx_catch (H := T'.heap) (E := E) (ce := ce0) (q := qx) (pc := pc) (ls := ls) (rest := rest) C.2.2.2.1 pre9 x9 suf9 g1 g2 g3 g4 g5 g6 (by rw [e1]; exact hcell) hcv hcl kk2 T' rfl X'
    exact ⟨t2, st.trans a1, b1⟩
end WRAP
def outC (aO : Nat) (cL : ClassId) (f : Nat → Int64) : Nat × va_E := (aO, .inl (cL, 1, .inr (.inl f)))
theorem wd_out {A : Nat → Nat} {n : Nat → Nat} {cI cG cR : ClassId} {S : Nat → Nat → Int32} {x : Nat × va_E} : (wd 32 A (ceC A n cI cG cR) S ++ [x])[32]? = some x := by
  rw [List.getElem?_append_right (by rw [wd_len]; exact Nat.le_refl _), wd_len]
  rfl
theorem wd_outs {A : Nat → Nat} {n : Nat → Nat} {cI cG cR : ClassId} {S : Nat → Nat → Int32} {x y : Nat × va_E} : (wd 32 A (ceC A n cI cG cR) S ++ [x]).set 32 y = wd 32 A (ceC A n cI cG cR) S ++ [y] := by
  rw [List.set_append_right (h := by rw [wd_len]; exact Nat.le_refl _), wd_len]
  rfl
abbrev tyL (cI cG cR cL : ClassId) : List (ClassId × FieldType) := [(cI, .int), (cG, .object "StoreNotes$Generation"), (cR, .object "StoreNotes$Row"), (cL, .long)]
def wL_make (n : Nat → Nat) (a1 a2 a3 a4 : Int32) (S : Nat → Nat → Int32) (QW : Int32 → (Nat → Nat → Int32) → Option Int32 → Prop) : Prop := wX4_make n a1 a2 a3 a4 S (fun v S1 => QW 0 S1 (some v)) (fun E S1 => (E = "java/lang/IndexOutOfBoundsException" ∧ QW 1 S1 none) ∨ (E = "java/lang/IllegalArgumentException" ∧ QW 2 S1 none))
theorem b_247 : Cond.codeWith yL_make cL_make 7 (some .int) [(0, 14, 17, 13), (0, 14, 21, 15)] ∈ BIG := List.mem_filter.mpr ⟨List.mem_of_getElem? (i := 247) (by decide +kernel), by decide +kernel⟩
theorem b_253 : Cond.code yX4_make cX4_make 6 (some .int) ∈ BIG := List.mem_filter.mpr ⟨List.mem_of_getElem? (i := 253) (by decide +kernel), by decide +kernel⟩
theorem b_251 : Cond.instanceMethod yX4_make ∈ BIG := List.mem_filter.mpr ⟨List.mem_of_getElem? (i := 251) (by decide +kernel), by decide +kernel⟩
theorem b_252 : Cond.selects RX4 yX4_make yX4_make ∈ BIG := List.mem_filter.mpr ⟨List.mem_of_getElem? (i := 252) (by decide +kernel), by decide +kernel⟩
theorem b_250 : Cond.methodLink RL 7 yX4_make ∈ BIG := List.mem_filter.mpr ⟨List.mem_of_getElem? (i := 250) (by decide +kernel), by decide +kernel⟩
theorem b_248 : Cond.classLink RL 13 "java/lang/IndexOutOfBoundsException" ∈ BIG := List.mem_filter.mpr ⟨List.mem_of_getElem? (i := 248) (by decide +kernel), by decide +kernel⟩
theorem b_249 : Cond.classLink RL 15 "java/lang/IllegalArgumentException" ∈ BIG := List.mem_filter.mpr ⟨List.mem_of_getElem? (i := 249) (by decide +kernel), by decide +kernel⟩
set_option maxRecDepth 100000 in
set_option maxHeartbeats 4000000 in
theorem cnL_make {l : Launch} {D : va_G} {A n : Nat → Nat} {cI cG cR cL : ClassId} {aK aV aO : Nat} {a1 a2 a3 a4 : Int32} {S : Nat → Nat → Int32} {fO : Nat → Int64} {QW : Int32 → (Nat → Nat → Int32) → Option Int32 → Prop} (hst : l.stackTraces = false) (hi : Apart 32 A) (h : wL_make n a1 a2 a3 a4 S QW) : CnW l D (tyL cI cG cR cL) (FxW aK aV) yL_make cL_make 7 (some .int) [(0, 14, 17, 13), (0, 14, 21, 15)] 8 173 2 12 [.ref (A 0), .int a1, .int a2, .int a3, .int a4, .ref aO] (wd 32 A (ceC A n cI cG cR) S ++ [outC aO cL fO]) (fun v w1 => ∃ r S1 ov f1, v = some (.int r) ∧ w1 = wd 32 A (ceC A n cI cG cR) S1 ++ [outC aO cL f1] ∧ QW r S1 ov ∧ ∀ b, ov = some b → f1 0 = b.toInt64) := by
  refine CnW.of (by decide +kernel) [(0, .ref (A 0)), (1, .int a1), (2, .int a2), (3, .int a3), (4, .int a4), (5, .ref aO)] rfl (Nat.le_of_ble_eq_true rfl) ?_
  intro p e s m args below meth c Acc C hr hlk htab hXs Qf hE
  unfold wL_make at h
  refine n_aload C 5 rfl dL_make_0 2 rfl ?_
  refine n_iconst C 0 rfl dL_make_2 3 rfl ?_
  refine n_aload_n C 0 rfl dL_make_3 4 rfl ?_
  refine n_iload_n C 1 rfl dL_make_4 5 rfl ?_
  refine n_iload_n C 2 rfl dL_make_5 6 rfl ?_
  refine n_iload_n C 3 rfl dL_make_6 7 rfl ?_
  refine n_iload C 4 rfl dL_make_7 9 rfl ?_
  refine n_callVX C hXs (As := [.int a1, .int a2, .int a3, .int a4]) [outC aO cL fO] [.int 0, .ref aO] rfl (ctX4_make hst hi h) hi rfl b_253 b_44 b_251 b_252 b_250 ⟨by decide +kernel, by decide +kernel, (show (parseMethodDescriptor yX4_make.desc).map (fun d => d.parameters.length) = some 4 by decide +kernel)⟩ ⟨(Nat.le_of_ble_eq_true rfl), (Nat.le_of_ble_eq_true rfl)⟩ rfl (Nat.le_of_ble_eq_true rfl) 2 12 rfl rfl ⟨(Nat.le_of_ble_eq_true rfl), (Nat.le_of_ble_eq_true rfl)⟩ dL_make_9 12 rfl (fun r S1 h1 => ?_) (fun E S1 h1 => ?_)
  · show JW p l e _ s m args below meth c 2 12 Qf D Acc 7 (wd 32 A (ceC A n cI cG cR) S1 ++ [outC aO cL fO]) 12 [(0, .ref (A 0)), (1, .int a1), (2, .int a2), (3, .int a3), (4, .int a4), (5, .ref aO)] [.int r, .int 0, .ref aO]
    refine n_i2l C dL_make_12 13 rfl ?_
    refine n_last C 32 3 wd_out rfl (show vp_in 0 1 by unfold vp_in; decide) dL_make_13 14 rfl _ wd_outs ?_
    refine n_goto C 25 dL_make_14 rfl ?_
    refine n_iconst C 0 rfl dL_make_25 26 rfl ?_
    exact n_iret C hE hr hlk (Nat.le_of_ble_eq_true rfl) (Nat.le_of_ble_eq_true rfl) dL_make_26 ⟨0, S1, some r, _, rfl, rfl, h1, fun b e => by cases e; rfl⟩
  · rcases h1 with ⟨rfl, h1⟩ | ⟨rfl, h1⟩
    · refine ⟨17, ⟨[], ⟨0, 14, 17, 13⟩, [⟨0, 14, 21, 15⟩], htab.trans rfl, (fun _ h => nomatch h), by decide, by decide, ⟨"java/lang/IndexOutOfBoundsException", C.2.2.2.2.1 _ b_248, hXs.1.2.2.2.2.2.2.2.use _ (by decide)⟩, rfl⟩, fun b => ?_⟩
      refine n_astore C [(6, .ref b), (0, .ref (A 0)), (1, .int a1), (2, .int a2), (3, .int a3), (4, .int a4), (5, .ref aO)] (Nat.le_of_ble_eq_true rfl) rfl dL_make_17 19 rfl ?_
      refine n_iconst C 1 rfl dL_make_19 20 rfl ?_
      exact n_iret C hE hr hlk (Nat.le_of_ble_eq_true rfl) (Nat.le_of_ble_eq_true rfl) dL_make_20 ⟨1, S1, none, _, rfl, rfl, h1, fun b e => nomatch e⟩
    · refine ⟨21, ⟨[⟨0, 14, 17, 13⟩], ⟨0, 14, 21, 15⟩, [], htab.trans rfl, (fun z hz => by rw [List.mem_singleton.mp hz]; exact Or.inr ⟨by decide, "java/lang/IndexOutOfBoundsException", C.2.2.2.2.1 _ b_248, hXs.2.1⟩), by decide, by decide, ⟨"java/lang/IllegalArgumentException", C.2.2.2.2.1 _ b_249, hXs.1.2.2.2.2.2.2.2.use _ (by decide)⟩, rfl⟩, fun b => ?_⟩
      refine n_astore C [(6, .ref b), (0, .ref (A 0)), (1, .int a1), (2, .int a2), (3, .int a3), (4, .int a4), (5, .ref aO)] (Nat.le_of_ble_eq_true rfl) rfl dL_make_21 23 rfl ?_
      refine n_iconst C 2 rfl dL_make_23 24 rfl ?_
      exact n_iret C hE hr hlk (Nat.le_of_ble_eq_true rfl) (Nat.le_of_ble_eq_true rfl) dL_make_24 ⟨2, S1, none, _, rfl, rfl, h1, fun b e => nomatch e⟩
def wL_push (n : Nat → Nat) (a1 a2 a3 : Int32) (S : Nat → Nat → Int32) (QW : Int32 → (Nat → Nat → Int32) → Option Int32 → Prop) : Prop := wX4_push n a1 a2 a3 S (fun v S1 => QW 0 S1 (some v)) (fun E S1 => (E = "java/lang/IndexOutOfBoundsException" ∧ QW 1 S1 none) ∨ (E = "java/lang/IllegalArgumentException" ∧ QW 2 S1 none))
theorem b_432 : Cond.codeWith yL_push cL_push 6 (some .int) [(0, 12, 15, 13), (0, 12, 19, 15)] ∈ BIG := List.mem_filter.mpr ⟨List.mem_of_getElem? (i := 432) (by decide +kernel), by decide +kernel⟩
theorem b_436 : Cond.code yX4_push cX4_push 6 (some .int) ∈ BIG := List.mem_filter.mpr ⟨List.mem_of_getElem? (i := 436) (by decide +kernel), by decide +kernel⟩
theorem b_434 : Cond.instanceMethod yX4_push ∈ BIG := List.mem_filter.mpr ⟨List.mem_of_getElem? (i := 434) (by decide +kernel), by decide +kernel⟩
theorem b_435 : Cond.selects RX4 yX4_push yX4_push ∈ BIG := List.mem_filter.mpr ⟨List.mem_of_getElem? (i := 435) (by decide +kernel), by decide +kernel⟩
theorem b_433 : Cond.methodLink RL 17 yX4_push ∈ BIG := List.mem_filter.mpr ⟨List.mem_of_getElem? (i := 433) (by decide +kernel), by decide +kernel⟩
set_option maxRecDepth 100000 in
set_option maxHeartbeats 4000000 in
theorem cnL_push {l : Launch} {D : va_G} {A n : Nat → Nat} {cI cG cR cL : ClassId} {aK aV aO : Nat} {a1 a2 a3 : Int32} {S : Nat → Nat → Int32} {fO : Nat → Int64} {QW : Int32 → (Nat → Nat → Int32) → Option Int32 → Prop} (hst : l.stackTraces = false) (hi : Apart 32 A) (h : wL_push n a1 a2 a3 S QW) : CnW l D (tyL cI cG cR cL) (FxW aK aV) yL_push cL_push 6 (some .int) [(0, 12, 15, 13), (0, 12, 19, 15)] 8 173 2 12 [.ref (A 0), .int a1, .int a2, .int a3, .ref aO] (wd 32 A (ceC A n cI cG cR) S ++ [outC aO cL fO]) (fun v w1 => ∃ r S1 ov f1, v = some (.int r) ∧ w1 = wd 32 A (ceC A n cI cG cR) S1 ++ [outC aO cL f1] ∧ QW r S1 ov ∧ ∀ b, ov = some b → f1 0 = b.toInt64) := by
  refine CnW.of (by decide +kernel) [(0, .ref (A 0)), (1, .int a1), (2, .int a2), (3, .int a3), (4, .ref aO)] rfl (Nat.le_of_ble_eq_true rfl) ?_
  intro p e s m args below meth c Acc C hr hlk htab hXs Qf hE
  unfold wL_push at h
  refine n_aload C 4 rfl dL_push_0 2 rfl ?_
  refine n_iconst C 0 rfl dL_push_2 3 rfl ?_
  refine n_aload_n C 0 rfl dL_push_3 4 rfl ?_
  refine n_iload_n C 1 rfl dL_push_4 5 rfl ?_
  refine n_iload_n C 2 rfl dL_push_5 6 rfl ?_
  refine n_iload_n C 3 rfl dL_push_6 7 rfl ?_
  refine n_callVX C hXs (As := [.int a1, .int a2, .int a3]) [outC aO cL fO] [.int 0, .ref aO] rfl (ctX4_push hst hi h) hi rfl b_436 b_44 b_434 b_435 b_433 ⟨by decide +kernel, by decide +kernel, (show (parseMethodDescriptor yX4_push.desc).map (fun d => d.parameters.length) = some 3 by decide +kernel)⟩ ⟨(Nat.le_of_ble_eq_true rfl), (Nat.le_of_ble_eq_true rfl)⟩ rfl (Nat.le_of_ble_eq_true rfl) 2 12 rfl rfl ⟨(Nat.le_of_ble_eq_true rfl), (Nat.le_of_ble_eq_true rfl)⟩ dL_push_7 10 rfl (fun r S1 h1 => ?_) (fun E S1 h1 => ?_)
  · show JW p l e _ s m args below meth c 2 12 Qf D Acc 6 (wd 32 A (ceC A n cI cG cR) S1 ++ [outC aO cL fO]) 10 [(0, .ref (A 0)), (1, .int a1), (2, .int a2), (3, .int a3), (4, .ref aO)] [.int r, .int 0, .ref aO]
    refine n_i2l C dL_push_10 11 rfl ?_
    refine n_last C 32 3 wd_out rfl (show vp_in 0 1 by unfold vp_in; decide) dL_push_11 12 rfl _ wd_outs ?_
    refine n_goto C 23 dL_push_12 rfl ?_
    refine n_iconst C 0 rfl dL_push_23 24 rfl ?_
    exact n_iret C hE hr hlk (Nat.le_of_ble_eq_true rfl) (Nat.le_of_ble_eq_true rfl) dL_push_24 ⟨0, S1, some r, _, rfl, rfl, h1, fun b e => by cases e; rfl⟩
  · rcases h1 with ⟨rfl, h1⟩ | ⟨rfl, h1⟩
    · refine ⟨15, ⟨[], ⟨0, 12, 15, 13⟩, [⟨0, 12, 19, 15⟩], htab.trans rfl, (fun _ h => nomatch h), by decide, by decide, ⟨"java/lang/IndexOutOfBoundsException", C.2.2.2.2.1 _ b_248, hXs.1.2.2.2.2.2.2.2.use _ (by decide)⟩, rfl⟩, fun b => ?_⟩
      refine n_astore C [(5, .ref b), (0, .ref (A 0)), (1, .int a1), (2, .int a2), (3, .int a3), (4, .ref aO)] (Nat.le_of_ble_eq_true rfl) rfl dL_push_15 17 rfl ?_
      refine n_iconst C 1 rfl dL_push_17 18 rfl ?_
      exact n_iret C hE hr hlk (Nat.le_of_ble_eq_true rfl) (Nat.le_of_ble_eq_true rfl) dL_push_18 ⟨1, S1, none, _, rfl, rfl, h1, fun b e => nomatch e⟩
    · refine ⟨19, ⟨[⟨0, 12, 15, 13⟩], ⟨0, 12, 19, 15⟩, [], htab.trans rfl, (fun z hz => by rw [List.mem_singleton.mp hz]; exact Or.inr ⟨by decide, "java/lang/IndexOutOfBoundsException", C.2.2.2.2.1 _ b_248, hXs.2.1⟩), by decide, by decide, ⟨"java/lang/IllegalArgumentException", C.2.2.2.2.1 _ b_249, hXs.1.2.2.2.2.2.2.2.use _ (by decide)⟩, rfl⟩, fun b => ?_⟩
      refine n_astore C [(5, .ref b), (0, .ref (A 0)), (1, .int a1), (2, .int a2), (3, .int a3), (4, .ref aO)] (Nat.le_of_ble_eq_true rfl) rfl dL_push_19 21 rfl ?_
      refine n_iconst C 2 rfl dL_push_21 22 rfl ?_
      exact n_iret C hE hr hlk (Nat.le_of_ble_eq_true rfl) (Nat.le_of_ble_eq_true rfl) dL_push_22 ⟨2, S1, none, _, rfl, rfl, h1, fun b e => nomatch e⟩
def wL_put (n : Nat → Nat) (a1 a2 a3 : Int32) (S : Nat → Nat → Int32) (QW : Int32 → (Nat → Nat → Int32) → Option Int32 → Prop) : Prop := wX4_put n a1 a2 a3 S (fun v S1 => QW 0 S1 (some v)) (fun E S1 => (E = "java/lang/IndexOutOfBoundsException" ∧ QW 1 S1 none) ∨ (E = "java/lang/IllegalStateException" ∧ QW 2 S1 none))
theorem b_447 : Cond.codeWith yL_put cL_put 6 (some .int) [(0, 12, 15, 13), (0, 12, 19, 24)] ∈ BIG := List.mem_filter.mpr ⟨List.mem_of_getElem? (i := 447) (by decide +kernel), by decide +kernel⟩
theorem b_452 : Cond.code yX4_put cX4_put 6 (some .int) ∈ BIG := List.mem_filter.mpr ⟨List.mem_of_getElem? (i := 452) (by decide +kernel), by decide +kernel⟩
theorem b_450 : Cond.instanceMethod yX4_put ∈ BIG := List.mem_filter.mpr ⟨List.mem_of_getElem? (i := 450) (by decide +kernel), by decide +kernel⟩
theorem b_451 : Cond.selects RX4 yX4_put yX4_put ∈ BIG := List.mem_filter.mpr ⟨List.mem_of_getElem? (i := 451) (by decide +kernel), by decide +kernel⟩
theorem b_449 : Cond.methodLink RL 21 yX4_put ∈ BIG := List.mem_filter.mpr ⟨List.mem_of_getElem? (i := 449) (by decide +kernel), by decide +kernel⟩
theorem b_448 : Cond.classLink RL 24 "java/lang/IllegalStateException" ∈ BIG := List.mem_filter.mpr ⟨List.mem_of_getElem? (i := 448) (by decide +kernel), by decide +kernel⟩
set_option maxRecDepth 100000 in
set_option maxHeartbeats 4000000 in
theorem cnL_put {l : Launch} {D : va_G} {A n : Nat → Nat} {cI cG cR cL : ClassId} {aK aV aO : Nat} {a1 a2 a3 : Int32} {S : Nat → Nat → Int32} {fO : Nat → Int64} {QW : Int32 → (Nat → Nat → Int32) → Option Int32 → Prop} (hst : l.stackTraces = false) (hi : Apart 32 A) (h : wL_put n a1 a2 a3 S QW) : CnW l D (tyL cI cG cR cL) (FxW aK aV) yL_put cL_put 6 (some .int) [(0, 12, 15, 13), (0, 12, 19, 24)] 9 154 4 24 [.ref (A 0), .int a1, .int a2, .int a3, .ref aO] (wd 32 A (ceC A n cI cG cR) S ++ [outC aO cL fO]) (fun v w1 => ∃ r S1 ov f1, v = some (.int r) ∧ w1 = wd 32 A (ceC A n cI cG cR) S1 ++ [outC aO cL f1] ∧ QW r S1 ov ∧ ∀ b, ov = some b → f1 0 = b.toInt64) := by
  refine CnW.of (by decide +kernel) [(0, .ref (A 0)), (1, .int a1), (2, .int a2), (3, .int a3), (4, .ref aO)] rfl (Nat.le_of_ble_eq_true rfl) ?_
  intro p e s m args below meth c Acc C hr hlk htab hXs Qf hE
  unfold wL_put at h
  refine n_aload C 4 rfl dL_put_0 2 rfl ?_
  refine n_iconst C 0 rfl dL_put_2 3 rfl ?_
  refine n_aload_n C 0 rfl dL_put_3 4 rfl ?_
  refine n_iload_n C 1 rfl dL_put_4 5 rfl ?_
  refine n_iload_n C 2 rfl dL_put_5 6 rfl ?_
  refine n_iload_n C 3 rfl dL_put_6 7 rfl ?_
  refine n_callVX C hXs (As := [.int a1, .int a2, .int a3]) [outC aO cL fO] [.int 0, .ref aO] rfl (ctX4_put hst hi h) hi rfl b_452 b_44 b_450 b_451 b_449 ⟨by decide +kernel, by decide +kernel, (show (parseMethodDescriptor yX4_put.desc).map (fun d => d.parameters.length) = some 3 by decide +kernel)⟩ ⟨(Nat.le_of_ble_eq_true rfl), (Nat.le_of_ble_eq_true rfl)⟩ rfl (Nat.le_of_ble_eq_true rfl) 4 24 rfl rfl ⟨(Nat.le_of_ble_eq_true rfl), (Nat.le_of_ble_eq_true rfl)⟩ dL_put_7 10 rfl (fun r S1 h1 => ?_) (fun E S1 h1 => ?_)
  · show JW p l e _ s m args below meth c 4 24 Qf D Acc 6 (wd 32 A (ceC A n cI cG cR) S1 ++ [outC aO cL fO]) 10 [(0, .ref (A 0)), (1, .int a1), (2, .int a2), (3, .int a3), (4, .ref aO)] [.int r, .int 0, .ref aO]
    refine n_i2l C dL_put_10 11 rfl ?_
    refine n_last C 32 3 wd_out rfl (show vp_in 0 1 by unfold vp_in; decide) dL_put_11 12 rfl _ wd_outs ?_
    refine n_goto C 23 dL_put_12 rfl ?_
    refine n_iconst C 0 rfl dL_put_23 24 rfl ?_
    exact n_iret C hE hr hlk (Nat.le_of_ble_eq_true rfl) (Nat.le_of_ble_eq_true rfl) dL_put_24 ⟨0, S1, some r, _, rfl, rfl, h1, fun b e => by cases e; rfl⟩
  · rcases h1 with ⟨rfl, h1⟩ | ⟨rfl, h1⟩
    · refine ⟨15, ⟨[], ⟨0, 12, 15, 13⟩, [⟨0, 12, 19, 24⟩], htab.trans rfl, (fun _ h => nomatch h), by decide, by decide, ⟨"java/lang/IndexOutOfBoundsException", C.2.2.2.2.1 _ b_248, hXs.1.2.2.2.2.2.2.2.use _ (by decide)⟩, rfl⟩, fun b => ?_⟩
      refine n_astore C [(5, .ref b), (0, .ref (A 0)), (1, .int a1), (2, .int a2), (3, .int a3), (4, .ref aO)] (Nat.le_of_ble_eq_true rfl) rfl dL_put_15 17 rfl ?_
      refine n_iconst C 1 rfl dL_put_17 18 rfl ?_
      exact n_iret C hE hr hlk (Nat.le_of_ble_eq_true rfl) (Nat.le_of_ble_eq_true rfl) dL_put_18 ⟨1, S1, none, _, rfl, rfl, h1, fun b e => nomatch e⟩
    · refine ⟨19, ⟨[⟨0, 12, 15, 13⟩], ⟨0, 12, 19, 24⟩, [], htab.trans rfl, (fun z hz => by rw [List.mem_singleton.mp hz]; exact Or.inr ⟨by decide, "java/lang/IndexOutOfBoundsException", C.2.2.2.2.1 _ b_248, hXs.2.2⟩), by decide, by decide, ⟨"java/lang/IllegalStateException", C.2.2.2.2.1 _ b_448, hXs.1.2.2.2.2.2.2.2.use _ (by decide)⟩, rfl⟩, fun b => ?_⟩
      refine n_astore C [(5, .ref b), (0, .ref (A 0)), (1, .int a1), (2, .int a2), (3, .int a3), (4, .ref aO)] (Nat.le_of_ble_eq_true rfl) rfl dL_put_19 21 rfl ?_
      refine n_iconst C 2 rfl dL_put_21 22 rfl ?_
      exact n_iret C hE hr hlk (Nat.le_of_ble_eq_true rfl) (Nat.le_of_ble_eq_true rfl) dL_put_22 ⟨2, S1, none, _, rfl, rfl, h1, fun b e => nomatch e⟩
def wL_get (n : Nat → Nat) (a1 a2 a3 : Int32) (S : Nat → Nat → Int32) (QW : Int32 → (Nat → Nat → Int32) → Option Int32 → Prop) : Prop := wX4_get n a1 a2 a3 S (fun v S1 => QW 0 S1 (some v)) (fun E S1 => (E = "java/lang/IndexOutOfBoundsException" ∧ QW 1 S1 none) ∨ (E = "java/lang/IllegalStateException" ∧ QW 2 S1 none))
theorem b_493 : Cond.codeWith yL_get cL_get 6 (some .int) [(0, 12, 15, 13), (0, 12, 19, 24)] ∈ BIG := List.mem_filter.mpr ⟨List.mem_of_getElem? (i := 493) (by decide +kernel), by decide +kernel⟩
theorem b_497 : Cond.code yX4_get cX4_get 5 (some .int) ∈ BIG := List.mem_filter.mpr ⟨List.mem_of_getElem? (i := 497) (by decide +kernel), by decide +kernel⟩
theorem b_495 : Cond.instanceMethod yX4_get ∈ BIG := List.mem_filter.mpr ⟨List.mem_of_getElem? (i := 495) (by decide +kernel), by decide +kernel⟩
theorem b_496 : Cond.selects RX4 yX4_get yX4_get ∈ BIG := List.mem_filter.mpr ⟨List.mem_of_getElem? (i := 496) (by decide +kernel), by decide +kernel⟩
theorem b_494 : Cond.methodLink RL 26 yX4_get ∈ BIG := List.mem_filter.mpr ⟨List.mem_of_getElem? (i := 494) (by decide +kernel), by decide +kernel⟩
set_option maxRecDepth 100000 in
set_option maxHeartbeats 4000000 in
theorem cnL_get {l : Launch} {D : va_G} {A n : Nat → Nat} {cI cG cR cL : ClassId} {aK aV aO : Nat} {a1 a2 a3 : Int32} {S : Nat → Nat → Int32} {fO : Nat → Int64} {QW : Int32 → (Nat → Nat → Int32) → Option Int32 → Prop} (hst : l.stackTraces = false) (hi : Apart 32 A) (h : wL_get n a1 a2 a3 S QW) : CnW l D (tyL cI cG cR cL) (FxW aK aV) yL_get cL_get 6 (some .int) [(0, 12, 15, 13), (0, 12, 19, 24)] 8 135 4 24 [.ref (A 0), .int a1, .int a2, .int a3, .ref aO] (wd 32 A (ceC A n cI cG cR) S ++ [outC aO cL fO]) (fun v w1 => ∃ r S1 ov f1, v = some (.int r) ∧ w1 = wd 32 A (ceC A n cI cG cR) S1 ++ [outC aO cL f1] ∧ QW r S1 ov ∧ ∀ b, ov = some b → f1 0 = b.toInt64) := by
  refine CnW.of (by decide +kernel) [(0, .ref (A 0)), (1, .int a1), (2, .int a2), (3, .int a3), (4, .ref aO)] rfl (Nat.le_of_ble_eq_true rfl) ?_
  intro p e s m args below meth c Acc C hr hlk htab hXs Qf hE
  unfold wL_get at h
  refine n_aload C 4 rfl dL_get_0 2 rfl ?_
  refine n_iconst C 0 rfl dL_get_2 3 rfl ?_
  refine n_aload_n C 0 rfl dL_get_3 4 rfl ?_
  refine n_iload_n C 1 rfl dL_get_4 5 rfl ?_
  refine n_iload_n C 2 rfl dL_get_5 6 rfl ?_
  refine n_iload_n C 3 rfl dL_get_6 7 rfl ?_
  refine n_callVX C hXs (As := [.int a1, .int a2, .int a3]) [outC aO cL fO] [.int 0, .ref aO] rfl (ctX4_get hst hi h) hi rfl b_497 b_44 b_495 b_496 b_494 ⟨by decide +kernel, by decide +kernel, (show (parseMethodDescriptor yX4_get.desc).map (fun d => d.parameters.length) = some 3 by decide +kernel)⟩ ⟨(Nat.le_of_ble_eq_true rfl), (Nat.le_of_ble_eq_true rfl)⟩ rfl (Nat.le_of_ble_eq_true rfl) 4 24 rfl rfl ⟨(Nat.le_of_ble_eq_true rfl), (Nat.le_of_ble_eq_true rfl)⟩ dL_get_7 10 rfl (fun r S1 h1 => ?_) (fun E S1 h1 => ?_)
  · show JW p l e _ s m args below meth c 4 24 Qf D Acc 6 (wd 32 A (ceC A n cI cG cR) S1 ++ [outC aO cL fO]) 10 [(0, .ref (A 0)), (1, .int a1), (2, .int a2), (3, .int a3), (4, .ref aO)] [.int r, .int 0, .ref aO]
    refine n_i2l C dL_get_10 11 rfl ?_
    refine n_last C 32 3 wd_out rfl (show vp_in 0 1 by unfold vp_in; decide) dL_get_11 12 rfl _ wd_outs ?_
    refine n_goto C 23 dL_get_12 rfl ?_
    refine n_iconst C 0 rfl dL_get_23 24 rfl ?_
    exact n_iret C hE hr hlk (Nat.le_of_ble_eq_true rfl) (Nat.le_of_ble_eq_true rfl) dL_get_24 ⟨0, S1, some r, _, rfl, rfl, h1, fun b e => by cases e; rfl⟩
  · rcases h1 with ⟨rfl, h1⟩ | ⟨rfl, h1⟩
    · refine ⟨15, ⟨[], ⟨0, 12, 15, 13⟩, [⟨0, 12, 19, 24⟩], htab.trans rfl, (fun _ h => nomatch h), by decide, by decide, ⟨"java/lang/IndexOutOfBoundsException", C.2.2.2.2.1 _ b_248, hXs.1.2.2.2.2.2.2.2.use _ (by decide)⟩, rfl⟩, fun b => ?_⟩
      refine n_astore C [(5, .ref b), (0, .ref (A 0)), (1, .int a1), (2, .int a2), (3, .int a3), (4, .ref aO)] (Nat.le_of_ble_eq_true rfl) rfl dL_get_15 17 rfl ?_
      refine n_iconst C 1 rfl dL_get_17 18 rfl ?_
      exact n_iret C hE hr hlk (Nat.le_of_ble_eq_true rfl) (Nat.le_of_ble_eq_true rfl) dL_get_18 ⟨1, S1, none, _, rfl, rfl, h1, fun b e => nomatch e⟩
    · refine ⟨19, ⟨[⟨0, 12, 15, 13⟩], ⟨0, 12, 19, 24⟩, [], htab.trans rfl, (fun z hz => by rw [List.mem_singleton.mp hz]; exact Or.inr ⟨by decide, "java/lang/IndexOutOfBoundsException", C.2.2.2.2.1 _ b_248, hXs.2.2⟩), by decide, by decide, ⟨"java/lang/IllegalStateException", C.2.2.2.2.1 _ b_448, hXs.1.2.2.2.2.2.2.2.use _ (by decide)⟩, rfl⟩, fun b => ?_⟩
      refine n_astore C [(5, .ref b), (0, .ref (A 0)), (1, .int a1), (2, .int a2), (3, .int a3), (4, .ref aO)] (Nat.le_of_ble_eq_true rfl) rfl dL_get_19 21 rfl ?_
      refine n_iconst C 2 rfl dL_get_21 22 rfl ?_
      exact n_iret C hE hr hlk (Nat.le_of_ble_eq_true rfl) (Nat.le_of_ble_eq_true rfl) dL_get_22 ⟨2, S1, none, _, rfl, rfl, h1, fun b e => nomatch e⟩
def wL_move (n : Nat → Nat) (a1 a2 : Int32) (S : Nat → Nat → Int32) (QW : Int32 → (Nat → Nat → Int32) → Option Int32 → Prop) : Prop := wX4_move n a1 a2 S (fun v S1 => QW 0 S1 (some v)) (fun E S1 => (E = "java/lang/IndexOutOfBoundsException" ∧ QW 1 S1 none))
theorem b_500 : Cond.codeWith yL_move cL_move 5 (some .int) [(0, 10, 13, 13)] ∈ BIG := List.mem_filter.mpr ⟨List.mem_of_getElem? (i := 500) (by decide +kernel), by decide +kernel⟩
theorem b_504 : Cond.code yX4_move cX4_move 3 (some .int) ∈ BIG := List.mem_filter.mpr ⟨List.mem_of_getElem? (i := 504) (by decide +kernel), by decide +kernel⟩
theorem b_502 : Cond.instanceMethod yX4_move ∈ BIG := List.mem_filter.mpr ⟨List.mem_of_getElem? (i := 502) (by decide +kernel), by decide +kernel⟩
theorem b_503 : Cond.selects RX4 yX4_move yX4_move ∈ BIG := List.mem_filter.mpr ⟨List.mem_of_getElem? (i := 503) (by decide +kernel), by decide +kernel⟩
theorem b_501 : Cond.methodLink RL 29 yX4_move ∈ BIG := List.mem_filter.mpr ⟨List.mem_of_getElem? (i := 501) (by decide +kernel), by decide +kernel⟩
set_option maxRecDepth 100000 in
set_option maxHeartbeats 4000000 in
theorem cnL_move {l : Launch} {D : va_G} {A n : Nat → Nat} {cI cG cR cL : ClassId} {aK aV aO : Nat} {a1 a2 : Int32} {S : Nat → Nat → Int32} {fO : Nat → Int64} {QW : Int32 → (Nat → Nat → Int32) → Option Int32 → Prop} (hst : l.stackTraces = false) (hi : Apart 32 A) (h : wL_move n a1 a2 S QW) : CnW l D (tyL cI cG cR cL) (FxW aK aV) yL_move cL_move 5 (some .int) [(0, 10, 13, 13)] 9 151 2 12 [.ref (A 0), .int a1, .int a2, .ref aO] (wd 32 A (ceC A n cI cG cR) S ++ [outC aO cL fO]) (fun v w1 => ∃ r S1 ov f1, v = some (.int r) ∧ w1 = wd 32 A (ceC A n cI cG cR) S1 ++ [outC aO cL f1] ∧ QW r S1 ov ∧ ∀ b, ov = some b → f1 0 = b.toInt64) := by
  refine CnW.of (by decide +kernel) [(0, .ref (A 0)), (1, .int a1), (2, .int a2), (3, .ref aO)] rfl (Nat.le_of_ble_eq_true rfl) ?_
  intro p e s m args below meth c Acc C hr hlk htab hXs Qf hE
  unfold wL_move at h
  refine n_aload_n C 3 rfl dL_move_0 1 rfl ?_
  refine n_iconst C 0 rfl dL_move_1 2 rfl ?_
  refine n_aload_n C 0 rfl dL_move_2 3 rfl ?_
  refine n_iload_n C 1 rfl dL_move_3 4 rfl ?_
  refine n_iload_n C 2 rfl dL_move_4 5 rfl ?_
  refine n_callVX C hXs (As := [.int a1, .int a2]) [outC aO cL fO] [.int 0, .ref aO] rfl (ctX4_move hst hi h) hi rfl b_504 b_44 b_502 b_503 b_501 ⟨by decide +kernel, by decide +kernel, (show (parseMethodDescriptor yX4_move.desc).map (fun d => d.parameters.length) = some 2 by decide +kernel)⟩ ⟨(Nat.le_of_ble_eq_true rfl), (Nat.le_of_ble_eq_true rfl)⟩ rfl (Nat.le_of_ble_eq_true rfl) 2 12 rfl rfl ⟨(Nat.le_of_ble_eq_true rfl), (Nat.le_of_ble_eq_true rfl)⟩ dL_move_5 8 rfl (fun r S1 h1 => ?_) (fun E S1 h1 => ?_)
  · show JW p l e _ s m args below meth c 2 12 Qf D Acc 5 (wd 32 A (ceC A n cI cG cR) S1 ++ [outC aO cL fO]) 8 [(0, .ref (A 0)), (1, .int a1), (2, .int a2), (3, .ref aO)] [.int r, .int 0, .ref aO]
    refine n_i2l C dL_move_8 9 rfl ?_
    refine n_last C 32 3 wd_out rfl (show vp_in 0 1 by unfold vp_in; decide) dL_move_9 10 rfl _ wd_outs ?_
    refine n_goto C 17 dL_move_10 rfl ?_
    refine n_iconst C 0 rfl dL_move_17 18 rfl ?_
    exact n_iret C hE hr hlk (Nat.le_of_ble_eq_true rfl) (Nat.le_of_ble_eq_true rfl) dL_move_18 ⟨0, S1, some r, _, rfl, rfl, h1, fun b e => by cases e; rfl⟩
  · rcases h1 with ⟨rfl, h1⟩
    · refine ⟨13, ⟨[], ⟨0, 10, 13, 13⟩, [], htab.trans rfl, (fun _ h => nomatch h), by decide, by decide, ⟨"java/lang/IndexOutOfBoundsException", C.2.2.2.2.1 _ b_248, hXs.1.2.2.2.2.2.2.2.use _ (by decide)⟩, rfl⟩, fun b => ?_⟩
      refine n_astore C [(4, .ref b), (0, .ref (A 0)), (1, .int a1), (2, .int a2), (3, .ref aO)] (Nat.le_of_ble_eq_true rfl) rfl dL_move_13 15 rfl ?_
      refine n_iconst C 1 rfl dL_move_15 16 rfl ?_
      exact n_iret C hE hr hlk (Nat.le_of_ble_eq_true rfl) (Nat.le_of_ble_eq_true rfl) dL_move_16 ⟨1, S1, none, _, rfl, rfl, h1, fun b e => nomatch e⟩
def wL_keep (n : Nat → Nat) (a1 : Int32) (S : Nat → Nat → Int32) (QW : Int32 → (Nat → Nat → Int32) → Option Int32 → Prop) : Prop := wX4_keep n a1 S (fun v S1 => QW 0 S1 (some v)) (fun E S1 => (E = "java/lang/IndexOutOfBoundsException" ∧ QW 1 S1 none) ∨ (E = "java/lang/IllegalStateException" ∧ QW 2 S1 none))
theorem b_507 : Cond.codeWith yL_keep cL_keep 4 (some .int) [(0, 9, 12, 13), (0, 9, 15, 24)] ∈ BIG := List.mem_filter.mpr ⟨List.mem_of_getElem? (i := 507) (by decide +kernel), by decide +kernel⟩
theorem b_511 : Cond.code yX4_keep cX4_keep 2 (some .int) ∈ BIG := List.mem_filter.mpr ⟨List.mem_of_getElem? (i := 511) (by decide +kernel), by decide +kernel⟩
theorem b_509 : Cond.instanceMethod yX4_keep ∈ BIG := List.mem_filter.mpr ⟨List.mem_of_getElem? (i := 509) (by decide +kernel), by decide +kernel⟩
theorem b_510 : Cond.selects RX4 yX4_keep yX4_keep ∈ BIG := List.mem_filter.mpr ⟨List.mem_of_getElem? (i := 510) (by decide +kernel), by decide +kernel⟩
theorem b_508 : Cond.methodLink RL 33 yX4_keep ∈ BIG := List.mem_filter.mpr ⟨List.mem_of_getElem? (i := 508) (by decide +kernel), by decide +kernel⟩
set_option maxRecDepth 100000 in
set_option maxHeartbeats 4000000 in
theorem cnL_keep {l : Launch} {D : va_G} {A n : Nat → Nat} {cI cG cR cL : ClassId} {aK aV aO : Nat} {a1 : Int32} {S : Nat → Nat → Int32} {fO : Nat → Int64} {QW : Int32 → (Nat → Nat → Int32) → Option Int32 → Prop} (hst : l.stackTraces = false) (hi : Apart 32 A) (h : wL_keep n a1 S QW) : CnW l D (tyL cI cG cR cL) (FxW aK aV) yL_keep cL_keep 4 (some .int) [(0, 9, 12, 13), (0, 9, 15, 24)] 8 130 2 12 [.ref (A 0), .int a1, .ref aO] (wd 32 A (ceC A n cI cG cR) S ++ [outC aO cL fO]) (fun v w1 => ∃ r S1 ov f1, v = some (.int r) ∧ w1 = wd 32 A (ceC A n cI cG cR) S1 ++ [outC aO cL f1] ∧ QW r S1 ov ∧ ∀ b, ov = some b → f1 0 = b.toInt64) := by
  refine CnW.of (by decide +kernel) [(0, .ref (A 0)), (1, .int a1), (2, .ref aO)] rfl (Nat.le_of_ble_eq_true rfl) ?_
  intro p e s m args below meth c Acc C hr hlk htab hXs Qf hE
  unfold wL_keep at h
  refine n_aload_n C 2 rfl dL_keep_0 1 rfl ?_
  refine n_iconst C 0 rfl dL_keep_1 2 rfl ?_
  refine n_aload_n C 0 rfl dL_keep_2 3 rfl ?_
  refine n_iload_n C 1 rfl dL_keep_3 4 rfl ?_
  refine n_callVX C hXs (As := [.int a1]) [outC aO cL fO] [.int 0, .ref aO] rfl (ctX4_keep hst hi h) hi rfl b_511 b_44 b_509 b_510 b_508 ⟨by decide +kernel, by decide +kernel, (show (parseMethodDescriptor yX4_keep.desc).map (fun d => d.parameters.length) = some 1 by decide +kernel)⟩ ⟨(Nat.le_of_ble_eq_true rfl), (Nat.le_of_ble_eq_true rfl)⟩ rfl (Nat.le_of_ble_eq_true rfl) 2 12 rfl rfl ⟨(Nat.le_of_ble_eq_true rfl), (Nat.le_of_ble_eq_true rfl)⟩ dL_keep_4 7 rfl (fun r S1 h1 => ?_) (fun E S1 h1 => ?_)
  · show JW p l e _ s m args below meth c 2 12 Qf D Acc 4 (wd 32 A (ceC A n cI cG cR) S1 ++ [outC aO cL fO]) 7 [(0, .ref (A 0)), (1, .int a1), (2, .ref aO)] [.int r, .int 0, .ref aO]
    refine n_i2l C dL_keep_7 8 rfl ?_
    refine n_last C 32 3 wd_out rfl (show vp_in 0 1 by unfold vp_in; decide) dL_keep_8 9 rfl _ wd_outs ?_
    refine n_goto C 18 dL_keep_9 rfl ?_
    refine n_iconst C 0 rfl dL_keep_18 19 rfl ?_
    exact n_iret C hE hr hlk (Nat.le_of_ble_eq_true rfl) (Nat.le_of_ble_eq_true rfl) dL_keep_19 ⟨0, S1, some r, _, rfl, rfl, h1, fun b e => by cases e; rfl⟩
  · rcases h1 with ⟨rfl, h1⟩ | ⟨rfl, h1⟩
    · refine ⟨12, ⟨[], ⟨0, 9, 12, 13⟩, [⟨0, 9, 15, 24⟩], htab.trans rfl, (fun _ h => nomatch h), by decide, by decide, ⟨"java/lang/IndexOutOfBoundsException", C.2.2.2.2.1 _ b_248, hXs.1.2.2.2.2.2.2.2.use _ (by decide)⟩, rfl⟩, fun b => ?_⟩
      refine n_astore_n C [(3, .ref b), (0, .ref (A 0)), (1, .int a1), (2, .ref aO)] (Nat.le_of_ble_eq_true rfl) rfl dL_keep_12 13 rfl ?_
      refine n_iconst C 1 rfl dL_keep_13 14 rfl ?_
      exact n_iret C hE hr hlk (Nat.le_of_ble_eq_true rfl) (Nat.le_of_ble_eq_true rfl) dL_keep_14 ⟨1, S1, none, _, rfl, rfl, h1, fun b e => nomatch e⟩
    · refine ⟨15, ⟨[⟨0, 9, 12, 13⟩], ⟨0, 9, 15, 24⟩, [], htab.trans rfl, (fun z hz => by rw [List.mem_singleton.mp hz]; exact Or.inr ⟨by decide, "java/lang/IndexOutOfBoundsException", C.2.2.2.2.1 _ b_248, hXs.2.2⟩), by decide, by decide, ⟨"java/lang/IllegalStateException", C.2.2.2.2.1 _ b_448, hXs.1.2.2.2.2.2.2.2.use _ (by decide)⟩, rfl⟩, fun b => ?_⟩
      refine n_astore_n C [(3, .ref b), (0, .ref (A 0)), (1, .int a1), (2, .ref aO)] (Nat.le_of_ble_eq_true rfl) rfl dL_keep_15 16 rfl ?_
      refine n_iconst C 2 rfl dL_keep_16 17 rfl ?_
      exact n_iret C hE hr hlk (Nat.le_of_ble_eq_true rfl) (Nat.le_of_ble_eq_true rfl) dL_keep_17 ⟨2, S1, none, _, rfl, rfl, h1, fun b e => nomatch e⟩
def wL_back (n : Nat → Nat) (a1 : Int32) (S : Nat → Nat → Int32) (QW : Int32 → (Nat → Nat → Int32) → Option Int32 → Prop) : Prop := wX4_back n a1 S (fun v S1 => QW 0 S1 (some v)) (fun E S1 => (E = "java/lang/IndexOutOfBoundsException" ∧ QW 1 S1 none) ∨ (E = "java/lang/IllegalStateException" ∧ QW 2 S1 none))
theorem b_516 : Cond.codeWith yL_back cL_back 4 (some .int) [(0, 9, 12, 13), (0, 9, 15, 24)] ∈ BIG := List.mem_filter.mpr ⟨List.mem_of_getElem? (i := 516) (by decide +kernel), by decide +kernel⟩
theorem b_520 : Cond.code yX4_back cX4_back 2 (some .int) ∈ BIG := List.mem_filter.mpr ⟨List.mem_of_getElem? (i := 520) (by decide +kernel), by decide +kernel⟩
theorem b_518 : Cond.instanceMethod yX4_back ∈ BIG := List.mem_filter.mpr ⟨List.mem_of_getElem? (i := 518) (by decide +kernel), by decide +kernel⟩
theorem b_519 : Cond.selects RX4 yX4_back yX4_back ∈ BIG := List.mem_filter.mpr ⟨List.mem_of_getElem? (i := 519) (by decide +kernel), by decide +kernel⟩
theorem b_517 : Cond.methodLink RL 37 yX4_back ∈ BIG := List.mem_filter.mpr ⟨List.mem_of_getElem? (i := 517) (by decide +kernel), by decide +kernel⟩
set_option maxRecDepth 100000 in
set_option maxHeartbeats 4000000 in
theorem cnL_back {l : Launch} {D : va_G} {A n : Nat → Nat} {cI cG cR cL : ClassId} {aK aV aO : Nat} {a1 : Int32} {S : Nat → Nat → Int32} {fO : Nat → Int64} {QW : Int32 → (Nat → Nat → Int32) → Option Int32 → Prop} (hst : l.stackTraces = false) (hi : Apart 32 A) (h : wL_back n a1 S QW) : CnW l D (tyL cI cG cR cL) (FxW aK aV) yL_back cL_back 4 (some .int) [(0, 9, 12, 13), (0, 9, 15, 24)] 8 130 2 12 [.ref (A 0), .int a1, .ref aO] (wd 32 A (ceC A n cI cG cR) S ++ [outC aO cL fO]) (fun v w1 => ∃ r S1 ov f1, v = some (.int r) ∧ w1 = wd 32 A (ceC A n cI cG cR) S1 ++ [outC aO cL f1] ∧ QW r S1 ov ∧ ∀ b, ov = some b → f1 0 = b.toInt64) := by
  refine CnW.of (by decide +kernel) [(0, .ref (A 0)), (1, .int a1), (2, .ref aO)] rfl (Nat.le_of_ble_eq_true rfl) ?_
  intro p e s m args below meth c Acc C hr hlk htab hXs Qf hE
  unfold wL_back at h
  refine n_aload_n C 2 rfl dL_back_0 1 rfl ?_
  refine n_iconst C 0 rfl dL_back_1 2 rfl ?_
  refine n_aload_n C 0 rfl dL_back_2 3 rfl ?_
  refine n_iload_n C 1 rfl dL_back_3 4 rfl ?_
  refine n_callVX C hXs (As := [.int a1]) [outC aO cL fO] [.int 0, .ref aO] rfl (ctX4_back hst hi h) hi rfl b_520 b_44 b_518 b_519 b_517 ⟨by decide +kernel, by decide +kernel, (show (parseMethodDescriptor yX4_back.desc).map (fun d => d.parameters.length) = some 1 by decide +kernel)⟩ ⟨(Nat.le_of_ble_eq_true rfl), (Nat.le_of_ble_eq_true rfl)⟩ rfl (Nat.le_of_ble_eq_true rfl) 2 12 rfl rfl ⟨(Nat.le_of_ble_eq_true rfl), (Nat.le_of_ble_eq_true rfl)⟩ dL_back_4 7 rfl (fun r S1 h1 => ?_) (fun E S1 h1 => ?_)
  · show JW p l e _ s m args below meth c 2 12 Qf D Acc 4 (wd 32 A (ceC A n cI cG cR) S1 ++ [outC aO cL fO]) 7 [(0, .ref (A 0)), (1, .int a1), (2, .ref aO)] [.int r, .int 0, .ref aO]
    refine n_i2l C dL_back_7 8 rfl ?_
    refine n_last C 32 3 wd_out rfl (show vp_in 0 1 by unfold vp_in; decide) dL_back_8 9 rfl _ wd_outs ?_
    refine n_goto C 18 dL_back_9 rfl ?_
    refine n_iconst C 0 rfl dL_back_18 19 rfl ?_
    exact n_iret C hE hr hlk (Nat.le_of_ble_eq_true rfl) (Nat.le_of_ble_eq_true rfl) dL_back_19 ⟨0, S1, some r, _, rfl, rfl, h1, fun b e => by cases e; rfl⟩
  · rcases h1 with ⟨rfl, h1⟩ | ⟨rfl, h1⟩
    · refine ⟨12, ⟨[], ⟨0, 9, 12, 13⟩, [⟨0, 9, 15, 24⟩], htab.trans rfl, (fun _ h => nomatch h), by decide, by decide, ⟨"java/lang/IndexOutOfBoundsException", C.2.2.2.2.1 _ b_248, hXs.1.2.2.2.2.2.2.2.use _ (by decide)⟩, rfl⟩, fun b => ?_⟩
      refine n_astore_n C [(3, .ref b), (0, .ref (A 0)), (1, .int a1), (2, .ref aO)] (Nat.le_of_ble_eq_true rfl) rfl dL_back_12 13 rfl ?_
      refine n_iconst C 1 rfl dL_back_13 14 rfl ?_
      exact n_iret C hE hr hlk (Nat.le_of_ble_eq_true rfl) (Nat.le_of_ble_eq_true rfl) dL_back_14 ⟨1, S1, none, _, rfl, rfl, h1, fun b e => nomatch e⟩
    · refine ⟨15, ⟨[⟨0, 9, 12, 13⟩], ⟨0, 9, 15, 24⟩, [], htab.trans rfl, (fun z hz => by rw [List.mem_singleton.mp hz]; exact Or.inr ⟨by decide, "java/lang/IndexOutOfBoundsException", C.2.2.2.2.1 _ b_248, hXs.2.2⟩), by decide, by decide, ⟨"java/lang/IllegalStateException", C.2.2.2.2.1 _ b_448, hXs.1.2.2.2.2.2.2.2.use _ (by decide)⟩, rfl⟩, fun b => ?_⟩
      refine n_astore_n C [(3, .ref b), (0, .ref (A 0)), (1, .int a1), (2, .ref aO)] (Nat.le_of_ble_eq_true rfl) rfl dL_back_15 16 rfl ?_
      refine n_iconst C 2 rfl dL_back_16 17 rfl ?_
      exact n_iret C hE hr hlk (Nat.le_of_ble_eq_true rfl) (Nat.le_of_ble_eq_true rfl) dL_back_17 ⟨2, S1, none, _, rfl, rfl, h1, fun b e => nomatch e⟩
def wL_weak (n : Nat → Nat) (a1 a2 : Int32) (S : Nat → Nat → Int32) (QW : Int32 → (Nat → Nat → Int32) → Option Int32 → Prop) : Prop := wX4_weak n a1 a2 S (fun v S1 => QW 0 S1 (some v)) (fun E S1 => (E = "java/lang/IndexOutOfBoundsException" ∧ QW 1 S1 none))
theorem b_527 : Cond.codeWith yL_weak cL_weak 5 (some .int) [(0, 10, 13, 13)] ∈ BIG := List.mem_filter.mpr ⟨List.mem_of_getElem? (i := 527) (by decide +kernel), by decide +kernel⟩
theorem b_531 : Cond.code yX4_weak cX4_weak 4 (some .int) ∈ BIG := List.mem_filter.mpr ⟨List.mem_of_getElem? (i := 531) (by decide +kernel), by decide +kernel⟩
theorem b_529 : Cond.instanceMethod yX4_weak ∈ BIG := List.mem_filter.mpr ⟨List.mem_of_getElem? (i := 529) (by decide +kernel), by decide +kernel⟩
theorem b_530 : Cond.selects RX4 yX4_weak yX4_weak ∈ BIG := List.mem_filter.mpr ⟨List.mem_of_getElem? (i := 530) (by decide +kernel), by decide +kernel⟩
theorem b_528 : Cond.methodLink RL 40 yX4_weak ∈ BIG := List.mem_filter.mpr ⟨List.mem_of_getElem? (i := 528) (by decide +kernel), by decide +kernel⟩
set_option maxRecDepth 100000 in
set_option maxHeartbeats 4000000 in
theorem cnL_weak {l : Launch} {D : va_G} {A n : Nat → Nat} {cI cG cR cL : ClassId} {aK aV aO : Nat} {a1 a2 : Int32} {S : Nat → Nat → Int32} {fO : Nat → Int64} {QW : Int32 → (Nat → Nat → Int32) → Option Int32 → Prop} (hst : l.stackTraces = false) (hi : Apart 32 A) (h : wL_weak n a1 a2 S QW) : CnW l D (tyL cI cG cR cL) (FxW aK aV) yL_weak cL_weak 5 (some .int) [(0, 10, 13, 13)] 8 132 2 12 [.ref (A 0), .int a1, .int a2, .ref aO] (wd 32 A (ceC A n cI cG cR) S ++ [outC aO cL fO]) (fun v w1 => ∃ r S1 ov f1, v = some (.int r) ∧ w1 = wd 32 A (ceC A n cI cG cR) S1 ++ [outC aO cL f1] ∧ QW r S1 ov ∧ ∀ b, ov = some b → f1 0 = b.toInt64) := by
  refine CnW.of (by decide +kernel) [(0, .ref (A 0)), (1, .int a1), (2, .int a2), (3, .ref aO)] rfl (Nat.le_of_ble_eq_true rfl) ?_
  intro p e s m args below meth c Acc C hr hlk htab hXs Qf hE
  unfold wL_weak at h
  refine n_aload_n C 3 rfl dL_weak_0 1 rfl ?_
  refine n_iconst C 0 rfl dL_weak_1 2 rfl ?_
  refine n_aload_n C 0 rfl dL_weak_2 3 rfl ?_
  refine n_iload_n C 1 rfl dL_weak_3 4 rfl ?_
  refine n_iload_n C 2 rfl dL_weak_4 5 rfl ?_
  refine n_callVX C hXs (As := [.int a1, .int a2]) [outC aO cL fO] [.int 0, .ref aO] rfl (ctX4_weak hst hi h) hi rfl b_531 b_44 b_529 b_530 b_528 ⟨by decide +kernel, by decide +kernel, (show (parseMethodDescriptor yX4_weak.desc).map (fun d => d.parameters.length) = some 2 by decide +kernel)⟩ ⟨(Nat.le_of_ble_eq_true rfl), (Nat.le_of_ble_eq_true rfl)⟩ rfl (Nat.le_of_ble_eq_true rfl) 2 12 rfl rfl ⟨(Nat.le_of_ble_eq_true rfl), (Nat.le_of_ble_eq_true rfl)⟩ dL_weak_5 8 rfl (fun r S1 h1 => ?_) (fun E S1 h1 => ?_)
  · show JW p l e _ s m args below meth c 2 12 Qf D Acc 5 (wd 32 A (ceC A n cI cG cR) S1 ++ [outC aO cL fO]) 8 [(0, .ref (A 0)), (1, .int a1), (2, .int a2), (3, .ref aO)] [.int r, .int 0, .ref aO]
    refine n_i2l C dL_weak_8 9 rfl ?_
    refine n_last C 32 3 wd_out rfl (show vp_in 0 1 by unfold vp_in; decide) dL_weak_9 10 rfl _ wd_outs ?_
    refine n_goto C 17 dL_weak_10 rfl ?_
    refine n_iconst C 0 rfl dL_weak_17 18 rfl ?_
    exact n_iret C hE hr hlk (Nat.le_of_ble_eq_true rfl) (Nat.le_of_ble_eq_true rfl) dL_weak_18 ⟨0, S1, some r, _, rfl, rfl, h1, fun b e => by cases e; rfl⟩
  · rcases h1 with ⟨rfl, h1⟩
    · refine ⟨13, ⟨[], ⟨0, 10, 13, 13⟩, [], htab.trans rfl, (fun _ h => nomatch h), by decide, by decide, ⟨"java/lang/IndexOutOfBoundsException", C.2.2.2.2.1 _ b_248, hXs.1.2.2.2.2.2.2.2.use _ (by decide)⟩, rfl⟩, fun b => ?_⟩
      refine n_astore C [(4, .ref b), (0, .ref (A 0)), (1, .int a1), (2, .int a2), (3, .ref aO)] (Nat.le_of_ble_eq_true rfl) rfl dL_weak_13 15 rfl ?_
      refine n_iconst C 1 rfl dL_weak_15 16 rfl ?_
      exact n_iret C hE hr hlk (Nat.le_of_ble_eq_true rfl) (Nat.le_of_ble_eq_true rfl) dL_weak_16 ⟨1, S1, none, _, rfl, rfl, h1, fun b e => nomatch e⟩
def wL_strong (n : Nat → Nat) (a1 a2 : Int32) (S : Nat → Nat → Int32) (QW : Int32 → (Nat → Nat → Int32) → Option Int32 → Prop) : Prop := wX4_strong n a1 a2 S (fun v S1 => QW 0 S1 (some v)) (fun E S1 => (E = "java/lang/IndexOutOfBoundsException" ∧ QW 1 S1 none))
theorem b_537 : Cond.codeWith yL_strong cL_strong 5 (some .int) [(0, 10, 13, 13)] ∈ BIG := List.mem_filter.mpr ⟨List.mem_of_getElem? (i := 537) (by decide +kernel), by decide +kernel⟩
theorem b_541 : Cond.code yX4_strong cX4_strong 3 (some .int) ∈ BIG := List.mem_filter.mpr ⟨List.mem_of_getElem? (i := 541) (by decide +kernel), by decide +kernel⟩
theorem b_539 : Cond.instanceMethod yX4_strong ∈ BIG := List.mem_filter.mpr ⟨List.mem_of_getElem? (i := 539) (by decide +kernel), by decide +kernel⟩
theorem b_540 : Cond.selects RX4 yX4_strong yX4_strong ∈ BIG := List.mem_filter.mpr ⟨List.mem_of_getElem? (i := 540) (by decide +kernel), by decide +kernel⟩
theorem b_538 : Cond.methodLink RL 43 yX4_strong ∈ BIG := List.mem_filter.mpr ⟨List.mem_of_getElem? (i := 538) (by decide +kernel), by decide +kernel⟩
set_option maxRecDepth 100000 in
set_option maxHeartbeats 4000000 in
theorem cnL_strong {l : Launch} {D : va_G} {A n : Nat → Nat} {cI cG cR cL : ClassId} {aK aV aO : Nat} {a1 a2 : Int32} {S : Nat → Nat → Int32} {fO : Nat → Int64} {QW : Int32 → (Nat → Nat → Int32) → Option Int32 → Prop} (hst : l.stackTraces = false) (hi : Apart 32 A) (h : wL_strong n a1 a2 S QW) : CnW l D (tyL cI cG cR cL) (FxW aK aV) yL_strong cL_strong 5 (some .int) [(0, 10, 13, 13)] 8 131 2 12 [.ref (A 0), .int a1, .int a2, .ref aO] (wd 32 A (ceC A n cI cG cR) S ++ [outC aO cL fO]) (fun v w1 => ∃ r S1 ov f1, v = some (.int r) ∧ w1 = wd 32 A (ceC A n cI cG cR) S1 ++ [outC aO cL f1] ∧ QW r S1 ov ∧ ∀ b, ov = some b → f1 0 = b.toInt64) := by
  refine CnW.of (by decide +kernel) [(0, .ref (A 0)), (1, .int a1), (2, .int a2), (3, .ref aO)] rfl (Nat.le_of_ble_eq_true rfl) ?_
  intro p e s m args below meth c Acc C hr hlk htab hXs Qf hE
  unfold wL_strong at h
  refine n_aload_n C 3 rfl dL_strong_0 1 rfl ?_
  refine n_iconst C 0 rfl dL_strong_1 2 rfl ?_
  refine n_aload_n C 0 rfl dL_strong_2 3 rfl ?_
  refine n_iload_n C 1 rfl dL_strong_3 4 rfl ?_
  refine n_iload_n C 2 rfl dL_strong_4 5 rfl ?_
  refine n_callVX C hXs (As := [.int a1, .int a2]) [outC aO cL fO] [.int 0, .ref aO] rfl (ctX4_strong hst hi h) hi rfl b_541 b_44 b_539 b_540 b_538 ⟨by decide +kernel, by decide +kernel, (show (parseMethodDescriptor yX4_strong.desc).map (fun d => d.parameters.length) = some 2 by decide +kernel)⟩ ⟨(Nat.le_of_ble_eq_true rfl), (Nat.le_of_ble_eq_true rfl)⟩ rfl (Nat.le_of_ble_eq_true rfl) 2 12 rfl rfl ⟨(Nat.le_of_ble_eq_true rfl), (Nat.le_of_ble_eq_true rfl)⟩ dL_strong_5 8 rfl (fun r S1 h1 => ?_) (fun E S1 h1 => ?_)
  · show JW p l e _ s m args below meth c 2 12 Qf D Acc 5 (wd 32 A (ceC A n cI cG cR) S1 ++ [outC aO cL fO]) 8 [(0, .ref (A 0)), (1, .int a1), (2, .int a2), (3, .ref aO)] [.int r, .int 0, .ref aO]
    refine n_i2l C dL_strong_8 9 rfl ?_
    refine n_last C 32 3 wd_out rfl (show vp_in 0 1 by unfold vp_in; decide) dL_strong_9 10 rfl _ wd_outs ?_
    refine n_goto C 17 dL_strong_10 rfl ?_
    refine n_iconst C 0 rfl dL_strong_17 18 rfl ?_
    exact n_iret C hE hr hlk (Nat.le_of_ble_eq_true rfl) (Nat.le_of_ble_eq_true rfl) dL_strong_18 ⟨0, S1, some r, _, rfl, rfl, h1, fun b e => by cases e; rfl⟩
  · rcases h1 with ⟨rfl, h1⟩
    · refine ⟨13, ⟨[], ⟨0, 10, 13, 13⟩, [], htab.trans rfl, (fun _ h => nomatch h), by decide, by decide, ⟨"java/lang/IndexOutOfBoundsException", C.2.2.2.2.1 _ b_248, hXs.1.2.2.2.2.2.2.2.use _ (by decide)⟩, rfl⟩, fun b => ?_⟩
      refine n_astore C [(4, .ref b), (0, .ref (A 0)), (1, .int a1), (2, .int a2), (3, .ref aO)] (Nat.le_of_ble_eq_true rfl) rfl dL_strong_13 15 rfl ?_
      refine n_iconst C 1 rfl dL_strong_15 16 rfl ?_
      exact n_iret C hE hr hlk (Nat.le_of_ble_eq_true rfl) (Nat.le_of_ble_eq_true rfl) dL_strong_16 ⟨1, S1, none, _, rfl, rfl, h1, fun b e => nomatch e⟩
def wL_wish (n : Nat → Nat) (a1 : Int32) (S : Nat → Nat → Int32) (QW : Int32 → (Nat → Nat → Int32) → Option Int32 → Prop) : Prop := wX4_wish n a1 S (fun v S1 => QW 0 S1 (some v)) (fun E S1 => (E = "java/lang/IndexOutOfBoundsException" ∧ QW 1 S1 none))
theorem b_544 : Cond.codeWith yL_wish cL_wish 4 (some .int) [(0, 9, 12, 13)] ∈ BIG := List.mem_filter.mpr ⟨List.mem_of_getElem? (i := 544) (by decide +kernel), by decide +kernel⟩
theorem b_548 : Cond.code yX4_wish cX4_wish 2 (some .int) ∈ BIG := List.mem_filter.mpr ⟨List.mem_of_getElem? (i := 548) (by decide +kernel), by decide +kernel⟩
theorem b_546 : Cond.instanceMethod yX4_wish ∈ BIG := List.mem_filter.mpr ⟨List.mem_of_getElem? (i := 546) (by decide +kernel), by decide +kernel⟩
theorem b_547 : Cond.selects RX4 yX4_wish yX4_wish ∈ BIG := List.mem_filter.mpr ⟨List.mem_of_getElem? (i := 547) (by decide +kernel), by decide +kernel⟩
theorem b_545 : Cond.methodLink RL 46 yX4_wish ∈ BIG := List.mem_filter.mpr ⟨List.mem_of_getElem? (i := 545) (by decide +kernel), by decide +kernel⟩
set_option maxRecDepth 100000 in
set_option maxHeartbeats 4000000 in
theorem cnL_wish {l : Launch} {D : va_G} {A n : Nat → Nat} {cI cG cR cL : ClassId} {aK aV aO : Nat} {a1 : Int32} {S : Nat → Nat → Int32} {fO : Nat → Int64} {QW : Int32 → (Nat → Nat → Int32) → Option Int32 → Prop} (hst : l.stackTraces = false) (hi : Apart 32 A) (h : wL_wish n a1 S QW) : CnW l D (tyL cI cG cR cL) (FxW aK aV) yL_wish cL_wish 4 (some .int) [(0, 9, 12, 13)] 8 130 1 6 [.ref (A 0), .int a1, .ref aO] (wd 32 A (ceC A n cI cG cR) S ++ [outC aO cL fO]) (fun v w1 => ∃ r S1 ov f1, v = some (.int r) ∧ w1 = wd 32 A (ceC A n cI cG cR) S1 ++ [outC aO cL f1] ∧ QW r S1 ov ∧ ∀ b, ov = some b → f1 0 = b.toInt64) := by
  refine CnW.of (by decide +kernel) [(0, .ref (A 0)), (1, .int a1), (2, .ref aO)] rfl (Nat.le_of_ble_eq_true rfl) ?_
  intro p e s m args below meth c Acc C hr hlk htab hXs Qf hE
  unfold wL_wish at h
  refine n_aload_n C 2 rfl dL_wish_0 1 rfl ?_
  refine n_iconst C 0 rfl dL_wish_1 2 rfl ?_
  refine n_aload_n C 0 rfl dL_wish_2 3 rfl ?_
  refine n_iload_n C 1 rfl dL_wish_3 4 rfl ?_
  refine n_callVX C hXs (As := [.int a1]) [outC aO cL fO] [.int 0, .ref aO] rfl (ctX4_wish hst hi h) hi rfl b_548 b_44 b_546 b_547 b_545 ⟨by decide +kernel, by decide +kernel, (show (parseMethodDescriptor yX4_wish.desc).map (fun d => d.parameters.length) = some 1 by decide +kernel)⟩ ⟨(Nat.le_of_ble_eq_true rfl), (Nat.le_of_ble_eq_true rfl)⟩ rfl (Nat.le_of_ble_eq_true rfl) 1 6 rfl rfl ⟨(Nat.le_of_ble_eq_true rfl), (Nat.le_of_ble_eq_true rfl)⟩ dL_wish_4 7 rfl (fun r S1 h1 => ?_) (fun E S1 h1 => ?_)
  · show JW p l e _ s m args below meth c 1 6 Qf D Acc 4 (wd 32 A (ceC A n cI cG cR) S1 ++ [outC aO cL fO]) 7 [(0, .ref (A 0)), (1, .int a1), (2, .ref aO)] [.int r, .int 0, .ref aO]
    refine n_i2l C dL_wish_7 8 rfl ?_
    refine n_last C 32 3 wd_out rfl (show vp_in 0 1 by unfold vp_in; decide) dL_wish_8 9 rfl _ wd_outs ?_
    refine n_goto C 15 dL_wish_9 rfl ?_
    refine n_iconst C 0 rfl dL_wish_15 16 rfl ?_
    exact n_iret C hE hr hlk (Nat.le_of_ble_eq_true rfl) (Nat.le_of_ble_eq_true rfl) dL_wish_16 ⟨0, S1, some r, _, rfl, rfl, h1, fun b e => by cases e; rfl⟩
  · rcases h1 with ⟨rfl, h1⟩
    · refine ⟨12, ⟨[], ⟨0, 9, 12, 13⟩, [], htab.trans rfl, (fun _ h => nomatch h), by decide, by decide, ⟨"java/lang/IndexOutOfBoundsException", C.2.2.2.2.1 _ b_248, hXs.1.2.2.2.2.2.2.2.use _ (by decide)⟩, rfl⟩, fun b => ?_⟩
      refine n_astore_n C [(3, .ref b), (0, .ref (A 0)), (1, .int a1), (2, .ref aO)] (Nat.le_of_ble_eq_true rfl) rfl dL_wish_12 13 rfl ?_
      refine n_iconst C 1 rfl dL_wish_13 14 rfl ?_
      exact n_iret C hE hr hlk (Nat.le_of_ble_eq_true rfl) (Nat.le_of_ble_eq_true rfl) dL_wish_14 ⟨1, S1, none, _, rfl, rfl, h1, fun b e => nomatch e⟩
def wL_collect (n : Nat → Nat) (a1 : Int32) (S : Nat → Nat → Int32) (QW : Int32 → (Nat → Nat → Int32) → Option Int32 → Prop) : Prop := wX4_collect n a1 S (fun v S1 => QW 0 S1 (some v)) (fun E S1 => (E = "java/lang/IllegalArgumentException" ∧ QW 1 S1 none))
theorem b_556 : Cond.codeWith yL_collect cL_collect 4 (some .int) [(0, 9, 12, 15)] ∈ BIG := List.mem_filter.mpr ⟨List.mem_of_getElem? (i := 556) (by decide +kernel), by decide +kernel⟩
theorem b_560 : Cond.code yX4_collect cX4_collect 2 (some .int) ∈ BIG := List.mem_filter.mpr ⟨List.mem_of_getElem? (i := 560) (by decide +kernel), by decide +kernel⟩
theorem b_558 : Cond.instanceMethod yX4_collect ∈ BIG := List.mem_filter.mpr ⟨List.mem_of_getElem? (i := 558) (by decide +kernel), by decide +kernel⟩
theorem b_559 : Cond.selects RX4 yX4_collect yX4_collect ∈ BIG := List.mem_filter.mpr ⟨List.mem_of_getElem? (i := 559) (by decide +kernel), by decide +kernel⟩
theorem b_557 : Cond.methodLink RL 49 yX4_collect ∈ BIG := List.mem_filter.mpr ⟨List.mem_of_getElem? (i := 557) (by decide +kernel), by decide +kernel⟩
set_option maxRecDepth 100000 in
set_option maxHeartbeats 4000000 in
theorem cnL_collect {l : Launch} {D : va_G} {A n : Nat → Nat} {cI cG cR cL : ClassId} {aK aV aO : Nat} {a1 : Int32} {S : Nat → Nat → Int32} {fO : Nat → Int64} {QW : Int32 → (Nat → Nat → Int32) → Option Int32 → Prop} (hst : l.stackTraces = false) (hi : Apart 32 A) (h : wL_collect n a1 S QW) : CnW l D (tyL cI cG cR cL) (FxW aK aV) yL_collect cL_collect 4 (some .int) [(0, 9, 12, 15)] 7 142 1 6 [.ref (A 0), .int a1, .ref aO] (wd 32 A (ceC A n cI cG cR) S ++ [outC aO cL fO]) (fun v w1 => ∃ r S1 ov f1, v = some (.int r) ∧ w1 = wd 32 A (ceC A n cI cG cR) S1 ++ [outC aO cL f1] ∧ QW r S1 ov ∧ ∀ b, ov = some b → f1 0 = b.toInt64) := by
  refine CnW.of (by decide +kernel) [(0, .ref (A 0)), (1, .int a1), (2, .ref aO)] rfl (Nat.le_of_ble_eq_true rfl) ?_
  intro p e s m args below meth c Acc C hr hlk htab hXs Qf hE
  unfold wL_collect at h
  refine n_aload_n C 2 rfl dL_collect_0 1 rfl ?_
  refine n_iconst C 0 rfl dL_collect_1 2 rfl ?_
  refine n_aload_n C 0 rfl dL_collect_2 3 rfl ?_
  refine n_iload_n C 1 rfl dL_collect_3 4 rfl ?_
  refine n_callVX C hXs (As := [.int a1]) [outC aO cL fO] [.int 0, .ref aO] rfl (ctX4_collect hst hi h) hi rfl b_560 b_44 b_558 b_559 b_557 ⟨by decide +kernel, by decide +kernel, (show (parseMethodDescriptor yX4_collect.desc).map (fun d => d.parameters.length) = some 1 by decide +kernel)⟩ ⟨(Nat.le_of_ble_eq_true rfl), (Nat.le_of_ble_eq_true rfl)⟩ rfl (Nat.le_of_ble_eq_true rfl) 1 6 rfl rfl ⟨(Nat.le_of_ble_eq_true rfl), (Nat.le_of_ble_eq_true rfl)⟩ dL_collect_4 7 rfl (fun r S1 h1 => ?_) (fun E S1 h1 => ?_)
  · show JW p l e _ s m args below meth c 1 6 Qf D Acc 4 (wd 32 A (ceC A n cI cG cR) S1 ++ [outC aO cL fO]) 7 [(0, .ref (A 0)), (1, .int a1), (2, .ref aO)] [.int r, .int 0, .ref aO]
    refine n_i2l C dL_collect_7 8 rfl ?_
    refine n_last C 32 3 wd_out rfl (show vp_in 0 1 by unfold vp_in; decide) dL_collect_8 9 rfl _ wd_outs ?_
    refine n_goto C 15 dL_collect_9 rfl ?_
    refine n_iconst C 0 rfl dL_collect_15 16 rfl ?_
    exact n_iret C hE hr hlk (Nat.le_of_ble_eq_true rfl) (Nat.le_of_ble_eq_true rfl) dL_collect_16 ⟨0, S1, some r, _, rfl, rfl, h1, fun b e => by cases e; rfl⟩
  · rcases h1 with ⟨rfl, h1⟩
    · refine ⟨12, ⟨[], ⟨0, 9, 12, 15⟩, [], htab.trans rfl, (fun _ h => nomatch h), by decide, by decide, ⟨"java/lang/IllegalArgumentException", C.2.2.2.2.1 _ b_249, hXs.1.2.2.2.2.2.2.2.use _ (by decide)⟩, rfl⟩, fun b => ?_⟩
      refine n_astore_n C [(3, .ref b), (0, .ref (A 0)), (1, .int a1), (2, .ref aO)] (Nat.le_of_ble_eq_true rfl) rfl dL_collect_12 13 rfl ?_
      refine n_iconst C 1 rfl dL_collect_13 14 rfl ?_
      exact n_iret C hE hr hlk (Nat.le_of_ble_eq_true rfl) (Nat.le_of_ble_eq_true rfl) dL_collect_14 ⟨1, S1, none, _, rfl, rfl, h1, fun b e => nomatch e⟩
def wL_root (n : Nat → Nat) (a1 : Int32) (S : Nat → Nat → Int32) (QW : Int32 → (Nat → Nat → Int32) → Option Int32 → Prop) : Prop := wX4_root n a1 S (fun v S1 => QW 0 S1 (some v)) (fun E S1 => (E = "java/lang/IndexOutOfBoundsException" ∧ QW 1 S1 none))
theorem b_564 : Cond.codeWith yL_root cL_root 4 (some .int) [(0, 9, 12, 13)] ∈ BIG := List.mem_filter.mpr ⟨List.mem_of_getElem? (i := 564) (by decide +kernel), by decide +kernel⟩
theorem b_568 : Cond.code yX4_root cX4_root 2 (some .int) ∈ BIG := List.mem_filter.mpr ⟨List.mem_of_getElem? (i := 568) (by decide +kernel), by decide +kernel⟩
theorem b_566 : Cond.instanceMethod yX4_root ∈ BIG := List.mem_filter.mpr ⟨List.mem_of_getElem? (i := 566) (by decide +kernel), by decide +kernel⟩
theorem b_567 : Cond.selects RX4 yX4_root yX4_root ∈ BIG := List.mem_filter.mpr ⟨List.mem_of_getElem? (i := 567) (by decide +kernel), by decide +kernel⟩
theorem b_565 : Cond.methodLink RL 52 yX4_root ∈ BIG := List.mem_filter.mpr ⟨List.mem_of_getElem? (i := 565) (by decide +kernel), by decide +kernel⟩
set_option maxRecDepth 100000 in
set_option maxHeartbeats 4000000 in
theorem cnL_root {l : Launch} {D : va_G} {A n : Nat → Nat} {cI cG cR cL : ClassId} {aK aV aO : Nat} {a1 : Int32} {S : Nat → Nat → Int32} {fO : Nat → Int64} {QW : Int32 → (Nat → Nat → Int32) → Option Int32 → Prop} (hst : l.stackTraces = false) (hi : Apart 32 A) (h : wL_root n a1 S QW) : CnW l D (tyL cI cG cR cL) (FxW aK aV) yL_root cL_root 4 (some .int) [(0, 9, 12, 13)] 8 130 1 6 [.ref (A 0), .int a1, .ref aO] (wd 32 A (ceC A n cI cG cR) S ++ [outC aO cL fO]) (fun v w1 => ∃ r S1 ov f1, v = some (.int r) ∧ w1 = wd 32 A (ceC A n cI cG cR) S1 ++ [outC aO cL f1] ∧ QW r S1 ov ∧ ∀ b, ov = some b → f1 0 = b.toInt64) := by
  refine CnW.of (by decide +kernel) [(0, .ref (A 0)), (1, .int a1), (2, .ref aO)] rfl (Nat.le_of_ble_eq_true rfl) ?_
  intro p e s m args below meth c Acc C hr hlk htab hXs Qf hE
  unfold wL_root at h
  refine n_aload_n C 2 rfl dL_root_0 1 rfl ?_
  refine n_iconst C 0 rfl dL_root_1 2 rfl ?_
  refine n_aload_n C 0 rfl dL_root_2 3 rfl ?_
  refine n_iload_n C 1 rfl dL_root_3 4 rfl ?_
  refine n_callVX C hXs (As := [.int a1]) [outC aO cL fO] [.int 0, .ref aO] rfl (ctX4_root hst hi h) hi rfl b_568 b_44 b_566 b_567 b_565 ⟨by decide +kernel, by decide +kernel, (show (parseMethodDescriptor yX4_root.desc).map (fun d => d.parameters.length) = some 1 by decide +kernel)⟩ ⟨(Nat.le_of_ble_eq_true rfl), (Nat.le_of_ble_eq_true rfl)⟩ rfl (Nat.le_of_ble_eq_true rfl) 1 6 rfl rfl ⟨(Nat.le_of_ble_eq_true rfl), (Nat.le_of_ble_eq_true rfl)⟩ dL_root_4 7 rfl (fun r S1 h1 => ?_) (fun E S1 h1 => ?_)
  · show JW p l e _ s m args below meth c 1 6 Qf D Acc 4 (wd 32 A (ceC A n cI cG cR) S1 ++ [outC aO cL fO]) 7 [(0, .ref (A 0)), (1, .int a1), (2, .ref aO)] [.int r, .int 0, .ref aO]
    refine n_i2l C dL_root_7 8 rfl ?_
    refine n_last C 32 3 wd_out rfl (show vp_in 0 1 by unfold vp_in; decide) dL_root_8 9 rfl _ wd_outs ?_
    refine n_goto C 15 dL_root_9 rfl ?_
    refine n_iconst C 0 rfl dL_root_15 16 rfl ?_
    exact n_iret C hE hr hlk (Nat.le_of_ble_eq_true rfl) (Nat.le_of_ble_eq_true rfl) dL_root_16 ⟨0, S1, some r, _, rfl, rfl, h1, fun b e => by cases e; rfl⟩
  · rcases h1 with ⟨rfl, h1⟩
    · refine ⟨12, ⟨[], ⟨0, 9, 12, 13⟩, [], htab.trans rfl, (fun _ h => nomatch h), by decide, by decide, ⟨"java/lang/IndexOutOfBoundsException", C.2.2.2.2.1 _ b_248, hXs.1.2.2.2.2.2.2.2.use _ (by decide)⟩, rfl⟩, fun b => ?_⟩
      refine n_astore_n C [(3, .ref b), (0, .ref (A 0)), (1, .int a1), (2, .ref aO)] (Nat.le_of_ble_eq_true rfl) rfl dL_root_12 13 rfl ?_
      refine n_iconst C 1 rfl dL_root_13 14 rfl ?_
      exact n_iret C hE hr hlk (Nat.le_of_ble_eq_true rfl) (Nat.le_of_ble_eq_true rfl) dL_root_14 ⟨1, S1, none, _, rfl, rfl, h1, fun b e => nomatch e⟩
def wL_about (n : Nat → Nat) (a1 a2 : Int32) (S : Nat → Nat → Int32) (QW : Int32 → (Nat → Nat → Int32) → Option Int32 → Prop) : Prop := wX4_about n a1 a2 S (fun v S1 => QW 0 S1 (some v)) (fun E S1 => (E = "java/lang/IndexOutOfBoundsException" ∧ QW 1 S1 none) ∨ (E = "java/lang/IllegalStateException" ∧ QW 2 S1 none))
theorem b_571 : Cond.codeWith yL_about cL_about 5 (some .int) [(0, 10, 13, 13), (0, 10, 17, 24)] ∈ BIG := List.mem_filter.mpr ⟨List.mem_of_getElem? (i := 571) (by decide +kernel), by decide +kernel⟩
theorem b_575 : Cond.code yX4_about cX4_about 4 (some .int) ∈ BIG := List.mem_filter.mpr ⟨List.mem_of_getElem? (i := 575) (by decide +kernel), by decide +kernel⟩
theorem b_573 : Cond.instanceMethod yX4_about ∈ BIG := List.mem_filter.mpr ⟨List.mem_of_getElem? (i := 573) (by decide +kernel), by decide +kernel⟩
theorem b_574 : Cond.selects RX4 yX4_about yX4_about ∈ BIG := List.mem_filter.mpr ⟨List.mem_of_getElem? (i := 574) (by decide +kernel), by decide +kernel⟩
theorem b_572 : Cond.methodLink RL 55 yX4_about ∈ BIG := List.mem_filter.mpr ⟨List.mem_of_getElem? (i := 572) (by decide +kernel), by decide +kernel⟩
set_option maxRecDepth 100000 in
set_option maxHeartbeats 4000000 in
theorem cnL_about {l : Launch} {D : va_G} {A n : Nat → Nat} {cI cG cR cL : ClassId} {aK aV aO : Nat} {a1 a2 : Int32} {S : Nat → Nat → Int32} {fO : Nat → Int64} {QW : Int32 → (Nat → Nat → Int32) → Option Int32 → Prop} (hst : l.stackTraces = false) (hi : Apart 32 A) (h : wL_about n a1 a2 S QW) : CnW l D (tyL cI cG cR cL) (FxW aK aV) yL_about cL_about 5 (some .int) [(0, 10, 13, 13), (0, 10, 17, 24)] 8 134 3 18 [.ref (A 0), .int a1, .int a2, .ref aO] (wd 32 A (ceC A n cI cG cR) S ++ [outC aO cL fO]) (fun v w1 => ∃ r S1 ov f1, v = some (.int r) ∧ w1 = wd 32 A (ceC A n cI cG cR) S1 ++ [outC aO cL f1] ∧ QW r S1 ov ∧ ∀ b, ov = some b → f1 0 = b.toInt64) := by
  refine CnW.of (by decide +kernel) [(0, .ref (A 0)), (1, .int a1), (2, .int a2), (3, .ref aO)] rfl (Nat.le_of_ble_eq_true rfl) ?_
  intro p e s m args below meth c Acc C hr hlk htab hXs Qf hE
  unfold wL_about at h
  refine n_aload_n C 3 rfl dL_about_0 1 rfl ?_
  refine n_iconst C 0 rfl dL_about_1 2 rfl ?_
  refine n_aload_n C 0 rfl dL_about_2 3 rfl ?_
  refine n_iload_n C 1 rfl dL_about_3 4 rfl ?_
  refine n_iload_n C 2 rfl dL_about_4 5 rfl ?_
  refine n_callVX C hXs (As := [.int a1, .int a2]) [outC aO cL fO] [.int 0, .ref aO] rfl (ctX4_about hst hi h) hi rfl b_575 b_44 b_573 b_574 b_572 ⟨by decide +kernel, by decide +kernel, (show (parseMethodDescriptor yX4_about.desc).map (fun d => d.parameters.length) = some 2 by decide +kernel)⟩ ⟨(Nat.le_of_ble_eq_true rfl), (Nat.le_of_ble_eq_true rfl)⟩ rfl (Nat.le_of_ble_eq_true rfl) 3 18 rfl rfl ⟨(Nat.le_of_ble_eq_true rfl), (Nat.le_of_ble_eq_true rfl)⟩ dL_about_5 8 rfl (fun r S1 h1 => ?_) (fun E S1 h1 => ?_)
  · show JW p l e _ s m args below meth c 3 18 Qf D Acc 5 (wd 32 A (ceC A n cI cG cR) S1 ++ [outC aO cL fO]) 8 [(0, .ref (A 0)), (1, .int a1), (2, .int a2), (3, .ref aO)] [.int r, .int 0, .ref aO]
    refine n_i2l C dL_about_8 9 rfl ?_
    refine n_last C 32 3 wd_out rfl (show vp_in 0 1 by unfold vp_in; decide) dL_about_9 10 rfl _ wd_outs ?_
    refine n_goto C 21 dL_about_10 rfl ?_
    refine n_iconst C 0 rfl dL_about_21 22 rfl ?_
    exact n_iret C hE hr hlk (Nat.le_of_ble_eq_true rfl) (Nat.le_of_ble_eq_true rfl) dL_about_22 ⟨0, S1, some r, _, rfl, rfl, h1, fun b e => by cases e; rfl⟩
  · rcases h1 with ⟨rfl, h1⟩ | ⟨rfl, h1⟩
    · refine ⟨13, ⟨[], ⟨0, 10, 13, 13⟩, [⟨0, 10, 17, 24⟩], htab.trans rfl, (fun _ h => nomatch h), by decide, by decide, ⟨"java/lang/IndexOutOfBoundsException", C.2.2.2.2.1 _ b_248, hXs.1.2.2.2.2.2.2.2.use _ (by decide)⟩, rfl⟩, fun b => ?_⟩
      refine n_astore C [(4, .ref b), (0, .ref (A 0)), (1, .int a1), (2, .int a2), (3, .ref aO)] (Nat.le_of_ble_eq_true rfl) rfl dL_about_13 15 rfl ?_
      refine n_iconst C 1 rfl dL_about_15 16 rfl ?_
      exact n_iret C hE hr hlk (Nat.le_of_ble_eq_true rfl) (Nat.le_of_ble_eq_true rfl) dL_about_16 ⟨1, S1, none, _, rfl, rfl, h1, fun b e => nomatch e⟩
    · refine ⟨17, ⟨[⟨0, 10, 13, 13⟩], ⟨0, 10, 17, 24⟩, [], htab.trans rfl, (fun z hz => by rw [List.mem_singleton.mp hz]; exact Or.inr ⟨by decide, "java/lang/IndexOutOfBoundsException", C.2.2.2.2.1 _ b_248, hXs.2.2⟩), by decide, by decide, ⟨"java/lang/IllegalStateException", C.2.2.2.2.1 _ b_448, hXs.1.2.2.2.2.2.2.2.use _ (by decide)⟩, rfl⟩, fun b => ?_⟩
      refine n_astore C [(4, .ref b), (0, .ref (A 0)), (1, .int a1), (2, .int a2), (3, .ref aO)] (Nat.le_of_ble_eq_true rfl) rfl dL_about_17 19 rfl ?_
      refine n_iconst C 2 rfl dL_about_19 20 rfl ?_
      exact n_iret C hE hr hlk (Nat.le_of_ble_eq_true rfl) (Nat.le_of_ble_eq_true rfl) dL_about_20 ⟨2, S1, none, _, rfl, rfl, h1, fun b e => nomatch e⟩
def wL_word (n : Nat → Nat) (a1 : Int32) (S : Nat → Nat → Int32) (QW : Int32 → (Nat → Nat → Int32) → Option Int32 → Prop) : Prop := wX4_word n a1 S (fun v S1 => QW 0 S1 (some v)) (fun E S1 => (E = "java/lang/IndexOutOfBoundsException" ∧ QW 1 S1 none))
theorem b_589 : Cond.codeWith yL_word cL_word 4 (some .int) [(0, 9, 12, 13)] ∈ BIG := List.mem_filter.mpr ⟨List.mem_of_getElem? (i := 589) (by decide +kernel), by decide +kernel⟩
theorem b_593 : Cond.code yX4_word cX4_word 2 (some .int) ∈ BIG := List.mem_filter.mpr ⟨List.mem_of_getElem? (i := 593) (by decide +kernel), by decide +kernel⟩
theorem b_591 : Cond.instanceMethod yX4_word ∈ BIG := List.mem_filter.mpr ⟨List.mem_of_getElem? (i := 591) (by decide +kernel), by decide +kernel⟩
theorem b_592 : Cond.selects RX4 yX4_word yX4_word ∈ BIG := List.mem_filter.mpr ⟨List.mem_of_getElem? (i := 592) (by decide +kernel), by decide +kernel⟩
theorem b_590 : Cond.methodLink RL 58 yX4_word ∈ BIG := List.mem_filter.mpr ⟨List.mem_of_getElem? (i := 590) (by decide +kernel), by decide +kernel⟩
set_option maxRecDepth 100000 in
set_option maxHeartbeats 4000000 in
theorem cnL_word {l : Launch} {D : va_G} {A n : Nat → Nat} {cI cG cR cL : ClassId} {aK aV aO : Nat} {a1 : Int32} {S : Nat → Nat → Int32} {fO : Nat → Int64} {QW : Int32 → (Nat → Nat → Int32) → Option Int32 → Prop} (hst : l.stackTraces = false) (hi : Apart 32 A) (h : wL_word n a1 S QW) : CnW l D (tyL cI cG cR cL) (FxW aK aV) yL_word cL_word 4 (some .int) [(0, 9, 12, 13)] 7 110 1 6 [.ref (A 0), .int a1, .ref aO] (wd 32 A (ceC A n cI cG cR) S ++ [outC aO cL fO]) (fun v w1 => ∃ r S1 ov f1, v = some (.int r) ∧ w1 = wd 32 A (ceC A n cI cG cR) S1 ++ [outC aO cL f1] ∧ QW r S1 ov ∧ ∀ b, ov = some b → f1 0 = b.toInt64) := by
  refine CnW.of (by decide +kernel) [(0, .ref (A 0)), (1, .int a1), (2, .ref aO)] rfl (Nat.le_of_ble_eq_true rfl) ?_
  intro p e s m args below meth c Acc C hr hlk htab hXs Qf hE
  unfold wL_word at h
  refine n_aload_n C 2 rfl dL_word_0 1 rfl ?_
  refine n_iconst C 0 rfl dL_word_1 2 rfl ?_
  refine n_aload_n C 0 rfl dL_word_2 3 rfl ?_
  refine n_iload_n C 1 rfl dL_word_3 4 rfl ?_
  refine n_callVX C hXs (As := [.int a1]) [outC aO cL fO] [.int 0, .ref aO] rfl (ctX4_word hst hi h) hi rfl b_593 b_44 b_591 b_592 b_590 ⟨by decide +kernel, by decide +kernel, (show (parseMethodDescriptor yX4_word.desc).map (fun d => d.parameters.length) = some 1 by decide +kernel)⟩ ⟨(Nat.le_of_ble_eq_true rfl), (Nat.le_of_ble_eq_true rfl)⟩ rfl (Nat.le_of_ble_eq_true rfl) 1 6 rfl rfl ⟨(Nat.le_of_ble_eq_true rfl), (Nat.le_of_ble_eq_true rfl)⟩ dL_word_4 7 rfl (fun r S1 h1 => ?_) (fun E S1 h1 => ?_)
  · show JW p l e _ s m args below meth c 1 6 Qf D Acc 4 (wd 32 A (ceC A n cI cG cR) S1 ++ [outC aO cL fO]) 7 [(0, .ref (A 0)), (1, .int a1), (2, .ref aO)] [.int r, .int 0, .ref aO]
    refine n_i2l C dL_word_7 8 rfl ?_
    refine n_last C 32 3 wd_out rfl (show vp_in 0 1 by unfold vp_in; decide) dL_word_8 9 rfl _ wd_outs ?_
    refine n_goto C 15 dL_word_9 rfl ?_
    refine n_iconst C 0 rfl dL_word_15 16 rfl ?_
    exact n_iret C hE hr hlk (Nat.le_of_ble_eq_true rfl) (Nat.le_of_ble_eq_true rfl) dL_word_16 ⟨0, S1, some r, _, rfl, rfl, h1, fun b e => by cases e; rfl⟩
  · rcases h1 with ⟨rfl, h1⟩
    · refine ⟨12, ⟨[], ⟨0, 9, 12, 13⟩, [], htab.trans rfl, (fun _ h => nomatch h), by decide, by decide, ⟨"java/lang/IndexOutOfBoundsException", C.2.2.2.2.1 _ b_248, hXs.1.2.2.2.2.2.2.2.use _ (by decide)⟩, rfl⟩, fun b => ?_⟩
      refine n_astore_n C [(3, .ref b), (0, .ref (A 0)), (1, .int a1), (2, .ref aO)] (Nat.le_of_ble_eq_true rfl) rfl dL_word_12 13 rfl ?_
      refine n_iconst C 1 rfl dL_word_13 14 rfl ?_
      exact n_iret C hE hr hlk (Nat.le_of_ble_eq_true rfl) (Nat.le_of_ble_eq_true rfl) dL_word_14 ⟨1, S1, none, _, rfl, rfl, h1, fun b e => nomatch e⟩
def wL_row (n : Nat → Nat) (a1 a2 : Int32) (S : Nat → Nat → Int32) (QW : Int32 → (Nat → Nat → Int32) → Option Int32 → Prop) : Prop := wX4_row n a1 a2 S (fun v S1 => QW 0 S1 (some v)) (fun E S1 => (E = "java/lang/IndexOutOfBoundsException" ∧ QW 1 S1 none))
theorem b_604 : Cond.codeWith yL_row cL_row 5 (some .int) [(0, 10, 13, 13)] ∈ BIG := List.mem_filter.mpr ⟨List.mem_of_getElem? (i := 604) (by decide +kernel), by decide +kernel⟩
theorem b_608 : Cond.code yX4_row cX4_row 4 (some .int) ∈ BIG := List.mem_filter.mpr ⟨List.mem_of_getElem? (i := 608) (by decide +kernel), by decide +kernel⟩
theorem b_606 : Cond.instanceMethod yX4_row ∈ BIG := List.mem_filter.mpr ⟨List.mem_of_getElem? (i := 606) (by decide +kernel), by decide +kernel⟩
theorem b_607 : Cond.selects RX4 yX4_row yX4_row ∈ BIG := List.mem_filter.mpr ⟨List.mem_of_getElem? (i := 607) (by decide +kernel), by decide +kernel⟩
theorem b_605 : Cond.methodLink RL 61 yX4_row ∈ BIG := List.mem_filter.mpr ⟨List.mem_of_getElem? (i := 605) (by decide +kernel), by decide +kernel⟩
set_option maxRecDepth 100000 in
set_option maxHeartbeats 4000000 in
theorem cnL_row {l : Launch} {D : va_G} {A n : Nat → Nat} {cI cG cR cL : ClassId} {aK aV aO : Nat} {a1 a2 : Int32} {S : Nat → Nat → Int32} {fO : Nat → Int64} {QW : Int32 → (Nat → Nat → Int32) → Option Int32 → Prop} (hst : l.stackTraces = false) (hi : Apart 32 A) (h : wL_row n a1 a2 S QW) : CnW l D (tyL cI cG cR cL) (FxW aK aV) yL_row cL_row 5 (some .int) [(0, 10, 13, 13)] 7 112 1 6 [.ref (A 0), .int a1, .int a2, .ref aO] (wd 32 A (ceC A n cI cG cR) S ++ [outC aO cL fO]) (fun v w1 => ∃ r S1 ov f1, v = some (.int r) ∧ w1 = wd 32 A (ceC A n cI cG cR) S1 ++ [outC aO cL f1] ∧ QW r S1 ov ∧ ∀ b, ov = some b → f1 0 = b.toInt64) := by
  refine CnW.of (by decide +kernel) [(0, .ref (A 0)), (1, .int a1), (2, .int a2), (3, .ref aO)] rfl (Nat.le_of_ble_eq_true rfl) ?_
  intro p e s m args below meth c Acc C hr hlk htab hXs Qf hE
  unfold wL_row at h
  refine n_aload_n C 3 rfl dL_row_0 1 rfl ?_
  refine n_iconst C 0 rfl dL_row_1 2 rfl ?_
  refine n_aload_n C 0 rfl dL_row_2 3 rfl ?_
  refine n_iload_n C 1 rfl dL_row_3 4 rfl ?_
  refine n_iload_n C 2 rfl dL_row_4 5 rfl ?_
  refine n_callVX C hXs (As := [.int a1, .int a2]) [outC aO cL fO] [.int 0, .ref aO] rfl (ctX4_row hst hi h) hi rfl b_608 b_44 b_606 b_607 b_605 ⟨by decide +kernel, by decide +kernel, (show (parseMethodDescriptor yX4_row.desc).map (fun d => d.parameters.length) = some 2 by decide +kernel)⟩ ⟨(Nat.le_of_ble_eq_true rfl), (Nat.le_of_ble_eq_true rfl)⟩ rfl (Nat.le_of_ble_eq_true rfl) 1 6 rfl rfl ⟨(Nat.le_of_ble_eq_true rfl), (Nat.le_of_ble_eq_true rfl)⟩ dL_row_5 8 rfl (fun r S1 h1 => ?_) (fun E S1 h1 => ?_)
  · show JW p l e _ s m args below meth c 1 6 Qf D Acc 5 (wd 32 A (ceC A n cI cG cR) S1 ++ [outC aO cL fO]) 8 [(0, .ref (A 0)), (1, .int a1), (2, .int a2), (3, .ref aO)] [.int r, .int 0, .ref aO]
    refine n_i2l C dL_row_8 9 rfl ?_
    refine n_last C 32 3 wd_out rfl (show vp_in 0 1 by unfold vp_in; decide) dL_row_9 10 rfl _ wd_outs ?_
    refine n_goto C 17 dL_row_10 rfl ?_
    refine n_iconst C 0 rfl dL_row_17 18 rfl ?_
    exact n_iret C hE hr hlk (Nat.le_of_ble_eq_true rfl) (Nat.le_of_ble_eq_true rfl) dL_row_18 ⟨0, S1, some r, _, rfl, rfl, h1, fun b e => by cases e; rfl⟩
  · rcases h1 with ⟨rfl, h1⟩
    · refine ⟨13, ⟨[], ⟨0, 10, 13, 13⟩, [], htab.trans rfl, (fun _ h => nomatch h), by decide, by decide, ⟨"java/lang/IndexOutOfBoundsException", C.2.2.2.2.1 _ b_248, hXs.1.2.2.2.2.2.2.2.use _ (by decide)⟩, rfl⟩, fun b => ?_⟩
      refine n_astore C [(4, .ref b), (0, .ref (A 0)), (1, .int a1), (2, .int a2), (3, .ref aO)] (Nat.le_of_ble_eq_true rfl) rfl dL_row_13 15 rfl ?_
      refine n_iconst C 1 rfl dL_row_15 16 rfl ?_
      exact n_iret C hE hr hlk (Nat.le_of_ble_eq_true rfl) (Nat.le_of_ble_eq_true rfl) dL_row_16 ⟨1, S1, none, _, rfl, rfl, h1, fun b e => nomatch e⟩
def wL_code (n : Nat → Nat) (a1 a2 a3 a4 : Int32) (S : Nat → Nat → Int32) (QW : Int32 → (Nat → Nat → Int32) → Option Int32 → Prop) : Prop := wX4_code n a1 a2 a3 a4 S (fun v S1 => QW 0 S1 (some v)) (fun E S1 => (E = "java/lang/IllegalStateException" ∧ QW 1 S1 none))
theorem b_615 : Cond.codeWith yL_code cL_code 7 (some .int) [(0, 14, 17, 24)] ∈ BIG := List.mem_filter.mpr ⟨List.mem_of_getElem? (i := 615) (by decide +kernel), by decide +kernel⟩
theorem b_619 : Cond.code yX4_code cX4_code 5 (some .int) ∈ BIG := List.mem_filter.mpr ⟨List.mem_of_getElem? (i := 619) (by decide +kernel), by decide +kernel⟩
theorem b_617 : Cond.instanceMethod yX4_code ∈ BIG := List.mem_filter.mpr ⟨List.mem_of_getElem? (i := 617) (by decide +kernel), by decide +kernel⟩
theorem b_618 : Cond.selects RX4 yX4_code yX4_code ∈ BIG := List.mem_filter.mpr ⟨List.mem_of_getElem? (i := 618) (by decide +kernel), by decide +kernel⟩
theorem b_616 : Cond.methodLink RL 64 yX4_code ∈ BIG := List.mem_filter.mpr ⟨List.mem_of_getElem? (i := 616) (by decide +kernel), by decide +kernel⟩
set_option maxRecDepth 100000 in
set_option maxHeartbeats 4000000 in
theorem cnL_code {l : Launch} {D : va_G} {A n : Nat → Nat} {cI cG cR cL : ClassId} {aK aV aO : Nat} {a1 a2 a3 a4 : Int32} {S : Nat → Nat → Int32} {fO : Nat → Int64} {QW : Int32 → (Nat → Nat → Int32) → Option Int32 → Prop} (hst : l.stackTraces = false) (hi : Apart 32 A) (h : wL_code n a1 a2 a3 a4 S QW) : CnW l D (tyL cI cG cR cL) (FxW aK aV) yL_code cL_code 7 (some .int) [(0, 14, 17, 24)] 7 113 1 6 [.ref (A 0), .int a1, .int a2, .int a3, .int a4, .ref aO] (wd 32 A (ceC A n cI cG cR) S ++ [outC aO cL fO]) (fun v w1 => ∃ r S1 ov f1, v = some (.int r) ∧ w1 = wd 32 A (ceC A n cI cG cR) S1 ++ [outC aO cL f1] ∧ QW r S1 ov ∧ ∀ b, ov = some b → f1 0 = b.toInt64) := by
  refine CnW.of (by decide +kernel) [(0, .ref (A 0)), (1, .int a1), (2, .int a2), (3, .int a3), (4, .int a4), (5, .ref aO)] rfl (Nat.le_of_ble_eq_true rfl) ?_
  intro p e s m args below meth c Acc C hr hlk htab hXs Qf hE
  unfold wL_code at h
  refine n_aload C 5 rfl dL_code_0 2 rfl ?_
  refine n_iconst C 0 rfl dL_code_2 3 rfl ?_
  refine n_aload_n C 0 rfl dL_code_3 4 rfl ?_
  refine n_iload_n C 1 rfl dL_code_4 5 rfl ?_
  refine n_iload_n C 2 rfl dL_code_5 6 rfl ?_
  refine n_iload_n C 3 rfl dL_code_6 7 rfl ?_
  refine n_iload C 4 rfl dL_code_7 9 rfl ?_
  refine n_callVX C hXs (As := [.int a1, .int a2, .int a3, .int a4]) [outC aO cL fO] [.int 0, .ref aO] rfl (ctX4_code hst hi h) hi rfl b_619 b_44 b_617 b_618 b_616 ⟨by decide +kernel, by decide +kernel, (show (parseMethodDescriptor yX4_code.desc).map (fun d => d.parameters.length) = some 4 by decide +kernel)⟩ ⟨(Nat.le_of_ble_eq_true rfl), (Nat.le_of_ble_eq_true rfl)⟩ rfl (Nat.le_of_ble_eq_true rfl) 1 6 rfl rfl ⟨(Nat.le_of_ble_eq_true rfl), (Nat.le_of_ble_eq_true rfl)⟩ dL_code_9 12 rfl (fun r S1 h1 => ?_) (fun E S1 h1 => ?_)
  · show JW p l e _ s m args below meth c 1 6 Qf D Acc 7 (wd 32 A (ceC A n cI cG cR) S1 ++ [outC aO cL fO]) 12 [(0, .ref (A 0)), (1, .int a1), (2, .int a2), (3, .int a3), (4, .int a4), (5, .ref aO)] [.int r, .int 0, .ref aO]
    refine n_i2l C dL_code_12 13 rfl ?_
    refine n_last C 32 3 wd_out rfl (show vp_in 0 1 by unfold vp_in; decide) dL_code_13 14 rfl _ wd_outs ?_
    refine n_goto C 21 dL_code_14 rfl ?_
    refine n_iconst C 0 rfl dL_code_21 22 rfl ?_
    exact n_iret C hE hr hlk (Nat.le_of_ble_eq_true rfl) (Nat.le_of_ble_eq_true rfl) dL_code_22 ⟨0, S1, some r, _, rfl, rfl, h1, fun b e => by cases e; rfl⟩
  · rcases h1 with ⟨rfl, h1⟩
    · refine ⟨17, ⟨[], ⟨0, 14, 17, 24⟩, [], htab.trans rfl, (fun _ h => nomatch h), by decide, by decide, ⟨"java/lang/IllegalStateException", C.2.2.2.2.1 _ b_448, hXs.1.2.2.2.2.2.2.2.use _ (by decide)⟩, rfl⟩, fun b => ?_⟩
      refine n_astore C [(6, .ref b), (0, .ref (A 0)), (1, .int a1), (2, .int a2), (3, .int a3), (4, .int a4), (5, .ref aO)] (Nat.le_of_ble_eq_true rfl) rfl dL_code_17 19 rfl ?_
      refine n_iconst C 1 rfl dL_code_19 20 rfl ?_
      exact n_iret C hE hr hlk (Nat.le_of_ble_eq_true rfl) (Nat.le_of_ble_eq_true rfl) dL_code_20 ⟨1, S1, none, _, rfl, rfl, h1, fun b e => nomatch e⟩
def wL_run (n : Nat → Nat) (a1 a2 : Int32) (S : Nat → Nat → Int32) (QW : Int32 → (Nat → Nat → Int32) → Option Int32 → Prop) : Prop := wX4_run n a1 a2 S (fun v S1 => QW 0 S1 (some v)) (fun E S1 => (E = "java/lang/IndexOutOfBoundsException" ∧ QW 1 S1 none) ∨ (E = "java/lang/IllegalArgumentException" ∧ QW 2 S1 none))
theorem b_626 : Cond.codeWith yL_run cL_run 5 (some .int) [(0, 10, 13, 13), (0, 10, 17, 15)] ∈ BIG := List.mem_filter.mpr ⟨List.mem_of_getElem? (i := 626) (by decide +kernel), by decide +kernel⟩
theorem b_630 : Cond.code yX4_run cX4_run 5 (some .int) ∈ BIG := List.mem_filter.mpr ⟨List.mem_of_getElem? (i := 630) (by decide +kernel), by decide +kernel⟩
theorem b_628 : Cond.instanceMethod yX4_run ∈ BIG := List.mem_filter.mpr ⟨List.mem_of_getElem? (i := 628) (by decide +kernel), by decide +kernel⟩
theorem b_629 : Cond.selects RX4 yX4_run yX4_run ∈ BIG := List.mem_filter.mpr ⟨List.mem_of_getElem? (i := 629) (by decide +kernel), by decide +kernel⟩
theorem b_627 : Cond.methodLink RL 68 yX4_run ∈ BIG := List.mem_filter.mpr ⟨List.mem_of_getElem? (i := 627) (by decide +kernel), by decide +kernel⟩
set_option maxRecDepth 100000 in
set_option maxHeartbeats 4000000 in
theorem cnL_run {l : Launch} {D : va_G} {A n : Nat → Nat} {cI cG cR cL : ClassId} {aK aV aO : Nat} {a1 a2 : Int32} {S : Nat → Nat → Int32} {fO : Nat → Int64} {QW : Int32 → (Nat → Nat → Int32) → Option Int32 → Prop} (hst : l.stackTraces = false) (hi : Apart 32 A) (h : wL_run n a1 a2 S QW) : CnW l D (tyL cI cG cR cL) (FxW aK aV) yL_run cL_run 5 (some .int) [(0, 10, 13, 13), (0, 10, 17, 15)] 7 197 2 12 [.ref (A 0), .int a1, .int a2, .ref aO] (wd 32 A (ceC A n cI cG cR) S ++ [outC aO cL fO]) (fun v w1 => ∃ r S1 ov f1, v = some (.int r) ∧ w1 = wd 32 A (ceC A n cI cG cR) S1 ++ [outC aO cL f1] ∧ QW r S1 ov ∧ ∀ b, ov = some b → f1 0 = b.toInt64) := by
  refine CnW.of (by decide +kernel) [(0, .ref (A 0)), (1, .int a1), (2, .int a2), (3, .ref aO)] rfl (Nat.le_of_ble_eq_true rfl) ?_
  intro p e s m args below meth c Acc C hr hlk htab hXs Qf hE
  unfold wL_run at h
  refine n_aload_n C 3 rfl dL_run_0 1 rfl ?_
  refine n_iconst C 0 rfl dL_run_1 2 rfl ?_
  refine n_aload_n C 0 rfl dL_run_2 3 rfl ?_
  refine n_iload_n C 1 rfl dL_run_3 4 rfl ?_
  refine n_iload_n C 2 rfl dL_run_4 5 rfl ?_
  refine n_callVX C hXs (As := [.int a1, .int a2]) [outC aO cL fO] [.int 0, .ref aO] rfl (ctX4_run hst hi h) hi rfl b_630 b_44 b_628 b_629 b_627 ⟨by decide +kernel, by decide +kernel, (show (parseMethodDescriptor yX4_run.desc).map (fun d => d.parameters.length) = some 2 by decide +kernel)⟩ ⟨(Nat.le_of_ble_eq_true rfl), (Nat.le_of_ble_eq_true rfl)⟩ rfl (Nat.le_of_ble_eq_true rfl) 2 12 rfl rfl ⟨(Nat.le_of_ble_eq_true rfl), (Nat.le_of_ble_eq_true rfl)⟩ dL_run_5 8 rfl (fun r S1 h1 => ?_) (fun E S1 h1 => ?_)
  · show JW p l e _ s m args below meth c 2 12 Qf D Acc 5 (wd 32 A (ceC A n cI cG cR) S1 ++ [outC aO cL fO]) 8 [(0, .ref (A 0)), (1, .int a1), (2, .int a2), (3, .ref aO)] [.int r, .int 0, .ref aO]
    refine n_i2l C dL_run_8 9 rfl ?_
    refine n_last C 32 3 wd_out rfl (show vp_in 0 1 by unfold vp_in; decide) dL_run_9 10 rfl _ wd_outs ?_
    refine n_goto C 21 dL_run_10 rfl ?_
    refine n_iconst C 0 rfl dL_run_21 22 rfl ?_
    exact n_iret C hE hr hlk (Nat.le_of_ble_eq_true rfl) (Nat.le_of_ble_eq_true rfl) dL_run_22 ⟨0, S1, some r, _, rfl, rfl, h1, fun b e => by cases e; rfl⟩
  · rcases h1 with ⟨rfl, h1⟩ | ⟨rfl, h1⟩
    · refine ⟨13, ⟨[], ⟨0, 10, 13, 13⟩, [⟨0, 10, 17, 15⟩], htab.trans rfl, (fun _ h => nomatch h), by decide, by decide, ⟨"java/lang/IndexOutOfBoundsException", C.2.2.2.2.1 _ b_248, hXs.1.2.2.2.2.2.2.2.use _ (by decide)⟩, rfl⟩, fun b => ?_⟩
      refine n_astore C [(4, .ref b), (0, .ref (A 0)), (1, .int a1), (2, .int a2), (3, .ref aO)] (Nat.le_of_ble_eq_true rfl) rfl dL_run_13 15 rfl ?_
      refine n_iconst C 1 rfl dL_run_15 16 rfl ?_
      exact n_iret C hE hr hlk (Nat.le_of_ble_eq_true rfl) (Nat.le_of_ble_eq_true rfl) dL_run_16 ⟨1, S1, none, _, rfl, rfl, h1, fun b e => nomatch e⟩
    · refine ⟨17, ⟨[⟨0, 10, 13, 13⟩], ⟨0, 10, 17, 15⟩, [], htab.trans rfl, (fun z hz => by rw [List.mem_singleton.mp hz]; exact Or.inr ⟨by decide, "java/lang/IndexOutOfBoundsException", C.2.2.2.2.1 _ b_248, hXs.2.1⟩), by decide, by decide, ⟨"java/lang/IllegalArgumentException", C.2.2.2.2.1 _ b_249, hXs.1.2.2.2.2.2.2.2.use _ (by decide)⟩, rfl⟩, fun b => ?_⟩
      refine n_astore C [(4, .ref b), (0, .ref (A 0)), (1, .int a1), (2, .int a2), (3, .ref aO)] (Nat.le_of_ble_eq_true rfl) rfl dL_run_17 19 rfl ?_
      refine n_iconst C 2 rfl dL_run_19 20 rfl ?_
      exact n_iret C hE hr hlk (Nat.le_of_ble_eq_true rfl) (Nat.le_of_ble_eq_true rfl) dL_run_20 ⟨2, S1, none, _, rfl, rfl, h1, fun b e => nomatch e⟩
def wL_count (n : Nat → Nat) (a1 : Int32) (S : Nat → Nat → Int32) (QW : Int32 → (Nat → Nat → Int32) → Option Int32 → Prop) : Prop := wX4_count n a1 S (fun v S1 => QW 0 S1 (some v)) (fun E S1 => (E = "java/lang/IndexOutOfBoundsException" ∧ QW 1 S1 none))
theorem b_713 : Cond.codeWith yL_count cL_count 4 (some .int) [(0, 9, 12, 13)] ∈ BIG := List.mem_filter.mpr ⟨List.mem_of_getElem? (i := 713) (by decide +kernel), by decide +kernel⟩
theorem b_717 : Cond.code yX4_count cX4_count 2 (some .int) ∈ BIG := List.mem_filter.mpr ⟨List.mem_of_getElem? (i := 717) (by decide +kernel), by decide +kernel⟩
theorem b_715 : Cond.instanceMethod yX4_count ∈ BIG := List.mem_filter.mpr ⟨List.mem_of_getElem? (i := 715) (by decide +kernel), by decide +kernel⟩
theorem b_716 : Cond.selects RX4 yX4_count yX4_count ∈ BIG := List.mem_filter.mpr ⟨List.mem_of_getElem? (i := 716) (by decide +kernel), by decide +kernel⟩
theorem b_714 : Cond.methodLink RL 71 yX4_count ∈ BIG := List.mem_filter.mpr ⟨List.mem_of_getElem? (i := 714) (by decide +kernel), by decide +kernel⟩
set_option maxRecDepth 100000 in
set_option maxHeartbeats 4000000 in
theorem cnL_count {l : Launch} {D : va_G} {A n : Nat → Nat} {cI cG cR cL : ClassId} {aK aV aO : Nat} {a1 : Int32} {S : Nat → Nat → Int32} {fO : Nat → Int64} {QW : Int32 → (Nat → Nat → Int32) → Option Int32 → Prop} (hst : l.stackTraces = false) (hi : Apart 32 A) (h : wL_count n a1 S QW) : CnW l D (tyL cI cG cR cL) (FxW aK aV) yL_count cL_count 4 (some .int) [(0, 9, 12, 13)] 7 110 1 6 [.ref (A 0), .int a1, .ref aO] (wd 32 A (ceC A n cI cG cR) S ++ [outC aO cL fO]) (fun v w1 => ∃ r S1 ov f1, v = some (.int r) ∧ w1 = wd 32 A (ceC A n cI cG cR) S1 ++ [outC aO cL f1] ∧ QW r S1 ov ∧ ∀ b, ov = some b → f1 0 = b.toInt64) := by
  refine CnW.of (by decide +kernel) [(0, .ref (A 0)), (1, .int a1), (2, .ref aO)] rfl (Nat.le_of_ble_eq_true rfl) ?_
  intro p e s m args below meth c Acc C hr hlk htab hXs Qf hE
  unfold wL_count at h
  refine n_aload_n C 2 rfl dL_count_0 1 rfl ?_
  refine n_iconst C 0 rfl dL_count_1 2 rfl ?_
  refine n_aload_n C 0 rfl dL_count_2 3 rfl ?_
  refine n_iload_n C 1 rfl dL_count_3 4 rfl ?_
  refine n_callVX C hXs (As := [.int a1]) [outC aO cL fO] [.int 0, .ref aO] rfl (ctX4_count hst hi h) hi rfl b_717 b_44 b_715 b_716 b_714 ⟨by decide +kernel, by decide +kernel, (show (parseMethodDescriptor yX4_count.desc).map (fun d => d.parameters.length) = some 1 by decide +kernel)⟩ ⟨(Nat.le_of_ble_eq_true rfl), (Nat.le_of_ble_eq_true rfl)⟩ rfl (Nat.le_of_ble_eq_true rfl) 1 6 rfl rfl ⟨(Nat.le_of_ble_eq_true rfl), (Nat.le_of_ble_eq_true rfl)⟩ dL_count_4 7 rfl (fun r S1 h1 => ?_) (fun E S1 h1 => ?_)
  · show JW p l e _ s m args below meth c 1 6 Qf D Acc 4 (wd 32 A (ceC A n cI cG cR) S1 ++ [outC aO cL fO]) 7 [(0, .ref (A 0)), (1, .int a1), (2, .ref aO)] [.int r, .int 0, .ref aO]
    refine n_i2l C dL_count_7 8 rfl ?_
    refine n_last C 32 3 wd_out rfl (show vp_in 0 1 by unfold vp_in; decide) dL_count_8 9 rfl _ wd_outs ?_
    refine n_goto C 15 dL_count_9 rfl ?_
    refine n_iconst C 0 rfl dL_count_15 16 rfl ?_
    exact n_iret C hE hr hlk (Nat.le_of_ble_eq_true rfl) (Nat.le_of_ble_eq_true rfl) dL_count_16 ⟨0, S1, some r, _, rfl, rfl, h1, fun b e => by cases e; rfl⟩
  · rcases h1 with ⟨rfl, h1⟩
    · refine ⟨12, ⟨[], ⟨0, 9, 12, 13⟩, [], htab.trans rfl, (fun _ h => nomatch h), by decide, by decide, ⟨"java/lang/IndexOutOfBoundsException", C.2.2.2.2.1 _ b_248, hXs.1.2.2.2.2.2.2.2.use _ (by decide)⟩, rfl⟩, fun b => ?_⟩
      refine n_astore_n C [(3, .ref b), (0, .ref (A 0)), (1, .int a1), (2, .ref aO)] (Nat.le_of_ble_eq_true rfl) rfl dL_count_12 13 rfl ?_
      refine n_iconst C 1 rfl dL_count_13 14 rfl ?_
      exact n_iret C hE hr hlk (Nat.le_of_ble_eq_true rfl) (Nat.le_of_ble_eq_true rfl) dL_count_14 ⟨1, S1, none, _, rfl, rfl, h1, fun b e => nomatch e⟩
