/-! methods that return or throw: over the same worlds -/
def XX (QX : String → (Nat → Nat → Int32) → Prop) (D : va_G) (tys : List (ClassId × FieldType)) (N : Nat) (A : Nat → Nat) (ce : Nat → (Nat → Int32) → va_E) (B : Nat → Prop) : String → State → State → Prop := fun E st t =>
  (∃ S : Nat → Nat → Int32, QX E S ∧ va_P D vwCl (wd N A ce S) t.heap ∧ va_K D vwCl tys t) ∧ va_F B st t
def Cv {ρ : Type} (l : Launch) (D : va_G) (tys : List (ClassId × FieldType)) (N : Nat) (A : Nat → Nat) (ce : Nat → (Nat → Int32) → va_E) (X : (Nat → Prop) → State → Heap → Prop) (y : MethodName) (cc : ByteArray) (nL : Nat) (rt : Option FieldType) (fr lo mc ms : Nat) (argsL : List Value) (S : Nat → Nat → Int32) (ret : ρ → Option Value) (Q : ρ → (Nat → Nat → Int32) → Prop) (QX : String → (Nat → Nat → Int32) → Prop) : Prop :=
  ∀ sz, vx_Met l y (wsq y cc nL rt) ({ frames := fr, cells := mc, slots := ms, locals := lo }) (PP argsL S D tys N A ce X sz) (QQ ret Q D tys N A ce (acc N A sz)) (XX QX D tys N A ce (acc N A sz)) mc ms (acc N A sz)
theorem Cv.of {ρ : Type} {l : Launch} {D : va_G} {tys : List (ClassId × FieldType)} {N : Nat} {A : Nat → Nat} {ce : Nat → (Nat → Int32) → va_E} {X : (Nat → Prop) → State → Heap → Prop} {y : MethodName} {cc : ByteArray} {nL : Nat} {rt : Option FieldType} {fr lo mc ms : Nat} {argsL : List Value} {S : Nat → Nat → Int32} {ret : ρ → Option Value} {Q : ρ → (Nat → Nat → Int32) → Prop} {QX : String → (Nat → Nat → Int32) → Prop}
    (hy : plainName y.cls = true) (hX : StX X) (hi : Apart N A) (L : List (Nat × Value)) (hL : lv_args 0 argsL = L) (hn : (lg_sl argsL).length ≤ nL)
    (body : ∀ (p : Program) (e : Env) (s : State) (m : MethodId) (args : Array Value) (below : List Frame) (meth : Method) (c : Code) (Acc : Nat → Prop), Cx p s m args c cc nL y.cls D tys N A X Acc → meth.sig.returnType = rt → meth.locks = false → (∀ x ∈ c.exceptionTable.toList, False) →
      ∀ Qf, Qf = vx_MQ below (QQ ret Q D tys N A ce Acc) (XX QX D tys N A ce Acc) args s mc ms Acc → J p l e ({ frames := fr, cells := mc, slots := ms, locals := lo }) s m args below meth c 0 0 Qf D N A ce Acc nL S 0 L []) : Cv l D tys N A ce X y cc nL rt fr lo mc ms argsL S ret Q QX := by
  intro sz
  refine vx_ofW (cc := cc) (maxL := nL) (ret := rt) hy rfl ?_
  intro p e s m args below meth c s₁ B hml htab hv
  obtain ⟨rfl, hsz, hP, hK, hXs⟩ := hv
  subst hsz
  have hts := atoms_spec (ws := wsq y cc nL rt) B.pre
  have hl := lv_entry argsL (n := nL) hn
  rw [lg_entry_eq]
  rw [hL] at hl
  exact body p e s m _ below meth c (acc N A s.heap.size) ⟨B.exec, B.bytes, hml, findClass_of_methodNamed B.named, fun w hw => hts w (List.mem_cons_of_mem _ hw), hK, hi, fun k hk => Or.inl ⟨k, hk, rfl⟩, fun q hq => Or.inr hq, hX, hXs⟩ B.returns B.notSynchronized htab _ rfl s.heap [] _ hP va_S.rf hl

section XROWS
variable {p : Program} {l : Launch} {e : Env} {R : Room} {s : State} {m : MethodId} {args : Array Value} {below : List Frame} {meth : Method} {c : Code} {cells slots : Nat} {Qf : State → Prop} {D : va_G} {N : Nat} {A : Nat → Nat} {ce : Nat → (Nat → Int32) → va_E} {Acc : Nat → Prop} {nL : Nat} {S : Nat → Nat → Int32} {pc : Nat} {L : List (Nat × Value)} {st : List Value} {cc : ByteArray} {own : String} {tys : List (ClassId × FieldType)} {X : (Nat → Prop) → State → Heap → Prop}
theorem rx_iret (C : Cx p s m args c cc nL own D tys N A X Acc) {mc ms : Nat} {QX : String → (Nat → Nat → Int32) → Prop} {Q : Int32 → (Nat → Nat → Int32) → Prop} (hE : Qf = vx_MQ below (QQ rI Q D tys N A ce Acc) (XX QX D tys N A ce Acc) args s mc ms Acc) (hr : meth.sig.returnType = some .int) (hlk : meth.locks = false) {r : Int32} (hc : cells ≤ mc) (hs : slots ≤ ms) (d : decode cc pc = .ok (.ireturn, 1)) (h : Q r S) : J p l e R s m args below meth c cells slots Qf D N A ce Acc nL S pc L [.int r] := by
  subst hE
  intro H locs ls hP hS hl
  exact vx_ret (W.widen hc hs (W.iret (hlocks := hlk) C.1 C.2.1 hr (fun t ht hW => ⟨⟨r, S, rfl, h, by rw [ht]; exact hP, va_K.moved hW.alike C.2.2.2.2.2.1⟩, hS.F ht⟩) hS.2.2 d))
theorem rx_vret (C : Cx p s m args c cc nL own D tys N A X Acc) {mc ms : Nat} {QX : String → (Nat → Nat → Int32) → Prop} {Q : Unit → (Nat → Nat → Int32) → Prop} (hE : Qf = vx_MQ below (QQ rU Q D tys N A ce Acc) (XX QX D tys N A ce Acc) args s mc ms Acc) (hr : meth.sig.returnType = none) (hlk : meth.locks = false) {r : Unit} (hc : cells ≤ mc) (hs : slots ≤ ms) (d : decode cc pc = .ok (.return_, 1)) (h : Q r S) : J p l e R s m args below meth c cells slots Qf D N A ce Acc nL S pc L [] := by
  subst hE
  intro H locs ls hP hS hl
  exact vx_ret (W.widen hc hs (W.vret (hlocks := hlk) C.1 C.2.1 hr (fun t ht hW => ⟨⟨r, S, rfl, h, by rw [ht]; exact hP, va_K.moved hW.alike C.2.2.2.2.2.1⟩, hS.F ht⟩) hS.2.2 d))
/-- behind a call that returned or threw; thrown on -/
theorem rx_after (C : Cx p s m args c cc nL own D tys N A X Acc) {mc ms : Nat} {QX : String → (Nat → Nat → Int32) → Prop} {ρ1 : Type} {ret1 : ρ1 → Option Value} {Q1 : ρ1 → (Nat → Nat → Int32) → Prop} (hE : Qf = vx_MQ below (QQ ret1 Q1 D tys N A ce Acc) (XX QX D tys N A ce Acc) args s mc ms Acc) (hlk : meth.locks = false) (htab : ∀ x ∈ c.exceptionTable.toList, False)
    {ρ : Type} {ret : ρ → Option Value} {Q : ρ → (Nat → Nat → Int32) → Prop} {st0 rest : List Value} {H : Heap} {locs : List Loc} {ls : Array Slot} {a : Array Value} {mc1 ms1 c1 s1 : Nat} (hS : va_S Acc s.heap H locs) (hl : lv_has ls nL L)
    (hr : vx_Run p l e R s m args below meth c H locs cells slots mc1 ms1 (F0 m pc ls st0) rest (QQ ret Q D tys N A ce (acc N A H.size) a) (XX QX D tys N A ce (acc N A H.size)) (acc N A H.size)) (hc : cells + mc1 = c1) (hs : slots + ms1 = s1) (hc1 : c1 ≤ mc) (hs1 : s1 ≤ ms)
    (K : ∀ (r : ρ) (S1 : Nat → Nat → Int32), Q r S1 → J p l e R s m args below meth c c1 s1 Qf D N A ce Acc nL S1 (pc + 3) L ((ret r).toList ++ rest)) : W p l e R s m args below meth c H locs cells slots Qf (F0 m pc ls st0) := by
  subst hc
  subst hs
  intro T hT X0
  have frame : ∀ (T' : State) (L1 : List Loc) (st₀ t : State), st₀.heap = H → T'.heap = t.heap → (∀ q ∈ L1, acc N A H.size q.base) → va_F (acc N A H.size) st₀ t → va_S Acc s.heap T'.heap (locs ++ L1) := by
    intro T' L1 st₀ t h0 e1 hL hF
    obtain ⟨hz, hk⟩ := hF
    rw [h0] at hz hk
    exact ⟨Nat.le_trans hS.1 (by rw [e1]; exact hz), fun q h1 h2 => by
      rw [e1, hk q (Nat.lt_of_lt_of_le h1 hS.1) (fun z => h2 (acc_in C hS.1 q z))]; exact hS.2.1 q h1 h2, fun q hq => by
      rcases List.mem_append.mp hq with h | h
      · exact hS.2.2 q h
      · exact acc_in C hS.1 _ (hL q h)⟩
  rcases hr T hT X0 with ⟨v, st₀, t, T', L1, h0, X', hL, e1, e2, ⟨⟨r, S1, hv, hq, hP1, hK1⟩, hF⟩, st⟩ | ⟨q, st₀, t, T', L1, E, ce0, h0, X', hL, e1, e2, ⟨⟨S1, hq, hP1, hK1⟩, hF⟩, hcell, hcv, hcl, st⟩
  · cases hv
    obtain ⟨t2, a1, b1⟩ := K r S1 hq T'.heap (locs ++ L1) ls (by rw [e1]; exact hP1) (frame T' L1 st₀ t h0 e1 hL hF) hl T' rfl X'
    exact ⟨t2, st t2 a1, b1⟩
  · have hS1 := frame T' L1 st₀ t h0 e1 hL hF
    subst hE
    obtain ⟨t2, a1, b1⟩ := vx_out (H := T'.heap) (pc := pc) (ls := ls) (rest := rest) (E := E) (ce := ce0) (q := q) (mc := mc) (ms := ms) (XC := XX QX D tys N A ce Acc) (Qc := QQ ret1 Q1 D tys N A ce Acc) (free := Acc) (fun x hx => (htab x hx).elim) hlk (by rw [e1]; exact hcell) hcv hcl (fun t2 ht2 hW2 => ⟨⟨S1, hq, by rw [ht2, e1]; exact hP1, va_K.moved hW2 C.2.2.2.2.2.1⟩, hS1.F ht2⟩) hS1.2.2 hc1 hs1 T' rfl X'
    exact ⟨t2, st.trans a1, b1⟩
theorem cbx_of (C : Cx p s m args c cc nL own D tys N A X Acc) {y : MethodName} {cy : ByteArray} {ny : Nat} {ry : Option FieldType} {fr lo mc ms index : Nat} (n : Nat)
    (hcode : Cond.code y cy ny ry ∈ BIG) (hini : Cond.initialized y.cls ∈ BIG) (hlink : Cond.methodLink own index y ∈ BIG)
    (hd : y.cls ≠ "java/lang/invoke/MethodHandle" ∧ y.cls ≠ "java/lang/invoke/VarHandle" ∧ (parseMethodDescriptor y.desc).map (fun d => d.parameters.length) = some n) (hR : fr + 1 ≤ R.frames ∧ 8 + (ny + 11) + lo ≤ R.locals) :
    CallB R s args own index y cy ny ry (wsq y cy ny ry) ({ frames := fr, cells := mc, slots := ms, locals := lo }) mc ms n := by
  have hts := C.2.2.2.2.1
  have hG : GoodIn (wsq y cy ny ry) (wsq y cy ny ry) := fun w hw => ⟨hw, by
    rcases List.mem_cons.mp hw with rfl | h
    · exact BIG_good _ hcode
    · exact BIG_good _ h⟩
  exact callB_of (Ts := wsq y cy ny ry) n (fun w hw => by
    rcases List.mem_cons.mp hw with rfl | h
    · exact hts _ hcode
    · exact hts _ h) hG rfl rfl rfl (hts _ hini) (hts _ hlink) hd hR
theorem rx_callV (C : Cx p s m args c cc nL own D tys N A X Acc) {ρ : Type} {ret : ρ → Option Value} {Q : ρ → (Nat → Nat → Int32) → Prop} {y : MethodName} {cy : ByteArray} {ny : Nat} {ry : Option FieldType} {fr lo mc1 ms1 index : Nat} {As : List Value} {mc ms : Nat} {QX : String → (Nat → Nat → Int32) → Prop} {ρ1 : Type} {ret1 : ρ1 → Option Value} {Q1 : ρ1 → (Nat → Nat → Int32) → Prop} (hE : Qf = vx_MQ below (QQ ret1 Q1 D tys N A ce Acc) (XX QX D tys N A ce Acc) args s mc ms Acc) (hlk : meth.locks = false) (htab : ∀ x ∈ c.exceptionTable.toList, False) (k : Nat) {ci : Nat} {T : u_T} {nF : Nat} {fs : List Value} (rest : List Value) {st0 : List Value}
    (h : Cv l D tys N A ce X y cy ny ry fr lo mc1 ms1 (.ref (A k) :: As) S ret Q QX) (hk : k < N) (he : ce k (S k) = .inr (ci, fs)) (hcl : vwCl[ci]? = some (y.cls, T, nF))
    (hcode : Cond.code y cy ny ry ∈ BIG) (hini : Cond.initialized y.cls ∈ BIG) (hinst : Cond.instanceMethod y ∈ BIG) (hsel : Cond.selects y.cls y y ∈ BIG) (hlink : Cond.methodLink own index y ∈ BIG)
    (hd : y.cls ≠ "java/lang/invoke/MethodHandle" ∧ y.cls ≠ "java/lang/invoke/VarHandle" ∧ (parseMethodDescriptor y.desc).map (fun d => d.parameters.length) = some As.length) (hR : fr + 1 ≤ R.frames ∧ 8 + (ny + 11) + lo ≤ R.locals) (hst : st0 = As.reverse ++ .ref (A k) :: rest) (hcat : (rest.map fun v => v.category).sum ≤ 8) (c1 s1 : Nat) (hc : cells + mc1 = c1) (hs : slots + ms1 = s1) (hc1 : c1 ≤ mc) (hs1 : s1 ≤ ms) (hcs : c1 ≤ R.cells ∧ s1 ≤ R.slots)
    (d : decode cc pc = .ok (.invokevirtual index, 3)) (q : Nat) (hq : pc + 3 = q) (K : ∀ (r : ρ) (S1 : Nat → Nat → Int32), Q r S1 → J p l e R s m args below meth c c1 s1 Qf D N A ce Acc nL S1 q L ((ret r).toList ++ rest)) : J p l e R s m args below meth c cells slots Qf D N A ce Acc nL S pc L st0 := by
  subst hq
  intro H locs ls hP hS hl
  refine rx_after C hE hlk htab hS hl (vx_runV ⟨C.1, C.2.1, C.2.2.1, C.2.2.2.1, C.2.2.2.2.1⟩ (h H.size) ⟨cbx_of C As.length hcode hini hlink hd hR, C.2.2.2.2.1 _ hinst, C.2.2.2.2.1 _ hsel⟩ ⟨PP_blind C.2.2.2.2.2.2.2.2.2.1, va_recv C.2.2.2.2.2.1 hP hcl (q0 := k) (by rw [wd_at hk, he]), pre_in C hP hS _⟩ rfl rfl hl.1 hst (lv_room hcat) d (by rw [hc, hs]; exact hcs)) hc hs hc1 hs1 K
theorem rx_callS (C : Cx p s m args c cc nL own D tys N A X Acc) {ρ : Type} {ret : ρ → Option Value} {Q : ρ → (Nat → Nat → Int32) → Prop} {y : MethodName} {cy : ByteArray} {ny : Nat} {ry : Option FieldType} {fr lo mc1 ms1 index : Nat} {As : List Value} {mc ms : Nat} {QX : String → (Nat → Nat → Int32) → Prop} {ρ1 : Type} {ret1 : ρ1 → Option Value} {Q1 : ρ1 → (Nat → Nat → Int32) → Prop} (hE : Qf = vx_MQ below (QQ ret1 Q1 D tys N A ce Acc) (XX QX D tys N A ce Acc) args s mc ms Acc) (hlk : meth.locks = false) (htab : ∀ x ∈ c.exceptionTable.toList, False) (rest : List Value) {st0 : List Value}
    (h : Cv l D tys N A ce X y cy ny ry fr lo mc1 ms1 As S ret Q QX)
    (hcode : Cond.code y cy ny ry ∈ BIG) (hini : Cond.initialized y.cls ∈ BIG) (hstat : Cond.static y ∈ BIG) (hlink : Cond.methodLink own index y ∈ BIG)
    (hd : y.cls ≠ "java/lang/invoke/MethodHandle" ∧ y.cls ≠ "java/lang/invoke/VarHandle" ∧ (parseMethodDescriptor y.desc).map (fun d => d.parameters.length) = some As.length) (hR : fr + 1 ≤ R.frames ∧ 8 + (ny + 11) + lo ≤ R.locals) (hst : st0 = As.reverse ++ rest) (hcat : (rest.map fun v => v.category).sum ≤ 8) (c1 s1 : Nat) (hc : cells + mc1 = c1) (hs : slots + ms1 = s1) (hc1 : c1 ≤ mc) (hs1 : s1 ≤ ms) (hcs : c1 ≤ R.cells ∧ s1 ≤ R.slots)
    (d : decode cc pc = .ok (.invokestatic index, 3)) (q : Nat) (hq : pc + 3 = q) (K : ∀ (r : ρ) (S1 : Nat → Nat → Int32), Q r S1 → J p l e R s m args below meth c c1 s1 Qf D N A ce Acc nL S1 q L ((ret r).toList ++ rest)) : J p l e R s m args below meth c cells slots Qf D N A ce Acc nL S pc L st0 := by
  subst hq
  intro H locs ls hP hS hl
  refine rx_after C hE hlk htab hS hl (vx_runS ⟨C.1, C.2.1, C.2.2.1, C.2.2.2.1, C.2.2.2.2.1⟩ (h H.size) ⟨cbx_of C As.length hcode hini hlink hd hR, C.2.2.2.2.1 _ hstat⟩ ⟨PP_blind C.2.2.2.2.2.2.2.2.2.1, pre_in C hP hS _⟩ rfl rfl hl.1 hst (lv_room hcat) d (by rw [hc, hs]; exact hcs)) hc hs hc1 hs1 K
end XROWS
section XTH
variable {p : Program} {l : Launch} {e : Env} {R : Room} {s : State} {m : MethodId} {args : Array Value} {below : List Frame} {meth : Method} {c : Code} {cells slots : Nat} {Qf : State → Prop} {D : va_G} {N : Nat} {A : Nat → Nat} {ce : Nat → (Nat → Int32) → va_E} {Acc : Nat → Prop} {nL : Nat} {S : Nat → Nat → Int32} {pc : Nat} {L : List (Nat × Value)} {st : List Value} {cc : ByteArray} {own : String} {tys : List (ClassId × FieldType)} {aK aV : Nat}
theorem rx_throw (C : Cx p s m args c cc nL own D tys N A (FxC aK aV) Acc) {mc ms : Nat} {QX : String → (Nat → Nat → Int32) → Prop} {ρ1 : Type} {ret1 : ρ1 → Option Value} {Q1 : ρ1 → (Nat → Nat → Int32) → Prop} (hE : Qf = vx_MQ below (QQ ret1 Q1 D tys N A ce Acc) (XX QX D tys N A ce Acc) args s mc ms Acc) (hlk : meth.locks = false) (htab : ∀ x ∈ c.exceptionTable.toList, False) (hst : l.stackTraces = false)
    {cls : String} {names : List String} {ik ic : Nat} (hcls : Bundle.fit cls = true) (hnames : ∀ n ∈ names, Bundle.fit n = true) (hk : Cond.classLink own ik cls ∈ BIG) (hini : Cond.initialized cls ∈ BIG)
    (hat1 : ∀ w ∈ (vx_at0 own ic cls names).filter goodWord, w ∈ BIG) (hat2 : ∀ w ∈ (vx_at0 own ic cls names).filter (fun w => !goodWord w), w ∈ NGl) (hgood : ∀ w ∈ Cond.classLink own ik cls :: Cond.initialized cls :: vx_at0 own ic cls names, vx_ot w = true)
    (d0 : decode cc pc = .ok (.new ik, 3)) (d3 : decode cc (pc + 3) = .ok (.dup, 1)) (d4 : decode cc (pc + 4) = .ok (.invokespecial ic, 3)) (d7 : decode cc (pc + 7) = .ok (.athrow, 1))
    (hR : names.length + 3 < R.frames ∧ (st.map fun v => v.category).sum + (13 * (names.length + 1) + 42) ≤ R.locals ∧ cells + 1 ≤ R.cells ∧ slots + 6 ≤ R.slots) (hc : cells + 1 ≤ mc) (hs : slots + 6 ≤ ms) (h : QX cls S) : J p l e R s m args below meth c cells slots Qf D N A ce Acc nL S pc L st := by
  subst hE
  intro H locs ls hP hS hl
  have hts := C.2.2.2.2.1
  have hX := C.2.2.2.2.2.2.2.2.2.2
  refine vx_throw0 C.1 C.2.1 hst C.2.2.2.1 hcls hnames (hts _ hk) (hts _ hini) (vx_hat (fun w hw => hts w (hat1 w hw)) hat2 hX.2.2.2.2.2.2.2.use) hgood hX.1 hX.2.1 hS (hl.1.trans C.2.2.1.symm) d0 d3 d4 d7 (fun x hx => (htab x hx).elim) hR.1 hR.2.1 hR.2.2.1 hR.2.2.2 hlk (fun t hW hz hk => ?_) hS.2.2 hc hs
  refine ⟨⟨S, h, hP.kept (fun k q hq => hk _ ?_), va_K.moved hW C.2.2.2.2.2.1⟩, Nat.le_trans hS.1 hz, fun q h1 h2 => (hk q (Nat.lt_of_lt_of_le h1 hS.1)).trans (hS.2.1 q h1 h2)⟩
  exact (hP k q hq).lt
end XTH
theorem e_IO_k : Cond.classLink RX4 135 "java/lang/IndexOutOfBoundsException" ∈ BIG := List.mem_filter.mpr ⟨List.mem_of_getElem? (i := 260) (by decide +kernel), by decide +kernel⟩
theorem e_IO_i : Cond.initialized "java/lang/IndexOutOfBoundsException" ∈ BIG := List.mem_filter.mpr ⟨List.mem_of_getElem? (i := 54) (by decide +kernel), by decide +kernel⟩
theorem e_IO_1 : ∀ w ∈ (vx_at0 RX4 137 "java/lang/IndexOutOfBoundsException" ["java/lang/RuntimeException", "java/lang/Exception"]).filter goodWord, w ∈ BIG := by
  intro w hw
  have h1 : ∀ w ∈ (vx_at0 RX4 137 "java/lang/IndexOutOfBoundsException" ["java/lang/RuntimeException", "java/lang/Exception"]).filter goodWord, w ∈ lw_tbl := by decide +kernel
  exact List.mem_filter.mpr ⟨h1 w hw, (List.mem_filter.mp hw).2⟩
theorem e_IO_2 : ∀ w ∈ (vx_at0 RX4 137 "java/lang/IndexOutOfBoundsException" ["java/lang/RuntimeException", "java/lang/Exception"]).filter (fun w => !goodWord w), w ∈ NGl := by decide +kernel
theorem e_IO_3 : ∀ w ∈ Cond.classLink RX4 135 "java/lang/IndexOutOfBoundsException" :: Cond.initialized "java/lang/IndexOutOfBoundsException" :: vx_at0 RX4 137 "java/lang/IndexOutOfBoundsException" ["java/lang/RuntimeException", "java/lang/Exception"], vx_ot w = true := by decide +kernel
theorem e_IA_k : Cond.classLink RX4 35 "java/lang/IllegalArgumentException" ∈ BIG := List.mem_filter.mpr ⟨List.mem_of_getElem? (i := 323) (by decide +kernel), by decide +kernel⟩
theorem e_IA_i : Cond.initialized "java/lang/IllegalArgumentException" ∈ BIG := List.mem_filter.mpr ⟨List.mem_of_getElem? (i := 55) (by decide +kernel), by decide +kernel⟩
theorem e_IA_1 : ∀ w ∈ (vx_at0 RX4 37 "java/lang/IllegalArgumentException" ["java/lang/RuntimeException", "java/lang/Exception"]).filter goodWord, w ∈ BIG := by
  intro w hw
  have h1 : ∀ w ∈ (vx_at0 RX4 37 "java/lang/IllegalArgumentException" ["java/lang/RuntimeException", "java/lang/Exception"]).filter goodWord, w ∈ lw_tbl := by decide +kernel
  exact List.mem_filter.mpr ⟨h1 w hw, (List.mem_filter.mp hw).2⟩
theorem e_IA_2 : ∀ w ∈ (vx_at0 RX4 37 "java/lang/IllegalArgumentException" ["java/lang/RuntimeException", "java/lang/Exception"]).filter (fun w => !goodWord w), w ∈ NGl := by decide +kernel
theorem e_IA_3 : ∀ w ∈ Cond.classLink RX4 35 "java/lang/IllegalArgumentException" :: Cond.initialized "java/lang/IllegalArgumentException" :: vx_at0 RX4 37 "java/lang/IllegalArgumentException" ["java/lang/RuntimeException", "java/lang/Exception"], vx_ot w = true := by decide +kernel
theorem e_IS_k : Cond.classLink RX4 81 "java/lang/IllegalStateException" ∈ BIG := List.mem_filter.mpr ⟨List.mem_of_getElem? (i := 460) (by decide +kernel), by decide +kernel⟩
theorem e_IS_i : Cond.initialized "java/lang/IllegalStateException" ∈ BIG := List.mem_filter.mpr ⟨List.mem_of_getElem? (i := 57) (by decide +kernel), by decide +kernel⟩
theorem e_IS_1 : ∀ w ∈ (vx_at0 RX4 83 "java/lang/IllegalStateException" ["java/lang/RuntimeException", "java/lang/Exception"]).filter goodWord, w ∈ BIG := by
  intro w hw
  have h1 : ∀ w ∈ (vx_at0 RX4 83 "java/lang/IllegalStateException" ["java/lang/RuntimeException", "java/lang/Exception"]).filter goodWord, w ∈ lw_tbl := by decide +kernel
  exact List.mem_filter.mpr ⟨h1 w hw, (List.mem_filter.mp hw).2⟩
theorem e_IS_2 : ∀ w ∈ (vx_at0 RX4 83 "java/lang/IllegalStateException" ["java/lang/RuntimeException", "java/lang/Exception"]).filter (fun w => !goodWord w), w ∈ NGl := by decide +kernel
theorem e_IS_3 : ∀ w ∈ Cond.classLink RX4 81 "java/lang/IllegalStateException" :: Cond.initialized "java/lang/IllegalStateException" :: vx_at0 RX4 83 "java/lang/IllegalStateException" ["java/lang/RuntimeException", "java/lang/Exception"], vx_ot w = true := by decide +kernel
theorem b_256 : Cond.code yX4_lookAtRoot cX4_lookAtRoot 1 none ∈ BIG := List.mem_filter.mpr ⟨List.mem_of_getElem? (i := 256) (by decide +kernel), by decide +kernel⟩
theorem b_254 : Cond.methodLink RX4 31 yX4_lookAtRoot ∈ BIG := List.mem_filter.mpr ⟨List.mem_of_getElem? (i := 254) (by decide +kernel), by decide +kernel⟩
theorem b_255 : Cond.static yX4_lookAtRoot ∈ BIG := List.mem_filter.mpr ⟨List.mem_of_getElem? (i := 255) (by decide +kernel), by decide +kernel⟩
theorem b_455 : Cond.code yX4_lookAtRootOrNone cX4_lookAtRootOrNone 1 none ∈ BIG := List.mem_filter.mpr ⟨List.mem_of_getElem? (i := 455) (by decide +kernel), by decide +kernel⟩
theorem b_453 : Cond.methodLink RX4 56 yX4_lookAtRootOrNone ∈ BIG := List.mem_filter.mpr ⟨List.mem_of_getElem? (i := 453) (by decide +kernel), by decide +kernel⟩
theorem b_454 : Cond.static yX4_lookAtRootOrNone ∈ BIG := List.mem_filter.mpr ⟨List.mem_of_getElem? (i := 454) (by decide +kernel), by decide +kernel⟩
theorem b_459 : Cond.code yX4_objectOf cX4_objectOf 3 (some .int) ∈ BIG := List.mem_filter.mpr ⟨List.mem_of_getElem? (i := 459) (by decide +kernel), by decide +kernel⟩
theorem b_456 : Cond.methodLink RX4 59 yX4_objectOf ∈ BIG := List.mem_filter.mpr ⟨List.mem_of_getElem? (i := 456) (by decide +kernel), by decide +kernel⟩
theorem b_458 : Cond.instanceMethod yX4_objectOf ∈ BIG := List.mem_filter.mpr ⟨List.mem_of_getElem? (i := 458) (by decide +kernel), by decide +kernel⟩
theorem b_11 : Cond.selects RX4 yX4_objectOf yX4_objectOf ∈ BIG := List.mem_filter.mpr ⟨List.mem_of_getElem? (i := 11) (by decide +kernel), by decide +kernel⟩
theorem b_478 : Cond.code yX4_lookAtField cX4_lookAtField 3 none ∈ BIG := List.mem_filter.mpr ⟨List.mem_of_getElem? (i := 478) (by decide +kernel), by decide +kernel⟩
theorem b_475 : Cond.methodLink RX4 63 yX4_lookAtField ∈ BIG := List.mem_filter.mpr ⟨List.mem_of_getElem? (i := 475) (by decide +kernel), by decide +kernel⟩
theorem b_477 : Cond.instanceMethod yX4_lookAtField ∈ BIG := List.mem_filter.mpr ⟨List.mem_of_getElem? (i := 477) (by decide +kernel), by decide +kernel⟩
theorem b_12 : Cond.selects RX4 yX4_lookAtField yX4_lookAtField ∈ BIG := List.mem_filter.mpr ⟨List.mem_of_getElem? (i := 12) (by decide +kernel), by decide +kernel⟩
theorem b_534 : Cond.code yX4_lookAtWeakPlace cX4_lookAtWeakPlace 1 none ∈ BIG := List.mem_filter.mpr ⟨List.mem_of_getElem? (i := 534) (by decide +kernel), by decide +kernel⟩
theorem b_532 : Cond.methodLink RX4 95 yX4_lookAtWeakPlace ∈ BIG := List.mem_filter.mpr ⟨List.mem_of_getElem? (i := 532) (by decide +kernel), by decide +kernel⟩
theorem b_533 : Cond.static yX4_lookAtWeakPlace ∈ BIG := List.mem_filter.mpr ⟨List.mem_of_getElem? (i := 533) (by decide +kernel), by decide +kernel⟩
