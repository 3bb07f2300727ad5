/-! the law's own body: its rows -/
section LAW1
variable {p : Program} {l : Launch} {e : Env} {R : Room} {s : State} {m : MethodId} {args : Array Value} {below : List Frame} {meth : Method} {c : Code} {cells slots : Nat} {Qf : State → Prop} {D : va_G} {Acc : Nat → Prop} {nL : Nat} {ws : va_W} {pc : Nat} {L : List (Nat × Value)} {st : List Value} {cc : ByteArray} {own : String} {tys : List (ClassId × FieldType)}
theorem n_conv {w1 : va_W} (h : ∀ H : Heap, va_P D vwCl ws H ∧ va_D Acc ws → va_P D vwCl w1 H ∧ va_D Acc w1) (K : JW p l e R s m args below meth c cells slots Qf D Acc nL w1 pc L st) : JW p l e R s m args below meth c cells slots Qf D Acc nL ws pc L st := fun H locs ls hP hS hl => K H locs ls (h H hP) hS hl
theorem Cw.sub (C : Cw p s m args c cc nL own D tys Acc) {tys1 : List (ClassId × FieldType)} (is : List Nat) (h : is.filterMap (fun i => tys[i]?) = tys1) : Cw p s m args c cc nL own D tys1 Acc := ⟨C.1, C.2.1, C.2.2.1, C.2.2.2.1, C.2.2.2.2.1, C.2.2.2.2.2.1.sub is h, C.2.2.2.2.2.2⟩
theorem n_sld (C : Cw p s m args c cc nL own D tys Acc) {b LL : Nat} {xs : Nat → Int32} (hX : va_X b LL xs s s.heap) (hbl : b < s.heap.size) (hbA : ¬ Acc b) {i : Int32} (hin : vp_in i LL) (d : decode cc pc = .ok (.iaload, 1)) (q : Nat) (hq : pc + 1 = q) (K : JW p l e R s m args below meth c cells slots Qf D Acc nL ws q L (.int (xs i.toNatClampNeg) :: st)) : JW p l e R s m args below meth c cells slots Qf D Acc nL ws pc L (.int i :: .ref b :: st) := by
  subst hq
  exact fun H locs ls hP hS hl => va_sld C.1 C.2.1 hX hbl hbA hS hin d (K H locs ls hP hS hl)
theorem n_slen (C : Cw p s m args c cc nL own D tys Acc) {b LL : Nat} {xs : Nat → Int32} (hX : va_X b LL xs s s.heap) (hbl : b < s.heap.size) (hbA : ¬ Acc b) (d : decode cc pc = .ok (.arraylength, 1)) (q : Nat) (hq : pc + 1 = q) (K : JW p l e R s m args below meth c cells slots Qf D Acc nL ws q L (.int (nI LL) :: st)) : JW p l e R s m args below meth c cells slots Qf D Acc nL ws pc L (.ref b :: st) := by
  subst hq
  exact fun H locs ls hP hS hl => va_slen C.1 C.2.1 hX hbl hbA hS d (K H locs ls hP hS hl)
theorem n_lcmp0 (C : Cw p s m args c cc nL own D tys Acc) {x : Int64} (d : decode cc pc = .ok (.lcmp, 1)) (q : Nat) (hq : pc + 1 = q) (K : JW p l e R s m args below meth c cells slots Qf D Acc nL ws q L (.int 0 :: st)) : JW p l e R s m args below meth c cells slots Qf D Acc nL ws pc L (.long x :: .long x :: st) := by
  subst hq
  intro H locs ls hP hS hl
  refine W.lcmp C.1 C.2.1 d ?_
  rw [show lg_cmp x x = 0 by unfold lg_cmp; simp]
  exact K H locs ls hP hS hl
/-- a call of a method over a fixed world that lies among other cells -/
theorem n_midCt {X : (Nat → Prop) → State → Heap → Prop} (C : Cw p s m args c cc nL own D tys Acc) {N : Nat} {A : Nat → Nat} {ce : Nat → (Nat → Int32) → va_E} (hX : StX X) (hXs : X Acc s s.heap) {S : Nat → Nat → Int32} {wa wc : va_W} {H : Heap} {locs : List Loc} (hP : va_P D vwCl (wa ++ (wd N A ce S ++ wc)) H ∧ va_D Acc (wa ++ (wd N A ce S ++ wc))) (hS : va_S Acc s.heap H locs) (argsL : List Value) : ∀ U : State, U.heap = H → s.WarmedH U.vm → PP argsL S D tys N A ce X H.size argsL.toArray U := by
  intro U hU hW
  refine ⟨rfl, by rw [hU], by rw [hU]; exact (P_app.mp (P_app.mp hP.1).2).1, va_K.moved hW.alike C.2.2.2.2.2.1, ?_⟩
  have h1 : X Acc s H := hX.2.1 _ _ _ _ hXs (fun a h1 h2 => hS.2.1 a h1 h2)
  have h2 : X (acc N A H.size) s H := hX.2.2 _ _ _ _ h1 (fun q h => mid_in C hP.2 hS.1 q ((A_wd q).mpr h))
  rw [hU]
  exact hX.1 _ _ _ _ hW h2
theorem n_callCt {X : (Nat → Prop) → State → Heap → Prop} (C : Cw p s m args c cc nL own D tys Acc) {N : Nat} {A : Nat → Nat} {ce : Nat → (Nat → Int32) → va_E} (hX : StX X) (hXs : X Acc s s.heap) (hi : Apart N A) {ρ : Type} {ret : ρ → Option Value} {Q : ρ → (Nat → Nat → Int32) → Prop} {y : MethodName} {cy : ByteArray} {ny : Nat} {ry : Option FieldType} {fr lo index : Nat} {As : List Value} {S : Nat → Nat → Int32} (k : Nat) {ci : Nat} {T : u_T} {nF : Nat} {fs : List Value} (wa wc : va_W) (rest : List Value) {st0 : List Value} (hw : ws = wa ++ (wd N A ce S ++ wc))
    (h : Ct l D tys N A ce X y cy ny ry fr lo (.ref (A k) :: As) S ret Q) (hk : k < N) (he : ce k (S k) = .inr (ci, fs)) (hcl : vwCl[ci]? = some (y.cls, T, nF))
    (hcode : Cond.code y cy ny ry ∈ BIG) (hini : Cond.initialized y.cls ∈ BIG) (hinst : Cond.instanceMethod y ∈ BIG) (hsel : Cond.selects y.cls y y ∈ BIG) (hlink : Cond.methodLink own index y ∈ BIG)
    (hd : y.cls ≠ "java/lang/invoke/MethodHandle" ∧ y.cls ≠ "java/lang/invoke/VarHandle" ∧ (parseMethodDescriptor y.desc).map (fun d => d.parameters.length) = some As.length) (hR : fr + 1 ≤ R.frames ∧ 8 + (ny + 11) + lo ≤ R.locals) (hst : st0 = As.reverse ++ .ref (A k) :: rest) (hcat : (rest.map fun v => v.category).sum ≤ 8) (hcs : cells ≤ R.cells ∧ slots ≤ R.slots)
    (d : decode cc pc = .ok (.invokevirtual index, 3)) (q : Nat) (hq : pc + 3 = q) (K : ∀ (r : ρ) (S1 : Nat → Nat → Int32), Q r S1 → JW p l e R s m args below meth c cells slots Qf D Acc nL (wa ++ (wd N A ce S1 ++ wc)) q L ((ret r).toList ++ rest)) : JW p l e R s m args below meth c cells slots Qf D Acc nL ws pc L st0 := by
  subst hq
  subst hw
  intro H locs ls hP hS hl
  have hF := mid_in C hP.2 hS.1
  have hr := va_runV (C := y.cls) (e := e) (cells := cells) (slots := slots) (locs := locs) (below := below) (meth := meth) (H := H) (rest := rest) (g := F0 m pc ls st0) ⟨C.1, C.2.1, C.2.2.1, C.2.2.2.1, C.2.2.2.2.1⟩ (h H.size) ⟨cbn_of C As.length hcode hini hlink hd hR, C.2.2.2.2.1 _ hinst, C.2.2.2.2.1 _ hsel⟩ ⟨PP_blind hX, va_recv C.2.2.2.2.2.1 (P_app.mp (P_app.mp hP.1).2).1 hcl (q0 := k) (by rw [wd_at hk, he]), n_midCt C hX hXs hP hS _⟩ rfl rfl hl.1 hst (lv_room hcat) d ⟨hcs.1, hcs.2⟩
  intro T hT X0
  obtain ⟨v, st₀, t, T', L1, h0, X', hL, e1, e2, ⟨⟨r, S1, hv, hq, hP1, hK1⟩, hz, hk1⟩, st⟩ := hr T hT X0
  cases hv
  rw [h0] at hz hk1
  have hF3 : ∀ q, acc N A H.size q → Acc q := fun q h => hF q ((A_wd q).mpr h)
  have hS1 : va_S Acc s.heap T'.heap (locs ++ L1) := ⟨Nat.le_trans hS.1 (by rw [e1]; exact hz), fun q h1 h2 => by
      rw [e1, hk1 q (Nat.lt_of_lt_of_le h1 hS.1) (fun z => h2 (hF3 q z))]; exact hS.2.1 q h1 h2, fun q hq => by
      rcases List.mem_append.mp hq with h | h
      · exact hS.2.2 q h
      · exact hF3 _ (hL q h)⟩
  have hm := PD_mid (H1 := T'.heap) (w1 := wd N A ce S1) hP.1 hP.2 (fun q h1 h2 => by rw [e1]; exact hk1 q h1 (fun z => h2 ((A_wd q).mpr z))) hF (by rw [e1]; exact hP1) (wd_D hi (fun k hk => (A_wd _).mpr (Or.inl ⟨k, hk, rfl⟩)))
  obtain ⟨t2, a1, b1⟩ := K r S1 hq T'.heap (locs ++ L1) ls hm hS1 hl T' rfl X'
  exact ⟨t2, st t2 a1, b1⟩
/-- a call of a wrapper (a static method with a table) -/
theorem n_callW {X : (Nat → Prop) → State → Heap → Prop} (C : Cw p s m args c cc nL own D tys Acc) (hX : StX X) (hXs : X Acc s s.heap) {Qc : Option Value → va_W → Prop} {y : MethodName} {cy : ByteArray} {ny : Nat} {ry : Option FieldType} {hh : List (Nat × Nat × Nat × Nat)} {fr lo mc1 ms1 index : Nat} {As : List Value} (wa wb wc : va_W) (rest : List Value) {st0 : List Value} (hw : ws = wa ++ (wb ++ wc))
    (h : CnW l D tys X y cy ny ry hh fr lo mc1 ms1 As wb Qc) (hcode : Cond.codeWith y cy ny ry hh ∈ BIG) (hini : Cond.initialized y.cls ∈ BIG) (hstat : Cond.static y ∈ BIG) (hlink : Cond.methodLink own index y ∈ BIG)
    (hd : y.cls ≠ "java/lang/invoke/MethodHandle" ∧ y.cls ≠ "java/lang/invoke/VarHandle" ∧ (parseMethodDescriptor y.desc).map (fun d => d.parameters.length) = some As.length) (hR : fr + 1 ≤ R.frames ∧ 8 + (ny + 11) + lo ≤ R.locals) (hst : st0 = As.reverse ++ rest) (hcat : (rest.map fun v => v.category).sum ≤ 8) (c1 s1 : Nat) (hc : cells + mc1 = c1) (hs : slots + ms1 = s1) (hcs : c1 ≤ R.cells ∧ s1 ≤ R.slots)
    (d : decode cc pc = .ok (.invokestatic index, 3)) (q : Nat) (hq : pc + 3 = q) (K : ∀ (v : Option Value) (w1 : va_W), Qc v w1 → JW p l e R s m args below meth c c1 s1 Qf D Acc nL (wa ++ (w1 ++ wc)) q L (v.toList ++ rest)) : JW p l e R s m args below meth c cells slots Qf D Acc nL ws pc L st0 := by
  subst hq
  subst hw
  intro H locs ls hP hS hl
  have hts := C.2.2.2.2.1
  have hG : GoodIn (wsqW y cy ny ry hh) (wsqW y cy ny ry hh) := fun w hw => ⟨hw, by
    rcases List.mem_cons.mp hw with rfl | h
    · exact BIG_good _ hcode
    · exact BIG_good _ h⟩
  have hb : ∀ w ∈ wsqW y cy ny ry hh, w.before args s = true := fun w hw => by
    rcases List.mem_cons.mp hw with rfl | h
    · exact hts _ hcode
    · exact hts _ h
  have cb : vx_CSW R s args own index y cy ny ry hh (wsqW y cy ny ry hh) ({ frames := fr, cells := mc1, slots := ms1, locals := lo }) mc1 ms1 As.length :=
    ⟨⟨rfl, rfl, hR.1, hR.2, pay_in hb hG, List.mem_cons_self⟩, hts _ hcode, hts _ hini, ⟨hd.1, hd.2.1⟩, fun sig h => by
      have h2 := hd.2.2
      rw [h] at h2
      exact (Option.some.inj h2).symm, hts _ hlink, hts _ hstat⟩
  have pre : ∀ U : State, U.heap = H → s.WarmedH U.vm → PW As wb D tys X H.size As.toArray U := by
    intro U hU hW
    refine ⟨rfl, by rw [hU], by rw [hU]; exact (P_app.mp (P_app.mp hP.1).2).1, va_K.moved hW.alike C.2.2.2.2.2.1, (D_app.mp (D_app.mp hP.2).2.1).1.weaken (fun _ _ _ _ => trivial), ?_⟩
    have h1 : X Acc s H := hX.2.1 _ _ _ _ hXs (fun a h1 h2 => hS.2.1 a h1 h2)
    have h2 : X (va_A wb H.size) s H := hX.2.2 _ _ _ _ h1 (mid_in C hP.2 hS.1)
    rw [hU]
    exact hX.1 _ _ _ _ hW h2
  exact n_after C hP hS hl (vx_runSW ⟨C.1, C.2.1, C.2.2.1, C.2.2.2.1, hts⟩ (h H.size) cb ⟨PW_blind hX, pre⟩ rfl rfl hl.1 hst (lv_room hcat) d (by rw [hc, hs]; exact hcs)) hc hs K
/-- a static method that reads cells outside -/
def CnH (l : Launch) (D : va_G) (tys : List (ClassId × FieldType)) (X : (Nat → Prop) → State → Heap → Prop) (y : MethodName) (cy : ByteArray) (nL : Nat) (rt : Option FieldType) (fr lo mc ms : Nat) (argsL : List Value) (w0 : va_W) (Qc : Option Value → va_W → Prop) : Prop :=
  ∀ sz, Met l y (wsq y cy nL rt) ({ frames := fr, cells := mc, slots := ms, locals := lo }) (PW argsL w0 D tys X sz) (QN Qc D tys (va_A w0 sz)) mc ms (va_A w0 sz)
theorem CnH.of {X : (Nat → Prop) → State → Heap → Prop} {y : MethodName} {rt : Option FieldType} {fr lo mc ms : Nat} {argsL : List Value} {w0 : va_W} {Qc : Option Value → va_W → Prop}
    (hy : plainName y.cls = true) (L : List (Nat × Value)) (hL : lv_args 0 argsL = L) (hn : (lg_sl argsL).length ≤ nL)
    (body : ∀ (p : Program) (e : Env) (s : State) (m : MethodId) (args : Array Value) (below : List Frame) (meth : Method) (c : Code) (Acc : Nat → Prop), Cw p s m args c cc nL y.cls D tys Acc → meth.sig.returnType = rt → meth.locks = false → X Acc s s.heap →
      ∀ Qf, Qf = MQ below (QN Qc D tys Acc) args s mc ms Acc → JW p l e ({ frames := fr, cells := mc, slots := ms, locals := lo }) s m args below meth c 0 0 Qf D Acc nL w0 0 L []) : CnH l D tys X y cc nL rt fr lo mc ms argsL w0 Qc := by
  intro sz
  refine Met.ofW (cc := cc) (maxL := nL) (ret := rt) hy rfl ?_
  intro p e s m args below meth c s₁ B hml hv
  obtain ⟨rfl, hsz, hP, hK, hD, hXs⟩ := hv
  subst hsz
  have hts := atoms_spec (ws := wsq y cc nL rt) B.pre
  have hl := lv_entry argsL (n := nL) hn
  rw [lg_entry_eq]
  rw [hL] at hl
  exact body p e s m _ below meth c (va_A w0 s.heap.size) ⟨B.exec, B.bytes, hml, findClass_of_methodNamed B.named, fun w hw => hts w (List.mem_cons_of_mem _ hw), hK, fun q hq => Or.inr hq⟩ B.returns B.notSynchronized hXs _ rfl s.heap [] _ ⟨hP, hD.self (sz := s.heap.size)⟩ va_S.rf hl
theorem n_callH {X : (Nat → Prop) → State → Heap → Prop} (C : Cw p s m args c cc nL own D tys Acc) (hX : StX X) (hXs : X Acc s s.heap) {Qc : Option Value → va_W → Prop} {y : MethodName} {cy : ByteArray} {ny : Nat} {ry : Option FieldType} {fr lo mc1 ms1 index : Nat} {As : List Value} (wa wb wc : va_W) (rest : List Value) {st0 : List Value} (hw : ws = wa ++ (wb ++ wc))
    (h : CnH l D tys X y cy ny ry fr lo mc1 ms1 As wb Qc) (hcode : Cond.code y cy ny ry ∈ BIG) (hini : Cond.initialized y.cls ∈ BIG) (hstat : Cond.static y ∈ BIG) (hlink : Cond.methodLink own index y ∈ BIG)
    (hd : y.cls ≠ "java/lang/invoke/MethodHandle" ∧ y.cls ≠ "java/lang/invoke/VarHandle" ∧ (parseMethodDescriptor y.desc).map (fun d => d.parameters.length) = some As.length) (hR : fr + 1 ≤ R.frames ∧ 8 + (ny + 11) + lo ≤ R.locals) (hst : st0 = As.reverse ++ rest) (hcat : (rest.map fun v => v.category).sum ≤ 8) (c1 s1 : Nat) (hc : cells + mc1 = c1) (hs : slots + ms1 = s1) (hcs : c1 ≤ R.cells ∧ s1 ≤ R.slots)
    (d : decode cc pc = .ok (.invokestatic index, 3)) (q : Nat) (hq : pc + 3 = q) (K : ∀ (v : Option Value) (w1 : va_W), Qc v w1 → JW p l e R s m args below meth c c1 s1 Qf D Acc nL (wa ++ (w1 ++ wc)) q L (v.toList ++ rest)) : JW p l e R s m args below meth c cells slots Qf D Acc nL ws pc L st0 := by
  subst hq
  subst hw
  intro H locs ls hP hS hl
  have hts := C.2.2.2.2.1
  have pre : ∀ U : State, U.heap = H → s.WarmedH U.vm → PW As wb D tys X H.size As.toArray U := by
    intro U hU hW
    refine ⟨rfl, by rw [hU], by rw [hU]; exact (P_app.mp (P_app.mp hP.1).2).1, va_K.moved hW.alike C.2.2.2.2.2.1, (D_app.mp (D_app.mp hP.2).2.1).1.weaken (fun _ _ _ _ => trivial), ?_⟩
    have h1 : X Acc s H := hX.2.1 _ _ _ _ hXs (fun a h1 h2 => hS.2.1 a h1 h2)
    have h2 : X (va_A wb H.size) s H := hX.2.2 _ _ _ _ h1 (mid_in C hP.2 hS.1)
    rw [hU]
    exact hX.1 _ _ _ _ hW h2
  exact n_after C hP hS hl (va_runS ⟨C.1, C.2.1, C.2.2.1, C.2.2.2.1, hts⟩ (h H.size) ⟨cbn_of C As.length hcode hini hlink hd hR, hts _ hstat⟩ ⟨PW_blind hX, pre⟩ rfl rfl hl.1 hst (lv_room hcat) d (by rw [hc, hs]; exact hcs)) hc hs K
/-- the script, which nobody writes -/
def XS (b LL : Nat) (xs : Nat → Int32) (B : Nat → Prop) (U : State) (H : Heap) : Prop := va_X b LL xs U H ∧ b < H.size ∧ ¬ B b
theorem hXS {b LL : Nat} {xs : Nat → Int32} : StX (XS b LL xs) := ⟨fun B u U H hW h => ⟨h.1.moved hW.alike, h.2⟩, fun B U H H1 h hq => by
    have e := hq b h.2.1 h.2.2
    refine ⟨h.1.kept e, ?_, h.2.2⟩
    obtain ⟨scr, h1, -⟩ := h.1
    rw [h1] at e
    exact (Array.getElem?_eq_some_iff.mp e).1, fun B C U H h hBC => ⟨h.1, h.2.1, fun z => h.2.2 (hBC b z)⟩⟩
end LAW1
def cellv (LL : Nat) (xs : Nat → Int32) (k : Nat) : Int32 := if k < LL then xs k else 0
theorem cn_cell {l : Launch} {D : va_G} {tys : List (ClassId × FieldType)} {b LL : Nat} {xs : Nat → Int32} (k : Nat) (hk : k < 2 ^ 30) (hLL : LL < 2 ^ 30) : CnH l D tys (XS b LL xs) yL_cell cL_cell 2 (some .int) 0 0 0 0 [.ref b, .int (nI k)] [] (fun v w1 => v = some (.int (cellv LL xs k)) ∧ w1 = []) := by
  refine CnH.of (by decide +kernel) [(0, .ref b), (1, .int (nI k))] rfl (Nat.le_of_ble_eq_true rfl) ?_
  intro p e s m args below meth c Acc C hr hlk hXs Qf hE
  refine n_iload_n C 1 rfl dL_cell_0 1 rfl ?_
  refine n_aload_n C 0 rfl dL_cell_1 2 rfl ?_
  refine n_slen C hXs.1 hXs.2.1 hXs.2.2 dL_cell_2 3 rfl ?_
  refine n_icmp_ge C 12 dL_cell_3 6 rfl rfl (fun c1 => ?_) (fun c1 => ?_)
  · have h1 : LL ≤ k := (nI_leI (by omega) (by omega)).mp c1
    refine n_iconst C 0 rfl dL_cell_12 13 rfl ?_
    exact n_iret C hE hr hlk (Nat.le_of_ble_eq_true rfl) (Nat.le_of_ble_eq_true rfl) dL_cell_13 ⟨by unfold cellv; rw [if_neg (by omega)], rfl⟩
  · have h1 : k < LL := by
      rcases Nat.lt_or_ge k LL with h | h
      · exact h
      · exact absurd ((nI_leI (by omega) (by omega)).mpr h) c1
    refine n_aload_n C 0 rfl dL_cell_6 7 rfl ?_
    refine n_iload_n C 1 rfl dL_cell_7 8 rfl ?_
    refine n_sld C hXs.1 hXs.2.1 hXs.2.2 (vp_in_nI h1 (by omega)) dL_cell_8 9 rfl ?_
    refine n_goto C 13 dL_cell_9 rfl ?_
    rw [nI_clamp (by omega)]
    exact n_iret C hE hr hlk (Nat.le_of_ble_eq_true rfl) (Nat.le_of_ble_eq_true rfl) dL_cell_13 ⟨by unfold cellv; rw [if_pos h1], rfl⟩
/-- the class's rows and lengths when it is new -/
def initC (s0 l0 l1 : Nat) : Nat → Nat → Int32 := fun k f =>
  if k = 1 ∧ f = 9 then 1 else
  if k = 3 ∧ f = 1 then 1 else
  if k = 3 ∧ f = 2 then (nI s0) else
  if k = 3 ∧ f = 3 then (nI l0) else
  if k = 3 ∧ f = 4 then 1 else
  if k = 4 ∧ f = 0 then 1 else
  if k = 4 ∧ f = 1 then (nI (1 + 2 * s0)) else
  if k = 4 ∧ f = 2 then (nI (2 * s0)) else
  if k = 4 ∧ f = 3 then (nI l1) else
  if k = 4 ∧ f = 4 then (nI (1 + 2 * s0)) else
  if k = 5 ∧ f = 0 then 2 else
  if k = 5 ∧ f = 1 then (nI (1 + 6 * s0)) else
  if k = 5 ∧ f = 2 then (nI (4 * s0)) else
  if k = 5 ∧ f = 3 then 7 else
  if k = 5 ∧ f = 4 then (nI (1 + 6 * s0)) else
  if k = 6 ∧ f = 1 then 16 else
  if k = 8 ∧ f = 1 then 8 else
  0
def lenC (s0 b0 : Nat) : Nat → Nat := fun k => match k with
  | 16 => 16
  | 17 => 40
  | 18 => 8
  | 19 => (7 * s0 / 2)
  | 20 => (7 * s0 / 2)
  | 21 => b0
  | 22 => (6 * s0)
  | 23 => (4 * s0)
  | 24 => (6 * s0)
  | 25 => (4 * s0)
  | 26 => (1 + 14 * s0)
  | 27 => 256
  | 28 => 8
  | _ => 0
theorem at_congr {D : va_G} {cl : List vw_C} {a : Nat} {cA : ClassId} {nn : Nat} {f g : Nat → Option Nat} {H : Heap} (h : va_at D cl (a, .inl (cA, nn, .inr (.inr (.inr (.inr f))))) H) (hfg : ∀ i, i < nn → f i = g i) : va_at D cl (a, .inl (cA, nn, .inr (.inr (.inr (.inr g))))) H := by
  have h1 : H[a]? = some (arrV cA nn (fun j => va_rf (f j))) := h
  show H[a]? = some (arrV cA nn (fun j => va_rf (g j)))
  rw [h1]
  have e : ∀ (z1 z2 : Nat → Value), (∀ i, i < nn → z1 i = z2 i) → arrV cA nn z1 = arrV cA nn z2 := by
    intro z1 z2 hz
    unfold arrV
    have hl : (Array.ofFn fun (i : Fin nn) => z1 i) = (Array.ofFn fun (i : Fin nn) => z2 i) := by
      congr 1
      funext i
      exact hz i i.isLt
    first | rw [hl] | simp_all
  rw [e _ _ (fun i hi => by rw [hfg i hi])]
set_option maxRecDepth 100000 in
set_option maxHeartbeats 8000000 in
theorem fixC {D : va_G} {cI cG cR : ClassId} {Acc : Nat → Prop} {s0 l0 l1 b0 : Nat} {h0 q1 q14 q15 q16 q17 q18 q19 q20 q21 q22 q23 q24 q25 q26 q27 q28 q29 q30 q31 q32 q33 q34 q35 q36 q37 q38 q39 q40 q44 q45 q46 : Nat} : ∀ H : Heap, va_P D vwCl [(h0, .inr (4, [.ref q1, .ref q44])), (q1, .inr (1, [.ref q21, .ref q14, .ref q15, .ref q17, .ref q19, .ref q25, .ref q27, .ref q29, .ref q31, .ref q36, .int 0, .int 0, .int 0])), (q14, .inl (cG, 3, .inr (.inr (.inr (.inr (va_up (va_up (va_up (fun _ => none) 0 (some q22)) 1 (some q23)) 2 (some q24))))))), (q15, .inr (3, [.ref q16, .int 16])), (q16, .inl (cI, 16, .inl (fun _ => 0))), (q17, .inr (3, [.ref q18, .int 0])), (q18, .inl (cI, 40, .inl (fun _ => 0))), (q19, .inr (3, [.ref q20, .int 8])), (q20, .inl (cI, 8, .inl (fun _ => 0))), (q21, .inl (cI, (1 + 14 * s0), .inl (fun _ => 0))), (q22, .inr (0, [.int 0, .int 1, .int (nI s0), .int (nI l0), .int 1, .int 0, .int 0, .int 0, .int 0, .int 0])), (q23, .inr (0, [.int 1, .int (nI (1 + 2 * s0)), .int (nI (2 * s0)), .int (nI l1), .int (nI (1 + 2 * s0)), .int 0, .int 0, .int 0, .int 0, .int 0])), (q24, .inr (0, [.int 2, .int (nI (1 + 6 * s0)), .int (nI (4 * s0)), .int 7, .int (nI (1 + 6 * s0)), .int 0, .int 0, .int 0, .int 0, .int 0])), (q25, .inr (3, [.ref q26, .int 0])), (q26, .inl (cI, (7 * s0 / 2), .inl (fun _ => 0))), (q27, .inr (3, [.ref q28, .int 0])), (q28, .inl (cI, (7 * s0 / 2), .inl (fun _ => 0))), (q29, .inr (3, [.ref q30, .int 0])), (q30, .inl (cI, b0, .inl (fun _ => 0))), (q31, .inl (cR, 2, .inr (.inr (.inr (.inr (va_up (va_up (fun _ => none) 0 (some q32)) 1 (some q34))))))), (q32, .inr (3, [.ref q33, .int 0])), (q33, .inl (cI, (6 * s0), .inl (fun _ => 0))), (q34, .inr (3, [.ref q35, .int 0])), (q35, .inl (cI, (4 * s0), .inl (fun _ => 0))), (q36, .inl (cR, 2, .inr (.inr (.inr (.inr (va_up (va_up (fun _ => none) 0 (some q37)) 1 (some q39))))))), (q37, .inr (3, [.ref q38, .int 0])), (q38, .inl (cI, (6 * s0), .inl (fun _ => 0))), (q39, .inr (3, [.ref q40, .int 0])), (q40, .inl (cI, (4 * s0), .inl (fun _ => 0))), (q44, .inr (2, [.ref q1, .ref q45, .ref q46, .int 0, .int 0, .int 0])), (q45, .inl (cI, 256, .inl (fun _ => 0))), (q46, .inl (cI, 8, .inl (fun _ => 0)))] H ∧ va_D Acc [(h0, .inr (4, [.ref q1, .ref q44])), (q1, .inr (1, [.ref q21, .ref q14, .ref q15, .ref q17, .ref q19, .ref q25, .ref q27, .ref q29, .ref q31, .ref q36, .int 0, .int 0, .int 0])), (q14, .inl (cG, 3, .inr (.inr (.inr (.inr (va_up (va_up (va_up (fun _ => none) 0 (some q22)) 1 (some q23)) 2 (some q24))))))), (q15, .inr (3, [.ref q16, .int 16])), (q16, .inl (cI, 16, .inl (fun _ => 0))), (q17, .inr (3, [.ref q18, .int 0])), (q18, .inl (cI, 40, .inl (fun _ => 0))), (q19, .inr (3, [.ref q20, .int 8])), (q20, .inl (cI, 8, .inl (fun _ => 0))), (q21, .inl (cI, (1 + 14 * s0), .inl (fun _ => 0))), (q22, .inr (0, [.int 0, .int 1, .int (nI s0), .int (nI l0), .int 1, .int 0, .int 0, .int 0, .int 0, .int 0])), (q23, .inr (0, [.int 1, .int (nI (1 + 2 * s0)), .int (nI (2 * s0)), .int (nI l1), .int (nI (1 + 2 * s0)), .int 0, .int 0, .int 0, .int 0, .int 0])), (q24, .inr (0, [.int 2, .int (nI (1 + 6 * s0)), .int (nI (4 * s0)), .int 7, .int (nI (1 + 6 * s0)), .int 0, .int 0, .int 0, .int 0, .int 0])), (q25, .inr (3, [.ref q26, .int 0])), (q26, .inl (cI, (7 * s0 / 2), .inl (fun _ => 0))), (q27, .inr (3, [.ref q28, .int 0])), (q28, .inl (cI, (7 * s0 / 2), .inl (fun _ => 0))), (q29, .inr (3, [.ref q30, .int 0])), (q30, .inl (cI, b0, .inl (fun _ => 0))), (q31, .inl (cR, 2, .inr (.inr (.inr (.inr (va_up (va_up (fun _ => none) 0 (some q32)) 1 (some q34))))))), (q32, .inr (3, [.ref q33, .int 0])), (q33, .inl (cI, (6 * s0), .inl (fun _ => 0))), (q34, .inr (3, [.ref q35, .int 0])), (q35, .inl (cI, (4 * s0), .inl (fun _ => 0))), (q36, .inl (cR, 2, .inr (.inr (.inr (.inr (va_up (va_up (fun _ => none) 0 (some q37)) 1 (some q39))))))), (q37, .inr (3, [.ref q38, .int 0])), (q38, .inl (cI, (6 * s0), .inl (fun _ => 0))), (q39, .inr (3, [.ref q40, .int 0])), (q40, .inl (cI, (4 * s0), .inl (fun _ => 0))), (q44, .inr (2, [.ref q1, .ref q45, .ref q46, .int 0, .int 0, .int 0])), (q45, .inl (cI, 256, .inl (fun _ => 0))), (q46, .inl (cI, 8, .inl (fun _ => 0)))] → ∃ A : Nat → Nat, A 0 = h0 ∧ Apart 32 A ∧ (va_P D vwCl (wd 32 A (ceC A (lenC s0 b0) cI cG cR) (initC s0 l0 l1)) H ∧ va_D Acc (wd 32 A (ceC A (lenC s0 b0) cI cG cR) (initC s0 l0 l1))) := by
  intro H h
  obtain ⟨hP, hD⟩ := h
  have hat : ∀ k, k < 32 → ∃ x : Nat × va_E, [(h0, .inr (4, [.ref q1, .ref q44])), (q1, .inr (1, [.ref q21, .ref q14, .ref q15, .ref q17, .ref q19, .ref q25, .ref q27, .ref q29, .ref q31, .ref q36, .int 0, .int 0, .int 0])), (q14, .inl (cG, 3, .inr (.inr (.inr (.inr (va_up (va_up (va_up (fun _ => none) 0 (some q22)) 1 (some q23)) 2 (some q24))))))), (q15, .inr (3, [.ref q16, .int 16])), (q16, .inl (cI, 16, .inl (fun _ => 0))), (q17, .inr (3, [.ref q18, .int 0])), (q18, .inl (cI, 40, .inl (fun _ => 0))), (q19, .inr (3, [.ref q20, .int 8])), (q20, .inl (cI, 8, .inl (fun _ => 0))), (q21, .inl (cI, (1 + 14 * s0), .inl (fun _ => 0))), (q22, .inr (0, [.int 0, .int 1, .int (nI s0), .int (nI l0), .int 1, .int 0, .int 0, .int 0, .int 0, .int 0])), (q23, .inr (0, [.int 1, .int (nI (1 + 2 * s0)), .int (nI (2 * s0)), .int (nI l1), .int (nI (1 + 2 * s0)), .int 0, .int 0, .int 0, .int 0, .int 0])), (q24, .inr (0, [.int 2, .int (nI (1 + 6 * s0)), .int (nI (4 * s0)), .int 7, .int (nI (1 + 6 * s0)), .int 0, .int 0, .int 0, .int 0, .int 0])), (q25, .inr (3, [.ref q26, .int 0])), (q26, .inl (cI, (7 * s0 / 2), .inl (fun _ => 0))), (q27, .inr (3, [.ref q28, .int 0])), (q28, .inl (cI, (7 * s0 / 2), .inl (fun _ => 0))), (q29, .inr (3, [.ref q30, .int 0])), (q30, .inl (cI, b0, .inl (fun _ => 0))), (q31, .inl (cR, 2, .inr (.inr (.inr (.inr (va_up (va_up (fun _ => none) 0 (some q32)) 1 (some q34))))))), (q32, .inr (3, [.ref q33, .int 0])), (q33, .inl (cI, (6 * s0), .inl (fun _ => 0))), (q34, .inr (3, [.ref q35, .int 0])), (q35, .inl (cI, (4 * s0), .inl (fun _ => 0))), (q36, .inl (cR, 2, .inr (.inr (.inr (.inr (va_up (va_up (fun _ => none) 0 (some q37)) 1 (some q39))))))), (q37, .inr (3, [.ref q38, .int 0])), (q38, .inl (cI, (6 * s0), .inl (fun _ => 0))), (q39, .inr (3, [.ref q40, .int 0])), (q40, .inl (cI, (4 * s0), .inl (fun _ => 0))), (q44, .inr (2, [.ref q1, .ref q45, .ref q46, .int 0, .int 0, .int 0])), (q45, .inl (cI, 256, .inl (fun _ => 0))), (q46, .inl (cI, 8, .inl (fun _ => 0)))][[0, 1, 29, 10, 11, 12, 3, 5, 7, 13, 15, 17, 20, 22, 25, 27, 4, 6, 8, 14, 16, 18, 21, 23, 26, 28, 9, 30, 31, 2, 19, 24].getD k 0]? = some x ∧ x.1 = [h0, q1, q44, q22, q23, q24, q15, q17, q19, q25, q27, q29, q32, q34, q37, q39, q16, q18, q20, q26, q28, q30, q33, q35, q38, q40, q21, q45, q46, q14, q31, q36].getD k 0 := by
    intro k hk
    match k, hk with
    | 0, _ => exact ⟨_, rfl, rfl⟩
    | 1, _ => exact ⟨_, rfl, rfl⟩
    | 2, _ => exact ⟨_, rfl, rfl⟩
    | 3, _ => exact ⟨_, rfl, rfl⟩
    | 4, _ => exact ⟨_, rfl, rfl⟩
    | 5, _ => exact ⟨_, rfl, rfl⟩
    | 6, _ => exact ⟨_, rfl, rfl⟩
    | 7, _ => exact ⟨_, rfl, rfl⟩
    | 8, _ => exact ⟨_, rfl, rfl⟩
    | 9, _ => exact ⟨_, rfl, rfl⟩
    | 10, _ => exact ⟨_, rfl, rfl⟩
    | 11, _ => exact ⟨_, rfl, rfl⟩
    | 12, _ => exact ⟨_, rfl, rfl⟩
    | 13, _ => exact ⟨_, rfl, rfl⟩
    | 14, _ => exact ⟨_, rfl, rfl⟩
    | 15, _ => exact ⟨_, rfl, rfl⟩
    | 16, _ => exact ⟨_, rfl, rfl⟩
    | 17, _ => exact ⟨_, rfl, rfl⟩
    | 18, _ => exact ⟨_, rfl, rfl⟩
    | 19, _ => exact ⟨_, rfl, rfl⟩
    | 20, _ => exact ⟨_, rfl, rfl⟩
    | 21, _ => exact ⟨_, rfl, rfl⟩
    | 22, _ => exact ⟨_, rfl, rfl⟩
    | 23, _ => exact ⟨_, rfl, rfl⟩
    | 24, _ => exact ⟨_, rfl, rfl⟩
    | 25, _ => exact ⟨_, rfl, rfl⟩
    | 26, _ => exact ⟨_, rfl, rfl⟩
    | 27, _ => exact ⟨_, rfl, rfl⟩
    | 28, _ => exact ⟨_, rfl, rfl⟩
    | 29, _ => exact ⟨_, rfl, rfl⟩
    | 30, _ => exact ⟨_, rfl, rfl⟩
    | 31, _ => exact ⟨_, rfl, rfl⟩
    | k + 32, hk => exact absurd hk (by omega)
  have hA : Apart 32 (fun k => [h0, q1, q44, q22, q23, q24, q15, q17, q19, q25, q27, q29, q32, q34, q37, q39, q16, q18, q20, q26, q28, q30, q33, q35, q38, q40, q21, q45, q46, q14, q31, q36].getD k 0) := by
    intro i j hi hj e
    obtain ⟨x, hx, ex⟩ := hat i hi
    obtain ⟨y, hy, ey⟩ := hat j hj
    have := hD.1 _ _ x y hx hy (by rw [ex, ey]; exact e)
    exact (show ∀ i, i < 32 → ∀ j, j < 32 → [0, 1, 29, 10, 11, 12, 3, 5, 7, 13, 15, 17, 20, 22, 25, 27, 4, 6, 8, 14, 16, 18, 21, 23, 26, 28, 9, 30, 31, 2, 19, 24].getD i 0 = [0, 1, 29, 10, 11, 12, 3, 5, 7, 13, 15, 17, 20, 22, 25, 27, 4, 6, 8, 14, 16, 18, 21, 23, 26, 28, 9, 30, 31, 2, 19, 24].getD j 0 → i = j by decide) i hi j hj this
  refine ⟨fun k => [h0, q1, q44, q22, q23, q24, q15, q17, q19, q25, q27, q29, q32, q34, q37, q39, q16, q18, q20, q26, q28, q30, q33, q35, q38, q40, q21, q45, q46, q14, q31, q36].getD k 0, rfl, hA, ?_, wd_D hA (fun k hk => ?_)⟩
  · intro k q hq
    obtain ⟨hk, rfl⟩ := wd_of hq
    match k, hk with
    | 0, _ => exact hP 0 _ rfl
    | 1, _ => exact hP 1 _ rfl
    | 2, _ => exact hP 29 _ rfl
    | 3, _ => exact hP 10 _ rfl
    | 4, _ => exact hP 11 _ rfl
    | 5, _ => exact hP 12 _ rfl
    | 6, _ => exact hP 3 _ rfl
    | 7, _ => exact hP 5 _ rfl
    | 8, _ => exact hP 7 _ rfl
    | 9, _ => exact hP 13 _ rfl
    | 10, _ => exact hP 15 _ rfl
    | 11, _ => exact hP 17 _ rfl
    | 12, _ => exact hP 20 _ rfl
    | 13, _ => exact hP 22 _ rfl
    | 14, _ => exact hP 25 _ rfl
    | 15, _ => exact hP 27 _ rfl
    | 16, _ => exact hP 4 _ rfl
    | 17, _ => exact hP 6 _ rfl
    | 18, _ => exact hP 8 _ rfl
    | 19, _ => exact hP 14 _ rfl
    | 20, _ => exact hP 16 _ rfl
    | 21, _ => exact hP 18 _ rfl
    | 22, _ => exact hP 21 _ rfl
    | 23, _ => exact hP 23 _ rfl
    | 24, _ => exact hP 26 _ rfl
    | 25, _ => exact hP 28 _ rfl
    | 26, _ => exact hP 9 _ rfl
    | 27, _ => exact hP 30 _ rfl
    | 28, _ => exact hP 31 _ rfl
    | 29, _ => exact at_congr (hP 2 _ rfl) (fun i hi => by match i, hi with | 0, _ => rfl | 1, _ => rfl | 2, _ => rfl | i + 3, hi => exact absurd hi (by omega))
    | 30, _ => exact at_congr (hP 19 _ rfl) (fun i hi => by match i, hi with | 0, _ => rfl | 1, _ => rfl | i + 2, hi => exact absurd hi (by omega))
    | 31, _ => exact at_congr (hP 24 _ rfl) (fun i hi => by match i, hi with | 0, _ => rfl | 1, _ => rfl | i + 2, hi => exact absurd hi (by omega))
    | k + 32, hk => exact absurd hk (by omega)
  · obtain ⟨x, hx, ex⟩ := hat k hk
    have := hD.2 _ x hx
    rw [ex] at this
    exact this
/-- the model's rows when it is new -/
def initM (s0 l0 l1 b0 : Nat) : Nat → Nat → Int32 := fun k f =>
  if k = 0 ∧ f = 3 then (nI s0) else
  if k = 0 ∧ f = 5 then (nI b0) else
  if k = 3 ∧ f = 0 then nI l0 else
  if k = 3 ∧ f = 1 then nI l1 else
  0
theorem ati_congr {D : va_G} {cl : List vw_C} {a : Nat} {cA : ClassId} {nn : Nat} {f g : Nat → Int32} {H : Heap} (h : va_at D cl (a, .inl (cA, nn, .inl f)) H) (hfg : ∀ i, i < nn → f i = g i) : va_at D cl (a, .inl (cA, nn, .inl g)) H := by
  have h1 : H[a]? = some (arrV cA nn (fun j => .int (f j))) := h
  show H[a]? = some (arrV cA nn (fun j => .int (g j)))
  rw [h1]
  have hl : (Array.ofFn fun (i : Fin nn) => Value.int (f i)) = (Array.ofFn fun (i : Fin nn) => Value.int (g i)) := by
    congr 1
    funext i
    rw [hfg i i.isLt]
  unfold arrV
  rw [hl]
set_option maxRecDepth 100000 in
set_option maxHeartbeats 8000000 in
theorem fixM {D : va_G} {cI : ClassId} {Acc : Nat → Prop} {s0 l0 l1 b0 : Nat} {h0 q1 q2 q3 q4 q5 q6 q7 q8 q9 q10 q11 q12 q13 q14 q15 q16 q17 q18 q19 q20 q21 q22 : Nat} : ∀ H : Heap, va_P D vwCl [(h0, .inr (5, [.int 0, .ref q1, .ref q2, .int (nI s0), .ref q3, .int (nI b0), .ref q4, .ref q5, .ref q6, .int 0, .ref q7, .ref q8, .int 0, .ref q9, .int 0, .ref q10, .int 0, .ref q11, .ref q12, .ref q13, .ref q14, .ref q15, .ref q16, .int 0, .int 0, .int 0, .int 0, .int 0, .ref q17, .int 0, .ref q18, .int 0, .int 0, .ref q19, .ref q20, .ref q21, .ref q22])), (q1, .inl (cI, 1793, .inl (fun _ => 0))), (q2, .inl (cI, 1793, .inl (fun _ => 0))), (q3, .inl (cI, 2, .inl (upd (upd (fun _ => 0) 0 ((nI l0))) 1 ((nI l1))))), (q4, .inl (cI, 3, .inl (fun _ => 0))), (q5, .inl (cI, 3, .inl (fun _ => 0))), (q6, .inl (cI, 16, .inl (fun _ => 0))), (q7, .inl (cI, 40, .inl (fun _ => 0))), (q8, .inl (cI, 8, .inl (fun _ => 0))), (q9, .inl (cI, 460, .inl (fun _ => 0))), (q10, .inl (cI, 460, .inl (fun _ => 0))), (q11, .inl (cI, 64, .inl (fun _ => 0))), (q12, .inl (cI, 2, .inl (fun _ => 0))), (q13, .inl (cI, 2000, .inl (fun _ => 0))), (q14, .inl (cI, 2, .inl (fun _ => 0))), (q15, .inl (cI, 2000, .inl (fun _ => 0))), (q16, .inl (cI, 3, .inl (fun _ => 0))), (q17, .inl (cI, 8, .inl (fun _ => 0))), (q18, .inl (cI, 256, .inl (fun _ => 0))), (q19, .inl (cI, 3, .inl (fun _ => 0))), (q20, .inl (cI, 3, .inl (fun _ => 0))), (q21, .inl (cI, 3, .inl (fun _ => 0))), (q22, .inl (cI, 3, .inl (fun _ => 0)))] H ∧ va_D Acc [(h0, .inr (5, [.int 0, .ref q1, .ref q2, .int (nI s0), .ref q3, .int (nI b0), .ref q4, .ref q5, .ref q6, .int 0, .ref q7, .ref q8, .int 0, .ref q9, .int 0, .ref q10, .int 0, .ref q11, .ref q12, .ref q13, .ref q14, .ref q15, .ref q16, .int 0, .int 0, .int 0, .int 0, .int 0, .ref q17, .int 0, .ref q18, .int 0, .int 0, .ref q19, .ref q20, .ref q21, .ref q22])), (q1, .inl (cI, 1793, .inl (fun _ => 0))), (q2, .inl (cI, 1793, .inl (fun _ => 0))), (q3, .inl (cI, 2, .inl (upd (upd (fun _ => 0) 0 ((nI l0))) 1 ((nI l1))))), (q4, .inl (cI, 3, .inl (fun _ => 0))), (q5, .inl (cI, 3, .inl (fun _ => 0))), (q6, .inl (cI, 16, .inl (fun _ => 0))), (q7, .inl (cI, 40, .inl (fun _ => 0))), (q8, .inl (cI, 8, .inl (fun _ => 0))), (q9, .inl (cI, 460, .inl (fun _ => 0))), (q10, .inl (cI, 460, .inl (fun _ => 0))), (q11, .inl (cI, 64, .inl (fun _ => 0))), (q12, .inl (cI, 2, .inl (fun _ => 0))), (q13, .inl (cI, 2000, .inl (fun _ => 0))), (q14, .inl (cI, 2, .inl (fun _ => 0))), (q15, .inl (cI, 2000, .inl (fun _ => 0))), (q16, .inl (cI, 3, .inl (fun _ => 0))), (q17, .inl (cI, 8, .inl (fun _ => 0))), (q18, .inl (cI, 256, .inl (fun _ => 0))), (q19, .inl (cI, 3, .inl (fun _ => 0))), (q20, .inl (cI, 3, .inl (fun _ => 0))), (q21, .inl (cI, 3, .inl (fun _ => 0))), (q22, .inl (cI, 3, .inl (fun _ => 0)))] → ∃ A : Nat → Nat, A 0 = h0 ∧ Apart 23 A ∧ (va_P D vwCl (wd 23 A (ceM A cI) (initM s0 l0 l1 b0)) H ∧ va_D Acc (wd 23 A (ceM A cI) (initM s0 l0 l1 b0))) := by
  intro H h
  obtain ⟨hP, hD⟩ := h
  have hat : ∀ k, k < 23 → ∃ x : Nat × va_E, [(h0, .inr (5, [.int 0, .ref q1, .ref q2, .int (nI s0), .ref q3, .int (nI b0), .ref q4, .ref q5, .ref q6, .int 0, .ref q7, .ref q8, .int 0, .ref q9, .int 0, .ref q10, .int 0, .ref q11, .ref q12, .ref q13, .ref q14, .ref q15, .ref q16, .int 0, .int 0, .int 0, .int 0, .int 0, .ref q17, .int 0, .ref q18, .int 0, .int 0, .ref q19, .ref q20, .ref q21, .ref q22])), (q1, .inl (cI, 1793, .inl (fun _ => 0))), (q2, .inl (cI, 1793, .inl (fun _ => 0))), (q3, .inl (cI, 2, .inl (upd (upd (fun _ => 0) 0 ((nI l0))) 1 ((nI l1))))), (q4, .inl (cI, 3, .inl (fun _ => 0))), (q5, .inl (cI, 3, .inl (fun _ => 0))), (q6, .inl (cI, 16, .inl (fun _ => 0))), (q7, .inl (cI, 40, .inl (fun _ => 0))), (q8, .inl (cI, 8, .inl (fun _ => 0))), (q9, .inl (cI, 460, .inl (fun _ => 0))), (q10, .inl (cI, 460, .inl (fun _ => 0))), (q11, .inl (cI, 64, .inl (fun _ => 0))), (q12, .inl (cI, 2, .inl (fun _ => 0))), (q13, .inl (cI, 2000, .inl (fun _ => 0))), (q14, .inl (cI, 2, .inl (fun _ => 0))), (q15, .inl (cI, 2000, .inl (fun _ => 0))), (q16, .inl (cI, 3, .inl (fun _ => 0))), (q17, .inl (cI, 8, .inl (fun _ => 0))), (q18, .inl (cI, 256, .inl (fun _ => 0))), (q19, .inl (cI, 3, .inl (fun _ => 0))), (q20, .inl (cI, 3, .inl (fun _ => 0))), (q21, .inl (cI, 3, .inl (fun _ => 0))), (q22, .inl (cI, 3, .inl (fun _ => 0)))][[0, 1, 2, 3, 4, 5, 6, 7, 8, 9, 10, 11, 12, 13, 14, 15, 16, 17, 18, 19, 20, 21, 22].getD k 0]? = some x ∧ x.1 = [h0, q1, q2, q3, q4, q5, q6, q7, q8, q9, q10, q11, q12, q13, q14, q15, q16, q17, q18, q19, q20, q21, q22].getD k 0 := by
    intro k hk
    match k, hk with
    | 0, _ => exact ⟨_, rfl, rfl⟩
    | 1, _ => exact ⟨_, rfl, rfl⟩
    | 2, _ => exact ⟨_, rfl, rfl⟩
    | 3, _ => exact ⟨_, rfl, rfl⟩
    | 4, _ => exact ⟨_, rfl, rfl⟩
    | 5, _ => exact ⟨_, rfl, rfl⟩
    | 6, _ => exact ⟨_, rfl, rfl⟩
    | 7, _ => exact ⟨_, rfl, rfl⟩
    | 8, _ => exact ⟨_, rfl, rfl⟩
    | 9, _ => exact ⟨_, rfl, rfl⟩
    | 10, _ => exact ⟨_, rfl, rfl⟩
    | 11, _ => exact ⟨_, rfl, rfl⟩
    | 12, _ => exact ⟨_, rfl, rfl⟩
    | 13, _ => exact ⟨_, rfl, rfl⟩
    | 14, _ => exact ⟨_, rfl, rfl⟩
    | 15, _ => exact ⟨_, rfl, rfl⟩
    | 16, _ => exact ⟨_, rfl, rfl⟩
    | 17, _ => exact ⟨_, rfl, rfl⟩
    | 18, _ => exact ⟨_, rfl, rfl⟩
    | 19, _ => exact ⟨_, rfl, rfl⟩
    | 20, _ => exact ⟨_, rfl, rfl⟩
    | 21, _ => exact ⟨_, rfl, rfl⟩
    | 22, _ => exact ⟨_, rfl, rfl⟩
    | k + 23, hk => exact absurd hk (by omega)
  have hA : Apart 23 (fun k => [h0, q1, q2, q3, q4, q5, q6, q7, q8, q9, q10, q11, q12, q13, q14, q15, q16, q17, q18, q19, q20, q21, q22].getD k 0) := by
    intro i j hi hj e
    obtain ⟨x, hx, ex⟩ := hat i hi
    obtain ⟨y, hy, ey⟩ := hat j hj
    have := hD.1 _ _ x y hx hy (by rw [ex, ey]; exact e)
    exact (show ∀ i, i < 23 → ∀ j, j < 23 → [0, 1, 2, 3, 4, 5, 6, 7, 8, 9, 10, 11, 12, 13, 14, 15, 16, 17, 18, 19, 20, 21, 22].getD i 0 = [0, 1, 2, 3, 4, 5, 6, 7, 8, 9, 10, 11, 12, 13, 14, 15, 16, 17, 18, 19, 20, 21, 22].getD j 0 → i = j by decide) i hi j hj this
  refine ⟨fun k => [h0, q1, q2, q3, q4, q5, q6, q7, q8, q9, q10, q11, q12, q13, q14, q15, q16, q17, q18, q19, q20, q21, q22].getD k 0, rfl, hA, ?_, wd_D hA (fun k hk => ?_)⟩
  · intro k q hq
    obtain ⟨hk, rfl⟩ := wd_of hq
    match k, hk with
    | 0, _ => exact hP 0 _ rfl
    | 1, _ => exact ati_congr (hP 1 _ rfl) (fun i _ => rfl)
    | 2, _ => exact ati_congr (hP 2 _ rfl) (fun i _ => rfl)
    | 3, _ => exact ati_congr (hP 3 _ rfl) (fun i hi => by match i, hi with | 0, _ => rfl | 1, _ => rfl | i + 2, hi => exact absurd (show i + 2 < 2 from hi) (by omega))
    | 4, _ => exact ati_congr (hP 4 _ rfl) (fun i _ => rfl)
    | 5, _ => exact ati_congr (hP 5 _ rfl) (fun i _ => rfl)
    | 6, _ => exact ati_congr (hP 6 _ rfl) (fun i _ => rfl)
    | 7, _ => exact ati_congr (hP 7 _ rfl) (fun i _ => rfl)
    | 8, _ => exact ati_congr (hP 8 _ rfl) (fun i _ => rfl)
    | 9, _ => exact ati_congr (hP 9 _ rfl) (fun i _ => rfl)
    | 10, _ => exact ati_congr (hP 10 _ rfl) (fun i _ => rfl)
    | 11, _ => exact ati_congr (hP 11 _ rfl) (fun i _ => rfl)
    | 12, _ => exact ati_congr (hP 12 _ rfl) (fun i _ => rfl)
    | 13, _ => exact ati_congr (hP 13 _ rfl) (fun i _ => rfl)
    | 14, _ => exact ati_congr (hP 14 _ rfl) (fun i _ => rfl)
    | 15, _ => exact ati_congr (hP 15 _ rfl) (fun i _ => rfl)
    | 16, _ => exact ati_congr (hP 16 _ rfl) (fun i _ => rfl)
    | 17, _ => exact ati_congr (hP 17 _ rfl) (fun i _ => rfl)
    | 18, _ => exact ati_congr (hP 18 _ rfl) (fun i _ => rfl)
    | 19, _ => exact ati_congr (hP 19 _ rfl) (fun i _ => rfl)
    | 20, _ => exact ati_congr (hP 20 _ rfl) (fun i _ => rfl)
    | 21, _ => exact ati_congr (hP 21 _ rfl) (fun i _ => rfl)
    | 22, _ => exact ati_congr (hP 22 _ rfl) (fun i _ => rfl)
    | k + 23, hk => exact absurd hk (by omega)
  · obtain ⟨x, hx, ex⟩ := hat k hk
    have := hD.2 _ x hx
    rw [ex] at this
    exact this
