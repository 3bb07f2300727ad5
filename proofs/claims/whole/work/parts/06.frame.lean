/-! THE FRAME: a world of N cells at fixed addresses, their contents by rows of numbers S; J: the machine stands at pc over that world; a row an instruction. -/
def BIG : List Cond := lw_tbl.filter goodWord
theorem BIG_good : ∀ w ∈ BIG, (w.onTables && w.keeps) = true ∨ ∃ ty, w = .arrayClass ty := fun _ h => good_of_word (List.mem_filter.mp h).2
theorem BIG_in : ∀ w ∈ BIG, w ∈ lw_tbl := fun _ h => (List.mem_filter.mp h).1
/-- a method's words: its code, and all of the tables -/
def wsq (y : MethodName) (cc : ByteArray) (n : Nat) (ret : Option FieldType) : List Cond := .code y cc n ret :: BIG
abbrev Rows : Type := Nat → Nat → Int32
def up2 (S : Nat → Nat → Int32) (k f : Nat) (x : Int32) : Nat → Nat → Int32 := fun j => if j = k then upd (S k) f x else S j
/-- a whole row anew -/
def upR (S : Nat → Nat → Int32) (k : Nat) (f : Nat → Int32) : Nat → Nat → Int32 := fun j => if j = k then f else S j
theorem up2_R (S : Nat → Nat → Int32) (k f : Nat) (x : Int32) : up2 S k f x = upR S k (upd (S k) f x) := rfl
theorem upR_at (S : Nat → Nat → Int32) (k : Nat) (f : Nat → Int32) : upR S k f k = f := if_pos rfl
theorem upR_ne (S : Nat → Nat → Int32) {k j : Nat} (f : Nat → Int32) (h : j ≠ k) : upR S k f j = S j := if_neg h
def wd (N : Nat) (A : Nat → Nat) (ce : Nat → (Nat → Int32) → va_E) (S : Nat → Nat → Int32) : va_W := (List.range N).map (fun k => (A k, ce k (S k)))
theorem wd_at {N : Nat} {A : Nat → Nat} {ce : Nat → (Nat → Int32) → va_E} {S : Nat → Nat → Int32} {k : Nat} (hk : k < N) : (wd N A ce S)[k]? = some (A k, ce k (S k)) := by
  unfold wd
  rw [List.getElem?_map, List.getElem?_range hk]
  rfl
theorem wd_len {N : Nat} {A : Nat → Nat} {ce : Nat → (Nat → Int32) → va_E} {S : Nat → Nat → Int32} : (wd N A ce S).length = N := by
  unfold wd
  rw [List.length_map, List.length_range]
theorem wd_of {N : Nat} {A : Nat → Nat} {ce : Nat → (Nat → Int32) → va_E} {S : Nat → Nat → Int32} {k : Nat} {q : Nat × va_E} (h : (wd N A ce S)[k]? = some q) : k < N ∧ q = (A k, ce k (S k)) := by
  have hk : k < N := by
    have := (List.getElem?_eq_some_iff.mp h).1
    rwa [wd_len] at this
  rw [wd_at hk] at h
  exact ⟨hk, (Option.some.inj h).symm⟩
theorem wd_set {N : Nat} {A : Nat → Nat} {ce : Nat → (Nat → Int32) → va_E} {S : Nat → Nat → Int32} {k : Nat} {f : Nat → Int32} {e : va_E} (he : ce k f = e) : (wd N A ce S).set k (A k, e) = wd N A ce (upR S k f) := by
  subst he
  apply List.ext_getElem?
  intro j
  by_cases hj : j < N
  · by_cases hjk : j = k
    · subst hjk
      rw [List.getElem?_set_self (by rw [wd_len]; exact hj), wd_at hj, upR_at]
    · rw [List.getElem?_set_ne (Ne.symm hjk), wd_at hj, wd_at hj, upR_ne _ _ hjk]
  · rw [List.getElem?_eq_none (by rw [List.length_set, wd_len]; omega), List.getElem?_eq_none (by rw [wd_len]; omega)]
def acc (N : Nat) (A : Nat → Nat) (sz : Nat) : Nat → Prop := fun q => (∃ k, k < N ∧ q = A k) ∨ sz ≤ q
def Apart (N : Nat) (A : Nat → Nat) : Prop := ∀ i j, i < N → j < N → A i = A j → i = j
theorem wd_D {N : Nat} {A : Nat → Nat} {ce : Nat → (Nat → Int32) → va_E} {S : Nat → Nat → Int32} {Acc : Nat → Prop} (hi : Apart N A) (ha : ∀ k, k < N → Acc (A k)) : va_D Acc (wd N A ce S) := by
  refine ⟨fun i j x y hx hy e => ?_, fun k q h => ?_⟩
  · obtain ⟨h1, rfl⟩ := wd_of hx
    obtain ⟨h2, rfl⟩ := wd_of hy
    exact hi i j h1 h2 e
  · obtain ⟨h1, rfl⟩ := wd_of h
    exact ha k h1
/-- facts of the state and the heap that a method only reads: they bear what the frame rule asks -/
def StX (X : (Nat → Prop) → State → Heap → Prop) : Prop := (∀ B (u U : State) H, u.WarmedH U.vm → X B u H → X B U H) ∧ (∀ B U (H H1 : Heap), X B U H → (∀ a : Nat, a < H.size → ¬ B a → H1[a]? = H[a]?) → X B U H1) ∧ (∀ (B C : Nat → Prop) U H, X B U H → (∀ q, C q → B q) → X C U H)
/-- what stands fast while a method's body runs -/
def Cx (p : Program) (s : State) (m : MethodId) (args : Array Value) (c : Code) (cc : ByteArray) (nL : Nat) (own : String) (D : va_G) (tys : List (ClassId × FieldType)) (N : Nat) (A : Nat → Nat) (X : (Nat → Prop) → State → Heap → Prop) (Acc : Nat → Prop) : Prop :=
  p.tables.exec = Jvm.exec ∧ c.code = cc ∧ c.maxLocals = nL ∧ s.vm.findClass own = some m.cls ∧ (∀ w ∈ BIG, w.before args s = true) ∧ va_K D vwCl tys s ∧ Apart N A ∧ (∀ k, k < N → Acc (A k)) ∧ (∀ q, s.heap.size ≤ q → Acc q) ∧ StX X ∧ X Acc s s.heap
def J (p : Program) (l : Launch) (e : Env) (R : Room) (s : State) (m : MethodId) (args : Array Value) (below : List Frame) (meth : Method) (c : Code) (cells slots : Nat) (Qf : State → Prop) (D : va_G) (N : Nat) (A : Nat → Nat) (ce : Nat → (Nat → Int32) → va_E) (Acc : Nat → Prop) (nL : Nat) (S : Nat → Nat → Int32) (pc : Nat) (L : List (Nat × Value)) (st : List Value) : Prop :=
  ∀ (H : Heap) (locs : List Loc) (ls : Array Slot), va_P D vwCl (wd N A ce S) H → va_S Acc s.heap H locs → lv_has ls nL L → W p l e R s m args below meth c H locs cells slots Qf (F0 m pc ls st)
/-- an end: the answer r with a world S', told by ret -/
def QQ {ρ : Type} (ret : ρ → Option Value) (Q : ρ → (Nat → Nat → Int32) → Prop) (D : va_G) (tys : List (ClassId × FieldType)) (N : Nat) (A : Nat → Nat) (ce : Nat → (Nat → Int32) → va_E) (B : Nat → Prop) : Array Value → State → Outcome → State → Prop := fun _ st oc t =>
  (∃ (r : ρ) (S : Nat → Nat → Int32), oc = .returned (ret r) ∧ Q r S ∧ va_P D vwCl (wd N A ce S) t.heap ∧ va_K D vwCl tys t) ∧ va_F B st t
abbrev rI : Int32 → Option Value := fun x => some (.int x)
def bI (b : Bool) : Int32 := if b then 1 else 0
abbrev rZ : Bool → Option Value := fun b => some (.int (bI b))
abbrev rU : Unit → Option Value := fun _ => none
abbrev rA (A : Nat → Nat) (b : Nat) : Nat → Option Value := fun k => some (.ref (A (b + k)))
def rO' (A : Nat → Nat) (b : Nat) : Option Nat → Value | none => .null | some k => .ref (A (b + k))
abbrev rO (A : Nat → Nat) (b : Nat) : Option Nat → Option Value := fun o => some (rO' A b o)
/-- the start of a contract: the world S0 lies in the heap -/
def PP (argsL : List Value) (S : Nat → Nat → Int32) (D : va_G) (tys : List (ClassId × FieldType)) (N : Nat) (A : Nat → Nat) (ce : Nat → (Nat → Int32) → va_E) (X : (Nat → Prop) → State → Heap → Prop) (sz : Nat) : Array Value → State → Prop :=
  va_Pc argsL (fun U => U.heap.size = sz ∧ va_P D vwCl (wd N A ce S) U.heap ∧ va_K D vwCl tys U ∧ X (acc N A sz) U U.heap)
/-- a method's contract, from one world to another -/
def Ct {ρ : Type} (l : Launch) (D : va_G) (tys : List (ClassId × FieldType)) (N : Nat) (A : Nat → Nat) (ce : Nat → (Nat → Int32) → va_E) (X : (Nat → Prop) → State → Heap → Prop) (y : MethodName) (cc : ByteArray) (nL : Nat) (rt : Option FieldType) (fr lo : Nat) (argsL : List Value) (S : Nat → Nat → Int32) (ret : ρ → Option Value) (Q : ρ → (Nat → Nat → Int32) → Prop) : Prop :=
  ∀ sz, Met l y (wsq y cc nL rt) ({ frames := fr, cells := 0, slots := 0, locals := lo }) (PP argsL S D tys N A ce X sz) (QQ ret Q D tys N A ce (acc N A sz)) 0 0 (acc N A sz)
theorem PP_blind {argsL : List Value} {S : Nat → Nat → Int32} {D : va_G} {tys : List (ClassId × FieldType)} {N : Nat} {A : Nat → Nat} {ce : Nat → (Nat → Int32) → va_E} {X : (Nat → Prop) → State → Heap → Prop} {sz : Nat} (hX : StX X) : FrameBlind (PP argsL S D tys N A ce X sz) := by
  intro a U g mk q
  obtain ⟨q0, q1, qP, qK, qX⟩ := q
  exact ⟨q0, q1, qP, va_K.moved (u := U) (U := U.calling g mk a) (Vm.Alike.refl U.vm) qK, hX.1 _ U _ _ (State.WarmedH.refl U) qX⟩
theorem Ct.of {ρ : Type} {l : Launch} {D : va_G} {tys : List (ClassId × FieldType)} {N : Nat} {A : Nat → Nat} {ce : Nat → (Nat → Int32) → va_E} {X : (Nat → Prop) → State → Heap → Prop} {y : MethodName} {cc : ByteArray} {nL : Nat} {rt : Option FieldType} {fr lo : Nat} {argsL : List Value} {S : Nat → Nat → Int32} {ret : ρ → Option Value} {Q : ρ → (Nat → Nat → Int32) → Prop}
    (hy : plainName y.cls = true) (hX : StX X) (hi : Apart N A) (L : List (Nat × Value)) (hL : lv_args 0 argsL = L) (hn : (lg_sl argsL).length ≤ nL)
    (body : ∀ (p : Program) (e : Env) (s : State) (m : MethodId) (args : Array Value) (below : List Frame) (meth : Method) (c : Code) (Acc : Nat → Prop), Cx p s m args c cc nL y.cls D tys N A X Acc → meth.sig.returnType = rt → meth.locks = false →
      ∀ Qf, Qf = MQ below (QQ ret Q D tys N A ce Acc) args s 0 0 Acc → J p l e ({ frames := fr, cells := 0, slots := 0, locals := lo }) s m args below meth c 0 0 Qf D N A ce Acc nL S 0 L []) : Ct l D tys N A ce X y cc nL rt fr lo argsL S ret Q := by
  intro sz
  refine Met.ofW (cc := cc) (maxL := nL) (ret := rt) hy rfl ?_
  intro p e s m args below meth c s₁ B hml hv
  obtain ⟨rfl, hsz, hP, hK, hXs⟩ := hv
  subst hsz
  have hts := atoms_spec (ws := wsq y cc nL rt) B.pre
  have hl := lv_entry argsL (n := nL) hn
  rw [lg_entry_eq]
  rw [hL] at hl
  exact body p e s m _ below meth c (acc N A s.heap.size) ⟨B.exec, B.bytes, hml, findClass_of_methodNamed B.named, fun w hw => hts w (List.mem_cons_of_mem _ hw), hK, hi, fun k hk => Or.inl ⟨k, hk, rfl⟩, fun q hq => Or.inr hq, hX, hXs⟩ B.returns B.notSynchronized _ rfl s.heap [] _ hP va_S.rf hl

section ROWS
variable {p : Program} {l : Launch} {e : Env} {R : Room} {s : State} {m : MethodId} {args : Array Value} {below : List Frame} {meth : Method} {c : Code} {cells slots : Nat} {Qf : State → Prop} {D : va_G} {N : Nat} {A : Nat → Nat} {ce : Nat → (Nat → Int32) → va_E} {Acc : Nat → Prop} {nL : Nat} {S : Nat → Nat → Int32} {pc : Nat} {L : List (Nat × Value)} {st : List Value} {cc : ByteArray} {own : String} {tys : List (ClassId × FieldType)} {X : (Nat → Prop) → State → Heap → Prop}
theorem r_iconst (C : Cx p s m args c cc nL own D tys N A X Acc) {n : Int} (v : Int32) (hv : Int32.ofInt n = v) (d : decode cc pc = .ok (.iconst n, 1)) (q : Nat) (hq : pc + 1 = q) (K : J p l e R s m args below meth c cells slots Qf D N A ce Acc nL S q L (.int v :: st)) : J p l e R s m args below meth c cells slots Qf D N A ce Acc nL S pc L st := by
  subst hq
  exact fun H locs ls hP hS hl => lv_iconst C.1 C.2.1 d hv (K H locs ls hP hS hl)
theorem r_bipush (C : Cx p s m args c cc nL own D tys N A X Acc) {n : Int} (v : Int32) (hv : (Int8.ofInt n).toInt32 = v) (d : decode cc pc = .ok (.bipush n, 2)) (q : Nat) (hq : pc + 2 = q) (K : J p l e R s m args below meth c cells slots Qf D N A ce Acc nL S q L (.int v :: st)) : J p l e R s m args below meth c cells slots Qf D N A ce Acc nL S pc L st := by
  subst hq
  exact fun H locs ls hP hS hl => lv_bipush C.1 C.2.1 d hv (K H locs ls hP hS hl)
theorem r_sipush (C : Cx p s m args c cc nL own D tys N A X Acc) {n : Int} (v : Int32) (hv : (Int16.ofInt n).toInt32 = v) (d : decode cc pc = .ok (.sipush n, 3)) (q : Nat) (hq : pc + 3 = q) (K : J p l e R s m args below meth c cells slots Qf D N A ce Acc nL S q L (.int v :: st)) : J p l e R s m args below meth c cells slots Qf D N A ce Acc nL S pc L st := by
  subst hq
  exact fun H locs ls hP hS hl => lv_sipush C.1 C.2.1 d hv (K H locs ls hP hS hl)
theorem r_null (C : Cx p s m args c cc nL own D tys N A X Acc)  (d : decode cc pc = .ok (.aconst_null, 1)) (q : Nat) (hq : pc + 1 = q) (K : J p l e R s m args below meth c cells slots Qf D N A ce Acc nL S q L (.null :: st)) : J p l e R s m args below meth c cells slots Qf D N A ce Acc nL S pc L st := by
  subst hq
  exact fun H locs ls hP hS hl => lv_null C.1 C.2.1 d (K H locs ls hP hS hl)
theorem r_iload_n (C : Cx p s m args c cc nL own D tys N A X Acc) {k : Fin 4} {x : Int32} (j : Nat) (hj : L[j]? = some ((k : Nat), .int x)) (d : decode cc pc = .ok (.iload_n k, 1)) (q : Nat) (hq : pc + 1 = q) (K : J p l e R s m args below meth c cells slots Qf D N A ce Acc nL S q L (.int x :: st)) : J p l e R s m args below meth c cells slots Qf D N A ce Acc nL S pc L st := by
  subst hq
  exact fun H locs ls hP hS hl => lv_iload_n C.1 C.2.1 d rfl (lv_at hl j hj) (K H locs ls hP hS hl)
theorem r_iload (C : Cx p s m args c cc nL own D tys N A X Acc) {k : Nat} {x : Int32} (j : Nat) (hj : L[j]? = some (k, .int x)) (d : decode cc pc = .ok (.iload k, 2)) (q : Nat) (hq : pc + 2 = q) (K : J p l e R s m args below meth c cells slots Qf D N A ce Acc nL S q L (.int x :: st)) : J p l e R s m args below meth c cells slots Qf D N A ce Acc nL S pc L st := by
  subst hq
  exact fun H locs ls hP hS hl => lv_iload C.1 C.2.1 d (lv_at hl j hj) (K H locs ls hP hS hl)
theorem r_istore_n (C : Cx p s m args c cc nL own D tys N A X Acc) {k : Fin 4} {x : Int32} (L1 : List (Nat × Value)) (hn : (k : Nat) < nL) (hL : ((k : Nat), Value.int x) :: L.filter (fun q => !(q.1 == (k : Nat)) && !(q.1 + 1 == (k : Nat) && q.2.category == 2)) = L1) (d : decode cc pc = .ok (.istore_n k, 1)) (q : Nat) (hq : pc + 1 = q) (K : J p l e R s m args below meth c cells slots Qf D N A ce Acc nL S q L1 st) : J p l e R s m args below meth c cells slots Qf D N A ce Acc nL S pc L (.int x :: st) := by
  subst hq
  exact fun H locs ls hP hS hl => lv_istore_n C.1 C.2.1 d rfl hl hn hL (fun ls1 hl1 => K H locs ls1 hP hS hl1)
theorem r_istore (C : Cx p s m args c cc nL own D tys N A X Acc) {k : Nat} {x : Int32} (L1 : List (Nat × Value)) (hn : k < nL) (hL : (k, Value.int x) :: L.filter (fun q => !(q.1 == k) && !(q.1 + 1 == k && q.2.category == 2)) = L1) (d : decode cc pc = .ok (.istore k, 2)) (q : Nat) (hq : pc + 2 = q) (K : J p l e R s m args below meth c cells slots Qf D N A ce Acc nL S q L1 st) : J p l e R s m args below meth c cells slots Qf D N A ce Acc nL S pc L (.int x :: st) := by
  subst hq
  exact fun H locs ls hP hS hl => lv_istore C.1 C.2.1 d hl hn hL (fun ls1 hl1 => K H locs ls1 hP hS hl1)
theorem r_aload_n (C : Cx p s m args c cc nL own D tys N A X Acc) {k : Fin 4} {x : Nat} (j : Nat) (hj : L[j]? = some ((k : Nat), .ref x)) (d : decode cc pc = .ok (.aload_n k, 1)) (q : Nat) (hq : pc + 1 = q) (K : J p l e R s m args below meth c cells slots Qf D N A ce Acc nL S q L (.ref x :: st)) : J p l e R s m args below meth c cells slots Qf D N A ce Acc nL S pc L st := by
  subst hq
  exact fun H locs ls hP hS hl => lv_aload_n C.1 C.2.1 d rfl (lv_at hl j hj) (K H locs ls hP hS hl)
theorem r_aload (C : Cx p s m args c cc nL own D tys N A X Acc) {k : Nat} {x : Nat} (j : Nat) (hj : L[j]? = some (k, .ref x)) (d : decode cc pc = .ok (.aload k, 2)) (q : Nat) (hq : pc + 2 = q) (K : J p l e R s m args below meth c cells slots Qf D N A ce Acc nL S q L (.ref x :: st)) : J p l e R s m args below meth c cells slots Qf D N A ce Acc nL S pc L st := by
  subst hq
  exact fun H locs ls hP hS hl => lv_aload C.1 C.2.1 d (lv_at hl j hj) (K H locs ls hP hS hl)
theorem r_astore_n (C : Cx p s m args c cc nL own D tys N A X Acc) {k : Fin 4} {x : Nat} (L1 : List (Nat × Value)) (hn : (k : Nat) < nL) (hL : ((k : Nat), Value.ref x) :: L.filter (fun q => !(q.1 == (k : Nat)) && !(q.1 + 1 == (k : Nat) && q.2.category == 2)) = L1) (d : decode cc pc = .ok (.astore_n k, 1)) (q : Nat) (hq : pc + 1 = q) (K : J p l e R s m args below meth c cells slots Qf D N A ce Acc nL S q L1 st) : J p l e R s m args below meth c cells slots Qf D N A ce Acc nL S pc L (.ref x :: st) := by
  subst hq
  exact fun H locs ls hP hS hl => lv_astore_n C.1 C.2.1 d rfl hl hn hL (fun ls1 hl1 => K H locs ls1 hP hS hl1)
theorem r_astore (C : Cx p s m args c cc nL own D tys N A X Acc) {k : Nat} {x : Nat} (L1 : List (Nat × Value)) (hn : k < nL) (hL : (k, Value.ref x) :: L.filter (fun q => !(q.1 == k) && !(q.1 + 1 == k && q.2.category == 2)) = L1) (d : decode cc pc = .ok (.astore k, 2)) (q : Nat) (hq : pc + 2 = q) (K : J p l e R s m args below meth c cells slots Qf D N A ce Acc nL S q L1 st) : J p l e R s m args below meth c cells slots Qf D N A ce Acc nL S pc L (.ref x :: st) := by
  subst hq
  exact fun H locs ls hP hS hl => lv_astore C.1 C.2.1 d hl hn hL (fun ls1 hl1 => K H locs ls1 hP hS hl1)
theorem r_iinc (C : Cx p s m args c cc nL own D tys N A X Acc) {i : Nat} {n : Int} {x : Int32} (j : Nat) (hj : L[j]? = some (i, .int x)) (v : Int32) (hv : x + Int32.ofInt n = v) (L1 : List (Nat × Value)) (hn : i < nL) (hL : (i, Value.int v) :: L.filter (fun q => !(q.1 == i) && !(q.1 + 1 == i && q.2.category == 2)) = L1) (d : decode cc pc = .ok (.iinc i n, 3)) (q : Nat) (hq : pc + 3 = q) (K : J p l e R s m args below meth c cells slots Qf D N A ce Acc nL S q L1 st) : J p l e R s m args below meth c cells slots Qf D N A ce Acc nL S pc L st := by
  subst hq
  exact fun H locs ls hP hS hl => lv_iinc C.1 C.2.1 d hl hj hv hn hL (fun ls1 hl1 => K H locs ls1 hP hS hl1)
theorem r_iadd (C : Cx p s m args c cc nL own D tys N A X Acc) {x y : Int32} (d : decode cc pc = .ok (.iadd, 1)) (q : Nat) (hq : pc + 1 = q) (K : J p l e R s m args below meth c cells slots Qf D N A ce Acc nL S q L (.int (x + y) :: st)) : J p l e R s m args below meth c cells slots Qf D N A ce Acc nL S pc L (.int y :: .int x :: st) := by
  subst hq
  exact fun H locs ls hP hS hl => lv_iadd C.1 C.2.1 d (K H locs ls hP hS hl)
theorem r_isub (C : Cx p s m args c cc nL own D tys N A X Acc) {x y : Int32} (d : decode cc pc = .ok (.isub, 1)) (q : Nat) (hq : pc + 1 = q) (K : J p l e R s m args below meth c cells slots Qf D N A ce Acc nL S q L (.int (x - y) :: st)) : J p l e R s m args below meth c cells slots Qf D N A ce Acc nL S pc L (.int y :: .int x :: st) := by
  subst hq
  exact fun H locs ls hP hS hl => lv_isub C.1 C.2.1 d (K H locs ls hP hS hl)
theorem r_imul (C : Cx p s m args c cc nL own D tys N A X Acc) {x y : Int32} (d : decode cc pc = .ok (.imul, 1)) (q : Nat) (hq : pc + 1 = q) (K : J p l e R s m args below meth c cells slots Qf D N A ce Acc nL S q L (.int (x * y) :: st)) : J p l e R s m args below meth c cells slots Qf D N A ce Acc nL S pc L (.int y :: .int x :: st) := by
  subst hq
  exact fun H locs ls hP hS hl => lv_imul C.1 C.2.1 d (K H locs ls hP hS hl)
theorem r_iand (C : Cx p s m args c cc nL own D tys N A X Acc) {x y : Int32} (d : decode cc pc = .ok (.iand, 1)) (q : Nat) (hq : pc + 1 = q) (K : J p l e R s m args below meth c cells slots Qf D N A ce Acc nL S q L (.int (x &&& y) :: st)) : J p l e R s m args below meth c cells slots Qf D N A ce Acc nL S pc L (.int y :: .int x :: st) := by
  subst hq
  exact fun H locs ls hP hS hl => lv_iand C.1 C.2.1 d (K H locs ls hP hS hl)
theorem r_ior (C : Cx p s m args c cc nL own D tys N A X Acc) {x y : Int32} (d : decode cc pc = .ok (.ior, 1)) (q : Nat) (hq : pc + 1 = q) (K : J p l e R s m args below meth c cells slots Qf D N A ce Acc nL S q L (.int (x ||| y) :: st)) : J p l e R s m args below meth c cells slots Qf D N A ce Acc nL S pc L (.int y :: .int x :: st) := by
  subst hq
  exact fun H locs ls hP hS hl => lv_ior C.1 C.2.1 d (K H locs ls hP hS hl)
theorem r_ishl (C : Cx p s m args c cc nL own D tys N A X Acc) {x y : Int32} (d : decode cc pc = .ok (.ishl, 1)) (q : Nat) (hq : pc + 1 = q) (K : J p l e R s m args below meth c cells slots Qf D N A ce Acc nL S q L (.int (x <<< (y &&& 31)) :: st)) : J p l e R s m args below meth c cells slots Qf D N A ce Acc nL S pc L (.int y :: .int x :: st) := by
  subst hq
  exact fun H locs ls hP hS hl => lv_ishl C.1 C.2.1 d (K H locs ls hP hS hl)
theorem r_ishr (C : Cx p s m args c cc nL own D tys N A X Acc) {x y : Int32} (d : decode cc pc = .ok (.ishr, 1)) (q : Nat) (hq : pc + 1 = q) (K : J p l e R s m args below meth c cells slots Qf D N A ce Acc nL S q L (.int (x >>> (y &&& 31)) :: st)) : J p l e R s m args below meth c cells slots Qf D N A ce Acc nL S pc L (.int y :: .int x :: st) := by
  subst hq
  exact fun H locs ls hP hS hl => lv_ishr C.1 C.2.1 d (K H locs ls hP hS hl)
theorem r_idiv (C : Cx p s m args c cc nL own D tys N A X Acc) {x y : Int32} (hy : ¬ y = 0) (d : decode cc pc = .ok (.idiv, 1)) (q : Nat) (hq : pc + 1 = q) (K : J p l e R s m args below meth c cells slots Qf D N A ce Acc nL S q L (.int (x / y) :: st)) : J p l e R s m args below meth c cells slots Qf D N A ce Acc nL S pc L (.int y :: .int x :: st) := by
  subst hq
  exact fun H locs ls hP hS hl => lv_idiv C.1 C.2.1 d hy (K H locs ls hP hS hl)
theorem r_ineg (C : Cx p s m args c cc nL own D tys N A X Acc) {x : Int32} (d : decode cc pc = .ok (.ineg, 1)) (q : Nat) (hq : pc + 1 = q) (K : J p l e R s m args below meth c cells slots Qf D N A ce Acc nL S q L (.int (-x) :: st)) : J p l e R s m args below meth c cells slots Qf D N A ce Acc nL S pc L (.int x :: st) := by
  subst hq
  exact fun H locs ls hP hS hl => lv_ineg C.1 C.2.1 d (K H locs ls hP hS hl)
theorem r_dup (C : Cx p s m args c cc nL own D tys N A X Acc) {v : Value} (hv : v.category = 1) (d : decode cc pc = .ok (.dup, 1)) (q : Nat) (hq : pc + 1 = q) (K : J p l e R s m args below meth c cells slots Qf D N A ce Acc nL S q L (v :: v :: st)) : J p l e R s m args below meth c cells slots Qf D N A ce Acc nL S pc L (v :: st) := by
  subst hq
  exact fun H locs ls hP hS hl => lv_dup C.1 C.2.1 d hv (K H locs ls hP hS hl)
theorem r_pop (C : Cx p s m args c cc nL own D tys N A X Acc) {v : Value} (hv : v.category = 1) (d : decode cc pc = .ok (.pop, 1)) (q : Nat) (hq : pc + 1 = q) (K : J p l e R s m args below meth c cells slots Qf D N A ce Acc nL S q L st) : J p l e R s m args below meth c cells slots Qf D N A ce Acc nL S pc L (v :: st) := by
  subst hq
  exact fun H locs ls hP hS hl => lv_pop C.1 C.2.1 d hv (K H locs ls hP hS hl)
theorem r_dup_x1 (C : Cx p s m args c cc nL own D tys N A X Acc) {v w : Value} (hv : v.category = 1) (hw : w.category = 1) (d : decode cc pc = .ok (.dup_x1, 1)) (q : Nat) (hq : pc + 1 = q) (K : J p l e R s m args below meth c cells slots Qf D N A ce Acc nL S q L (v :: w :: v :: st)) : J p l e R s m args below meth c cells slots Qf D N A ce Acc nL S pc L (v :: w :: st) := by
  subst hq
  exact fun H locs ls hP hS hl => lv_dup_x1 C.1 C.2.1 d hv hw (K H locs ls hP hS hl)
theorem r_dup2 (C : Cx p s m args c cc nL own D tys N A X Acc) {v w : Value} (hv : v.category = 1) (hw : w.category = 1) (d : decode cc pc = .ok (.dup2, 1)) (q : Nat) (hq : pc + 1 = q) (K : J p l e R s m args below meth c cells slots Qf D N A ce Acc nL S q L (v :: w :: v :: w :: st)) : J p l e R s m args below meth c cells slots Qf D N A ce Acc nL S pc L (v :: w :: st) := by
  subst hq
  exact fun H locs ls hP hS hl => lv_dup2_11 C.1 C.2.1 d hv hw (K H locs ls hP hS hl)
theorem r_if_eq (C : Cx p s m args c cc nL own D tys N A X Acc) {x : Int32} {off : Int} (tgt : Nat) (d : decode cc pc = .ok (.ifCond .eq off, 3)) (q : Nat) (hq : pc + 3 = q) (ht : (pc : Int) + off = (tgt : Int)) (Kt : x = 0 → J p l e R s m args below meth c cells slots Qf D N A ce Acc nL S tgt L st) (Kf : ¬ x = 0 → J p l e R s m args below meth c cells slots Qf D N A ce Acc nL S q L st) : J p l e R s m args below meth c cells slots Qf D N A ce Acc nL S pc L (.int x :: st) := by
  subst hq
  exact fun H locs ls hP hS hl => lv_if_eq C.1 C.2.1 d ht (fun h => Kt h H locs ls hP hS hl) (fun h => Kf h H locs ls hP hS hl)
theorem r_icmp_eq (C : Cx p s m args c cc nL own D tys N A X Acc) {x y : Int32} {off : Int} (tgt : Nat) (d : decode cc pc = .ok (.if_icmp .eq off, 3)) (q : Nat) (hq : pc + 3 = q) (ht : (pc : Int) + off = (tgt : Int)) (Kt : x = y → J p l e R s m args below meth c cells slots Qf D N A ce Acc nL S tgt L st) (Kf : ¬ x = y → J p l e R s m args below meth c cells slots Qf D N A ce Acc nL S q L st) : J p l e R s m args below meth c cells slots Qf D N A ce Acc nL S pc L (.int y :: .int x :: st) := by
  subst hq
  exact fun H locs ls hP hS hl => lv_icmp_eq C.1 C.2.1 d ht (fun h => Kt h H locs ls hP hS hl) (fun h => Kf h H locs ls hP hS hl)
theorem r_if_ne (C : Cx p s m args c cc nL own D tys N A X Acc) {x : Int32} {off : Int} (tgt : Nat) (d : decode cc pc = .ok (.ifCond .ne off, 3)) (q : Nat) (hq : pc + 3 = q) (ht : (pc : Int) + off = (tgt : Int)) (Kf : x = 0 → J p l e R s m args below meth c cells slots Qf D N A ce Acc nL S q L st) (Kt : ¬ x = 0 → J p l e R s m args below meth c cells slots Qf D N A ce Acc nL S tgt L st) : J p l e R s m args below meth c cells slots Qf D N A ce Acc nL S pc L (.int x :: st) := by
  subst hq
  exact fun H locs ls hP hS hl => lv_if_ne C.1 C.2.1 d ht (fun h => Kt h H locs ls hP hS hl) (fun h => Kf h H locs ls hP hS hl)
theorem r_icmp_ne (C : Cx p s m args c cc nL own D tys N A X Acc) {x y : Int32} {off : Int} (tgt : Nat) (d : decode cc pc = .ok (.if_icmp .ne off, 3)) (q : Nat) (hq : pc + 3 = q) (ht : (pc : Int) + off = (tgt : Int)) (Kf : x = y → J p l e R s m args below meth c cells slots Qf D N A ce Acc nL S q L st) (Kt : ¬ x = y → J p l e R s m args below meth c cells slots Qf D N A ce Acc nL S tgt L st) : J p l e R s m args below meth c cells slots Qf D N A ce Acc nL S pc L (.int y :: .int x :: st) := by
  subst hq
  exact fun H locs ls hP hS hl => lv_icmp_ne C.1 C.2.1 d ht (fun h => Kt h H locs ls hP hS hl) (fun h => Kf h H locs ls hP hS hl)
theorem r_if_lt (C : Cx p s m args c cc nL own D tys N A X Acc) {x : Int32} {off : Int} (tgt : Nat) (d : decode cc pc = .ok (.ifCond .lt off, 3)) (q : Nat) (hq : pc + 3 = q) (ht : (pc : Int) + off = (tgt : Int)) (Kt : x < 0 → J p l e R s m args below meth c cells slots Qf D N A ce Acc nL S tgt L st) (Kf : ¬ x < 0 → J p l e R s m args below meth c cells slots Qf D N A ce Acc nL S q L st) : J p l e R s m args below meth c cells slots Qf D N A ce Acc nL S pc L (.int x :: st) := by
  subst hq
  exact fun H locs ls hP hS hl => lv_if_lt C.1 C.2.1 d ht (fun h => Kt h H locs ls hP hS hl) (fun h => Kf h H locs ls hP hS hl)
theorem r_icmp_lt (C : Cx p s m args c cc nL own D tys N A X Acc) {x y : Int32} {off : Int} (tgt : Nat) (d : decode cc pc = .ok (.if_icmp .lt off, 3)) (q : Nat) (hq : pc + 3 = q) (ht : (pc : Int) + off = (tgt : Int)) (Kt : x < y → J p l e R s m args below meth c cells slots Qf D N A ce Acc nL S tgt L st) (Kf : ¬ x < y → J p l e R s m args below meth c cells slots Qf D N A ce Acc nL S q L st) : J p l e R s m args below meth c cells slots Qf D N A ce Acc nL S pc L (.int y :: .int x :: st) := by
  subst hq
  exact fun H locs ls hP hS hl => lv_icmp_lt C.1 C.2.1 d ht (fun h => Kt h H locs ls hP hS hl) (fun h => Kf h H locs ls hP hS hl)
theorem r_if_ge (C : Cx p s m args c cc nL own D tys N A X Acc) {x : Int32} {off : Int} (tgt : Nat) (d : decode cc pc = .ok (.ifCond .ge off, 3)) (q : Nat) (hq : pc + 3 = q) (ht : (pc : Int) + off = (tgt : Int)) (Kt : 0 ≤ x → J p l e R s m args below meth c cells slots Qf D N A ce Acc nL S tgt L st) (Kf : ¬ 0 ≤ x → J p l e R s m args below meth c cells slots Qf D N A ce Acc nL S q L st) : J p l e R s m args below meth c cells slots Qf D N A ce Acc nL S pc L (.int x :: st) := by
  subst hq
  exact fun H locs ls hP hS hl => lv_if_ge C.1 C.2.1 d ht (fun h => Kt h H locs ls hP hS hl) (fun h => Kf h H locs ls hP hS hl)
theorem r_icmp_ge (C : Cx p s m args c cc nL own D tys N A X Acc) {x y : Int32} {off : Int} (tgt : Nat) (d : decode cc pc = .ok (.if_icmp .ge off, 3)) (q : Nat) (hq : pc + 3 = q) (ht : (pc : Int) + off = (tgt : Int)) (Kt : y ≤ x → J p l e R s m args below meth c cells slots Qf D N A ce Acc nL S tgt L st) (Kf : ¬ y ≤ x → J p l e R s m args below meth c cells slots Qf D N A ce Acc nL S q L st) : J p l e R s m args below meth c cells slots Qf D N A ce Acc nL S pc L (.int y :: .int x :: st) := by
  subst hq
  exact fun H locs ls hP hS hl => lv_icmp_ge C.1 C.2.1 d ht (fun h => Kt h H locs ls hP hS hl) (fun h => Kf h H locs ls hP hS hl)
theorem r_if_gt (C : Cx p s m args c cc nL own D tys N A X Acc) {x : Int32} {off : Int} (tgt : Nat) (d : decode cc pc = .ok (.ifCond .gt off, 3)) (q : Nat) (hq : pc + 3 = q) (ht : (pc : Int) + off = (tgt : Int)) (Kt : 0 < x → J p l e R s m args below meth c cells slots Qf D N A ce Acc nL S tgt L st) (Kf : ¬ 0 < x → J p l e R s m args below meth c cells slots Qf D N A ce Acc nL S q L st) : J p l e R s m args below meth c cells slots Qf D N A ce Acc nL S pc L (.int x :: st) := by
  subst hq
  exact fun H locs ls hP hS hl => lv_if_gt C.1 C.2.1 d ht (fun h => Kt h H locs ls hP hS hl) (fun h => Kf h H locs ls hP hS hl)
theorem r_icmp_gt (C : Cx p s m args c cc nL own D tys N A X Acc) {x y : Int32} {off : Int} (tgt : Nat) (d : decode cc pc = .ok (.if_icmp .gt off, 3)) (q : Nat) (hq : pc + 3 = q) (ht : (pc : Int) + off = (tgt : Int)) (Kt : y < x → J p l e R s m args below meth c cells slots Qf D N A ce Acc nL S tgt L st) (Kf : ¬ y < x → J p l e R s m args below meth c cells slots Qf D N A ce Acc nL S q L st) : J p l e R s m args below meth c cells slots Qf D N A ce Acc nL S pc L (.int y :: .int x :: st) := by
  subst hq
  exact fun H locs ls hP hS hl => lv_icmp_gt C.1 C.2.1 d ht (fun h => Kt h H locs ls hP hS hl) (fun h => Kf h H locs ls hP hS hl)
theorem r_if_le (C : Cx p s m args c cc nL own D tys N A X Acc) {x : Int32} {off : Int} (tgt : Nat) (d : decode cc pc = .ok (.ifCond .le off, 3)) (q : Nat) (hq : pc + 3 = q) (ht : (pc : Int) + off = (tgt : Int)) (Kt : x ≤ 0 → J p l e R s m args below meth c cells slots Qf D N A ce Acc nL S tgt L st) (Kf : ¬ x ≤ 0 → J p l e R s m args below meth c cells slots Qf D N A ce Acc nL S q L st) : J p l e R s m args below meth c cells slots Qf D N A ce Acc nL S pc L (.int x :: st) := by
  subst hq
  exact fun H locs ls hP hS hl => lv_if_le C.1 C.2.1 d ht (fun h => Kt h H locs ls hP hS hl) (fun h => Kf h H locs ls hP hS hl)
theorem r_icmp_le (C : Cx p s m args c cc nL own D tys N A X Acc) {x y : Int32} {off : Int} (tgt : Nat) (d : decode cc pc = .ok (.if_icmp .le off, 3)) (q : Nat) (hq : pc + 3 = q) (ht : (pc : Int) + off = (tgt : Int)) (Kt : x ≤ y → J p l e R s m args below meth c cells slots Qf D N A ce Acc nL S tgt L st) (Kf : ¬ x ≤ y → J p l e R s m args below meth c cells slots Qf D N A ce Acc nL S q L st) : J p l e R s m args below meth c cells slots Qf D N A ce Acc nL S pc L (.int y :: .int x :: st) := by
  subst hq
  exact fun H locs ls hP hS hl => lv_icmp_le C.1 C.2.1 d ht (fun h => Kt h H locs ls hP hS hl) (fun h => Kf h H locs ls hP hS hl)
theorem bool_or (b : Bool) : b = false ∨ b = true := by cases b <;> simp
theorem r_if_eqF (C : Cx p s m args c cc nL own D tys N A X Acc) {b : Bool} (hB : b = false) {off : Int} (tgt : Nat) (d : decode cc pc = .ok (.ifCond .eq off, 3)) (q : Nat) (hq : pc + 3 = q) (ht : (pc : Int) + off = (tgt : Int)) (K : J p l e R s m args below meth c cells slots Qf D N A ce Acc nL S tgt L st) : J p l e R s m args below meth c cells slots Qf D N A ce Acc nL S pc L (.int (bI b) :: st) := by
  subst hB
  exact r_if_eq C tgt d q hq ht (fun _ => K) (fun h => absurd rfl h)
theorem r_if_eqT (C : Cx p s m args c cc nL own D tys N A X Acc) {b : Bool} (hB : b = true) {off : Int} (tgt : Nat) (d : decode cc pc = .ok (.ifCond .eq off, 3)) (q : Nat) (hq : pc + 3 = q) (ht : (pc : Int) + off = (tgt : Int)) (K : J p l e R s m args below meth c cells slots Qf D N A ce Acc nL S q L st) : J p l e R s m args below meth c cells slots Qf D N A ce Acc nL S pc L (.int (bI b) :: st) := by
  subst hB
  exact r_if_eq C tgt d q hq ht (fun h => absurd h (by decide)) (fun _ => K)
theorem r_if_neF (C : Cx p s m args c cc nL own D tys N A X Acc) {b : Bool} (hB : b = false) {off : Int} (tgt : Nat) (d : decode cc pc = .ok (.ifCond .ne off, 3)) (q : Nat) (hq : pc + 3 = q) (ht : (pc : Int) + off = (tgt : Int)) (K : J p l e R s m args below meth c cells slots Qf D N A ce Acc nL S q L st) : J p l e R s m args below meth c cells slots Qf D N A ce Acc nL S pc L (.int (bI b) :: st) := by
  subst hB
  exact r_if_ne C tgt d q hq ht (fun _ => K) (fun h => absurd rfl h)
theorem r_if_neT (C : Cx p s m args c cc nL own D tys N A X Acc) {b : Bool} (hB : b = true) {off : Int} (tgt : Nat) (d : decode cc pc = .ok (.ifCond .ne off, 3)) (q : Nat) (hq : pc + 3 = q) (ht : (pc : Int) + off = (tgt : Int)) (K : J p l e R s m args below meth c cells slots Qf D N A ce Acc nL S tgt L st) : J p l e R s m args below meth c cells slots Qf D N A ce Acc nL S pc L (.int (bI b) :: st) := by
  subst hB
  exact r_if_ne C tgt d q hq ht (fun h => absurd h (by decide)) (fun _ => K)
theorem r_aload_nN (C : Cx p s m args c cc nL own D tys N A X Acc) {k : Fin 4} (j : Nat) (hj : L[j]? = some ((k : Nat), .null)) (d : decode cc pc = .ok (.aload_n k, 1)) (q : Nat) (hq : pc + 1 = q) (K : J p l e R s m args below meth c cells slots Qf D N A ce Acc nL S q L (.null :: st)) : J p l e R s m args below meth c cells slots Qf D N A ce Acc nL S pc L st := by
  subst hq
  exact fun H locs ls hP hS hl => lv_aload_nN C.1 C.2.1 d rfl (lv_at hl j hj) (K H locs ls hP hS hl)
theorem r_astore_nN (C : Cx p s m args c cc nL own D tys N A X Acc) {k : Fin 4} (L1 : List (Nat × Value)) (hn : (k : Nat) < nL) (hL : ((k : Nat), Value.null) :: L.filter (fun q => !(q.1 == (k : Nat)) && !(q.1 + 1 == (k : Nat) && q.2.category == 2)) = L1) (d : decode cc pc = .ok (.astore_n k, 1)) (q : Nat) (hq : pc + 1 = q) (K : J p l e R s m args below meth c cells slots Qf D N A ce Acc nL S q L1 st) : J p l e R s m args below meth c cells slots Qf D N A ce Acc nL S pc L (.null :: st) := by
  subst hq
  exact fun H locs ls hP hS hl => lv_astore_nN C.1 C.2.1 d rfl hl hn hL (fun ls1 hl1 => K H locs ls1 hP hS hl1)
theorem r_aloadN (C : Cx p s m args c cc nL own D tys N A X Acc) {k : Nat} (j : Nat) (hj : L[j]? = some (k, .null)) (d : decode cc pc = .ok (.aload k, 2)) (q : Nat) (hq : pc + 2 = q) (K : J p l e R s m args below meth c cells slots Qf D N A ce Acc nL S q L (.null :: st)) : J p l e R s m args below meth c cells slots Qf D N A ce Acc nL S pc L st := by
  subst hq
  exact fun H locs ls hP hS hl => lv_aloadN C.1 C.2.1 d (lv_at hl j hj) (K H locs ls hP hS hl)
theorem r_astoreN (C : Cx p s m args c cc nL own D tys N A X Acc) {k : Nat} (L1 : List (Nat × Value)) (hn : k < nL) (hL : (k, Value.null) :: L.filter (fun q => !(q.1 == k) && !(q.1 + 1 == k && q.2.category == 2)) = L1) (d : decode cc pc = .ok (.astore k, 2)) (q : Nat) (hq : pc + 2 = q) (K : J p l e R s m args below meth c cells slots Qf D N A ce Acc nL S q L1 st) : J p l e R s m args below meth c cells slots Qf D N A ce Acc nL S pc L (.null :: st) := by
  subst hq
  exact fun H locs ls hP hS hl => lv_astoreN C.1 C.2.1 d hl hn hL (fun ls1 hl1 => K H locs ls1 hP hS hl1)
theorem r_state0 {g : Nat} (K : J p l e R s m args below meth c cells slots Qf D N A ce Acc nL S pc L (.ref (A g) :: st)) : J p l e R s m args below meth c cells slots Qf D N A ce Acc nL S pc L (.ref (A (0 + g)) :: st) := by rw [Nat.zero_add]; exact K
theorem r_goto (C : Cx p s m args c cc nL own D tys N A X Acc) {off : Int} (tgt : Nat) (d : decode cc pc = .ok (.goto off, 3)) (ht : (pc : Int) + off = (tgt : Int)) (K : J p l e R s m args below meth c cells slots Qf D N A ce Acc nL S tgt L st) : J p l e R s m args below meth c cells slots Qf D N A ce Acc nL S pc L st := fun H locs ls hP hS hl => lv_goto C.1 C.2.1 d ht (K H locs ls hP hS hl)
theorem r_tableIn (C : Cx p s m args c cc nL own D tys N A X Acc) {dflt lo hi : Int} {offs : Array Int} {len : Nat} {x : Int32} {off : Int} (tgt : Nat) (d : decode cc pc = .ok (.tableswitch dflt lo hi offs, len)) (h1 : ¬ x.toInt < lo) (h2 : ¬ hi < x.toInt) (ho : offs[(x.toInt - lo).toNat]? = some off) (ht : (pc : Int) + off = (tgt : Int)) (K : J p l e R s m args below meth c cells slots Qf D N A ce Acc nL S tgt L st) : J p l e R s m args below meth c cells slots Qf D N A ce Acc nL S pc L (.int x :: st) := fun H locs ls hP hS hl => lv_tableIn C.1 C.2.1 d h1 h2 ho ht (K H locs ls hP hS hl)
theorem r_tableOut (C : Cx p s m args c cc nL own D tys N A X Acc) {dflt lo hi : Int} {offs : Array Int} {len : Nat} {x : Int32} (tgt : Nat) (d : decode cc pc = .ok (.tableswitch dflt lo hi offs, len)) (h : x.toInt < lo ∨ hi < x.toInt) (ht : (pc : Int) + dflt = (tgt : Int)) (K : J p l e R s m args below meth c cells slots Qf D N A ce Acc nL S tgt L st) : J p l e R s m args below meth c cells slots Qf D N A ce Acc nL S pc L (.int x :: st) := fun H locs ls hP hS hl => lv_tableOut C.1 C.2.1 d h ht (K H locs ls hP hS hl)
theorem r_lookup (C : Cx p s m args c cc nL own D tys N A X Acc) {dflt : Int} {ps : Array (Int × Int)} {len : Nat} {x : Int32} {off : Int} (tgt : Nat) (d : decode cc pc = .ok (.lookupswitch dflt ps, len)) (hp : (ps.toList.zip (ps.toList.drop 1)).all (fun (a, next) => a.1 < next.1) = true) (ho : Op.lookupswitch.offset ps.toList dflt x.toInt = off) (ht : (pc : Int) + off = (tgt : Int)) (K : J p l e R s m args below meth c cells slots Qf D N A ce Acc nL S tgt L st) : J p l e R s m args below meth c cells slots Qf D N A ce Acc nL S pc L (.int x :: st) := fun H locs ls hP hS hl => lv_lookup C.1 C.2.1 d hp ho ht (K H locs ls hP hS hl)
theorem r_ifnonnull (C : Cx p s m args c cc nL own D tys N A X Acc) {x : Nat} {off : Int} (tgt : Nat) (d : decode cc pc = .ok (.ifnonnull off, 3)) (ht : (pc : Int) + off = (tgt : Int)) (K : J p l e R s m args below meth c cells slots Qf D N A ce Acc nL S tgt L st) : J p l e R s m args below meth c cells slots Qf D N A ce Acc nL S pc L (.ref x :: st) := fun H locs ls hP hS hl => lv_ifnonnull C.1 C.2.1 d ht (K H locs ls hP hS hl)
theorem r_ifnull (C : Cx p s m args c cc nL own D tys N A X Acc) {x : Nat} {off : Int} (d : decode cc pc = .ok (.ifnull off, 3)) (q : Nat) (hq : pc + 3 = q) (K : J p l e R s m args below meth c cells slots Qf D N A ce Acc nL S q L st) : J p l e R s m args below meth c cells slots Qf D N A ce Acc nL S pc L (.ref x :: st) := by
  subst hq
  exact fun H locs ls hP hS hl => lv_ifnull C.1 C.2.1 d (K H locs ls hP hS hl)
theorem r_ifnullN (C : Cx p s m args c cc nL own D tys N A X Acc) {off : Int} (tgt : Nat) (d : decode cc pc = .ok (.ifnull off, 3)) (ht : (pc : Int) + off = (tgt : Int)) (K : J p l e R s m args below meth c cells slots Qf D N A ce Acc nL S tgt L st) : J p l e R s m args below meth c cells slots Qf D N A ce Acc nL S pc L (.null :: st) := fun H locs ls hP hS hl => lv_ifnullN C.1 C.2.1 d ht (K H locs ls hP hS hl)
theorem r_ifnonnullN (C : Cx p s m args c cc nL own D tys N A X Acc) {off : Int} (d : decode cc pc = .ok (.ifnonnull off, 3)) (q : Nat) (hq : pc + 3 = q) (K : J p l e R s m args below meth c cells slots Qf D N A ce Acc nL S q L st) : J p l e R s m args below meth c cells slots Qf D N A ce Acc nL S pc L (.null :: st) := by
  subst hq
  exact fun H locs ls hP hS hl => lv_ifnonnullN C.1 C.2.1 d (K H locs ls hP hS hl)
theorem r_sub (L1 : List (Nat × Value)) (ks : List Nat) (hL : lv_pick L ks = L1) (K : J p l e R s m args below meth c cells slots Qf D N A ce Acc nL S pc L1 st) : J p l e R s m args below meth c cells slots Qf D N A ce Acc nL S pc L st := fun H locs ls hP hS hl => K H locs ls hP hS (lv_sub hl ks hL)
theorem r_state {S1 : Nat → Nat → Int32} (h : S = S1) (K : J p l e R s m args below meth c cells slots Qf D N A ce Acc nL S1 pc L st) : J p l e R s m args below meth c cells slots Qf D N A ce Acc nL S pc L st := by rw [h]; exact K
theorem r_topi {x : Int32} (K : ∀ y : Int32, y = x → J p l e R s m args below meth c cells slots Qf D N A ce Acc nL S pc L (.int y :: st)) : J p l e R s m args below meth c cells slots Qf D N A ce Acc nL S pc L (.int x :: st) := K x rfl
theorem r_get (C : Cx p s m args c cc nL own D tys N A X Acc) {ref C0 : String} {T : u_T} {nF ci index : Nat} (k f : Nat) {fs : List Value} (hin : ∀ w ∈ u_ws C0 T nF, w ∈ BIG) (hk : k < N) (he : ce k (S k) = .inr (ci, fs)) (hc : vwCl[ci]? = some (C0, T, nF)) (hf : f < nF) (hlink : Cond.fieldLink own index ref (T f).2.1 (T f).2.2.1 ∈ BIG) (href : ref = (T f).1) {v : Value} (hv : fs[f]? = some v) (d : decode cc pc = .ok (.getfield index, 3)) (q : Nat) (hq : pc + 3 = q) (K : J p l e R s m args below meth c cells slots Qf D N A ce Acc nL S q L (v :: st)) : J p l e R s m args below meth c cells slots Qf D N A ce Acc nL S pc L (.ref (A k) :: st) := by
  subst hq
  subst href
  exact fun H locs ls hP hS hl => va_get C.1 C.2.1 C.2.2.2.2.1 hin C.2.2.2.1 C.2.2.2.2.2.1 hP k (by rw [wd_at hk, he]) hc f hf (C.2.2.2.2.1 _ hlink) (fun _ h9 => h9) hv d (K H locs ls hP hS hl)
theorem r_put (C : Cx p s m args c cc nL own D tys N A X Acc) {ref C0 : String} {T : u_T} {nF ci index : Nat} (k f : Nat) {fs : List Value} (hin : ∀ w ∈ u_ws C0 T nF, w ∈ BIG) (ty0 : Nat → FieldType) (hty : ∀ k, k < nF → parseFieldDescriptor (T k).2.2.1 = some (ty0 k)) (hnm : ∀ a, a < nF → ∀ b, b < nF → a ≠ b → (T a).2.1 ≠ (T b).2.1) (hk : k < N) (he : ce k (S k) = .inr (ci, fs)) (hc : vwCl[ci]? = some (C0, T, nF)) (hf : f < nF) (hlink : Cond.fieldLink own index ref (T f).2.1 (T f).2.2.1 ∈ BIG) (href : ref = (T f).1) (hfin : (T f).2.2.2 = false) {ty : FieldType} {v : Value} (hd : parseFieldDescriptor (T f).2.2.1 = some ty) (hn : narrow ty v = v) (hfit : fits ty v = true) (hl0 : f < fs.length)
    (row : Nat → Int32) (he1 : ce k row = .inr (ci, fs.set f v)) (d : decode cc pc = .ok (.putfield index, 3)) (q : Nat) (hq : pc + 3 = q) (K : ∀ S1, S1 = upR S k row → J p l e R s m args below meth c cells slots Qf D N A ce Acc nL S1 q L st) : J p l e R s m args below meth c cells slots Qf D N A ce Acc nL S pc L (v :: .ref (A k) :: st) := by
  subst hq
  subst href
  intro H locs ls hP hS hl
  refine va_put C.1 C.2.1 C.2.2.2.2.1 hin ty0 hty hnm C.2.2.2.1 C.2.2.2.2.2.1 hP (wd_D C.2.2.2.2.2.2.1 C.2.2.2.2.2.2.2.1) hS k (by rw [wd_at hk, he]) hc f hf (C.2.2.2.2.1 _ hlink) (fun _ h9 => h9) hfin hd hn hfit hl0 d (fun H1 locs1 hP1 hD1 hS1 => ?_)
  rw [wd_set he1] at hP1
  exact K _ rfl H1 locs1 ls hP1 hS1 hl
theorem r_iald (C : Cx p s m args c cc nL own D tys N A X Acc) (k t0 : Nat) {cA : ClassId} {n : Nat} (hk : k < N) (he : ce k (S k) = .inl (cA, n, .inl (S k))) (ht : tys[t0]? = some (cA, .int)) {i : Int32} (hin : vp_in i n) (d : decode cc pc = .ok (.iaload, 1)) (q : Nat) (hq : pc + 1 = q) (K : J p l e R s m args below meth c cells slots Qf D N A ce Acc nL S q L (.int (S k i.toNatClampNeg) :: st)) : J p l e R s m args below meth c cells slots Qf D N A ce Acc nL S pc L (.int i :: .ref (A k) :: st) := by
  subst hq
  exact fun H locs ls hP hS hl => va_iald C.1 C.2.1 C.2.2.2.2.2.1 hP k t0 (by rw [wd_at hk, he]) ht hin d (K H locs ls hP hS hl)
theorem r_iast (C : Cx p s m args c cc nL own D tys N A X Acc) (k t0 : Nat) {cA : ClassId} {n : Nat} (hk : k < N) (he : ∀ f, ce k f = .inl (cA, n, .inl f)) (ht : tys[t0]? = some (cA, .int)) {i x : Int32} (hin : vp_in i n) (d : decode cc pc = .ok (.iastore, 1)) (q : Nat) (hq : pc + 1 = q) (K : ∀ S1, S1 = up2 S k i.toNatClampNeg x → J p l e R s m args below meth c cells slots Qf D N A ce Acc nL S1 q L st) : J p l e R s m args below meth c cells slots Qf D N A ce Acc nL S pc L (.int x :: .int i :: .ref (A k) :: st) := by
  subst hq
  intro H locs ls hP hS hl
  refine va_iast C.1 C.2.1 C.2.2.2.2.2.1 hP (wd_D C.2.2.2.2.2.2.1 C.2.2.2.2.2.2.2.1) hS k t0 (by rw [wd_at hk, he (S k)]) ht hin d (fun H1 locs1 hP1 hD1 hS1 => ?_)
  rw [wd_set (he _)] at hP1
  exact K _ rfl H1 locs1 ls hP1 hS1 hl
theorem r_aald (C : Cx p s m args c cc nL own D tys N A X Acc) (k t0 : Nat) {cA : ClassId} {n : Nat} {E : String} {g : Nat → Option Nat} (hk : k < N) (he : ce k (S k) = .inl (cA, n, .inr (.inr (.inr (.inr g))))) (ht : tys[t0]? = some (cA, .object E)) {i : Int32} (hin : vp_in i n) {v : Nat} (hv : g i.toNatClampNeg = some v) (d : decode cc pc = .ok (.aaload, 1)) (q : Nat) (hq : pc + 1 = q) (K : J p l e R s m args below meth c cells slots Qf D N A ce Acc nL S q L (.ref v :: st)) : J p l e R s m args below meth c cells slots Qf D N A ce Acc nL S pc L (.int i :: .ref (A k) :: st) := by
  subst hq
  intro H locs ls hP hS hl
  refine va_aldq C.1 C.2.1 C.2.2.2.2.2.1 hP k t0 (by rw [wd_at hk, he]) ht hin d ?_
  rw [hv]
  exact K H locs ls hP hS hl
theorem r_alen (C : Cx p s m args c cc nL own D tys N A X Acc) (k t0 : Nat) {cA : ClassId} {n : Nat} (hk : k < N) (he : ce k (S k) = .inl (cA, n, .inl (S k))) (ht : tys[t0]? = some (cA, .int)) (d : decode cc pc = .ok (.arraylength, 1)) (q : Nat) (hq : pc + 1 = q) (K : J p l e R s m args below meth c cells slots Qf D N A ce Acc nL S q L (.int (nI n) :: st)) : J p l e R s m args below meth c cells slots Qf D N A ce Acc nL S pc L (.ref (A k) :: st) := by
  subst hq
  exact fun H locs ls hP hS hl => va_alen C.1 C.2.1 C.2.2.2.2.2.1 hP k t0 (x := (n, .inl (S k))) (by rw [wd_at hk, he]) ht (v := nI n) rfl d (K H locs ls hP hS hl)
theorem r_iret (C : Cx p s m args c cc nL own D tys N A X Acc) {Q : Int32 → (Nat → Nat → Int32) → Prop} (hE : Qf = MQ below (QQ rI Q D tys N A ce Acc) args s 0 0 Acc) (hr : meth.sig.returnType = some .int) (hlk : meth.locks = false) {r : Int32}  (d : decode cc pc = .ok (.ireturn, 1)) (h : Q r S) : J p l e R s m args below meth c 0 0 Qf D N A ce Acc nL S pc L [.int r] := by
  subst hE
  intro H locs ls hP hS hl
  exact W.iret (hlocks := hlk) C.1 C.2.1 hr (fun t ht hW => ⟨⟨r, S, rfl, h, by rw [ht]; exact hP, va_K.moved hW.alike C.2.2.2.2.2.1⟩, hS.F ht⟩) hS.2.2 d
theorem r_zret (C : Cx p s m args c cc nL own D tys N A X Acc) {Q : Bool → (Nat → Nat → Int32) → Prop} (hE : Qf = MQ below (QQ rZ Q D tys N A ce Acc) args s 0 0 Acc) (hr : meth.sig.returnType = some .boolean) (hlk : meth.locks = false) {r : Bool}  (d : decode cc pc = .ok (.ireturn, 1)) (h : Q r S) : J p l e R s m args below meth c 0 0 Qf D N A ce Acc nL S pc L [.int (bI r)] := by
  subst hE
  intro H locs ls hP hS hl
  exact W.zret (hlocks := hlk) C.1 C.2.1 hr (by cases r <;> rfl) (fun t ht hW => ⟨⟨r, S, rfl, h, by rw [ht]; exact hP, va_K.moved hW.alike C.2.2.2.2.2.1⟩, hS.F ht⟩) hS.2.2 d
theorem r_vret (C : Cx p s m args c cc nL own D tys N A X Acc) {Q : Unit → (Nat → Nat → Int32) → Prop} (hE : Qf = MQ below (QQ rU Q D tys N A ce Acc) args s 0 0 Acc) (hr : meth.sig.returnType = none) (hlk : meth.locks = false) {r : Unit}  (d : decode cc pc = .ok (.return_, 1)) (h : Q r S) : J p l e R s m args below meth c 0 0 Qf D N A ce Acc nL S pc L [] := by
  subst hE
  intro H locs ls hP hS hl
  exact W.vret (hlocks := hlk) C.1 C.2.1 hr (fun t ht hW => ⟨⟨r, S, rfl, h, by rw [ht]; exact hP, va_K.moved hW.alike C.2.2.2.2.2.1⟩, hS.F ht⟩) hS.2.2 d
theorem r_aret (C : Cx p s m args c cc nL own D tys N A X Acc) {E : String} {b : Nat} {Q : Nat → (Nat → Nat → Int32) → Prop} (hE : Qf = MQ below (QQ (rA A b) Q D tys N A ce Acc) args s 0 0 Acc) (hr : meth.sig.returnType = some (.object E)) (hlk : meth.locks = false) {r : Nat} (d : decode cc pc = .ok (.areturn, 1)) (h : Q r S) : J p l e R s m args below meth c 0 0 Qf D N A ce Acc nL S pc L [.ref (A (b + r))] := by
  subst hE
  intro H locs ls hP hS hl
  exact W.aret (hlocks := hlk) C.1 C.2.1 hr (Or.inl ⟨_, rfl⟩) (Or.inr ⟨_, rfl⟩) (fun t ht hW => ⟨⟨r, S, rfl, h, by rw [ht]; exact hP, va_K.moved hW.alike C.2.2.2.2.2.1⟩, hS.F ht⟩) hS.2.2 d
theorem r_oret (C : Cx p s m args c cc nL own D tys N A X Acc) {E : String} {b : Nat} {Q : Option Nat → (Nat → Nat → Int32) → Prop} (hE : Qf = MQ below (QQ (rO A b) Q D tys N A ce Acc) args s 0 0 Acc) (hr : meth.sig.returnType = some (.object E)) (hlk : meth.locks = false) (r : Option Nat) {v : Value} (hv : rO' A b r = v) (d : decode cc pc = .ok (.areturn, 1)) (h : Q r S) : J p l e R s m args below meth c 0 0 Qf D N A ce Acc nL S pc L [v] := by
  subst hE
  subst hv
  intro H locs ls hP hS hl
  exact W.aret (hlocks := hlk) C.1 C.2.1 hr (Or.inl ⟨_, rfl⟩) (by cases r <;> first | exact Or.inl rfl | exact Or.inr ⟨_, rfl⟩) (fun t ht hW => ⟨⟨r, S, rfl, h, by rw [ht]; exact hP, va_K.moved hW.alike C.2.2.2.2.2.1⟩, hS.F ht⟩) hS.2.2 d
theorem r_sw (C : Cx p s m args c cc nL own D tys N A X Acc) {dflt lo hi : Int} {offs : Array Int} {len : Nat} {x : Int32} {off : Int} (v : Int32) (hx : x = v) (tgt : Nat) (d : decode cc pc = .ok (.tableswitch dflt lo hi offs, len)) (h1 : ¬ v.toInt < lo) (h2 : ¬ hi < v.toInt) (ho : offs[(v.toInt - lo).toNat]? = some off) (ht : (pc : Int) + off = (tgt : Int)) (K : J p l e R s m args below meth c cells slots Qf D N A ce Acc nL S tgt L st) : J p l e R s m args below meth c cells slots Qf D N A ce Acc nL S pc L (.int x :: st) := by subst hx; exact r_tableIn C tgt d h1 h2 ho ht K
theorem r_lsw (C : Cx p s m args c cc nL own D tys N A X Acc) {dflt : Int} {ps : Array (Int × Int)} {len : Nat} {x : Int32} {off : Int} (v : Int32) (hx : x = v) (tgt : Nat) (d : decode cc pc = .ok (.lookupswitch dflt ps, len)) (hp : (ps.toList.zip (ps.toList.drop 1)).all (fun (a, next) => a.1 < next.1) = true) (ho : Op.lookupswitch.offset ps.toList dflt v.toInt = off) (ht : (pc : Int) + off = (tgt : Int)) (K : J p l e R s m args below meth c cells slots Qf D N A ce Acc nL S tgt L st) : J p l e R s m args below meth c cells slots Qf D N A ce Acc nL S pc L (.int x :: st) := by subst hx; exact r_lookup C tgt d hp ho ht K
theorem r_max (C : Cx p s m args c cc nL own D tys N A X Acc) {index : Nat} {x y : Int32} (hlink : Cond.methodLink own index Lib.Math.max.name ∈ BIG) (hstat : Cond.static Lib.Math.max.name ∈ BIG) (hini : Cond.initialized "java/lang/Math" ∈ BIG) (hcode : Cond.code Lib.Math.max.name Lib.Math.max.code 2 (some .int) ∈ BIG) (hR : 1 ≤ R.frames ∧ (st.map fun v => v.category).sum + 13 ≤ R.locals ∧ cells ≤ R.cells ∧ slots ≤ R.slots) (d : decode cc pc = .ok (.invokestatic index, 3)) (q : Nat) (hq : pc + 3 = q) (K : J p l e R s m args below meth c cells slots Qf D N A ce Acc nL S q L (.int (if x < y then y else x) :: st)) : J p l e R s m args below meth c cells slots Qf D N A ce Acc nL S pc L (.int y :: .int x :: st) := by
  subst hq
  exact fun H locs ls hP hS hl => va_mmax C.1 C.2.1 (C.2.2.1.trans hl.1.symm) C.2.2.2.1 (C.2.2.2.2.1 _ hlink) (C.2.2.2.2.1 _ hstat) (C.2.2.2.2.1 _ hini) (C.2.2.2.2.1 _ hcode) hR.1 hR.2.1 hR.2.2.1 hR.2.2.2 d (K H locs ls hP hS hl)
theorem r_min (C : Cx p s m args c cc nL own D tys N A X Acc) {index : Nat} {x y : Int32} (hlink : Cond.methodLink own index Lib.Math.min.name ∈ BIG) (hstat : Cond.static Lib.Math.min.name ∈ BIG) (hini : Cond.initialized "java/lang/Math" ∈ BIG) (hcode : Cond.code Lib.Math.min.name Lib.Math.min.code 2 (some .int) ∈ BIG) (hR : 1 ≤ R.frames ∧ (st.map fun v => v.category).sum + 13 ≤ R.locals ∧ cells ≤ R.cells ∧ slots ≤ R.slots) (d : decode cc pc = .ok (.invokestatic index, 3)) (q : Nat) (hq : pc + 3 = q) (K : J p l e R s m args below meth c cells slots Qf D N A ce Acc nL S q L (.int (if y < x then y else x) :: st)) : J p l e R s m args below meth c cells slots Qf D N A ce Acc nL S pc L (.int y :: .int x :: st) := by
  subst hq
  exact fun H locs ls hP hS hl => va_mmin C.1 C.2.1 (C.2.2.1.trans hl.1.symm) C.2.2.2.1 (C.2.2.2.2.1 _ hlink) (C.2.2.2.2.1 _ hstat) (C.2.2.2.2.1 _ hini) (C.2.2.2.2.1 _ hcode) hR.1 hR.2.1 hR.2.2.1 hR.2.2.2 d (K H locs ls hP hS hl)
theorem r_copy (C : Cx p s m args c cc nL own D tys N A X Acc) {index : Nat} (k0 k1 t0 t1 : Nat) {c0 c1 : ClassId} {n0 n1 : Nat} {sp dp n : Int32} (hlink : Cond.methodLink own index arraycopyName ∈ BIG) (hnat : Cond.native arraycopyName ∈ BIG) (hstat : Cond.static arraycopyName ∈ BIG) (hini : Cond.initialized "java/lang/System" ∈ BIG)
    (hk0 : k0 < N) (hk1 : k1 < N) (he0 : ce k0 (S k0) = .inl (c0, n0, .inl (S k0))) (he1 : ∀ f, ce k1 f = .inl (c1, n1, .inl f)) (ht0 : tys[t0]? = some (c0, .int)) (ht1 : tys[t1]? = some (c1, .int))
    (h : ¬ sp < 0 ∧ ¬ dp < 0 ∧ ¬ n < 0 ∧ sp.toNatClampNeg + n.toNatClampNeg ≤ n0 ∧ dp.toNatClampNeg + n.toNatClampNeg ≤ n1) (hR : 1 ≤ R.frames ∧ (st.map fun v => v.category).sum + (nativeFrameWords "java/lang/System" "arraycopy" 5 + 11) ≤ R.locals)
    (d : decode cc pc = .ok (.invokestatic index, 3)) (q : Nat) (hq : pc + 3 = q) (K : ∀ S1, S1 = upR S k1 (va_cpy (S k0) (S k1) sp.toNatClampNeg dp.toNatClampNeg n.toNatClampNeg) → J p l e R s m args below meth c cells slots Qf D N A ce Acc nL S1 q L st) : J p l e R s m args below meth c cells slots Qf D N A ce Acc nL S pc L (.int n :: .int dp :: .ref (A k1) :: .int sp :: .ref (A k0) :: st) := by
  subst hq
  intro H locs ls hP hS hl
  refine va_copyi C.1 C.2.1 (C.2.2.1.trans hl.1.symm) C.2.2.2.1 (C.2.2.2.2.1 _ hlink) (C.2.2.2.2.1 _ hnat) (C.2.2.2.2.1 _ hstat) (C.2.2.2.2.1 _ hini) C.2.2.2.2.2.1 hP (wd_D C.2.2.2.2.2.2.1 C.2.2.2.2.2.2.2.1) hS k0 k1 t0 t1 (by rw [wd_at hk0, he0]) (by rw [wd_at hk1, he1 (S k1)]) ht0 ht1 rfl h.1 h.2.1 h.2.2.1 h.2.2.2.1 h.2.2.2.2 (fun i _ => rfl) hR.1 hR.2 d (fun H1 locs1 hP1 hD1 hS1 => ?_)
  rw [wd_set (he1 _)] at hP1
  exact K _ rfl H1 locs1 ls hP1 hS1 hl
end ROWS
section CALLS
variable {p : Program} {l : Launch} {e : Env} {R : Room} {s : State} {m : MethodId} {args : Array Value} {below : List Frame} {meth : Method} {c : Code} {cells slots : Nat} {Qf : State → Prop} {D : va_G} {N : Nat} {A : Nat → Nat} {ce : Nat → (Nat → Int32) → va_E} {Acc : Nat → Prop} {nL : Nat} {S : Nat → Nat → Int32} {pc : Nat} {L : List (Nat × Value)} {st : List Value} {cc : ByteArray} {own : String} {tys : List (ClassId × FieldType)} {X : (Nat → Prop) → State → Heap → Prop}
theorem acc_in (C : Cx p s m args c cc nL own D tys N A X Acc) {H : Heap} (hz : s.heap.size ≤ H.size) : ∀ q, acc N A H.size q → Acc q := fun q h => by
  rcases h with ⟨k, hk, rfl⟩ | h
  · exact C.2.2.2.2.2.2.2.1 k hk
  · exact C.2.2.2.2.2.2.2.2.1 q (Nat.le_trans hz h)
theorem pre_in (C : Cx p s m args c cc nL own D tys N A X Acc) {H : Heap} {locs : List Loc} (hP : va_P D vwCl (wd N A ce S) H) (hS : va_S Acc s.heap H locs) (argsL : List Value) : ∀ U : State, U.heap = H → s.WarmedH U.vm → PP argsL S D tys N A ce X H.size argsL.toArray U := by
  intro U hU hW
  refine ⟨rfl, by rw [hU], by rw [hU]; exact hP, va_K.moved hW.alike C.2.2.2.2.2.1, ?_⟩
  have hX := C.2.2.2.2.2.2.2.2.2.1
  have h1 : X Acc s H := hX.2.1 _ _ _ _ C.2.2.2.2.2.2.2.2.2.2 (fun a h1 h2 => hS.2.1 a h1 h2)
  have h2 : X (acc N A H.size) s H := hX.2.2 _ _ _ _ h1 (acc_in C hS.1)
  rw [hU]
  exact hX.1 _ _ _ _ hW h2
/-- behind a call: from its run to the machine behind it -/
theorem r_after (C : Cx p s m args c cc nL own D tys N A X Acc) {ρ : Type} {ret : ρ → Option Value} {Q : ρ → (Nat → Nat → Int32) → Prop} {st0 rest : List Value} {H : Heap} {locs : List Loc} {ls : Array Slot} {a : Array Value}
    (hS : va_S Acc s.heap H locs) (hl : lv_has ls nL L)
    (hr : va_Run p l e R s m args below meth c H locs cells slots 0 0 (F0 m pc ls st0) rest (QQ ret Q D tys N A ce (acc N A H.size) a) (acc N A H.size))
    (K : ∀ (r : ρ) (S1 : Nat → Nat → Int32), Q r S1 → J p l e R s m args below meth c cells slots Qf D N A ce Acc nL S1 (pc + 3) L ((ret r).toList ++ rest)) : W p l e R s m args below meth c H locs cells slots Qf (F0 m pc ls st0) := by
  intro T hT X0
  obtain ⟨v, st₀, t, T', L1, h0, X', hL, e1, e2, ⟨⟨r, S1, hv, hq, hP1, hK1⟩, hz, hk⟩, st⟩ := hr T hT X0
  cases hv
  rw [h0] at hz hk
  have hS1 : va_S Acc s.heap T'.heap (locs ++ L1) := ⟨Nat.le_trans hS.1 (by rw [e1]; exact hz), fun q h1 h2 => by
      rw [e1, hk q (Nat.lt_of_lt_of_le h1 hS.1) (fun z => h2 (acc_in C hS.1 q z))]; exact hS.2.1 q h1 h2, fun q hq => by
      rcases List.mem_append.mp hq with h | h
      · exact hS.2.2 q h
      · exact acc_in C hS.1 _ (hL q h)⟩
  obtain ⟨t2, a1, b1⟩ := K r S1 hq T'.heap (locs ++ L1) ls (by rw [e1]; exact hP1) hS1 hl T' rfl X'
  exact ⟨t2, st t2 a1, b1⟩
/-- the words and the room of a call -/
theorem cb_of (C : Cx p s m args c cc nL own D tys N A X Acc) {y : MethodName} {cy : ByteArray} {ny : Nat} {ry : Option FieldType} {fr lo index : Nat} (n : Nat)
    (hcode : Cond.code y cy ny ry ∈ BIG) (hini : Cond.initialized y.cls ∈ BIG) (hlink : Cond.methodLink own index y ∈ BIG)
    (hd : y.cls ≠ "java/lang/invoke/MethodHandle" ∧ y.cls ≠ "java/lang/invoke/VarHandle" ∧ (parseMethodDescriptor y.desc).map (fun d => d.parameters.length) = some n) (hR : fr + 1 ≤ R.frames ∧ 8 + (ny + 11) + lo ≤ R.locals) :
    CallB R s args own index y cy ny ry (wsq y cy ny ry) ({ frames := fr, cells := 0, slots := 0, locals := lo }) 0 0 n := by
  have hts := C.2.2.2.2.1
  have hG : GoodIn (wsq y cy ny ry) (wsq y cy ny ry) := fun w hw => ⟨hw, by
    rcases List.mem_cons.mp hw with rfl | h
    · exact BIG_good _ hcode
    · exact BIG_good _ h⟩
  exact callB_of (Ts := wsq y cy ny ry) n (fun w hw => by
    rcases List.mem_cons.mp hw with rfl | h
    · exact hts _ hcode
    · exact hts _ h) hG rfl rfl rfl (hts _ hini) (hts _ hlink) hd hR

theorem r_callV (C : Cx p s m args c cc nL own D tys N A X Acc) {ρ : Type} {ret : ρ → Option Value} {Q : ρ → (Nat → Nat → Int32) → Prop} {y : MethodName} {cy : ByteArray} {ny : Nat} {ry : Option FieldType} {fr lo index : Nat} {As : List Value} (k : Nat) {ci : Nat} {T : u_T} {nF : Nat} {fs : List Value} (rest : List Value) {st0 : List Value}
    (h : Ct l D tys N A ce X y cy ny ry fr lo (.ref (A k) :: As) S ret Q) (hk : k < N) (he : ce k (S k) = .inr (ci, fs)) (hc : vwCl[ci]? = some (y.cls, T, nF))
    (hcode : Cond.code y cy ny ry ∈ BIG) (hini : Cond.initialized y.cls ∈ BIG) (hinst : Cond.instanceMethod y ∈ BIG) (hsel : Cond.selects y.cls y y ∈ BIG) (hlink : Cond.methodLink own index y ∈ BIG)
    (hd : y.cls ≠ "java/lang/invoke/MethodHandle" ∧ y.cls ≠ "java/lang/invoke/VarHandle" ∧ (parseMethodDescriptor y.desc).map (fun d => d.parameters.length) = some As.length) (hR : fr + 1 ≤ R.frames ∧ 8 + (ny + 11) + lo ≤ R.locals) (hst : st0 = As.reverse ++ .ref (A k) :: rest) (hcat : (rest.map fun v => v.category).sum ≤ 8) (hcs : cells ≤ R.cells ∧ slots ≤ R.slots)
    (d : decode cc pc = .ok (.invokevirtual index, 3)) (q : Nat) (hq : pc + 3 = q) (K : ∀ (r : ρ) (S1 : Nat → Nat → Int32), Q r S1 → J p l e R s m args below meth c cells slots Qf D N A ce Acc nL S1 q L ((ret r).toList ++ rest)) : J p l e R s m args below meth c cells slots Qf D N A ce Acc nL S pc L st0 := by
  subst hq
  intro H locs ls hP hS hl
  refine r_after C hS hl (va_runV ⟨C.1, C.2.1, C.2.2.1, C.2.2.2.1, C.2.2.2.2.1⟩ (h H.size) ⟨cb_of C As.length hcode hini hlink hd hR, C.2.2.2.2.1 _ hinst, C.2.2.2.2.1 _ hsel⟩ ⟨PP_blind C.2.2.2.2.2.2.2.2.2.1, va_recv C.2.2.2.2.2.1 hP hc (q0 := k) (by rw [wd_at hk, he]), pre_in C hP hS _⟩ rfl rfl hl.1 hst (lv_room hcat) d ⟨hcs.1, hcs.2⟩) K
theorem r_callS (C : Cx p s m args c cc nL own D tys N A X Acc) {ρ : Type} {ret : ρ → Option Value} {Q : ρ → (Nat → Nat → Int32) → Prop} {y : MethodName} {cy : ByteArray} {ny : Nat} {ry : Option FieldType} {fr lo index : Nat} {As : List Value} (rest : List Value) {st0 : List Value}
    (h : Ct l D tys N A ce X y cy ny ry fr lo As S ret Q)
    (hcode : Cond.code y cy ny ry ∈ BIG) (hini : Cond.initialized y.cls ∈ BIG) (hstat : Cond.static y ∈ BIG) (hlink : Cond.methodLink own index y ∈ BIG)
    (hd : y.cls ≠ "java/lang/invoke/MethodHandle" ∧ y.cls ≠ "java/lang/invoke/VarHandle" ∧ (parseMethodDescriptor y.desc).map (fun d => d.parameters.length) = some As.length) (hR : fr + 1 ≤ R.frames ∧ 8 + (ny + 11) + lo ≤ R.locals) (hst : st0 = As.reverse ++ rest) (hcat : (rest.map fun v => v.category).sum ≤ 8) (hcs : cells ≤ R.cells ∧ slots ≤ R.slots)
    (d : decode cc pc = .ok (.invokestatic index, 3)) (q : Nat) (hq : pc + 3 = q) (K : ∀ (r : ρ) (S1 : Nat → Nat → Int32), Q r S1 → J p l e R s m args below meth c cells slots Qf D N A ce Acc nL S1 q L ((ret r).toList ++ rest)) : J p l e R s m args below meth c cells slots Qf D N A ce Acc nL S pc L st0 := by
  subst hq
  intro H locs ls hP hS hl
  refine r_after C hS hl (va_runS ⟨C.1, C.2.1, C.2.2.1, C.2.2.2.1, C.2.2.2.2.1⟩ (h H.size) ⟨cb_of C As.length hcode hini hlink hd hR, C.2.2.2.2.1 _ hstat⟩ ⟨PP_blind C.2.2.2.2.2.2.2.2.2.1, pre_in C hP hS _⟩ rfl rfl hl.1 hst (lv_room hcat) d ⟨hcs.1, hcs.2⟩) K
end CALLS
