/-! the same rows over any list of cells, which may grow: for constructors and for the law -/
def Cw (p : Program) (s : State) (m : MethodId) (args : Array Value) (c : Code) (cc : ByteArray) (nL : Nat) (own : String) (D : va_G) (tys : List (ClassId × FieldType)) (Acc : Nat → Prop) : Prop :=
  p.tables.exec = Jvm.exec ∧ c.code = cc ∧ c.maxLocals = nL ∧ s.vm.findClass own = some m.cls ∧ (∀ w ∈ BIG, w.before args s = true) ∧ va_K D vwCl tys s ∧ (∀ q, s.heap.size ≤ q → Acc q)
def JW (p : Program) (l : Launch) (e : Env) (R : Room) (s : State) (m : MethodId) (args : Array Value) (below : List Frame) (meth : Method) (c : Code) (cells slots : Nat) (Qf : State → Prop) (D : va_G) (Acc : Nat → Prop) (nL : Nat) (ws : va_W) (pc : Nat) (L : List (Nat × Value)) (st : List Value) : Prop :=
  ∀ (H : Heap) (locs : List Loc) (ls : Array Slot), (va_P D vwCl ws H ∧ va_D Acc ws) → va_S Acc s.heap H locs → lv_has ls nL L → W p l e R s m args below meth c H locs cells slots Qf (F0 m pc ls st)
theorem P_app {D : va_G} {cl : List vw_C} {a b : va_W} {H : Heap} : va_P D cl (a ++ b) H ↔ va_P D cl a H ∧ va_P D cl b H := by
  refine ⟨fun h => ⟨fun k q hk => h k q ?_, fun k q hk => h (a.length + k) q ?_⟩, fun h => h.1.app h.2⟩
  · rw [List.getElem?_append_left (List.getElem?_eq_some_iff.mp hk).1]; exact hk
  · rw [List.getElem?_append_right (by omega), Nat.add_sub_cancel_left]; exact hk
theorem D_app {A : Nat → Prop} {a b : va_W} : va_D A (a ++ b) ↔ va_D A a ∧ va_D A b ∧ ∀ (i j : Nat) (p q : Nat × va_E), a[i]? = some p → b[j]? = some q → p.1 ≠ q.1 := by
  refine ⟨fun h => ⟨⟨fun i j p q hi hj e => h.1 i j p q ?_ ?_ e, fun k q hk => h.2 k q ?_⟩, ⟨fun i j p q hi hj e => ?_, fun k q hk => h.2 (a.length + k) q ?_⟩, fun i j p q hi hj e => ?_⟩, fun h => h.1.app h.2.1 h.2.2⟩
  · rw [List.getElem?_append_left (List.getElem?_eq_some_iff.mp hi).1]; exact hi
  · rw [List.getElem?_append_left (List.getElem?_eq_some_iff.mp hj).1]; exact hj
  · rw [List.getElem?_append_left (List.getElem?_eq_some_iff.mp hk).1]; exact hk
  · have := h.1 (a.length + i) (a.length + j) p q (by rw [List.getElem?_append_right (by omega), Nat.add_sub_cancel_left]; exact hi) (by rw [List.getElem?_append_right (by omega), Nat.add_sub_cancel_left]; exact hj) e
    omega
  · rw [List.getElem?_append_right (by omega), Nat.add_sub_cancel_left]; exact hk
  · have h1 := (List.getElem?_eq_some_iff.mp hi).1
    have := h.1 i (a.length + j) p q (by rw [List.getElem?_append_left h1]; exact hi) (by rw [List.getElem?_append_right (by omega), Nat.add_sub_cancel_left]; exact hj) e
    omega
/-- a call on the middle cells: what comes back stands in their place, the others are as they were -/
theorem PD_mid {A0 : Nat → Prop} {D : va_G} {cl : List vw_C} {wa wb wc w1 : va_W} {H H1 : Heap} (hP : va_P D cl (wa ++ (wb ++ wc)) H) (hD : va_D A0 (wa ++ (wb ++ wc))) (hk : ∀ q : Nat, q < H.size → ¬ va_A wb H.size q → H1[q]? = H[q]?) (hF : ∀ q, va_A wb H.size q → A0 q) (hP1 : va_P D cl w1 H1) (hD1 : va_D (va_A wb H.size) w1) : va_P D cl (wa ++ (w1 ++ wc)) H1 ∧ va_D A0 (wa ++ (w1 ++ wc)) := by
  obtain ⟨pa, pbc⟩ := P_app.mp hP
  obtain ⟨pb, pc⟩ := P_app.mp pbc
  obtain ⟨da, dbc, xa⟩ := D_app.mp hD
  obtain ⟨db, dc, xb⟩ := D_app.mp dbc
  have na : ∀ (k : Nat) (q : Nat × va_E), wa[k]? = some q → q.1 < H.size ∧ ¬ va_A wb H.size q.1 := fun k q h => ⟨(pa k q h).lt, fun z => by
    rcases z with ⟨j, e, hj⟩ | z
    · exact xa k j q (q.1, e) h (by rw [List.getElem?_append_left (List.getElem?_eq_some_iff.mp hj).1]; exact hj) rfl
    · have := (pa k q h).lt; omega⟩
  have nc : ∀ (k : Nat) (q : Nat × va_E), wc[k]? = some q → q.1 < H.size ∧ ¬ va_A wb H.size q.1 := fun k q h => ⟨(pc k q h).lt, fun z => by
    rcases z with ⟨j, e, hj⟩ | z
    · exact xb j k (q.1, e) q hj h rfl
    · have := (pc k q h).lt; omega⟩
  refine ⟨P_app.mpr ⟨pa.kept fun k q h => hk _ (na k q h).1 (na k q h).2, P_app.mpr ⟨hP1, pc.kept fun k q h => hk _ (nc k q h).1 (nc k q h).2⟩⟩, D_app.mpr ⟨da, D_app.mpr ⟨hD1.weaken (fun k q h z => hF _ z), dc, fun i j p q hi hj e => (nc j q hj).2 (by rw [← e]; exact hD1.2 i p hi)⟩, fun i j p q hi hj e => ?_⟩⟩
  rcases Nat.lt_or_ge j w1.length with hlt | hge
  · rw [List.getElem?_append_left hlt] at hj
    exact (na i p hi).2 (by rw [e]; exact hD1.2 j q hj)
  · rw [List.getElem?_append_right hge] at hj
    exact xa i (wb.length + (j - w1.length)) p q hi (by rw [List.getElem?_append_right (by omega), Nat.add_sub_cancel_left]; exact hj) e
section NROWS
variable {p : Program} {l : Launch} {e : Env} {R : Room} {s : State} {m : MethodId} {args : Array Value} {below : List Frame} {meth : Method} {c : Code} {cells slots : Nat} {Qf : State → Prop} {D : va_G} {Acc : Nat → Prop} {nL : Nat} {ws : va_W} {pc : Nat} {L : List (Nat × Value)} {st : List Value} {cc : ByteArray} {own : String} {tys : List (ClassId × FieldType)}
theorem n_iconst (C : Cw p s m args c cc nL own D tys Acc) {n : Int} (v : Int32) (hv : Int32.ofInt n = v) (d : decode cc pc = .ok (.iconst n, 1)) (q : Nat) (hq : pc + 1 = q) (K : JW p l e R s m args below meth c cells slots Qf D Acc nL ws q L (.int v :: st)) : JW p l e R s m args below meth c cells slots Qf D Acc nL ws pc L st := by
  subst hq
  exact fun H locs ls hP hS hl => lv_iconst C.1 C.2.1 d hv (K H locs ls hP hS hl)
theorem n_bipush (C : Cw p s m args c cc nL own D tys Acc) {n : Int} (v : Int32) (hv : (Int8.ofInt n).toInt32 = v) (d : decode cc pc = .ok (.bipush n, 2)) (q : Nat) (hq : pc + 2 = q) (K : JW p l e R s m args below meth c cells slots Qf D Acc nL ws q L (.int v :: st)) : JW p l e R s m args below meth c cells slots Qf D Acc nL ws pc L st := by
  subst hq
  exact fun H locs ls hP hS hl => lv_bipush C.1 C.2.1 d hv (K H locs ls hP hS hl)
theorem n_sipush (C : Cw p s m args c cc nL own D tys Acc) {n : Int} (v : Int32) (hv : (Int16.ofInt n).toInt32 = v) (d : decode cc pc = .ok (.sipush n, 3)) (q : Nat) (hq : pc + 3 = q) (K : JW p l e R s m args below meth c cells slots Qf D Acc nL ws q L (.int v :: st)) : JW p l e R s m args below meth c cells slots Qf D Acc nL ws pc L st := by
  subst hq
  exact fun H locs ls hP hS hl => lv_sipush C.1 C.2.1 d hv (K H locs ls hP hS hl)
theorem n_null (C : Cw p s m args c cc nL own D tys Acc)  (d : decode cc pc = .ok (.aconst_null, 1)) (q : Nat) (hq : pc + 1 = q) (K : JW p l e R s m args below meth c cells slots Qf D Acc nL ws q L (.null :: st)) : JW p l e R s m args below meth c cells slots Qf D Acc nL ws pc L st := by
  subst hq
  exact fun H locs ls hP hS hl => lv_null C.1 C.2.1 d (K H locs ls hP hS hl)
theorem n_iload_n (C : Cw p s m args c cc nL own D tys Acc) {k : Fin 4} {x : Int32} (j : Nat) (hj : L[j]? = some ((k : Nat), .int x)) (d : decode cc pc = .ok (.iload_n k, 1)) (q : Nat) (hq : pc + 1 = q) (K : JW p l e R s m args below meth c cells slots Qf D Acc nL ws q L (.int x :: st)) : JW p l e R s m args below meth c cells slots Qf D Acc nL ws pc L st := by
  subst hq
  exact fun H locs ls hP hS hl => lv_iload_n C.1 C.2.1 d rfl (lv_at hl j hj) (K H locs ls hP hS hl)
theorem n_iload (C : Cw p s m args c cc nL own D tys Acc) {k : Nat} {x : Int32} (j : Nat) (hj : L[j]? = some (k, .int x)) (d : decode cc pc = .ok (.iload k, 2)) (q : Nat) (hq : pc + 2 = q) (K : JW p l e R s m args below meth c cells slots Qf D Acc nL ws q L (.int x :: st)) : JW p l e R s m args below meth c cells slots Qf D Acc nL ws pc L st := by
  subst hq
  exact fun H locs ls hP hS hl => lv_iload C.1 C.2.1 d (lv_at hl j hj) (K H locs ls hP hS hl)
theorem n_istore_n (C : Cw p s m args c cc nL own D tys Acc) {k : Fin 4} {x : Int32} (L1 : List (Nat × Value)) (hn : (k : Nat) < nL) (hL : ((k : Nat), Value.int x) :: L.filter (fun q => !(q.1 == (k : Nat)) && !(q.1 + 1 == (k : Nat) && q.2.category == 2)) = L1) (d : decode cc pc = .ok (.istore_n k, 1)) (q : Nat) (hq : pc + 1 = q) (K : JW p l e R s m args below meth c cells slots Qf D Acc nL ws q L1 st) : JW p l e R s m args below meth c cells slots Qf D Acc nL ws pc L (.int x :: st) := by
  subst hq
  exact fun H locs ls hP hS hl => lv_istore_n C.1 C.2.1 d rfl hl hn hL (fun ls1 hl1 => K H locs ls1 hP hS hl1)
theorem n_istore (C : Cw p s m args c cc nL own D tys Acc) {k : Nat} {x : Int32} (L1 : List (Nat × Value)) (hn : k < nL) (hL : (k, Value.int x) :: L.filter (fun q => !(q.1 == k) && !(q.1 + 1 == k && q.2.category == 2)) = L1) (d : decode cc pc = .ok (.istore k, 2)) (q : Nat) (hq : pc + 2 = q) (K : JW p l e R s m args below meth c cells slots Qf D Acc nL ws q L1 st) : JW p l e R s m args below meth c cells slots Qf D Acc nL ws pc L (.int x :: st) := by
  subst hq
  exact fun H locs ls hP hS hl => lv_istore C.1 C.2.1 d hl hn hL (fun ls1 hl1 => K H locs ls1 hP hS hl1)
theorem n_aload_n (C : Cw p s m args c cc nL own D tys Acc) {k : Fin 4} {x : Nat} (j : Nat) (hj : L[j]? = some ((k : Nat), .ref x)) (d : decode cc pc = .ok (.aload_n k, 1)) (q : Nat) (hq : pc + 1 = q) (K : JW p l e R s m args below meth c cells slots Qf D Acc nL ws q L (.ref x :: st)) : JW p l e R s m args below meth c cells slots Qf D Acc nL ws pc L st := by
  subst hq
  exact fun H locs ls hP hS hl => lv_aload_n C.1 C.2.1 d rfl (lv_at hl j hj) (K H locs ls hP hS hl)
theorem n_aload (C : Cw p s m args c cc nL own D tys Acc) {k : Nat} {x : Nat} (j : Nat) (hj : L[j]? = some (k, .ref x)) (d : decode cc pc = .ok (.aload k, 2)) (q : Nat) (hq : pc + 2 = q) (K : JW p l e R s m args below meth c cells slots Qf D Acc nL ws q L (.ref x :: st)) : JW p l e R s m args below meth c cells slots Qf D Acc nL ws pc L st := by
  subst hq
  exact fun H locs ls hP hS hl => lv_aload C.1 C.2.1 d (lv_at hl j hj) (K H locs ls hP hS hl)
theorem n_astore_n (C : Cw p s m args c cc nL own D tys Acc) {k : Fin 4} {x : Nat} (L1 : List (Nat × Value)) (hn : (k : Nat) < nL) (hL : ((k : Nat), Value.ref x) :: L.filter (fun q => !(q.1 == (k : Nat)) && !(q.1 + 1 == (k : Nat) && q.2.category == 2)) = L1) (d : decode cc pc = .ok (.astore_n k, 1)) (q : Nat) (hq : pc + 1 = q) (K : JW p l e R s m args below meth c cells slots Qf D Acc nL ws q L1 st) : JW p l e R s m args below meth c cells slots Qf D Acc nL ws pc L (.ref x :: st) := by
  subst hq
  exact fun H locs ls hP hS hl => lv_astore_n C.1 C.2.1 d rfl hl hn hL (fun ls1 hl1 => K H locs ls1 hP hS hl1)
theorem n_astore (C : Cw p s m args c cc nL own D tys Acc) {k : Nat} {x : Nat} (L1 : List (Nat × Value)) (hn : k < nL) (hL : (k, Value.ref x) :: L.filter (fun q => !(q.1 == k) && !(q.1 + 1 == k && q.2.category == 2)) = L1) (d : decode cc pc = .ok (.astore k, 2)) (q : Nat) (hq : pc + 2 = q) (K : JW p l e R s m args below meth c cells slots Qf D Acc nL ws q L1 st) : JW p l e R s m args below meth c cells slots Qf D Acc nL ws pc L (.ref x :: st) := by
  subst hq
  exact fun H locs ls hP hS hl => lv_astore C.1 C.2.1 d hl hn hL (fun ls1 hl1 => K H locs ls1 hP hS hl1)
theorem n_iinc (C : Cw p s m args c cc nL own D tys Acc) {i : Nat} {n : Int} {x : Int32} (j : Nat) (hj : L[j]? = some (i, .int x)) (v : Int32) (hv : x + Int32.ofInt n = v) (L1 : List (Nat × Value)) (hn : i < nL) (hL : (i, Value.int v) :: L.filter (fun q => !(q.1 == i) && !(q.1 + 1 == i && q.2.category == 2)) = L1) (d : decode cc pc = .ok (.iinc i n, 3)) (q : Nat) (hq : pc + 3 = q) (K : JW p l e R s m args below meth c cells slots Qf D Acc nL ws q L1 st) : JW p l e R s m args below meth c cells slots Qf D Acc nL ws pc L st := by
  subst hq
  exact fun H locs ls hP hS hl => lv_iinc C.1 C.2.1 d hl hj hv hn hL (fun ls1 hl1 => K H locs ls1 hP hS hl1)
theorem n_iadd (C : Cw p s m args c cc nL own D tys Acc) {x y : Int32} (d : decode cc pc = .ok (.iadd, 1)) (q : Nat) (hq : pc + 1 = q) (K : JW p l e R s m args below meth c cells slots Qf D Acc nL ws q L (.int (x + y) :: st)) : JW p l e R s m args below meth c cells slots Qf D Acc nL ws pc L (.int y :: .int x :: st) := by
  subst hq
  exact fun H locs ls hP hS hl => lv_iadd C.1 C.2.1 d (K H locs ls hP hS hl)
theorem n_isub (C : Cw p s m args c cc nL own D tys Acc) {x y : Int32} (d : decode cc pc = .ok (.isub, 1)) (q : Nat) (hq : pc + 1 = q) (K : JW p l e R s m args below meth c cells slots Qf D Acc nL ws q L (.int (x - y) :: st)) : JW p l e R s m args below meth c cells slots Qf D Acc nL ws pc L (.int y :: .int x :: st) := by
  subst hq
  exact fun H locs ls hP hS hl => lv_isub C.1 C.2.1 d (K H locs ls hP hS hl)
theorem n_imul (C : Cw p s m args c cc nL own D tys Acc) {x y : Int32} (d : decode cc pc = .ok (.imul, 1)) (q : Nat) (hq : pc + 1 = q) (K : JW p l e R s m args below meth c cells slots Qf D Acc nL ws q L (.int (x * y) :: st)) : JW p l e R s m args below meth c cells slots Qf D Acc nL ws pc L (.int y :: .int x :: st) := by
  subst hq
  exact fun H locs ls hP hS hl => lv_imul C.1 C.2.1 d (K H locs ls hP hS hl)
theorem n_iand (C : Cw p s m args c cc nL own D tys Acc) {x y : Int32} (d : decode cc pc = .ok (.iand, 1)) (q : Nat) (hq : pc + 1 = q) (K : JW p l e R s m args below meth c cells slots Qf D Acc nL ws q L (.int (x &&& y) :: st)) : JW p l e R s m args below meth c cells slots Qf D Acc nL ws pc L (.int y :: .int x :: st) := by
  subst hq
  exact fun H locs ls hP hS hl => lv_iand C.1 C.2.1 d (K H locs ls hP hS hl)
theorem n_ior (C : Cw p s m args c cc nL own D tys Acc) {x y : Int32} (d : decode cc pc = .ok (.ior, 1)) (q : Nat) (hq : pc + 1 = q) (K : JW p l e R s m args below meth c cells slots Qf D Acc nL ws q L (.int (x ||| y) :: st)) : JW p l e R s m args below meth c cells slots Qf D Acc nL ws pc L (.int y :: .int x :: st) := by
  subst hq
  exact fun H locs ls hP hS hl => lv_ior C.1 C.2.1 d (K H locs ls hP hS hl)
theorem n_ishl (C : Cw p s m args c cc nL own D tys Acc) {x y : Int32} (d : decode cc pc = .ok (.ishl, 1)) (q : Nat) (hq : pc + 1 = q) (K : JW p l e R s m args below meth c cells slots Qf D Acc nL ws q L (.int (x <<< (y &&& 31)) :: st)) : JW p l e R s m args below meth c cells slots Qf D Acc nL ws pc L (.int y :: .int x :: st) := by
  subst hq
  exact fun H locs ls hP hS hl => lv_ishl C.1 C.2.1 d (K H locs ls hP hS hl)
theorem n_ishr (C : Cw p s m args c cc nL own D tys Acc) {x y : Int32} (d : decode cc pc = .ok (.ishr, 1)) (q : Nat) (hq : pc + 1 = q) (K : JW p l e R s m args below meth c cells slots Qf D Acc nL ws q L (.int (x >>> (y &&& 31)) :: st)) : JW p l e R s m args below meth c cells slots Qf D Acc nL ws pc L (.int y :: .int x :: st) := by
  subst hq
  exact fun H locs ls hP hS hl => lv_ishr C.1 C.2.1 d (K H locs ls hP hS hl)
theorem n_idiv (C : Cw p s m args c cc nL own D tys Acc) {x y : Int32} (hy : ¬ y = 0) (d : decode cc pc = .ok (.idiv, 1)) (q : Nat) (hq : pc + 1 = q) (K : JW p l e R s m args below meth c cells slots Qf D Acc nL ws q L (.int (x / y) :: st)) : JW p l e R s m args below meth c cells slots Qf D Acc nL ws pc L (.int y :: .int x :: st) := by
  subst hq
  exact fun H locs ls hP hS hl => lv_idiv C.1 C.2.1 d hy (K H locs ls hP hS hl)
theorem n_ineg (C : Cw p s m args c cc nL own D tys Acc) {x : Int32} (d : decode cc pc = .ok (.ineg, 1)) (q : Nat) (hq : pc + 1 = q) (K : JW p l e R s m args below meth c cells slots Qf D Acc nL ws q L (.int (-x) :: st)) : JW p l e R s m args below meth c cells slots Qf D Acc nL ws pc L (.int x :: st) := by
  subst hq
  exact fun H locs ls hP hS hl => lv_ineg C.1 C.2.1 d (K H locs ls hP hS hl)
theorem n_dup (C : Cw p s m args c cc nL own D tys Acc) {v : Value} (hv : v.category = 1) (d : decode cc pc = .ok (.dup, 1)) (q : Nat) (hq : pc + 1 = q) (K : JW p l e R s m args below meth c cells slots Qf D Acc nL ws q L (v :: v :: st)) : JW p l e R s m args below meth c cells slots Qf D Acc nL ws pc L (v :: st) := by
  subst hq
  exact fun H locs ls hP hS hl => lv_dup C.1 C.2.1 d hv (K H locs ls hP hS hl)
theorem n_pop (C : Cw p s m args c cc nL own D tys Acc) {v : Value} (hv : v.category = 1) (d : decode cc pc = .ok (.pop, 1)) (q : Nat) (hq : pc + 1 = q) (K : JW p l e R s m args below meth c cells slots Qf D Acc nL ws q L st) : JW p l e R s m args below meth c cells slots Qf D Acc nL ws pc L (v :: st) := by
  subst hq
  exact fun H locs ls hP hS hl => lv_pop C.1 C.2.1 d hv (K H locs ls hP hS hl)
theorem n_dup_x1 (C : Cw p s m args c cc nL own D tys Acc) {v w : Value} (hv : v.category = 1) (hw : w.category = 1) (d : decode cc pc = .ok (.dup_x1, 1)) (q : Nat) (hq : pc + 1 = q) (K : JW p l e R s m args below meth c cells slots Qf D Acc nL ws q L (v :: w :: v :: st)) : JW p l e R s m args below meth c cells slots Qf D Acc nL ws pc L (v :: w :: st) := by
  subst hq
  exact fun H locs ls hP hS hl => lv_dup_x1 C.1 C.2.1 d hv hw (K H locs ls hP hS hl)
theorem n_dup2 (C : Cw p s m args c cc nL own D tys Acc) {v w : Value} (hv : v.category = 1) (hw : w.category = 1) (d : decode cc pc = .ok (.dup2, 1)) (q : Nat) (hq : pc + 1 = q) (K : JW p l e R s m args below meth c cells slots Qf D Acc nL ws q L (v :: w :: v :: w :: st)) : JW p l e R s m args below meth c cells slots Qf D Acc nL ws pc L (v :: w :: st) := by
  subst hq
  exact fun H locs ls hP hS hl => lv_dup2_11 C.1 C.2.1 d hv hw (K H locs ls hP hS hl)
theorem n_if_eq (C : Cw p s m args c cc nL own D tys Acc) {x : Int32} {off : Int} (tgt : Nat) (d : decode cc pc = .ok (.ifCond .eq off, 3)) (q : Nat) (hq : pc + 3 = q) (ht : (pc : Int) + off = (tgt : Int)) (Kt : x = 0 → JW p l e R s m args below meth c cells slots Qf D Acc nL ws tgt L st) (Kf : ¬ x = 0 → JW p l e R s m args below meth c cells slots Qf D Acc nL ws q L st) : JW p l e R s m args below meth c cells slots Qf D Acc nL ws pc L (.int x :: st) := by
  subst hq
  exact fun H locs ls hP hS hl => lv_if_eq C.1 C.2.1 d ht (fun h => Kt h H locs ls hP hS hl) (fun h => Kf h H locs ls hP hS hl)
theorem n_icmp_eq (C : Cw p s m args c cc nL own D tys Acc) {x y : Int32} {off : Int} (tgt : Nat) (d : decode cc pc = .ok (.if_icmp .eq off, 3)) (q : Nat) (hq : pc + 3 = q) (ht : (pc : Int) + off = (tgt : Int)) (Kt : x = y → JW p l e R s m args below meth c cells slots Qf D Acc nL ws tgt L st) (Kf : ¬ x = y → JW p l e R s m args below meth c cells slots Qf D Acc nL ws q L st) : JW p l e R s m args below meth c cells slots Qf D Acc nL ws pc L (.int y :: .int x :: st) := by
  subst hq
  exact fun H locs ls hP hS hl => lv_icmp_eq C.1 C.2.1 d ht (fun h => Kt h H locs ls hP hS hl) (fun h => Kf h H locs ls hP hS hl)
theorem n_if_ne (C : Cw p s m args c cc nL own D tys Acc) {x : Int32} {off : Int} (tgt : Nat) (d : decode cc pc = .ok (.ifCond .ne off, 3)) (q : Nat) (hq : pc + 3 = q) (ht : (pc : Int) + off = (tgt : Int)) (Kf : x = 0 → JW p l e R s m args below meth c cells slots Qf D Acc nL ws q L st) (Kt : ¬ x = 0 → JW p l e R s m args below meth c cells slots Qf D Acc nL ws tgt L st) : JW p l e R s m args below meth c cells slots Qf D Acc nL ws pc L (.int x :: st) := by
  subst hq
  exact fun H locs ls hP hS hl => lv_if_ne C.1 C.2.1 d ht (fun h => Kt h H locs ls hP hS hl) (fun h => Kf h H locs ls hP hS hl)
theorem n_icmp_ne (C : Cw p s m args c cc nL own D tys Acc) {x y : Int32} {off : Int} (tgt : Nat) (d : decode cc pc = .ok (.if_icmp .ne off, 3)) (q : Nat) (hq : pc + 3 = q) (ht : (pc : Int) + off = (tgt : Int)) (Kf : x = y → JW p l e R s m args below meth c cells slots Qf D Acc nL ws q L st) (Kt : ¬ x = y → JW p l e R s m args below meth c cells slots Qf D Acc nL ws tgt L st) : JW p l e R s m args below meth c cells slots Qf D Acc nL ws pc L (.int y :: .int x :: st) := by
  subst hq
  exact fun H locs ls hP hS hl => lv_icmp_ne C.1 C.2.1 d ht (fun h => Kt h H locs ls hP hS hl) (fun h => Kf h H locs ls hP hS hl)
theorem n_if_lt (C : Cw p s m args c cc nL own D tys Acc) {x : Int32} {off : Int} (tgt : Nat) (d : decode cc pc = .ok (.ifCond .lt off, 3)) (q : Nat) (hq : pc + 3 = q) (ht : (pc : Int) + off = (tgt : Int)) (Kt : x < 0 → JW p l e R s m args below meth c cells slots Qf D Acc nL ws tgt L st) (Kf : ¬ x < 0 → JW p l e R s m args below meth c cells slots Qf D Acc nL ws q L st) : JW p l e R s m args below meth c cells slots Qf D Acc nL ws pc L (.int x :: st) := by
  subst hq
  exact fun H locs ls hP hS hl => lv_if_lt C.1 C.2.1 d ht (fun h => Kt h H locs ls hP hS hl) (fun h => Kf h H locs ls hP hS hl)
theorem n_icmp_lt (C : Cw p s m args c cc nL own D tys Acc) {x y : Int32} {off : Int} (tgt : Nat) (d : decode cc pc = .ok (.if_icmp .lt off, 3)) (q : Nat) (hq : pc + 3 = q) (ht : (pc : Int) + off = (tgt : Int)) (Kt : x < y → JW p l e R s m args below meth c cells slots Qf D Acc nL ws tgt L st) (Kf : ¬ x < y → JW p l e R s m args below meth c cells slots Qf D Acc nL ws q L st) : JW p l e R s m args below meth c cells slots Qf D Acc nL ws pc L (.int y :: .int x :: st) := by
  subst hq
  exact fun H locs ls hP hS hl => lv_icmp_lt C.1 C.2.1 d ht (fun h => Kt h H locs ls hP hS hl) (fun h => Kf h H locs ls hP hS hl)
theorem n_if_ge (C : Cw p s m args c cc nL own D tys Acc) {x : Int32} {off : Int} (tgt : Nat) (d : decode cc pc = .ok (.ifCond .ge off, 3)) (q : Nat) (hq : pc + 3 = q) (ht : (pc : Int) + off = (tgt : Int)) (Kt : 0 ≤ x → JW p l e R s m args below meth c cells slots Qf D Acc nL ws tgt L st) (Kf : ¬ 0 ≤ x → JW p l e R s m args below meth c cells slots Qf D Acc nL ws q L st) : JW p l e R s m args below meth c cells slots Qf D Acc nL ws pc L (.int x :: st) := by
  subst hq
  exact fun H locs ls hP hS hl => lv_if_ge C.1 C.2.1 d ht (fun h => Kt h H locs ls hP hS hl) (fun h => Kf h H locs ls hP hS hl)
theorem n_icmp_ge (C : Cw p s m args c cc nL own D tys Acc) {x y : Int32} {off : Int} (tgt : Nat) (d : decode cc pc = .ok (.if_icmp .ge off, 3)) (q : Nat) (hq : pc + 3 = q) (ht : (pc : Int) + off = (tgt : Int)) (Kt : y ≤ x → JW p l e R s m args below meth c cells slots Qf D Acc nL ws tgt L st) (Kf : ¬ y ≤ x → JW p l e R s m args below meth c cells slots Qf D Acc nL ws q L st) : JW p l e R s m args below meth c cells slots Qf D Acc nL ws pc L (.int y :: .int x :: st) := by
  subst hq
  exact fun H locs ls hP hS hl => lv_icmp_ge C.1 C.2.1 d ht (fun h => Kt h H locs ls hP hS hl) (fun h => Kf h H locs ls hP hS hl)
theorem n_if_gt (C : Cw p s m args c cc nL own D tys Acc) {x : Int32} {off : Int} (tgt : Nat) (d : decode cc pc = .ok (.ifCond .gt off, 3)) (q : Nat) (hq : pc + 3 = q) (ht : (pc : Int) + off = (tgt : Int)) (Kt : 0 < x → JW p l e R s m args below meth c cells slots Qf D Acc nL ws tgt L st) (Kf : ¬ 0 < x → JW p l e R s m args below meth c cells slots Qf D Acc nL ws q L st) : JW p l e R s m args below meth c cells slots Qf D Acc nL ws pc L (.int x :: st) := by
  subst hq
  exact fun H locs ls hP hS hl => lv_if_gt C.1 C.2.1 d ht (fun h => Kt h H locs ls hP hS hl) (fun h => Kf h H locs ls hP hS hl)
theorem n_icmp_gt (C : Cw p s m args c cc nL own D tys Acc) {x y : Int32} {off : Int} (tgt : Nat) (d : decode cc pc = .ok (.if_icmp .gt off, 3)) (q : Nat) (hq : pc + 3 = q) (ht : (pc : Int) + off = (tgt : Int)) (Kt : y < x → JW p l e R s m args below meth c cells slots Qf D Acc nL ws tgt L st) (Kf : ¬ y < x → JW p l e R s m args below meth c cells slots Qf D Acc nL ws q L st) : JW p l e R s m args below meth c cells slots Qf D Acc nL ws pc L (.int y :: .int x :: st) := by
  subst hq
  exact fun H locs ls hP hS hl => lv_icmp_gt C.1 C.2.1 d ht (fun h => Kt h H locs ls hP hS hl) (fun h => Kf h H locs ls hP hS hl)
theorem n_if_le (C : Cw p s m args c cc nL own D tys Acc) {x : Int32} {off : Int} (tgt : Nat) (d : decode cc pc = .ok (.ifCond .le off, 3)) (q : Nat) (hq : pc + 3 = q) (ht : (pc : Int) + off = (tgt : Int)) (Kt : x ≤ 0 → JW p l e R s m args below meth c cells slots Qf D Acc nL ws tgt L st) (Kf : ¬ x ≤ 0 → JW p l e R s m args below meth c cells slots Qf D Acc nL ws q L st) : JW p l e R s m args below meth c cells slots Qf D Acc nL ws pc L (.int x :: st) := by
  subst hq
  exact fun H locs ls hP hS hl => lv_if_le C.1 C.2.1 d ht (fun h => Kt h H locs ls hP hS hl) (fun h => Kf h H locs ls hP hS hl)
theorem n_icmp_le (C : Cw p s m args c cc nL own D tys Acc) {x y : Int32} {off : Int} (tgt : Nat) (d : decode cc pc = .ok (.if_icmp .le off, 3)) (q : Nat) (hq : pc + 3 = q) (ht : (pc : Int) + off = (tgt : Int)) (Kt : x ≤ y → JW p l e R s m args below meth c cells slots Qf D Acc nL ws tgt L st) (Kf : ¬ x ≤ y → JW p l e R s m args below meth c cells slots Qf D Acc nL ws q L st) : JW p l e R s m args below meth c cells slots Qf D Acc nL ws pc L (.int y :: .int x :: st) := by
  subst hq
  exact fun H locs ls hP hS hl => lv_icmp_le C.1 C.2.1 d ht (fun h => Kt h H locs ls hP hS hl) (fun h => Kf h H locs ls hP hS hl)
theorem n_if_eqF (C : Cw p s m args c cc nL own D tys Acc) {b : Bool} (hB : b = false) {off : Int} (tgt : Nat) (d : decode cc pc = .ok (.ifCond .eq off, 3)) (q : Nat) (hq : pc + 3 = q) (ht : (pc : Int) + off = (tgt : Int)) (K : JW p l e R s m args below meth c cells slots Qf D Acc nL ws tgt L st) : JW p l e R s m args below meth c cells slots Qf D Acc nL ws pc L (.int (bI b) :: st) := by
  subst hB
  exact n_if_eq C tgt d q hq ht (fun _ => K) (fun h => absurd rfl h)
theorem n_if_eqT (C : Cw p s m args c cc nL own D tys Acc) {b : Bool} (hB : b = true) {off : Int} (tgt : Nat) (d : decode cc pc = .ok (.ifCond .eq off, 3)) (q : Nat) (hq : pc + 3 = q) (ht : (pc : Int) + off = (tgt : Int)) (K : JW p l e R s m args below meth c cells slots Qf D Acc nL ws q L st) : JW p l e R s m args below meth c cells slots Qf D Acc nL ws pc L (.int (bI b) :: st) := by
  subst hB
  exact n_if_eq C tgt d q hq ht (fun h => absurd h (by decide)) (fun _ => K)
theorem n_if_neF (C : Cw p s m args c cc nL own D tys Acc) {b : Bool} (hB : b = false) {off : Int} (tgt : Nat) (d : decode cc pc = .ok (.ifCond .ne off, 3)) (q : Nat) (hq : pc + 3 = q) (ht : (pc : Int) + off = (tgt : Int)) (K : JW p l e R s m args below meth c cells slots Qf D Acc nL ws q L st) : JW p l e R s m args below meth c cells slots Qf D Acc nL ws pc L (.int (bI b) :: st) := by
  subst hB
  exact n_if_ne C tgt d q hq ht (fun _ => K) (fun h => absurd rfl h)
theorem n_if_neT (C : Cw p s m args c cc nL own D tys Acc) {b : Bool} (hB : b = true) {off : Int} (tgt : Nat) (d : decode cc pc = .ok (.ifCond .ne off, 3)) (q : Nat) (hq : pc + 3 = q) (ht : (pc : Int) + off = (tgt : Int)) (K : JW p l e R s m args below meth c cells slots Qf D Acc nL ws tgt L st) : JW p l e R s m args below meth c cells slots Qf D Acc nL ws pc L (.int (bI b) :: st) := by
  subst hB
  exact n_if_ne C tgt d q hq ht (fun h => absurd h (by decide)) (fun _ => K)
theorem n_aload_nN (C : Cw p s m args c cc nL own D tys Acc) {k : Fin 4} (j : Nat) (hj : L[j]? = some ((k : Nat), .null)) (d : decode cc pc = .ok (.aload_n k, 1)) (q : Nat) (hq : pc + 1 = q) (K : JW p l e R s m args below meth c cells slots Qf D Acc nL ws q L (.null :: st)) : JW p l e R s m args below meth c cells slots Qf D Acc nL ws pc L st := by
  subst hq
  exact fun H locs ls hP hS hl => lv_aload_nN C.1 C.2.1 d rfl (lv_at hl j hj) (K H locs ls hP hS hl)
theorem n_astore_nN (C : Cw p s m args c cc nL own D tys Acc) {k : Fin 4} (L1 : List (Nat × Value)) (hn : (k : Nat) < nL) (hL : ((k : Nat), Value.null) :: L.filter (fun q => !(q.1 == (k : Nat)) && !(q.1 + 1 == (k : Nat) && q.2.category == 2)) = L1) (d : decode cc pc = .ok (.astore_n k, 1)) (q : Nat) (hq : pc + 1 = q) (K : JW p l e R s m args below meth c cells slots Qf D Acc nL ws q L1 st) : JW p l e R s m args below meth c cells slots Qf D Acc nL ws pc L (.null :: st) := by
  subst hq
  exact fun H locs ls hP hS hl => lv_astore_nN C.1 C.2.1 d rfl hl hn hL (fun ls1 hl1 => K H locs ls1 hP hS hl1)
theorem n_aloadN (C : Cw p s m args c cc nL own D tys Acc) {k : Nat} (j : Nat) (hj : L[j]? = some (k, .null)) (d : decode cc pc = .ok (.aload k, 2)) (q : Nat) (hq : pc + 2 = q) (K : JW p l e R s m args below meth c cells slots Qf D Acc nL ws q L (.null :: st)) : JW p l e R s m args below meth c cells slots Qf D Acc nL ws pc L st := by
  subst hq
  exact fun H locs ls hP hS hl => lv_aloadN C.1 C.2.1 d (lv_at hl j hj) (K H locs ls hP hS hl)
theorem n_astoreN (C : Cw p s m args c cc nL own D tys Acc) {k : Nat} (L1 : List (Nat × Value)) (hn : k < nL) (hL : (k, Value.null) :: L.filter (fun q => !(q.1 == k) && !(q.1 + 1 == k && q.2.category == 2)) = L1) (d : decode cc pc = .ok (.astore k, 2)) (q : Nat) (hq : pc + 2 = q) (K : JW p l e R s m args below meth c cells slots Qf D Acc nL ws q L1 st) : JW p l e R s m args below meth c cells slots Qf D Acc nL ws pc L (.null :: st) := by
  subst hq
  exact fun H locs ls hP hS hl => lv_astoreN C.1 C.2.1 d hl hn hL (fun ls1 hl1 => K H locs ls1 hP hS hl1)
theorem n_goto (C : Cw p s m args c cc nL own D tys Acc) {off : Int} (tgt : Nat) (d : decode cc pc = .ok (.goto off, 3)) (ht : (pc : Int) + off = (tgt : Int)) (K : JW p l e R s m args below meth c cells slots Qf D Acc nL ws tgt L st) : JW p l e R s m args below meth c cells slots Qf D Acc nL ws pc L st := fun H locs ls hP hS hl => lv_goto C.1 C.2.1 d ht (K H locs ls hP hS hl)
theorem n_tableIn (C : Cw p s m args c cc nL own D tys Acc) {dflt lo hi : Int} {offs : Array Int} {len : Nat} {x : Int32} {off : Int} (tgt : Nat) (d : decode cc pc = .ok (.tableswitch dflt lo hi offs, len)) (h1 : ¬ x.toInt < lo) (h2 : ¬ hi < x.toInt) (ho : offs[(x.toInt - lo).toNat]? = some off) (ht : (pc : Int) + off = (tgt : Int)) (K : JW p l e R s m args below meth c cells slots Qf D Acc nL ws tgt L st) : JW p l e R s m args below meth c cells slots Qf D Acc nL ws pc L (.int x :: st) := fun H locs ls hP hS hl => lv_tableIn C.1 C.2.1 d h1 h2 ho ht (K H locs ls hP hS hl)
theorem n_tableOut (C : Cw p s m args c cc nL own D tys Acc) {dflt lo hi : Int} {offs : Array Int} {len : Nat} {x : Int32} (tgt : Nat) (d : decode cc pc = .ok (.tableswitch dflt lo hi offs, len)) (h : x.toInt < lo ∨ hi < x.toInt) (ht : (pc : Int) + dflt = (tgt : Int)) (K : JW p l e R s m args below meth c cells slots Qf D Acc nL ws tgt L st) : JW p l e R s m args below meth c cells slots Qf D Acc nL ws pc L (.int x :: st) := fun H locs ls hP hS hl => lv_tableOut C.1 C.2.1 d h ht (K H locs ls hP hS hl)
theorem n_lookup (C : Cw p s m args c cc nL own D tys Acc) {dflt : Int} {ps : Array (Int × Int)} {len : Nat} {x : Int32} {off : Int} (tgt : Nat) (d : decode cc pc = .ok (.lookupswitch dflt ps, len)) (hp : (ps.toList.zip (ps.toList.drop 1)).all (fun (a, next) => a.1 < next.1) = true) (ho : Op.lookupswitch.offset ps.toList dflt x.toInt = off) (ht : (pc : Int) + off = (tgt : Int)) (K : JW p l e R s m args below meth c cells slots Qf D Acc nL ws tgt L st) : JW p l e R s m args below meth c cells slots Qf D Acc nL ws pc L (.int x :: st) := fun H locs ls hP hS hl => lv_lookup C.1 C.2.1 d hp ho ht (K H locs ls hP hS hl)
theorem n_ifnonnull (C : Cw p s m args c cc nL own D tys Acc) {x : Nat} {off : Int} (tgt : Nat) (d : decode cc pc = .ok (.ifnonnull off, 3)) (ht : (pc : Int) + off = (tgt : Int)) (K : JW p l e R s m args below meth c cells slots Qf D Acc nL ws tgt L st) : JW p l e R s m args below meth c cells slots Qf D Acc nL ws pc L (.ref x :: st) := fun H locs ls hP hS hl => lv_ifnonnull C.1 C.2.1 d ht (K H locs ls hP hS hl)
theorem n_ifnull (C : Cw p s m args c cc nL own D tys Acc) {x : Nat} {off : Int} (d : decode cc pc = .ok (.ifnull off, 3)) (q : Nat) (hq : pc + 3 = q) (K : JW p l e R s m args below meth c cells slots Qf D Acc nL ws q L st) : JW p l e R s m args below meth c cells slots Qf D Acc nL ws pc L (.ref x :: st) := by
  subst hq
  exact fun H locs ls hP hS hl => lv_ifnull C.1 C.2.1 d (K H locs ls hP hS hl)
theorem n_ifnullN (C : Cw p s m args c cc nL own D tys Acc) {off : Int} (tgt : Nat) (d : decode cc pc = .ok (.ifnull off, 3)) (ht : (pc : Int) + off = (tgt : Int)) (K : JW p l e R s m args below meth c cells slots Qf D Acc nL ws tgt L st) : JW p l e R s m args below meth c cells slots Qf D Acc nL ws pc L (.null :: st) := fun H locs ls hP hS hl => lv_ifnullN C.1 C.2.1 d ht (K H locs ls hP hS hl)
theorem n_ifnonnullN (C : Cw p s m args c cc nL own D tys Acc) {off : Int} (d : decode cc pc = .ok (.ifnonnull off, 3)) (q : Nat) (hq : pc + 3 = q) (K : JW p l e R s m args below meth c cells slots Qf D Acc nL ws q L st) : JW p l e R s m args below meth c cells slots Qf D Acc nL ws pc L (.null :: st) := by
  subst hq
  exact fun H locs ls hP hS hl => lv_ifnonnullN C.1 C.2.1 d (K H locs ls hP hS hl)
theorem n_sub (L1 : List (Nat × Value)) (ks : List Nat) (hL : lv_pick L ks = L1) (K : JW p l e R s m args below meth c cells slots Qf D Acc nL ws pc L1 st) : JW p l e R s m args below meth c cells slots Qf D Acc nL ws pc L st := fun H locs ls hP hS hl => K H locs ls hP hS (lv_sub hl ks hL)
theorem n_topi {x : Int32} (K : ∀ y : Int32, y = x → JW p l e R s m args below meth c cells slots Qf D Acc nL ws pc L (.int y :: st)) : JW p l e R s m args below meth c cells slots Qf D Acc nL ws pc L (.int x :: st) := K x rfl
theorem n_sw (C : Cw p s m args c cc nL own D tys Acc) {dflt lo hi : Int} {offs : Array Int} {len : Nat} {x : Int32} {off : Int} (v : Int32) (hx : x = v) (tgt : Nat) (d : decode cc pc = .ok (.tableswitch dflt lo hi offs, len)) (h1 : ¬ v.toInt < lo) (h2 : ¬ hi < v.toInt) (ho : offs[(v.toInt - lo).toNat]? = some off) (ht : (pc : Int) + off = (tgt : Int)) (K : JW p l e R s m args below meth c cells slots Qf D Acc nL ws tgt L st) : JW p l e R s m args below meth c cells slots Qf D Acc nL ws pc L (.int x :: st) := by subst hx; exact n_tableIn C tgt d h1 h2 ho ht K
theorem n_lsw (C : Cw p s m args c cc nL own D tys Acc) {dflt : Int} {ps : Array (Int × Int)} {len : Nat} {x : Int32} {off : Int} (v : Int32) (hx : x = v) (tgt : Nat) (d : decode cc pc = .ok (.lookupswitch dflt ps, len)) (hp : (ps.toList.zip (ps.toList.drop 1)).all (fun (a, next) => a.1 < next.1) = true) (ho : Op.lookupswitch.offset ps.toList dflt v.toInt = off) (ht : (pc : Int) + off = (tgt : Int)) (K : JW p l e R s m args below meth c cells slots Qf D Acc nL ws tgt L st) : JW p l e R s m args below meth c cells slots Qf D Acc nL ws pc L (.int x :: st) := by subst hx; exact n_lookup C tgt d hp ho ht K
theorem n_max (C : Cw p s m args c cc nL own D tys Acc) {index : Nat} {x y : Int32} (hlink : Cond.methodLink own index Lib.Math.max.name ∈ BIG) (hstat : Cond.static Lib.Math.max.name ∈ BIG) (hini : Cond.initialized "java/lang/Math" ∈ BIG) (hcode : Cond.code Lib.Math.max.name Lib.Math.max.code 2 (some .int) ∈ BIG) (hR : 1 ≤ R.frames ∧ (st.map fun v => v.category).sum + 13 ≤ R.locals ∧ cells ≤ R.cells ∧ slots ≤ R.slots) (d : decode cc pc = .ok (.invokestatic index, 3)) (q : Nat) (hq : pc + 3 = q) (K : JW p l e R s m args below meth c cells slots Qf D Acc nL ws q L (.int (if x < y then y else x) :: st)) : JW p l e R s m args below meth c cells slots Qf D Acc nL ws pc L (.int y :: .int x :: st) := by
  subst hq
  exact fun H locs ls hP hS hl => va_mmax C.1 C.2.1 (C.2.2.1.trans hl.1.symm) C.2.2.2.1 (C.2.2.2.2.1 _ hlink) (C.2.2.2.2.1 _ hstat) (C.2.2.2.2.1 _ hini) (C.2.2.2.2.1 _ hcode) hR.1 hR.2.1 hR.2.2.1 hR.2.2.2 d (K H locs ls hP hS hl)
theorem n_min (C : Cw p s m args c cc nL own D tys Acc) {index : Nat} {x y : Int32} (hlink : Cond.methodLink own index Lib.Math.min.name ∈ BIG) (hstat : Cond.static Lib.Math.min.name ∈ BIG) (hini : Cond.initialized "java/lang/Math" ∈ BIG) (hcode : Cond.code Lib.Math.min.name Lib.Math.min.code 2 (some .int) ∈ BIG) (hR : 1 ≤ R.frames ∧ (st.map fun v => v.category).sum + 13 ≤ R.locals ∧ cells ≤ R.cells ∧ slots ≤ R.slots) (d : decode cc pc = .ok (.invokestatic index, 3)) (q : Nat) (hq : pc + 3 = q) (K : JW p l e R s m args below meth c cells slots Qf D Acc nL ws q L (.int (if y < x then y else x) :: st)) : JW p l e R s m args below meth c cells slots Qf D Acc nL ws pc L (.int y :: .int x :: st) := by
  subst hq
  exact fun H locs ls hP hS hl => va_mmin C.1 C.2.1 (C.2.2.1.trans hl.1.symm) C.2.2.2.1 (C.2.2.2.2.1 _ hlink) (C.2.2.2.2.1 _ hstat) (C.2.2.2.2.1 _ hini) (C.2.2.2.2.1 _ hcode) hR.1 hR.2.1 hR.2.2.1 hR.2.2.2 d (K H locs ls hP hS hl)

theorem n_ws {w1 : va_W} (h : ws = w1) (K : JW p l e R s m args below meth c cells slots Qf D Acc nL w1 pc L st) : JW p l e R s m args below meth c cells slots Qf D Acc nL ws pc L st := by rw [h]; exact K
theorem n_widen (k n : Nat) (h1 : cells ≤ k) (h2 : slots ≤ n) (K : JW p l e R s m args below meth c k n Qf D Acc nL ws pc L st) : JW p l e R s m args below meth c cells slots Qf D Acc nL ws pc L st := fun H locs ls hP hS hl => W.widen h1 h2 (K H locs ls hP hS hl)
theorem n_objInit (C : Cw p s m args c cc nL own D tys Acc) {idx : Nat} {a : Addr} (hlink : Cond.methodLink own idx objectInit ∈ BIG) (hinst : Cond.instanceMethod objectInit ∈ BIG) (hcode : Cond.code objectInit ⟨#[0xb1]⟩ 1 none ∈ BIG) (hR : 1 ≤ R.frames ∧ 2 * 0 + (st.map fun v => v.category).sum + 12 ≤ R.locals) (d : decode cc pc = .ok (.invokespecial idx, 3)) (q : Nat) (hq : pc + 3 = q) (K : JW p l e R s m args below meth c cells slots Qf D Acc nL ws q L st) : JW p l e R s m args below meth c cells slots Qf D Acc nL ws pc L (.ref a :: st) := by
  subst hq
  intro H locs ls hP hS hl
  exact W.objInit C.1 C.2.1 C.2.2.2.1 (C.2.2.2.2.1 _ hlink) (C.2.2.2.2.1 _ hinst) (C.2.2.2.2.1 _ hcode) rfl (hl.1.trans C.2.2.1.symm) rfl d hR.1 hR.2 (K H locs ls hP hS hl)
theorem n_new (C : Cw p s m args c cc nL own D tys Acc) {C0 : String} {T : u_T} {nF ci index : Nat} {fs : List Value} (hin : ∀ w ∈ u_ws C0 T nF, w ∈ BIG) (ty : Nat → FieldType) (hty : ∀ k, k < nF → parseFieldDescriptor (T k).2.2.1 = some (ty k)) (hcl : Cond.classLink own index C0 ∈ BIG) (hinst : Cond.instantiable C0 nF ∈ BIG) (hini : Cond.initialized C0 ∈ BIG) (hc : vwCl[ci]? = some (C0, T, nF)) (hfs : ∀ j, j < nF → defaultValue (ty j) = vp_V fs j) (hcs : cells + 1 ≤ R.cells ∧ slots + nF ≤ R.slots) (c1 s1 : Nat) (e1 : cells + 1 = c1) (e2 : slots + nF = s1) (d : decode cc pc = .ok (.new index, 3)) (q : Nat) (hq : pc + 3 = q) (K : ∀ a : Nat, JW p l e R s m args below meth c c1 s1 Qf D Acc nL (ws ++ [(a, .inr (ci, fs))]) q L (.ref a :: st)) : JW p l e R s m args below meth c cells slots Qf D Acc nL ws pc L st := by
  subst hq
  subst e1
  subst e2
  intro H locs ls hP hS hl
  exact va_new C.1 C.2.1 C.2.2.2.2.1 hin ty hty C.2.2.2.1 (C.2.2.2.2.1 _ hcl) (C.2.2.2.2.1 _ hinst) (C.2.2.2.2.1 _ hini) C.2.2.2.2.2.1 hP.1 hP.2 hS C.2.2.2.2.2.2 hc hfs hcs.1 hcs.2 d (fun a H1 hP1 hD1 hS1 => K a H1 locs ls ⟨hP1, hD1⟩ hS1 hl)
/-- two array classes of one type are one -/
theorem ty_same {cA cB : ClassId} {ty : FieldType} (h1 : va_RA s cA ty) (h2 : va_RA s cB ty) : cA = cB := by
  cases ty with
  | object C0 =>
    obtain ⟨-, -, -, -, -, h4⟩ := h1
    obtain ⟨-, -, -, -, -, g4⟩ := h2
    exact Option.some.inj (h4.symm.trans g4)
  | _ => exact Option.some.inj (h1.symm.trans h2)
theorem n_newarr (C : Cw p s m args c cc nL own D tys Acc) {atype : ArrayType} {ty : FieldType} (t0 : Nat) {cA : ClassId} (ht : tys[t0]? = some (cA, ty)) (harr : Cond.arrayClass ty ∈ BIG) (hty : newarray.typeOf atype = ty) {nn : Int32} {N1 : Nat} {a0 : vp_A} (ha : ∀ cA : ClassId, vp_cell cA a0 = arrV cA N1 (fun _ => defaultValue ty)) (hn : ¬ nn < 0) (hN : nn.toNatClampNeg = N1) (hbytes : N1 * componentBytes ty ≤ 536870912) (hcs : cells + 1 ≤ R.cells ∧ slots + N1 ≤ R.slots) (c1 s1 : Nat) (e1 : cells + 1 = c1) (e2 : slots + N1 = s1) (d : decode cc pc = .ok (.newarray atype, 2)) (q : Nat) (hq : pc + 2 = q) (K : ∀ a : Nat, JW p l e R s m args below meth c c1 s1 Qf D Acc nL (ws ++ [(a, .inl (cA, a0))]) q L (.ref a :: st)) : JW p l e R s m args below meth c cells slots Qf D Acc nL ws pc L (.int nn :: st) := by
  subst hq
  subst e1
  subst e2
  intro H locs ls hP hS hl
  refine va_newa C.1 C.2.1 (atype := atype) (by rw [hty]; exact C.2.2.2.2.1 _ harr) hty C.2.2.2.2.2.1 hP.1 hP.2 hS C.2.2.2.2.2.2 ha hn hN hbytes hcs.1 hcs.2 d (fun a cB H1 hK1 hP1 hD1 hS1 => ?_)
  have e : cA = cB := ty_same (s := s) (C.2.2.2.2.2.1.2 t0 _ ht).2 (hK1.2 tys.length (cB, ty) (by simp)).2
  subst e
  exact K a H1 locs ls ⟨hP1, hD1⟩ hS1 hl
theorem n_anew (C : Cw p s m args c cc nL own D tys Acc) {C0 : String} {index : Nat} (t0 : Nat) {cA : ClassId} (ht : tys[t0]? = some (cA, .object C0)) (hclink : Cond.classLink own index C0 ∈ BIG) (hover : va_AO C0 s) {nn : Int32} {N1 : Nat} (hn : ¬ nn < 0) (hN : nn.toNatClampNeg = N1) (hbytes : N1 * 4 ≤ 536870912) (hcs : cells + 1 ≤ R.cells ∧ slots + N1 ≤ R.slots) (c1 s1 : Nat) (e1 : cells + 1 = c1) (e2 : slots + N1 = s1) (d : decode cc pc = .ok (.anewarray index, 3)) (q : Nat) (hq : pc + 3 = q) (K : ∀ a : Nat, JW p l e R s m args below meth c c1 s1 Qf D Acc nL (ws ++ [(a, .inl (cA, N1, .inr (.inr (.inr (.inr (fun _ => none))))))]) q L (.ref a :: st)) : JW p l e R s m args below meth c cells slots Qf D Acc nL ws pc L (.int nn :: st) := by
  subst hq
  subst e1
  subst e2
  intro H locs ls hP hS hl
  refine va_newq C.1 C.2.1 C.2.2.2.1 (C.2.2.2.2.1 _ hclink) hover C.2.2.2.2.2.1 hP.1 hP.2 hS C.2.2.2.2.2.2 hn hN hbytes hcs.1 hcs.2 d (fun a cB H1 hK1 hP1 hD1 hS1 => ?_)
  have e : cA = cB := ty_same (s := s) (C.2.2.2.2.2.1.2 t0 _ ht).2 (hK1.2 tys.length (cB, .object C0) (by simp)).2
  subst e
  exact K a H1 locs ls ⟨hP1, hD1⟩ hS1 hl
theorem n_get (C : Cw p s m args c cc nL own D tys Acc) {ref C0 : String} {T : u_T} {nF ci index a : Nat} (k f : Nat) {fs : List Value} (hin : ∀ w ∈ u_ws C0 T nF, w ∈ BIG) (he : ws[k]? = some (a, .inr (ci, fs))) (hc : vwCl[ci]? = some (C0, T, nF)) (hf : f < nF) (hlink : Cond.fieldLink own index ref (T f).2.1 (T f).2.2.1 ∈ BIG) (href : ref = (T f).1) {v : Value} (hv : fs[f]? = some v) (d : decode cc pc = .ok (.getfield index, 3)) (q : Nat) (hq : pc + 3 = q) (K : JW p l e R s m args below meth c cells slots Qf D Acc nL ws q L (v :: st)) : JW p l e R s m args below meth c cells slots Qf D Acc nL ws pc L (.ref a :: st) := by
  subst hq
  subst href
  exact fun H locs ls hP hS hl => va_get C.1 C.2.1 C.2.2.2.2.1 hin C.2.2.2.1 C.2.2.2.2.2.1 hP.1 k he hc f hf (C.2.2.2.2.1 _ hlink) (fun _ h9 => h9) hv d (K H locs ls hP hS hl)
theorem n_putF (C : Cw p s m args c cc nL own D tys Acc) {ref C0 : String} {T : u_T} {nF ci index a : Nat} (k f : Nat) {fs : List Value} (hin : ∀ w ∈ u_ws C0 T nF, w ∈ BIG) (ty0 : Nat → FieldType) (hty : ∀ k, k < nF → parseFieldDescriptor (T k).2.2.1 = some (ty0 k)) (hnm : ∀ a, a < nF → ∀ b, b < nF → a ≠ b → (T a).2.1 ≠ (T b).2.1) (he : ws[k]? = some (a, .inr (ci, fs))) (hc : vwCl[ci]? = some (C0, T, nF)) (hf : f < nF) (hlink : Cond.fieldLink own index ref (T f).2.1 (T f).2.2.1 ∈ BIG) (href : ref = (T f).1) (hfin : (T f).2.2.2 = true) (hinit : meth.name = "<init>") (hdecl : (T f).1 = own) {ty : FieldType} {v : Value} (hd : parseFieldDescriptor (T f).2.2.1 = some ty) (hn : narrow ty v = v) (hfit : fits ty v = true) (hl0 : f < fs.length) (d : decode cc pc = .ok (.putfield index, 3)) (q : Nat) (hq : pc + 3 = q) (w1 : va_W) (hw : ws.set k (a, .inr (ci, fs.set f v)) = w1) (K : JW p l e R s m args below meth c cells slots Qf D Acc nL w1 q L st) : JW p l e R s m args below meth c cells slots Qf D Acc nL ws pc L (v :: .ref a :: st) := by
  subst hq
  subst href
  subst hw
  exact fun H locs ls hP hS hl => va_putF C.1 C.2.1 C.2.2.2.2.1 hin ty0 hty hnm C.2.2.2.1 C.2.2.2.2.2.1 hP.1 hP.2 hS k he hc f hf (C.2.2.2.2.1 _ hlink) (fun _ h9 => h9) hfin hinit hdecl hd hn hfit hl0 d (fun H1 locs1 hP1 hD1 hS1 => K H1 locs1 ls ⟨hP1, hD1⟩ hS1 hl)
theorem n_put (C : Cw p s m args c cc nL own D tys Acc) {ref C0 : String} {T : u_T} {nF ci index a : Nat} (k f : Nat) {fs : List Value} (hin : ∀ w ∈ u_ws C0 T nF, w ∈ BIG) (ty0 : Nat → FieldType) (hty : ∀ k, k < nF → parseFieldDescriptor (T k).2.2.1 = some (ty0 k)) (hnm : ∀ a, a < nF → ∀ b, b < nF → a ≠ b → (T a).2.1 ≠ (T b).2.1) (he : ws[k]? = some (a, .inr (ci, fs))) (hc : vwCl[ci]? = some (C0, T, nF)) (hf : f < nF) (hlink : Cond.fieldLink own index ref (T f).2.1 (T f).2.2.1 ∈ BIG) (href : ref = (T f).1) (hfin : (T f).2.2.2 = false) {ty : FieldType} {v : Value} (hd : parseFieldDescriptor (T f).2.2.1 = some ty) (hn : narrow ty v = v) (hfit : fits ty v = true) (hl0 : f < fs.length) (d : decode cc pc = .ok (.putfield index, 3)) (q : Nat) (hq : pc + 3 = q) (w1 : va_W) (hw : ws.set k (a, .inr (ci, fs.set f v)) = w1) (K : JW p l e R s m args below meth c cells slots Qf D Acc nL w1 q L st) : JW p l e R s m args below meth c cells slots Qf D Acc nL ws pc L (v :: .ref a :: st) := by
  subst hq
  subst href
  subst hw
  exact fun H locs ls hP hS hl => va_put C.1 C.2.1 C.2.2.2.2.1 hin ty0 hty hnm C.2.2.2.1 C.2.2.2.2.2.1 hP.1 hP.2 hS k he hc f hf (C.2.2.2.2.1 _ hlink) (fun _ h9 => h9) hfin hd hn hfit hl0 d (fun H1 locs1 hP1 hD1 hS1 => K H1 locs1 ls ⟨hP1, hD1⟩ hS1 hl)
theorem n_aast (C : Cw p s m args c cc nL own D tys Acc) (q0 t0 qk ci : Nat) {a : Nat} {cA : ClassId} {r : vw_C} {nn v : Nat} {vs : List Value} {f : Nat → Option Nat} (ha : ws[q0]? = some (a, .inl (cA, nn, .inr (.inr (.inr (.inr f)))))) (ht : tys[t0]? = some (cA, .object r.1)) (hv : ws[qk]? = some (v, .inr (ci, vs))) (hc : vwCl[ci]? = some r) {i : Int32} (hin : vp_in i nn) (d : decode cc pc = .ok (.aastore, 1)) (q : Nat) (hq : pc + 1 = q) (w1 : va_W) (hw : ws.set q0 (a, .inl (cA, nn, .inr (.inr (.inr (.inr (va_up f i.toNatClampNeg (some v))))))) = w1) (K : JW p l e R s m args below meth c cells slots Qf D Acc nL w1 q L st) : JW p l e R s m args below meth c cells slots Qf D Acc nL ws pc L (.ref v :: .int i :: .ref a :: st) := by
  subst hq
  subst hw
  exact fun H locs ls hP hS hl => va_astq C.1 C.2.1 C.2.2.2.2.2.1 hP.1 hP.2 hS q0 t0 qk ci ha ht hv hc hin d (fun H1 locs1 hP1 hD1 hS1 => K H1 locs1 ls ⟨hP1, hD1⟩ hS1 hl)
/-- an end over any list of cells -/
def QN (Qc : Option Value → va_W → Prop) (D : va_G) (tys : List (ClassId × FieldType)) (B : Nat → Prop) : Array Value → State → Outcome → State → Prop := fun _ st oc t =>
  (∃ (v : Option Value) (w1 : va_W), oc = .returned v ∧ Qc v w1 ∧ va_P D vwCl w1 t.heap ∧ va_K D vwCl tys t ∧ va_D B w1) ∧ va_F B st t
def PN (argsL : List Value) (w0 : va_W) (D : va_G) (tys : List (ClassId × FieldType)) (X : State → Prop) (sz : Nat) : Array Value → State → Prop :=
  va_Pc argsL (fun U => U.heap.size = sz ∧ va_P D vwCl w0 U.heap ∧ va_K D vwCl tys U ∧ va_D (fun _ => True) w0 ∧ X U)
def Cn (l : Launch) (D : va_G) (tys : List (ClassId × FieldType)) (X : State → Prop) (y : MethodName) (cy : ByteArray) (nL : Nat) (rt : Option FieldType) (fr lo mc ms : Nat) (argsL : List Value) (w0 : va_W) (Qc : Option Value → va_W → Prop) : Prop :=
  ∀ sz, Met l y (wsq y cy nL rt) ({ frames := fr, cells := mc, slots := ms, locals := lo }) (PN argsL w0 D tys X sz) (QN Qc D tys (va_A w0 sz)) mc ms (va_A w0 sz)
/-- facts of the state that stay -/
def StU (X : State → Prop) : Prop := ∀ u U : State, u.vm.Alike U.vm → X u → X U
theorem PN_blind {argsL : List Value} {w0 : va_W} {X : State → Prop} {sz : Nat} (hX : StU X) : FrameBlind (PN argsL w0 D tys X sz) := by
  intro a U g mk q
  obtain ⟨q0, q1, qP, qK, qD, qX⟩ := q
  exact ⟨q0, q1, qP, va_K.moved (u := U) (U := U.calling g mk a) (Vm.Alike.refl U.vm) qK, qD, hX U _ (Vm.Alike.refl U.vm) qX⟩
theorem Cn.of {X : State → Prop} {y : MethodName} {rt : Option FieldType} {fr lo mc ms : Nat} {argsL : List Value} {w0 : va_W} {Qc : Option Value → va_W → Prop}
    (hy : plainName y.cls = true) (L : List (Nat × Value)) (hL : lv_args 0 argsL = L) (hn : (lg_sl argsL).length ≤ nL)
    (body : ∀ (p : Program) (e : Env) (s : State) (m : MethodId) (args : Array Value) (below : List Frame) (meth : Method) (c : Code) (Acc : Nat → Prop), Cw p s m args c cc nL y.cls D tys Acc → meth.sig.returnType = rt → meth.locks = false → meth.name = y.name → X s →
      ∀ Qf, Qf = MQ below (QN Qc D tys Acc) args s mc ms Acc → JW p l e ({ frames := fr, cells := mc, slots := ms, locals := lo }) s m args below meth c 0 0 Qf D Acc nL w0 0 L []) : Cn l D tys X y cc nL rt fr lo mc ms argsL w0 Qc := by
  intro sz
  refine Met.ofW (cc := cc) (maxL := nL) (ret := rt) hy rfl ?_
  intro p e s m args below meth c s₁ B hml hv
  obtain ⟨rfl, hsz, hP, hK, hD, hXs⟩ := hv
  subst hsz
  have hts := atoms_spec (ws := wsq y cc nL rt) B.pre
  have hl := lv_entry argsL (n := nL) hn
  rw [lg_entry_eq]
  rw [hL] at hl
  exact body p e s m _ below meth c (va_A w0 s.heap.size) ⟨B.exec, B.bytes, hml, findClass_of_methodNamed B.named, fun w hw => hts w (List.mem_cons_of_mem _ hw), hK, fun q hq => Or.inr hq⟩ B.returns B.notSynchronized (name_of_methodNamed B.named B.method).1 hXs _ rfl s.heap [] _ ⟨hP, hD.self (sz := s.heap.size)⟩ va_S.rf hl
theorem n_vret (C : Cw p s m args c cc nL own D tys Acc) {Qc : Option Value → va_W → Prop} {mc ms : Nat} (hE : Qf = MQ below (QN Qc D tys Acc) args s mc ms Acc) (hr : meth.sig.returnType = none) (hlk : meth.locks = false) (hc : cells ≤ mc) (hs : slots ≤ ms) (d : decode cc pc = .ok (.return_, 1)) (h : Qc none ws) : JW p l e R s m args below meth c cells slots Qf D Acc nL ws pc L [] := by
  subst hE
  intro H locs ls hP hS hl
  exact W.widen hc hs (W.vret (hlocks := hlk) C.1 C.2.1 hr (fun t ht hW => ⟨⟨none, ws, rfl, h, by rw [ht]; exact hP.1, va_K.moved hW.alike C.2.2.2.2.2.1, hP.2⟩, hS.F ht⟩) hS.2.2 d)
theorem n_iret (C : Cw p s m args c cc nL own D tys Acc) {Qc : Option Value → va_W → Prop} {mc ms : Nat} (hE : Qf = MQ below (QN Qc D tys Acc) args s mc ms Acc) (hr : meth.sig.returnType = some .int) (hlk : meth.locks = false) {r : Int32} (hc : cells ≤ mc) (hs : slots ≤ ms) (d : decode cc pc = .ok (.ireturn, 1)) (h : Qc (some (.int r)) ws) : JW p l e R s m args below meth c cells slots Qf D Acc nL ws pc L [.int r] := by
  subst hE
  intro H locs ls hP hS hl
  exact W.widen hc hs (W.iret (hlocks := hlk) C.1 C.2.1 hr (fun t ht hW => ⟨⟨_, ws, rfl, h, by rw [ht]; exact hP.1, va_K.moved hW.alike C.2.2.2.2.2.1, hP.2⟩, hS.F ht⟩) hS.2.2 d)
theorem n_aret (C : Cw p s m args c cc nL own D tys Acc) {E : FieldType} {Qc : Option Value → va_W → Prop} {mc ms : Nat} (hE : Qf = MQ below (QN Qc D tys Acc) args s mc ms Acc) (hr : meth.sig.returnType = some (.array E)) (hlk : meth.locks = false) {r : Nat} (hc : cells ≤ mc) (hs : slots ≤ ms) (d : decode cc pc = .ok (.areturn, 1)) (h : Qc (some (.ref r)) ws) : JW p l e R s m args below meth c cells slots Qf D Acc nL ws pc L [.ref r] := by
  subst hE
  intro H locs ls hP hS hl
  exact W.widen hc hs (W.aret (hlocks := hlk) C.1 C.2.1 hr (Or.inr ⟨_, rfl⟩) (Or.inr ⟨_, rfl⟩) (fun t ht hW => ⟨⟨_, ws, rfl, h, by rw [ht]; exact hP.1, va_K.moved hW.alike C.2.2.2.2.2.1, hP.2⟩, hS.F ht⟩) hS.2.2 d)
theorem mid_in (C : Cw p s m args c cc nL own D tys Acc) {wa wb wc : va_W} {H : Heap} (hD : va_D Acc (wa ++ (wb ++ wc))) (hz : s.heap.size ≤ H.size) : ∀ q, va_A wb H.size q → Acc q := fun q h => by
  rcases h with ⟨k, e, hk⟩ | h
  · exact (D_app.mp (D_app.mp hD).2.1).1.2 k (q, e) hk
  · exact C.2.2.2.2.2.2 q (Nat.le_trans hz h)
/-- behind a call on the middle cells -/
theorem n_after (C : Cw p s m args c cc nL own D tys Acc) {Qc : Option Value → va_W → Prop} {st0 rest : List Value} {H : Heap} {locs : List Loc} {ls : Array Slot} {a : Array Value} {mc1 ms1 c1 s1 : Nat} {wa wb wc : va_W} (hP : va_P D vwCl (wa ++ (wb ++ wc)) H ∧ va_D Acc (wa ++ (wb ++ wc))) (hS : va_S Acc s.heap H locs) (hl : lv_has ls nL L)
    (hr : va_Run p l e R s m args below meth c H locs cells slots mc1 ms1 (F0 m pc ls st0) rest (QN Qc D tys (va_A wb H.size) a) (va_A wb H.size)) (hc : cells + mc1 = c1) (hs : slots + ms1 = s1)
    (K : ∀ (v : Option Value) (w1 : va_W), Qc v w1 → JW p l e R s m args below meth c c1 s1 Qf D Acc nL (wa ++ (w1 ++ wc)) (pc + 3) L (v.toList ++ rest)) : W p l e R s m args below meth c H locs cells slots Qf (F0 m pc ls st0) := by
  subst hc
  subst hs
  intro T hT X0
  obtain ⟨v, st₀, t, T', L1, h0, X', hL, e1, e2, ⟨⟨v1, w1, hv, hq, hP1, hK1, hD1⟩, hz, hk⟩, st⟩ := hr T hT X0
  cases hv
  rw [h0] at hz hk
  have hF := mid_in C hP.2 hS.1
  have hS1 : va_S Acc s.heap T'.heap (locs ++ L1) := ⟨Nat.le_trans hS.1 (by rw [e1]; exact hz), fun q h1 h2 => by
      rw [e1, hk q (Nat.lt_of_lt_of_le h1 hS.1) (fun z => h2 (hF q z))]; exact hS.2.1 q h1 h2, fun q hq => by
      rcases List.mem_append.mp hq with h | h
      · exact hS.2.2 q h
      · exact hF _ (hL q h)⟩
  obtain ⟨t2, a1, b1⟩ := K v w1 hq T'.heap (locs ++ L1) ls (by rw [e1]; exact PD_mid hP.1 hP.2 hk hF hP1 hD1) hS1 hl T' rfl X'
  exact ⟨t2, st t2 a1, b1⟩
theorem cbn_of (C : Cw p s m args c cc nL own D tys Acc) {y : MethodName} {cy : ByteArray} {ny : Nat} {ry : Option FieldType} {fr lo mc ms index : Nat} (n : Nat)
    (hcode : Cond.code y cy ny ry ∈ BIG) (hini : Cond.initialized y.cls ∈ BIG) (hlink : Cond.methodLink own index y ∈ BIG)
    (hd : y.cls ≠ "java/lang/invoke/MethodHandle" ∧ y.cls ≠ "java/lang/invoke/VarHandle" ∧ (parseMethodDescriptor y.desc).map (fun d => d.parameters.length) = some n) (hR : fr + 1 ≤ R.frames ∧ 8 + (ny + 11) + lo ≤ R.locals) :
    CallB R s args own index y cy ny ry (wsq y cy ny ry) ({ frames := fr, cells := mc, slots := ms, locals := lo }) mc ms n := by
  have hts := C.2.2.2.2.1
  have hG : GoodIn (wsq y cy ny ry) (wsq y cy ny ry) := fun w hw => ⟨hw, by
    rcases List.mem_cons.mp hw with rfl | h
    · exact BIG_good _ hcode
    · exact BIG_good _ h⟩
  exact callB_of (Ts := wsq y cy ny ry) n (fun w hw => by
    rcases List.mem_cons.mp hw with rfl | h
    · exact hts _ hcode
    · exact hts _ h) hG rfl rfl rfl (hts _ hini) (hts _ hlink) hd hR
theorem pren_in (C : Cw p s m args c cc nL own D tys Acc) {wa wb wc : va_W} {H : Heap} {X : State → Prop} (hX : StU X) (hXs : X s) (hP : va_P D vwCl (wa ++ (wb ++ wc)) H ∧ va_D Acc (wa ++ (wb ++ wc))) (argsL : List Value) : ∀ U : State, U.heap = H → s.WarmedH U.vm → PN argsL wb D tys X H.size argsL.toArray U := by
  intro U hU hW
  refine ⟨rfl, by rw [hU], by rw [hU]; exact (P_app.mp (P_app.mp hP.1).2).1, va_K.moved hW.alike C.2.2.2.2.2.1, (D_app.mp (D_app.mp hP.2).2.1).1.weaken (fun _ _ _ _ => trivial), hX s U hW.alike hXs⟩
theorem n_callI (C : Cw p s m args c cc nL own D tys Acc) {X : State → Prop} {Qc : Option Value → va_W → Prop} {y : MethodName} {cy : ByteArray} {ny : Nat} {fr lo mc1 ms1 index : Nat} {As : List Value} {b : Nat} (wa wb wc : va_W) (rest : List Value) {st0 : List Value} (hX : StU X) (hXs : X s) (hw : ws = wa ++ (wb ++ wc))
    (h : Cn l D tys X y cy ny none fr lo mc1 ms1 (.ref b :: As) wb Qc) (hcode : Cond.code y cy ny none ∈ BIG) (hini : Cond.initialized y.cls ∈ BIG) (hinst : Cond.instanceMethod y ∈ BIG) (hlink : Cond.methodLink own index y ∈ BIG) (hnm : y.name = "<init>")
    (hd : y.cls ≠ "java/lang/invoke/MethodHandle" ∧ y.cls ≠ "java/lang/invoke/VarHandle" ∧ (parseMethodDescriptor y.desc).map (fun d => d.parameters.length) = some As.length) (hR : fr + 1 ≤ R.frames ∧ 8 + (ny + 11) + lo ≤ R.locals) (hst : st0 = As.reverse ++ .ref b :: rest) (hcat : (rest.map fun v => v.category).sum ≤ 8) (c1 s1 : Nat) (hc : cells + mc1 = c1) (hs : slots + ms1 = s1) (hcs : c1 ≤ R.cells ∧ s1 ≤ R.slots)
    (d : decode cc pc = .ok (.invokespecial index, 3)) (q : Nat) (hq : pc + 3 = q) (K : ∀ (v : Option Value) (w1 : va_W), Qc v w1 → JW p l e R s m args below meth c c1 s1 Qf D Acc nL (wa ++ (w1 ++ wc)) q L (v.toList ++ rest)) : JW p l e R s m args below meth c cells slots Qf D Acc nL ws pc L st0 := by
  subst hq
  subst hw
  intro H locs ls hP hS hl
  exact n_after C hP hS hl (va_runI ⟨C.1, C.2.1, C.2.2.1, C.2.2.2.1, C.2.2.2.2.1⟩ (h H.size) ⟨cbn_of C As.length hcode hini hlink hd hR, hnm, C.2.2.2.2.1 _ hinst⟩ ⟨PN_blind hX, pren_in C hX hXs hP _⟩ rfl rfl hl.1 hst (lv_room hcat) d (by rw [hc, hs]; exact hcs)) hc hs K
theorem n_callS (C : Cw p s m args c cc nL own D tys Acc) {X : State → Prop} {Qc : Option Value → va_W → Prop} {y : MethodName} {cy : ByteArray} {ny : Nat} {ry : Option FieldType} {fr lo mc1 ms1 index : Nat} {As : List Value} (wa wb wc : va_W) (rest : List Value) {st0 : List Value} (hX : StU X) (hXs : X s) (hw : ws = wa ++ (wb ++ wc))
    (h : Cn l D tys X y cy ny ry fr lo mc1 ms1 As wb Qc) (hcode : Cond.code y cy ny ry ∈ BIG) (hini : Cond.initialized y.cls ∈ BIG) (hstat : Cond.static y ∈ BIG) (hlink : Cond.methodLink own index y ∈ BIG)
    (hd : y.cls ≠ "java/lang/invoke/MethodHandle" ∧ y.cls ≠ "java/lang/invoke/VarHandle" ∧ (parseMethodDescriptor y.desc).map (fun d => d.parameters.length) = some As.length) (hR : fr + 1 ≤ R.frames ∧ 8 + (ny + 11) + lo ≤ R.locals) (hst : st0 = As.reverse ++ rest) (hcat : (rest.map fun v => v.category).sum ≤ 8) (c1 s1 : Nat) (hc : cells + mc1 = c1) (hs : slots + ms1 = s1) (hcs : c1 ≤ R.cells ∧ s1 ≤ R.slots)
    (d : decode cc pc = .ok (.invokestatic index, 3)) (q : Nat) (hq : pc + 3 = q) (K : ∀ (v : Option Value) (w1 : va_W), Qc v w1 → JW p l e R s m args below meth c c1 s1 Qf D Acc nL (wa ++ (w1 ++ wc)) q L (v.toList ++ rest)) : JW p l e R s m args below meth c cells slots Qf D Acc nL ws pc L st0 := by
  subst hq
  subst hw
  intro H locs ls hP hS hl
  exact n_after C hP hS hl (va_runS ⟨C.1, C.2.1, C.2.2.1, C.2.2.2.1, C.2.2.2.2.1⟩ (h H.size) ⟨cbn_of C As.length hcode hini hlink hd hR, C.2.2.2.2.1 _ hstat⟩ ⟨PN_blind hX, pren_in C hX hXs hP _⟩ rfl rfl hl.1 hst (lv_room hcat) d (by rw [hc, hs]; exact hcs)) hc hs K
end NROWS
