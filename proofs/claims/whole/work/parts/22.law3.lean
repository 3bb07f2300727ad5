theorem b_244 : Cond.code yL_cell cL_cell 2 (some .int) ∈ BIG := List.mem_filter.mpr ⟨List.mem_of_getElem? (i := 244) (by decide +kernel), by decide +kernel⟩
theorem b_243 : Cond.static yL_cell ∈ BIG := List.mem_filter.mpr ⟨List.mem_of_getElem? (i := 243) (by decide +kernel), by decide +kernel⟩
theorem b_242 : Cond.methodLink RL 74 yL_cell ∈ BIG := List.mem_filter.mpr ⟨List.mem_of_getElem? (i := 242) (by decide +kernel), by decide +kernel⟩
theorem b_63 : Cond.instantiable RX4 2 ∈ BIG := List.mem_filter.mpr ⟨List.mem_of_getElem? (i := 63) (by decide +kernel), by decide +kernel⟩
theorem b_724 : Cond.instantiable RX5 37 ∈ BIG := List.mem_filter.mpr ⟨List.mem_of_getElem? (i := 724) (by decide +kernel), by decide +kernel⟩
theorem b_62 : Cond.classLink RL 8 RX4 ∈ BIG := List.mem_filter.mpr ⟨List.mem_of_getElem? (i := 62) (by decide +kernel), by decide +kernel⟩
theorem b_66 : Cond.code yX4_init cX4_init 5 none ∈ BIG := List.mem_filter.mpr ⟨List.mem_of_getElem? (i := 66) (by decide +kernel), by decide +kernel⟩
theorem b_65 : Cond.instanceMethod yX4_init ∈ BIG := List.mem_filter.mpr ⟨List.mem_of_getElem? (i := 65) (by decide +kernel), by decide +kernel⟩
theorem b_64 : Cond.methodLink RL 80 yX4_init ∈ BIG := List.mem_filter.mpr ⟨List.mem_of_getElem? (i := 64) (by decide +kernel), by decide +kernel⟩
theorem b_723 : Cond.classLink RL 83 RX5 ∈ BIG := List.mem_filter.mpr ⟨List.mem_of_getElem? (i := 723) (by decide +kernel), by decide +kernel⟩
theorem b_727 : Cond.code yX5_init cX5_init 5 none ∈ BIG := List.mem_filter.mpr ⟨List.mem_of_getElem? (i := 727) (by decide +kernel), by decide +kernel⟩
theorem b_726 : Cond.instanceMethod yX5_init ∈ BIG := List.mem_filter.mpr ⟨List.mem_of_getElem? (i := 726) (by decide +kernel), by decide +kernel⟩
theorem b_725 : Cond.methodLink RL 85 yX5_init ∈ BIG := List.mem_filter.mpr ⟨List.mem_of_getElem? (i := 725) (by decide +kernel), by decide +kernel⟩
theorem b_1036 : Cond.arrayClass .long ∈ BIG := List.mem_filter.mpr ⟨List.mem_of_getElem? (i := 1036) (by decide +kernel), by decide +kernel⟩
def R_law : String := "StoreNotesLaw"
def lw_P (b : Addr) (xs : List Int32) (args : Array Value) (s : State) : Prop := args = #[.ref b] ∧ s.IntsAt b xs ∧ xs.length ≤ 324 ∧ (Jvm.Cond.and given_1 narrow_1).before args s = true
def lw_Q (_ : Array Value) (s : State) (o : Outcome) (t : State) : Prop := o = .returned (some (.int 1)) ∧ Framed s o t [] 600128 7301064
def lw_Z (below : List Frame) (a : Array Value) (s : State) : State → Prop := fun t => ∃ o, t.status = .running ∧ Ended t below o ∧ lw_Q a s o t
/-- the law's own end, with 1 on the stack, nothing written that was there before, its room as the claim has it -/
theorem lw_ret {p : Program} {l : Launch} {e : Env} {s : State} {m : MethodId} {below : List Frame} {meth : Method} {c : Code} {b : Nat} (hx : p.tables.exec = Jvm.exec) (hb : c.code = code) (hr : meth.sig.returnType = ret) (hlocks : meth.locks = false) {pc : Nat} {H : Heap} {ls : Array Slot} (hdg : decode code pc = .ok (.ireturn, 1)) : W p l e room_1 s m #[Value.ref b] below meth c H [] 600128 7301064 (lw_Z below #[Value.ref b] s) (F0 m pc ls [.int 1]) := by
  intro T hT X
  obtain ⟨fs, hret, hrun, hended, hW, hframe⟩ := X.leave (v := some (.int 1)) (hlocks := hlocks) (fun h => by rw [hr] at h; cases h)
  have hmeth' : T.vm.method? m = some meth := X.method'
  refine ⟨T.setFrames fs, ?_, .returned (some (.int 1)), hrun, hended, rfl, ⟨_, rfl⟩, hW, hframe⟩
  jvm_step X.here [X.here.top, hx, hb, hdg, hmeth', hr, ret, narrow_b1]
  (try refine ⟨rfl, ?_⟩); (try refine ⟨rfl, ?_⟩)
  first | (intro acts; rw [hret _ acts rfl rfl rfl]) | rw [hret _ _ rfl rfl rfl]
  exact Steps.refl _
/-- what holds at the law's entry: the machine, the code, the tables' words (any of lw_tbl by 'hts w (by decide +kernel)'), the script of L ints xs at the cell b, what the Statement gives of the start (any of its parts by flat_of_before) -/
def lw_At (p : Program) (s : State) (m : MethodId) (meth : Method) (c : Code) (b L : Nat) (xs : Nat → Int32) : Prop :=
  p.tables.exec = Jvm.exec ∧ c.code = code ∧ meth.sig.returnType = ret ∧ c.maxLocals = 7 ∧ s.vm.findClass R_law = some m.cls ∧ (∀ w ∈ lw_tbl, w.before #[Value.ref b] s = true) ∧ va_X b L xs s s.heap ∧ b < s.heap.size ∧ meth.locks = false ∧ (Jvm.Cond.and given_1 narrow_1).before #[Value.ref b] s = true
section LAW3
variable {p : Program} {l : Launch} {e : Env} {R : Room} {s : State} {m : MethodId} {args : Array Value} {below : List Frame} {meth : Method} {c : Code} {cells slots : Nat} {Qf : State → Prop} {D : va_G} {Acc : Nat → Prop} {nL : Nat} {ws : va_W} {pc : Nat} {L : List (Nat × Value)} {st : List Value} {cc : ByteArray} {own : String} {tys : List (ClassId × FieldType)}
theorem n_convE {β : Type} {Pr : β → Prop} {w1 : β → va_W} (h : ∀ H : Heap, va_P D vwCl ws H ∧ va_D Acc ws → ∃ A : β, Pr A ∧ (va_P D vwCl (w1 A) H ∧ va_D Acc (w1 A))) (K : ∀ A : β, Pr A → JW p l e R s m args below meth c cells slots Qf D Acc nL (w1 A) pc L st) : JW p l e R s m args below meth c cells slots Qf D Acc nL ws pc L st := by
  intro H locs ls hP hS hl
  obtain ⟨A, hA, hP1⟩ := h H hP
  exact K A hA H locs ls hP1 hS hl
theorem PD_swap {a b c : va_W} {H : Heap} (h : va_P D vwCl ((a ++ b) ++ c) H ∧ va_D Acc ((a ++ b) ++ c)) : va_P D vwCl (b ++ (a ++ c)) H ∧ va_D Acc (b ++ (a ++ c)) := by
  obtain ⟨hP, hD⟩ := h
  obtain ⟨pab, pc⟩ := P_app.mp hP
  obtain ⟨pa, pb⟩ := P_app.mp pab
  obtain ⟨dab, dc, x1⟩ := D_app.mp hD
  obtain ⟨da, db, x2⟩ := D_app.mp dab
  refine ⟨P_app.mpr ⟨pb, P_app.mpr ⟨pa, pc⟩⟩, D_app.mpr ⟨db, D_app.mpr ⟨da, dc, fun i j p q hi hj => x1 i j p q (by rw [List.getElem?_append_left (List.getElem?_eq_some_iff.mp hi).1]; exact hi) hj⟩, fun i j p q hi hj e => ?_⟩⟩
  rcases Nat.lt_or_ge j a.length with hlt | hge
  · rw [List.getElem?_append_left hlt] at hj
    exact x2 j i q p hj hi e.symm
  · rw [List.getElem?_append_right hge] at hj
    exact x1 (a.length + i) (j - a.length) p q (by rw [List.getElem?_append_right (by omega), Nat.add_sub_cancel_left]; exact hi) hj e
theorem ty_int {ty : FieldType} (h : (Cond.arrayClass ty).before args s = true) (hty : ∀ C0, ty ≠ .object C0) : ∃ cA, ArrOfT s cA ty ∧ va_RA s cA ty := by
  obtain ⟨cA, kA, comp, h1, h2, h3⟩ := Cond.arrayClass_spec h
  refine ⟨cA, fun N z => ⟨(fun k h => by cases h), kA, h2, comp, h3⟩, ?_⟩
  cases ty with
  | object C0 => exact absurd rfl (hty C0)
  | _ => exact h1
theorem ty_obj {C0 : String} (h : (Cond.arrayOver (.object C0)).before args s = true) : ∃ cA, ArrOfT s cA (.object C0) ∧ va_RA s cA (.object C0) := by
  obtain ⟨comp, cA, kA, h1, h2, h3, h4, h5⟩ := Cond.arrayOver_spec h
  exact ⟨cA, fun N z => ⟨(fun k h => by cases h), kA, h3, comp, h4⟩, kA, comp, h3, h4, h1, h5⟩
end LAW3
/-- what the pure part owes: a relation that holds at the start and is kept, with equal answers, by every call -/
def PURE : Prop := ∀ s0 l0 l1 b0 : Nat, 16 ≤ s0 → s0 ≤ 128 → l0 ≤ 6 → l1 ≤ 6 → 2 ≤ b0 → b0 ≤ 64 → ∃ P : (Nat → Nat → Int32) → (Nat → Nat → Int32) → Prop, OPS (lenC s0 b0) P ∧ P (initC s0 l0 l1) (initM s0 l0 l1 b0)
set_option maxRecDepth 100000 in
set_option maxHeartbeats 8000000 in
theorem law_loop {p : Program} {l : Launch} {e : Env} {s : State} {m : MethodId} {below : List Frame} {meth : Method} {c : Code} {D : va_G} {A1 A2 : Nat → Nat} {cI cG cR cL : ClassId} {aK aV aO b LL : Nat} {xs : Nat → Int32} {n : Nat → Nat} {P : (Nat → Nat → Int32) → (Nat → Nat → Int32) → Prop} (C0 : LawC p l s m c D A1 A2 cI cG cR cL aK aV b LL xs) (hr : meth.sig.returnType = ret) (hlocks : meth.locks = false) (hops : OPS n P) : ∀ (k it : Nat) (S T : Nat → Nat → Int32) (fO : Nat → Int64), it ≤ 64 → 65 ≤ it + k → P S T → JW p l e room_1 s m #[Value.ref b] below meth c (100 + 4 * it) (30000 + 24 * it) (lw_Z below #[Value.ref b] s) D (fun q : Nat => s.heap.size ≤ q) 7 (lawW A1 A2 n cI cG cR cL aO S T fO) 63 [(0, .ref b), (1, .ref (A1 0)), (2, .ref (A2 0)), (3, .ref aO), (4, .int (nI (4 + 5 * it)))] [] := by
  obtain ⟨C, hXW, hX, hbl, hi1, hi2, hst, hLL⟩ := id C0
  have hbA : ¬ (fun q : Nat => s.heap.size ≤ q) b := Nat.not_le.mpr hbl
  intro k
  induction k with
  | zero => intro it S T fO h1 h2; omega
  | succ k ih =>
    intro it S T fO hit hik hPST
    refine n_iload C 4 rfl dL_law_63 65 rfl ?_
    refine n_aload_n C 0 rfl dL_law_65 66 rfl ?_
    refine n_slen C hX hbl hbA dL_law_66 67 rfl ?_
    refine n_iconst C 5 rfl dL_law_67 68 rfl ?_
    refine n_isub C dL_law_68 69 rfl ?_
    have hsub : (nI LL - 5 : Int32).toInt = (LL : Int) - 5 := pk_sub_toInt (a := LL) (b := 5) (by omega) (by decide)
    have hi0 : (nI (4 + 5 * it)).toInt = ((4 + 5 * it : Nat) : Int) := nI_toInt (by omega)
    refine n_icmp_gt C 1427 dL_law_69 72 rfl rfl (fun _ => ?_) (fun hlt => ?_)
    · refine n_iconst C 1 rfl dL_law_1427 1428 rfl ?_
      intro H locs ls hP hS hl
      refine va_forget (fun q hq => hS.2.2 q hq) ?_
      refine W.widen (k := 600128) (n := 7301064) (by omega) (by omega) ?_
      exact lw_ret C.1 C.2.1 hr hlocks dL_law_1428
    · have hi5 : 4 + 5 * it + 5 ≤ LL := by
        rw [Int32.lt_iff_toInt_lt, hsub, hi0] at hlt
        omega
      refine n_aload_n C 0 rfl dL_law_72 73 rfl ?_
      refine n_iload C 4 rfl dL_law_73 75 rfl ?_
      refine n_sld C hX hbl hbA (vp_in_nI (show 4 + 5 * it < LL by omega) (by omega)) dL_law_75 76 rfl ?_
      refine n_bipush C 31 rfl dL_law_76 78 rfl ?_
      refine n_iand C dL_law_78 79 rfl ?_
      have Kn : ∀ (S1 T1 : Nat → Nat → Int32) (f1 : Nat → Int64), P S1 T1 → JW p l e room_1 s m #[Value.ref b] below meth c (100 + 4 * it + 4) (30000 + 24 * it + 24) (lw_Z below #[Value.ref b] s) D (fun q : Nat => s.heap.size ≤ q) 7 (lawW A1 A2 n cI cG cR cL aO S1 T1 f1) 1421 [(0, .ref b), (1, .ref (A1 0)), (2, .ref (A2 0)), (3, .ref aO), (4, .int (nI (4 + 5 * it)))] [] := by
        intro S1 T1 f1 hP1
        refine n_iinc (n := 5) C 4 rfl (nI (4 + 5 * (it + 1))) (show (nI (4 + 5 * it) + 5 : Int32) = nI (4 + 5 * (it + 1)) from (nI_add (4 + 5 * it) 5).trans (congrArg nI (by omega))) [(4, .int (nI (4 + 5 * (it + 1)))), (0, .ref b), (1, .ref (A1 0)), (2, .ref (A2 0)), (3, .ref aO)] (Nat.le_of_ble_eq_true rfl) rfl dL_law_1421 1424 rfl ?_
        refine n_goto C 63 dL_law_1424 rfl ?_
        refine n_sub [(0, .ref b), (1, .ref (A1 0)), (2, .ref (A2 0)), (3, .ref aO), (4, .int (nI (4 + 5 * (it + 1))))] [1, 2, 3, 4, 0] rfl ?_
        refine n_widen (100 + 4 * (it + 1)) (30000 + 24 * (it + 1)) (by omega) (by omega) ?_
        exact ih (it + 1) S1 T1 f1 (by omega) (by omega) hP1
      obtain ⟨o0, o1, o2, o3, o4, o5, o6, o7, o8, o9, o10, o11, o12, o13, o14, o15, o16, o17, o18⟩ := hops S T hPST
      by_cases c0 : (xs (nI (4 + 5 * it)).toNatClampNeg &&& 31 : Int32) = 0
      · refine n_sw C 0 c0 168 dL_law_79 (by decide) (by decide) rfl rfl ?_
        refine n_sub [(0, .ref b), (1, .ref (A1 0)), (2, .ref (A2 0)), (3, .ref aO), (4, .int (nI (4 + 5 * it)))] [0, 1, 2, 3, 4] rfl ?_
        exact law_make C0 hi5 (by omega) (by omega) (o0 _ _ _ _) Kn
      by_cases c1 : (xs (nI (4 + 5 * it)).toNatClampNeg &&& 31 : Int32) = 1
      · refine n_sw C 1 c1 276 dL_law_79 (by decide) (by decide) rfl rfl ?_
        refine n_sub [(0, .ref b), (1, .ref (A1 0)), (2, .ref (A2 0)), (3, .ref aO), (4, .int (nI (4 + 5 * it)))] [0, 1, 2, 3, 4] rfl ?_
        exact law_push C0 hi5 (by omega) (by omega) (o1 _ _ _) Kn
      by_cases c2 : (xs (nI (4 + 5 * it)).toNatClampNeg &&& 31 : Int32) = 2
      · refine n_sw C 2 c2 356 dL_law_79 (by decide) (by decide) rfl rfl ?_
        refine n_sub [(0, .ref b), (1, .ref (A1 0)), (2, .ref (A2 0)), (3, .ref aO), (4, .int (nI (4 + 5 * it)))] [0, 1, 2, 3, 4] rfl ?_
        exact law_put C0 hi5 (by omega) (by omega) (o2 _ _ _) Kn
      by_cases c3 : (xs (nI (4 + 5 * it)).toNatClampNeg &&& 31 : Int32) = 3
      · refine n_sw C 3 c3 436 dL_law_79 (by decide) (by decide) rfl rfl ?_
        refine n_sub [(0, .ref b), (1, .ref (A1 0)), (2, .ref (A2 0)), (3, .ref aO), (4, .int (nI (4 + 5 * it)))] [0, 1, 2, 3, 4] rfl ?_
        exact law_get C0 hi5 (by omega) (by omega) (o3 _ _ _) Kn
      by_cases c4 : (xs (nI (4 + 5 * it)).toNatClampNeg &&& 31 : Int32) = 4
      · refine n_sw C 4 c4 516 dL_law_79 (by decide) (by decide) rfl rfl ?_
        refine n_sub [(0, .ref b), (1, .ref (A1 0)), (2, .ref (A2 0)), (3, .ref aO), (4, .int (nI (4 + 5 * it)))] [0, 1, 2, 3, 4] rfl ?_
        exact law_move C0 hi5 (by omega) (by omega) (o4 _ _) Kn
      by_cases c5 : (xs (nI (4 + 5 * it)).toNatClampNeg &&& 31 : Int32) = 5
      · refine n_sw C 5 c5 584 dL_law_79 (by decide) (by decide) rfl rfl ?_
        refine n_sub [(0, .ref b), (1, .ref (A1 0)), (2, .ref (A2 0)), (3, .ref aO), (4, .int (nI (4 + 5 * it)))] [0, 1, 2, 3, 4] rfl ?_
        exact law_keep C0 hi5 (by omega) (by omega) (o5 _) Kn
      by_cases c6 : (xs (nI (4 + 5 * it)).toNatClampNeg &&& 31 : Int32) = 6
      · refine n_sw C 6 c6 640 dL_law_79 (by decide) (by decide) rfl rfl ?_
        refine n_sub [(0, .ref b), (1, .ref (A1 0)), (2, .ref (A2 0)), (3, .ref aO), (4, .int (nI (4 + 5 * it)))] [0, 1, 2, 3, 4] rfl ?_
        exact law_back C0 hi5 (by omega) (by omega) (o6 _) Kn
      by_cases c7 : (xs (nI (4 + 5 * it)).toNatClampNeg &&& 31 : Int32) = 7
      · refine n_sw C 7 c7 696 dL_law_79 (by decide) (by decide) rfl rfl ?_
        refine n_sub [(0, .ref b), (1, .ref (A1 0)), (2, .ref (A2 0)), (3, .ref aO), (4, .int (nI (4 + 5 * it)))] [0, 1, 2, 3, 4] rfl ?_
        exact law_weak C0 hi5 (by omega) (by omega) (o7 _ _) Kn
      by_cases c8 : (xs (nI (4 + 5 * it)).toNatClampNeg &&& 31 : Int32) = 8
      · refine n_sw C 8 c8 764 dL_law_79 (by decide) (by decide) rfl rfl ?_
        refine n_sub [(0, .ref b), (1, .ref (A1 0)), (2, .ref (A2 0)), (3, .ref aO), (4, .int (nI (4 + 5 * it)))] [0, 1, 2, 3, 4] rfl ?_
        exact law_strong C0 hi5 (by omega) (by omega) (o8 _ _) Kn
      by_cases c9 : (xs (nI (4 + 5 * it)).toNatClampNeg &&& 31 : Int32) = 9
      · refine n_sw C 9 c9 832 dL_law_79 (by decide) (by decide) rfl rfl ?_
        refine n_sub [(0, .ref b), (1, .ref (A1 0)), (2, .ref (A2 0)), (3, .ref aO), (4, .int (nI (4 + 5 * it)))] [0, 1, 2, 3, 4] rfl ?_
        exact law_wish C0 hi5 (by omega) (by omega) (o9 _) Kn
      by_cases c10 : (xs (nI (4 + 5 * it)).toNatClampNeg &&& 31 : Int32) = 10
      · refine n_sw C 10 c10 888 dL_law_79 (by decide) (by decide) rfl rfl ?_
        refine n_sub [(0, .ref b), (1, .ref (A1 0)), (2, .ref (A2 0)), (3, .ref aO), (4, .int (nI (4 + 5 * it)))] [0, 1, 2, 3, 4] rfl ?_
        exact law_collect C0 hi5 (by omega) (by omega) (o10 _) Kn
      by_cases c11 : (xs (nI (4 + 5 * it)).toNatClampNeg &&& 31 : Int32) = 11
      · refine n_sw C 11 c11 944 dL_law_79 (by decide) (by decide) rfl rfl ?_
        refine n_sub [(0, .ref b), (1, .ref (A1 0)), (2, .ref (A2 0)), (3, .ref aO), (4, .int (nI (4 + 5 * it)))] [0, 1, 2, 3, 4] rfl ?_
        exact law_root C0 hi5 (by omega) (by omega) (o11 _) Kn
      by_cases c12 : (xs (nI (4 + 5 * it)).toNatClampNeg &&& 31 : Int32) = 12
      · refine n_sw C 12 c12 1000 dL_law_79 (by decide) (by decide) rfl rfl ?_
        refine n_sub [(0, .ref b), (1, .ref (A1 0)), (2, .ref (A2 0)), (3, .ref aO), (4, .int (nI (4 + 5 * it)))] [0, 1, 2, 3, 4] rfl ?_
        exact law_about C0 hi5 (by omega) (by omega) (o12 _ _) Kn
      by_cases c13 : (xs (nI (4 + 5 * it)).toNatClampNeg &&& 31 : Int32) = 13
      · refine n_sw C 13 c13 1068 dL_law_79 (by decide) (by decide) rfl rfl ?_
        refine n_sub [(0, .ref b), (1, .ref (A1 0)), (2, .ref (A2 0)), (3, .ref aO), (4, .int (nI (4 + 5 * it)))] [0, 1, 2, 3, 4] rfl ?_
        exact law_word C0 hi5 (by omega) (by omega) (o13 _) Kn
      by_cases c14 : (xs (nI (4 + 5 * it)).toNatClampNeg &&& 31 : Int32) = 14
      · refine n_sw C 14 c14 1124 dL_law_79 (by decide) (by decide) rfl rfl ?_
        refine n_sub [(0, .ref b), (1, .ref (A1 0)), (2, .ref (A2 0)), (3, .ref aO), (4, .int (nI (4 + 5 * it)))] [0, 1, 2, 3, 4] rfl ?_
        exact law_row C0 hi5 (by omega) (by omega) (o14 _ _) Kn
      by_cases c15 : (xs (nI (4 + 5 * it)).toNatClampNeg &&& 31 : Int32) = 15
      · refine n_sw C 15 c15 1192 dL_law_79 (by decide) (by decide) rfl rfl ?_
        refine n_sub [(0, .ref b), (1, .ref (A1 0)), (2, .ref (A2 0)), (3, .ref aO), (4, .int (nI (4 + 5 * it)))] [0, 1, 2, 3, 4] rfl ?_
        exact law_code C0 hi5 (by omega) (by omega) (o15 _ _ _ _) Kn
      by_cases c16 : (xs (nI (4 + 5 * it)).toNatClampNeg &&& 31 : Int32) = 16
      · refine n_sw C 16 c16 1284 dL_law_79 (by decide) (by decide) rfl rfl ?_
        refine n_sub [(0, .ref b), (1, .ref (A1 0)), (2, .ref (A2 0)), (3, .ref aO), (4, .int (nI (4 + 5 * it)))] [0, 1, 2, 3, 4] rfl ?_
        exact law_scrap C0 hi5 (by omega) (by omega) o16 Kn
      by_cases c17 : (xs (nI (4 + 5 * it)).toNatClampNeg &&& 31 : Int32) = 17
      · refine n_sw C 17 c17 1297 dL_law_79 (by decide) (by decide) rfl rfl ?_
        refine n_sub [(0, .ref b), (1, .ref (A1 0)), (2, .ref (A2 0)), (3, .ref aO), (4, .int (nI (4 + 5 * it)))] [0, 1, 2, 3, 4] rfl ?_
        exact law_run C0 hi5 (by omega) (by omega) (o17 _ _) Kn
      by_cases c18 : (xs (nI (4 + 5 * it)).toNatClampNeg &&& 31 : Int32) = 18
      · refine n_sw C 18 c18 1365 dL_law_79 (by decide) (by decide) rfl rfl ?_
        refine n_sub [(0, .ref b), (1, .ref (A1 0)), (2, .ref (A2 0)), (3, .ref aO), (4, .int (nI (4 + 5 * it)))] [0, 1, 2, 3, 4] rfl ?_
        exact law_count C0 hi5 (by omega) (by omega) (o18 _) Kn
      have hsw : (xs (nI (4 + 5 * it)).toNatClampNeg &&& 31 : Int32).toInt < 0 ∨ 18 < (xs (nI (4 + 5 * it)).toNatClampNeg &&& 31 : Int32).toInt := by
        have t0 := lv_neT (k := 0) (a := 0) c0 (by decide)
        have t1 := lv_neT (k := 1) (a := 1) c1 (by decide)
        have t2 := lv_neT (k := 2) (a := 2) c2 (by decide)
        have t3 := lv_neT (k := 3) (a := 3) c3 (by decide)
        have t4 := lv_neT (k := 4) (a := 4) c4 (by decide)
        have t5 := lv_neT (k := 5) (a := 5) c5 (by decide)
        have t6 := lv_neT (k := 6) (a := 6) c6 (by decide)
        have t7 := lv_neT (k := 7) (a := 7) c7 (by decide)
        have t8 := lv_neT (k := 8) (a := 8) c8 (by decide)
        have t9 := lv_neT (k := 9) (a := 9) c9 (by decide)
        have t10 := lv_neT (k := 10) (a := 10) c10 (by decide)
        have t11 := lv_neT (k := 11) (a := 11) c11 (by decide)
        have t12 := lv_neT (k := 12) (a := 12) c12 (by decide)
        have t13 := lv_neT (k := 13) (a := 13) c13 (by decide)
        have t14 := lv_neT (k := 14) (a := 14) c14 (by decide)
        have t15 := lv_neT (k := 15) (a := 15) c15 (by decide)
        have t16 := lv_neT (k := 16) (a := 16) c16 (by decide)
        have t17 := lv_neT (k := 17) (a := 17) c17 (by decide)
        have t18 := lv_neT (k := 18) (a := 18) c18 (by decide)
        omega
      refine n_tableOut C 1421 dL_law_79 hsw rfl ?_
      refine n_widen (100 + 4 * it + 4) (30000 + 24 * it + 24) (by omega) (by omega) ?_
      exact Kn S T fO hPST
set_option maxRecDepth 100000 in
set_option maxHeartbeats 8000000 in
theorem law_facts {p : Program} {s : State} {m : MethodId} {meth : Method} {c : Code} {b L : Nat} {xs : Nat → Int32} (C0 : lw_At p s m meth c b L xs) : ∃ aK aV, FxW aK aV (fun q : Nat => s.heap.size ≤ q) s s.heap := by
  obtain ⟨hx, hb, hr, hml, hown, hts, hX, hbl, hlocks, hgv0⟩ := C0
  have hgv := flat_of_before _ hgv0
  have hA : ∀ a : Nat, a < s.heap.size → ¬ (fun q : Nat => s.heap.size ≤ q) a := fun a h => Nat.not_le.mpr h
  have T : ∀ w : Cond, w ∈ tables_1 → w.before #[Value.ref b] s = true := fun w h => hts w (List.mem_append_right _ h)
  obtain ⟨adK, adV, hS, hE⟩ := vk_Sof (args := #[Value.ref b]) (s := s) (N := 1) (tm := fun _ => .string "StoreNotes$Machine" 57) (len := [59]) (byt := [TOLDb]) (A := fun q : Nat => s.heap.size ≤ q)
    (fun i hi => by rw [show i = 0 by omega]; decide)
    (fun i hi => hgv _ (by decide +kernel)) (fun i hi => hgv _ (by decide +kernel)) (fun i hi => hgv _ (by decide +kernel))
    (fun i hi => by rw [show i = 0 by omega]; exact hgv _ (by decide +kernel))
    (fun i hi j hj => by
      rw [show i = 0 by omega] at hj ⊢
      have h59 : ∀ j, j < 59 → (Cond.eq (.elem (.field (.string "StoreNotes$Machine" 57) "java/lang/String" "value" "[B") (.int (Int32.ofNat j))) (.int (TOLDb.getD j 0))) ∈ flatC (Jvm.Cond.and given_1 narrow_1) := by decide +kernel
      exact hgv _ (h59 j hj))
    (fun i j hi hj hij => absurd (show i = j by omega) hij) hA
  have hK : ∀ q : Nat, (fun _ : Nat => adK 0) q = adK 0 := fun _ => rfl
  refine ⟨adK 0, adV 0, ⟨?_, ?_, ?_, ?_, ?_, ?_, ?_, ?_⟩, ?_, ?_⟩
  · exact vx_Zqof (T _ (by decide +kernel)) (T _ (by decide +kernel)) (hgv _ (by decide +kernel)) hA
  · exact vx_Zqof (T _ (by decide +kernel)) (T _ (by decide +kernel)) (hgv _ (by decide +kernel)) hA
  · refine ⟨fun i hi => ?_, fun i j hi hj _ => by omega⟩
    rw [show i = 0 by omega]
    exact hS.1 0 (by decide)
  · exact va_Zof (T _ (by decide +kernel)) (T _ (by decide +kernel)) (va_eqi (hgv _ (by decide +kernel))) hA
  · exact va_Zqof (T _ (by decide +kernel)) (T _ (by decide +kernel)) (hgv _ (by decide +kernel)) hA
  · exact va_Nw.of rfl (T _ (by decide +kernel))
  · exact vk_R.of (A := #[Value.ref b]) (T _ (by decide +kernel)) (hE 0 (by decide))
  · intro w hw
    have h1 : ∀ w ∈ NGl, w ∈ tables_1 := by decide +kernel
    exact va_Nw.of (List.all_eq_true.mp (show NGl.all (fun w => w.onTables) = true by decide +kernel) w hw) (T w (h1 w hw))
  · exact va_Nc.of (hgv _ (by decide +kernel))
  · exact va_Nc.of (hgv _ (by decide +kernel))
set_option maxRecDepth 100000 in
set_option maxHeartbeats 16000000 in
theorem whole_open (hpure : PURE) {p : Program} {e : Env} {s : State} {m : MethodId} {below : List Frame} {meth : Method} {c : Code} (l : Launch) (hflags : l.flags = flags0) {b L : Nat} {xs : Nat → Int32} (hL : L ≤ 324) (C0 : lw_At p s m meth c b L xs) : W p l e room_1 s m #[Value.ref b] below meth c s.heap [] 0 0 (lw_Z below #[Value.ref b] s) (entryFrame m ([Value.ref b] : List Value).toArray 7) := by
  obtain ⟨aK, aV, hXW⟩ := law_facts C0
  obtain ⟨hx, hb, hr, hml, hown, hts, hX, hbl, hlocks, hgv0⟩ := id C0
  have hst : l.stackTraces = false := by rw [Launch.stackTraces, hflags]; decide
  have hA : ∀ q : Nat, s.heap.size ≤ q → (fun q : Nat => s.heap.size ≤ q) q := fun _ h => h
  have hbA : ¬ (fun q : Nat => s.heap.size ≤ q) b := Nat.not_le.mpr hbl
  have T : ∀ w : Cond, w ∈ tables_1 → w.before #[Value.ref b] s = true := fun w h => hts w (List.mem_append_right _ h)
  obtain ⟨d0, i0, hKn0⟩ := u_known (C := RX0) (T := TX0) (N := 10) (n := 10) hts (fun w h => BIG_in w (hin0 w h)) (hts _ (BIG_in _ b_107))
  obtain ⟨d1, i1, hKn1⟩ := u_known (C := RX1) (T := TX1) (N := 13) (n := 13) hts (fun w h => BIG_in w (hin1 w h)) (hts _ (BIG_in _ b_71))
  obtain ⟨d2, i2, hKn2⟩ := u_known (C := RX2) (T := TX2) (N := 6) (n := 6) hts (fun w h => BIG_in w (hin2 w h)) (hts _ (BIG_in _ b_203))
  obtain ⟨d3, i3, hKn3⟩ := u_known (C := RX3) (T := TX3) (N := 2) (n := 2) hts (fun w h => BIG_in w (hin3 w h)) (hts _ (BIG_in _ b_88))
  obtain ⟨d4, i4, hKn4⟩ := u_known (C := RX4) (T := TX4) (N := 2) (n := 2) hts (fun w h => BIG_in w (hin4 w h)) (hts _ (BIG_in _ b_63))
  obtain ⟨d5, i5, hKn5⟩ := u_known (C := RX5) (T := TX5) (N := 37) (n := 37) hts (fun w h => BIG_in w (hin5 w h)) (hts _ (BIG_in _ b_724))
  obtain ⟨D, hKc⟩ : ∃ D : va_G, ∀ (k : Nat) (q : vw_C), vwCl[k]? = some q → u_Kn s q.1 q.2.1 q.2.2 (D.1 k) (D.2 k) := by
    refine ⟨(fun k => match k with | 0 => d0 | 1 => d1 | 2 => d2 | 3 => d3 | 4 => d4 | _ => d5, fun k => match k with | 0 => i0 | 1 => i1 | 2 => i2 | 3 => i3 | 4 => i4 | _ => i5), ?_⟩
    intro k q hq
    match k, hq with
    | 0, hq => cases hq; exact hKn0
    | 1, hq => cases hq; exact hKn1
    | 2, hq => cases hq; exact hKn2
    | 3, hq => cases hq; exact hKn3
    | 4, hq => cases hq; exact hKn4
    | 5, hq => cases hq; exact hKn5
    | k + 6, hq => simp [vwCl] at hq
  obtain ⟨cI, tI⟩ := ty_int (s := s) (args := #[Value.ref b]) (ty := .int) (T _ (by decide +kernel)) (fun _ h => nomatch h)
  obtain ⟨cL, tL⟩ := ty_int (s := s) (args := #[Value.ref b]) (ty := .long) (T _ (by decide +kernel)) (fun _ h => nomatch h)
  obtain ⟨cG, tG⟩ := ty_obj (s := s) (args := #[Value.ref b]) (C0 := "StoreNotes$Generation") (T _ (by decide +kernel))
  obtain ⟨cR, tR⟩ := ty_obj (s := s) (args := #[Value.ref b]) (C0 := "StoreNotes$Row") (T _ (by decide +kernel))
  have hK : va_K D vwCl (tyL cI cG cR cL) s := by
    refine ⟨hKc, fun k q hq => ?_⟩
    match k, hq with
    | 0, hq => cases hq; exact tI
    | 1, hq => cases hq; exact tG
    | 2, hq => cases hq; exact tR
    | 3, hq => cases hq; exact tL
    | k + 4, hq => simp [tyL] at hq
  have C : Cw p s m #[Value.ref b] c code 7 RL D (tyL cI cG cR cL) (fun q : Nat => s.heap.size ≤ q) := ⟨hx, hb, hml, hown, fun w hw => hts w (BIG_in w hw), hK, hA⟩
  have CM : Cw p s m #[Value.ref b] c code 7 RL D (tyM cI) (fun q : Nat => s.heap.size ≤ q) := C.sub [0] rfl
  have CC : Cw p s m #[Value.ref b] c code 7 RL D (tyC cI cG cR) (fun q : Nat => s.heap.size ≤ q) := C.sub [0, 1, 2] rfl
  have hXO : XO s := ⟨va_AO.of (A := #[Value.ref b]) (T (.arrayOver (.object "StoreNotes$Generation")) (by decide +kernel)), va_AO.of (A := #[Value.ref b]) (T (.arrayOver (.object "StoreNotes$Row")) (by decide +kernel))⟩
  have hXSs : XS b L xs (fun q : Nat => s.heap.size ≤ q) s s.heap := ⟨hX, hbl, hbA⟩
  obtain ⟨s0, hs1, hs2, hs⟩ := clamp_nI (v := cellv L xs 0) 16 128 (by decide) (by decide)
  obtain ⟨l0, -, hl2, hl0⟩ := clamp_nI (v := cellv L xs 1) 0 6 (by decide) (by decide)
  obtain ⟨l1, -, hm2, hl1⟩ := clamp_nI (v := cellv L xs 2) 0 6 (by decide) (by decide)
  obtain ⟨b0, hb1, hb2, hb0⟩ := clamp_nI (v := cellv L xs 3) 2 64 (by decide) (by decide)
  obtain ⟨P, hops, hinit⟩ := hpure s0 l0 l1 b0 hs1 hs2 hl2 hm2 hb1 hb2
  have hl := lv_entry ([.ref b]) (n := 7) (Nat.le_of_ble_eq_true rfl)
  rw [lg_entry_eq]
  suffices hJ : JW p l e room_1 s m #[Value.ref b] below meth c 0 0 (lw_Z below #[Value.ref b] s) D (fun q : Nat => s.heap.size ≤ q) 7 [] 0 [(0, .ref b)] [] by
    exact hJ s.heap [] _ ⟨fun k q h => by simp at h, fun i j p q h => by simp at h, fun k q h => by simp at h⟩ va_S.rf hl
  refine n_new CC (fs := [.null, .null]) (ci := 4) hin4 tyX4 tyX4_ok b_62 b_63 b_44 rfl (fun j hj => by rcases (show j = 0 ∨ j = 1 by omega) with rfl | rfl <;> rfl) ⟨(Nat.le_of_ble_eq_true rfl), (Nat.le_of_ble_eq_true rfl)⟩ 1 2 rfl rfl dL_law_0 3 rfl (fun q0 => ?_)
  refine n_ws (w1 := [(q0, .inr (4, [.null, .null]))]) rfl ?_
  refine n_dup C rfl dL_law_3 4 rfl ?_
  refine n_aload_n C 0 rfl dL_law_4 5 rfl ?_
  refine n_iconst C 0 rfl dL_law_5 6 rfl ?_
  refine n_callH C hXS hXSs (As := [.ref b, .int 0]) [(q0, .inr (4, [.null, .null]))] [] [] [.ref q0, .ref q0] (by simp) (cn_cell 0 (by decide) (by omega)) b_244 b_43 b_243 b_242 ⟨by decide +kernel, by decide +kernel, (show (parseMethodDescriptor yL_cell.desc).map (fun d => d.parameters.length) = some 2 by decide +kernel)⟩ ⟨(Nat.le_of_ble_eq_true rfl), (Nat.le_of_ble_eq_true rfl)⟩ rfl (Nat.le_of_ble_eq_true rfl) 1 2 rfl rfl ⟨(Nat.le_of_ble_eq_true rfl), (Nat.le_of_ble_eq_true rfl)⟩ dL_law_6 9 rfl (fun v w1 h => ?_)
  obtain ⟨rfl, rfl⟩ := h
  refine n_ws (w1 := [(q0, .inr (4, [.null, .null]))]) (by simp) ?_
  show JW p l e room_1 s m #[Value.ref b] below meth c 1 2 (lw_Z below #[Value.ref b] s) D (fun q : Nat => s.heap.size ≤ q) 7 [(q0, .inr (4, [.null, .null]))] 9 [(0, .ref b)] [.int (cellv L xs 0), .ref q0, .ref q0]
  refine n_aload_n C 0 rfl dL_law_9 10 rfl ?_
  refine n_iconst C 1 rfl dL_law_10 11 rfl ?_
  refine n_callH C hXS hXSs (As := [.ref b, .int 1]) [(q0, .inr (4, [.null, .null]))] [] [] [.int (cellv L xs 0), .ref q0, .ref q0] (by simp) (cn_cell 1 (by decide) (by omega)) b_244 b_43 b_243 b_242 ⟨by decide +kernel, by decide +kernel, (show (parseMethodDescriptor yL_cell.desc).map (fun d => d.parameters.length) = some 2 by decide +kernel)⟩ ⟨(Nat.le_of_ble_eq_true rfl), (Nat.le_of_ble_eq_true rfl)⟩ rfl (Nat.le_of_ble_eq_true rfl) 1 2 rfl rfl ⟨(Nat.le_of_ble_eq_true rfl), (Nat.le_of_ble_eq_true rfl)⟩ dL_law_11 14 rfl (fun v w1 h => ?_)
  obtain ⟨rfl, rfl⟩ := h
  refine n_ws (w1 := [(q0, .inr (4, [.null, .null]))]) (by simp) ?_
  show JW p l e room_1 s m #[Value.ref b] below meth c 1 2 (lw_Z below #[Value.ref b] s) D (fun q : Nat => s.heap.size ≤ q) 7 [(q0, .inr (4, [.null, .null]))] 14 [(0, .ref b)] [.int (cellv L xs 1), .int (cellv L xs 0), .ref q0, .ref q0]
  refine n_aload_n C 0 rfl dL_law_14 15 rfl ?_
  refine n_iconst C 2 rfl dL_law_15 16 rfl ?_
  refine n_callH C hXS hXSs (As := [.ref b, .int 2]) [(q0, .inr (4, [.null, .null]))] [] [] [.int (cellv L xs 1), .int (cellv L xs 0), .ref q0, .ref q0] (by simp) (cn_cell 2 (by decide) (by omega)) b_244 b_43 b_243 b_242 ⟨by decide +kernel, by decide +kernel, (show (parseMethodDescriptor yL_cell.desc).map (fun d => d.parameters.length) = some 2 by decide +kernel)⟩ ⟨(Nat.le_of_ble_eq_true rfl), (Nat.le_of_ble_eq_true rfl)⟩ rfl (Nat.le_of_ble_eq_true rfl) 1 2 rfl rfl ⟨(Nat.le_of_ble_eq_true rfl), (Nat.le_of_ble_eq_true rfl)⟩ dL_law_16 19 rfl (fun v w1 h => ?_)
  obtain ⟨rfl, rfl⟩ := h
  refine n_ws (w1 := [(q0, .inr (4, [.null, .null]))]) (by simp) ?_
  show JW p l e room_1 s m #[Value.ref b] below meth c 1 2 (lw_Z below #[Value.ref b] s) D (fun q : Nat => s.heap.size ≤ q) 7 [(q0, .inr (4, [.null, .null]))] 19 [(0, .ref b)] [.int (cellv L xs 2), .int (cellv L xs 1), .int (cellv L xs 0), .ref q0, .ref q0]
  refine n_aload_n C 0 rfl dL_law_19 20 rfl ?_
  refine n_iconst C 3 rfl dL_law_20 21 rfl ?_
  refine n_callH C hXS hXSs (As := [.ref b, .int 3]) [(q0, .inr (4, [.null, .null]))] [] [] [.int (cellv L xs 2), .int (cellv L xs 1), .int (cellv L xs 0), .ref q0, .ref q0] (by simp) (cn_cell 3 (by decide) (by omega)) b_244 b_43 b_243 b_242 ⟨by decide +kernel, by decide +kernel, (show (parseMethodDescriptor yL_cell.desc).map (fun d => d.parameters.length) = some 2 by decide +kernel)⟩ ⟨(Nat.le_of_ble_eq_true rfl), (Nat.le_of_ble_eq_true rfl)⟩ rfl (Nat.le_of_ble_eq_true rfl) 1 2 rfl rfl ⟨(Nat.le_of_ble_eq_true rfl), (Nat.le_of_ble_eq_true rfl)⟩ dL_law_21 24 rfl (fun v w1 h => ?_)
  obtain ⟨rfl, rfl⟩ := h
  refine n_ws (w1 := [(q0, .inr (4, [.null, .null]))]) (by simp) ?_
  show JW p l e room_1 s m #[Value.ref b] below meth c 1 2 (lw_Z below #[Value.ref b] s) D (fun q : Nat => s.heap.size ≤ q) 7 [(q0, .inr (4, [.null, .null]))] 24 [(0, .ref b)] [.int (cellv L xs 3), .int (cellv L xs 2), .int (cellv L xs 1), .int (cellv L xs 0), .ref q0, .ref q0]
  refine n_callI CC (As := [.int (cellv L xs 0), .int (cellv L xs 1), .int (cellv L xs 2), .int (cellv L xs 3)]) [] [(q0, .inr (4, [.null, .null]))] [] [.ref q0] XOs hXO rfl (cn_SN hs2 hb2 hs hl0 hl1 hb0) b_66 b_44 b_65 b_64 rfl ⟨by decide +kernel, by decide +kernel, (show (parseMethodDescriptor yX4_init.desc).map (fun d => d.parameters.length) = some 4 by decide +kernel)⟩ ⟨(Nat.le_of_ble_eq_true rfl), (Nat.le_of_ble_eq_true rfl)⟩ rfl (Nat.le_of_ble_eq_true rfl) 32 16002 rfl rfl ⟨(Nat.le_of_ble_eq_true rfl), (Nat.le_of_ble_eq_true rfl)⟩ dL_law_24 27 rfl (fun v w1 h => ?_)
  obtain ⟨rfl, q1, q14, q15, q16, q17, q18, q19, q20, q21, q22, q23, q24, q25, q26, q27, q28, q29, q30, q31, q32, q33, q34, q35, q36, q37, q38, q39, q40, q44, q45, q46, rfl⟩ := h
  refine n_ws (w1 := [(q0, .inr (4, [.ref q1, .ref q44])), (q1, .inr (1, [.ref q21, .ref q14, .ref q15, .ref q17, .ref q19, .ref q25, .ref q27, .ref q29, .ref q31, .ref q36, .int 0, .int 0, .int 0])), (q14, .inl (cG, 3, .inr (.inr (.inr (.inr (va_up (va_up (va_up (fun _ => none) 0 (some q22)) 1 (some q23)) 2 (some q24))))))), (q15, .inr (3, [.ref q16, .int 16])), (q16, .inl (cI, 16, .inl (fun _ => 0))), (q17, .inr (3, [.ref q18, .int 0])), (q18, .inl (cI, 40, .inl (fun _ => 0))), (q19, .inr (3, [.ref q20, .int 8])), (q20, .inl (cI, 8, .inl (fun _ => 0))), (q21, .inl (cI, (1 + 14 * s0), .inl (fun _ => 0))), (q22, .inr (0, [.int 0, .int 1, .int (nI s0), .int (nI l0), .int 1, .int 0, .int 0, .int 0, .int 0, .int 0])), (q23, .inr (0, [.int 1, .int (nI (1 + 2 * s0)), .int (nI (2 * s0)), .int (nI l1), .int (nI (1 + 2 * s0)), .int 0, .int 0, .int 0, .int 0, .int 0])), (q24, .inr (0, [.int 2, .int (nI (1 + 6 * s0)), .int (nI (4 * s0)), .int 7, .int (nI (1 + 6 * s0)), .int 0, .int 0, .int 0, .int 0, .int 0])), (q25, .inr (3, [.ref q26, .int 0])), (q26, .inl (cI, (7 * s0 / 2), .inl (fun _ => 0))), (q27, .inr (3, [.ref q28, .int 0])), (q28, .inl (cI, (7 * s0 / 2), .inl (fun _ => 0))), (q29, .inr (3, [.ref q30, .int 0])), (q30, .inl (cI, b0, .inl (fun _ => 0))), (q31, .inl (cR, 2, .inr (.inr (.inr (.inr (va_up (va_up (fun _ => none) 0 (some q32)) 1 (some q34))))))), (q32, .inr (3, [.ref q33, .int 0])), (q33, .inl (cI, (6 * s0), .inl (fun _ => 0))), (q34, .inr (3, [.ref q35, .int 0])), (q35, .inl (cI, (4 * s0), .inl (fun _ => 0))), (q36, .inl (cR, 2, .inr (.inr (.inr (.inr (va_up (va_up (fun _ => none) 0 (some q37)) 1 (some q39))))))), (q37, .inr (3, [.ref q38, .int 0])), (q38, .inl (cI, (6 * s0), .inl (fun _ => 0))), (q39, .inr (3, [.ref q40, .int 0])), (q40, .inl (cI, (4 * s0), .inl (fun _ => 0))), (q44, .inr (2, [.ref q1, .ref q45, .ref q46, .int 0, .int 0, .int 0])), (q45, .inl (cI, 256, .inl (fun _ => 0))), (q46, .inl (cI, 8, .inl (fun _ => 0)))]) rfl ?_
  refine n_convE (Pr := fun A : Nat → Nat => A 0 = q0 ∧ Apart 32 A) (w1 := fun A => wd 32 A (ceC A (lenC s0 b0) cI cG cR) (initC s0 l0 l1)) (fun H hH => ?_) (fun A1 hA1 => ?_)
  · obtain ⟨A, e0, eA, eP⟩ := fixC (s0 := s0) (l0 := l0) (l1 := l1) (b0 := b0) H hH
    exact ⟨A, ⟨e0, eA⟩, eP⟩
  obtain ⟨e1, hi1⟩ := hA1
  subst e1
  show JW p l e room_1 s m #[Value.ref b] below meth c 32 16002 (lw_Z below #[Value.ref b] s) D (fun q : Nat => s.heap.size ≤ q) 7 (wd 32 A1 (ceC A1 (lenC s0 b0) cI cG cR) (initC s0 l0 l1)) 27 [(0, .ref b)] [.ref (A1 0)]
  refine n_astore_n C [(1, .ref (A1 0)), (0, .ref b)] (Nat.le_of_ble_eq_true rfl) rfl dL_law_27 28 rfl ?_
  refine n_new CM (fs := [.int 0, .null, .null, .int 0, .null, .int 0, .null, .null, .null, .int 0, .null, .null, .int 0, .null, .int 0, .null, .int 0, .null, .null, .null, .null, .null, .null, .int 0, .int 0, .int 0, .int 0, .int 0, .null, .int 0, .null, .int 0, .int 0, .null, .null, .null, .null]) (ci := 5) hin5 tyX5 tyX5_ok b_723 b_724 b_50 rfl (fun j hj => by rcases (show j = 0 ∨ j = 1 ∨ j = 2 ∨ j = 3 ∨ j = 4 ∨ j = 5 ∨ j = 6 ∨ j = 7 ∨ j = 8 ∨ j = 9 ∨ j = 10 ∨ j = 11 ∨ j = 12 ∨ j = 13 ∨ j = 14 ∨ j = 15 ∨ j = 16 ∨ j = 17 ∨ j = 18 ∨ j = 19 ∨ j = 20 ∨ j = 21 ∨ j = 22 ∨ j = 23 ∨ j = 24 ∨ j = 25 ∨ j = 26 ∨ j = 27 ∨ j = 28 ∨ j = 29 ∨ j = 30 ∨ j = 31 ∨ j = 32 ∨ j = 33 ∨ j = 34 ∨ j = 35 ∨ j = 36 by omega) with rfl | rfl | rfl | rfl | rfl | rfl | rfl | rfl | rfl | rfl | rfl | rfl | rfl | rfl | rfl | rfl | rfl | rfl | rfl | rfl | rfl | rfl | rfl | rfl | rfl | rfl | rfl | rfl | rfl | rfl | rfl | rfl | rfl | rfl | rfl | rfl | rfl <;> rfl) ⟨(Nat.le_of_ble_eq_true rfl), (Nat.le_of_ble_eq_true rfl)⟩ 33 16039 rfl rfl dL_law_28 31 rfl (fun m0 => ?_)
  refine n_ws (w1 := ((wd 32 A1 (ceC A1 (lenC s0 b0) cI cG cR) (initC s0 l0 l1)) ++ [(m0, .inr (5, [.int 0, .null, .null, .int 0, .null, .int 0, .null, .null, .null, .int 0, .null, .null, .int 0, .null, .int 0, .null, .int 0, .null, .null, .null, .null, .null, .null, .int 0, .int 0, .int 0, .int 0, .int 0, .null, .int 0, .null, .int 0, .int 0, .null, .null, .null, .null]))])) rfl ?_
  refine n_dup C rfl dL_law_31 32 rfl ?_
  refine n_aload_n C 1 rfl dL_law_32 33 rfl ?_
  refine n_iconst C 0 rfl dL_law_33 34 rfl ?_
  refine n_callH C hXS hXSs (As := [.ref b, .int 0]) ((wd 32 A1 (ceC A1 (lenC s0 b0) cI cG cR) (initC s0 l0 l1)) ++ [(m0, .inr (5, [.int 0, .null, .null, .int 0, .null, .int 0, .null, .null, .null, .int 0, .null, .null, .int 0, .null, .int 0, .null, .int 0, .null, .null, .null, .null, .null, .null, .int 0, .int 0, .int 0, .int 0, .int 0, .null, .int 0, .null, .int 0, .int 0, .null, .null, .null, .null]))]) [] [] [.ref m0, .ref m0] (by simp) (cn_cell 0 (by decide) (by omega)) b_244 b_43 b_243 b_242 ⟨by decide +kernel, by decide +kernel, (show (parseMethodDescriptor yL_cell.desc).map (fun d => d.parameters.length) = some 2 by decide +kernel)⟩ ⟨(Nat.le_of_ble_eq_true rfl), (Nat.le_of_ble_eq_true rfl)⟩ rfl (Nat.le_of_ble_eq_true rfl) 33 16039 rfl rfl ⟨(Nat.le_of_ble_eq_true rfl), (Nat.le_of_ble_eq_true rfl)⟩ dL_law_34 37 rfl (fun v w1 h => ?_)
  obtain ⟨rfl, rfl⟩ := h
  refine n_ws (w1 := ((wd 32 A1 (ceC A1 (lenC s0 b0) cI cG cR) (initC s0 l0 l1)) ++ [(m0, .inr (5, [.int 0, .null, .null, .int 0, .null, .int 0, .null, .null, .null, .int 0, .null, .null, .int 0, .null, .int 0, .null, .int 0, .null, .null, .null, .null, .null, .null, .int 0, .int 0, .int 0, .int 0, .int 0, .null, .int 0, .null, .int 0, .int 0, .null, .null, .null, .null]))])) (by simp) ?_
  show JW p l e room_1 s m #[Value.ref b] below meth c 33 16039 (lw_Z below #[Value.ref b] s) D (fun q : Nat => s.heap.size ≤ q) 7 ((wd 32 A1 (ceC A1 (lenC s0 b0) cI cG cR) (initC s0 l0 l1)) ++ [(m0, .inr (5, [.int 0, .null, .null, .int 0, .null, .int 0, .null, .null, .null, .int 0, .null, .null, .int 0, .null, .int 0, .null, .int 0, .null, .null, .null, .null, .null, .null, .int 0, .int 0, .int 0, .int 0, .int 0, .null, .int 0, .null, .int 0, .int 0, .null, .null, .null, .null]))]) 37 [(1, .ref (A1 0)), (0, .ref b)] [.int (cellv L xs 0), .ref m0, .ref m0]
  refine n_aload_n C 1 rfl dL_law_37 38 rfl ?_
  refine n_iconst C 1 rfl dL_law_38 39 rfl ?_
  refine n_callH C hXS hXSs (As := [.ref b, .int 1]) ((wd 32 A1 (ceC A1 (lenC s0 b0) cI cG cR) (initC s0 l0 l1)) ++ [(m0, .inr (5, [.int 0, .null, .null, .int 0, .null, .int 0, .null, .null, .null, .int 0, .null, .null, .int 0, .null, .int 0, .null, .int 0, .null, .null, .null, .null, .null, .null, .int 0, .int 0, .int 0, .int 0, .int 0, .null, .int 0, .null, .int 0, .int 0, .null, .null, .null, .null]))]) [] [] [.int (cellv L xs 0), .ref m0, .ref m0] (by simp) (cn_cell 1 (by decide) (by omega)) b_244 b_43 b_243 b_242 ⟨by decide +kernel, by decide +kernel, (show (parseMethodDescriptor yL_cell.desc).map (fun d => d.parameters.length) = some 2 by decide +kernel)⟩ ⟨(Nat.le_of_ble_eq_true rfl), (Nat.le_of_ble_eq_true rfl)⟩ rfl (Nat.le_of_ble_eq_true rfl) 33 16039 rfl rfl ⟨(Nat.le_of_ble_eq_true rfl), (Nat.le_of_ble_eq_true rfl)⟩ dL_law_39 42 rfl (fun v w1 h => ?_)
  obtain ⟨rfl, rfl⟩ := h
  refine n_ws (w1 := ((wd 32 A1 (ceC A1 (lenC s0 b0) cI cG cR) (initC s0 l0 l1)) ++ [(m0, .inr (5, [.int 0, .null, .null, .int 0, .null, .int 0, .null, .null, .null, .int 0, .null, .null, .int 0, .null, .int 0, .null, .int 0, .null, .null, .null, .null, .null, .null, .int 0, .int 0, .int 0, .int 0, .int 0, .null, .int 0, .null, .int 0, .int 0, .null, .null, .null, .null]))])) (by simp) ?_
  show JW p l e room_1 s m #[Value.ref b] below meth c 33 16039 (lw_Z below #[Value.ref b] s) D (fun q : Nat => s.heap.size ≤ q) 7 ((wd 32 A1 (ceC A1 (lenC s0 b0) cI cG cR) (initC s0 l0 l1)) ++ [(m0, .inr (5, [.int 0, .null, .null, .int 0, .null, .int 0, .null, .null, .null, .int 0, .null, .null, .int 0, .null, .int 0, .null, .int 0, .null, .null, .null, .null, .null, .null, .int 0, .int 0, .int 0, .int 0, .int 0, .null, .int 0, .null, .int 0, .int 0, .null, .null, .null, .null]))]) 42 [(1, .ref (A1 0)), (0, .ref b)] [.int (cellv L xs 1), .int (cellv L xs 0), .ref m0, .ref m0]
  refine n_aload_n C 1 rfl dL_law_42 43 rfl ?_
  refine n_iconst C 2 rfl dL_law_43 44 rfl ?_
  refine n_callH C hXS hXSs (As := [.ref b, .int 2]) ((wd 32 A1 (ceC A1 (lenC s0 b0) cI cG cR) (initC s0 l0 l1)) ++ [(m0, .inr (5, [.int 0, .null, .null, .int 0, .null, .int 0, .null, .null, .null, .int 0, .null, .null, .int 0, .null, .int 0, .null, .int 0, .null, .null, .null, .null, .null, .null, .int 0, .int 0, .int 0, .int 0, .int 0, .null, .int 0, .null, .int 0, .int 0, .null, .null, .null, .null]))]) [] [] [.int (cellv L xs 1), .int (cellv L xs 0), .ref m0, .ref m0] (by simp) (cn_cell 2 (by decide) (by omega)) b_244 b_43 b_243 b_242 ⟨by decide +kernel, by decide +kernel, (show (parseMethodDescriptor yL_cell.desc).map (fun d => d.parameters.length) = some 2 by decide +kernel)⟩ ⟨(Nat.le_of_ble_eq_true rfl), (Nat.le_of_ble_eq_true rfl)⟩ rfl (Nat.le_of_ble_eq_true rfl) 33 16039 rfl rfl ⟨(Nat.le_of_ble_eq_true rfl), (Nat.le_of_ble_eq_true rfl)⟩ dL_law_44 47 rfl (fun v w1 h => ?_)
  obtain ⟨rfl, rfl⟩ := h
  refine n_ws (w1 := ((wd 32 A1 (ceC A1 (lenC s0 b0) cI cG cR) (initC s0 l0 l1)) ++ [(m0, .inr (5, [.int 0, .null, .null, .int 0, .null, .int 0, .null, .null, .null, .int 0, .null, .null, .int 0, .null, .int 0, .null, .int 0, .null, .null, .null, .null, .null, .null, .int 0, .int 0, .int 0, .int 0, .int 0, .null, .int 0, .null, .int 0, .int 0, .null, .null, .null, .null]))])) (by simp) ?_
  show JW p l e room_1 s m #[Value.ref b] below meth c 33 16039 (lw_Z below #[Value.ref b] s) D (fun q : Nat => s.heap.size ≤ q) 7 ((wd 32 A1 (ceC A1 (lenC s0 b0) cI cG cR) (initC s0 l0 l1)) ++ [(m0, .inr (5, [.int 0, .null, .null, .int 0, .null, .int 0, .null, .null, .null, .int 0, .null, .null, .int 0, .null, .int 0, .null, .int 0, .null, .null, .null, .null, .null, .null, .int 0, .int 0, .int 0, .int 0, .int 0, .null, .int 0, .null, .int 0, .int 0, .null, .null, .null, .null]))]) 47 [(1, .ref (A1 0)), (0, .ref b)] [.int (cellv L xs 2), .int (cellv L xs 1), .int (cellv L xs 0), .ref m0, .ref m0]
  refine n_aload_n C 1 rfl dL_law_47 48 rfl ?_
  refine n_iconst C 3 rfl dL_law_48 49 rfl ?_
  refine n_callH C hXS hXSs (As := [.ref b, .int 3]) ((wd 32 A1 (ceC A1 (lenC s0 b0) cI cG cR) (initC s0 l0 l1)) ++ [(m0, .inr (5, [.int 0, .null, .null, .int 0, .null, .int 0, .null, .null, .null, .int 0, .null, .null, .int 0, .null, .int 0, .null, .int 0, .null, .null, .null, .null, .null, .null, .int 0, .int 0, .int 0, .int 0, .int 0, .null, .int 0, .null, .int 0, .int 0, .null, .null, .null, .null]))]) [] [] [.int (cellv L xs 2), .int (cellv L xs 1), .int (cellv L xs 0), .ref m0, .ref m0] (by simp) (cn_cell 3 (by decide) (by omega)) b_244 b_43 b_243 b_242 ⟨by decide +kernel, by decide +kernel, (show (parseMethodDescriptor yL_cell.desc).map (fun d => d.parameters.length) = some 2 by decide +kernel)⟩ ⟨(Nat.le_of_ble_eq_true rfl), (Nat.le_of_ble_eq_true rfl)⟩ rfl (Nat.le_of_ble_eq_true rfl) 33 16039 rfl rfl ⟨(Nat.le_of_ble_eq_true rfl), (Nat.le_of_ble_eq_true rfl)⟩ dL_law_49 52 rfl (fun v w1 h => ?_)
  obtain ⟨rfl, rfl⟩ := h
  refine n_ws (w1 := ((wd 32 A1 (ceC A1 (lenC s0 b0) cI cG cR) (initC s0 l0 l1)) ++ [(m0, .inr (5, [.int 0, .null, .null, .int 0, .null, .int 0, .null, .null, .null, .int 0, .null, .null, .int 0, .null, .int 0, .null, .int 0, .null, .null, .null, .null, .null, .null, .int 0, .int 0, .int 0, .int 0, .int 0, .null, .int 0, .null, .int 0, .int 0, .null, .null, .null, .null]))])) (by simp) ?_
  show JW p l e room_1 s m #[Value.ref b] below meth c 33 16039 (lw_Z below #[Value.ref b] s) D (fun q : Nat => s.heap.size ≤ q) 7 ((wd 32 A1 (ceC A1 (lenC s0 b0) cI cG cR) (initC s0 l0 l1)) ++ [(m0, .inr (5, [.int 0, .null, .null, .int 0, .null, .int 0, .null, .null, .null, .int 0, .null, .null, .int 0, .null, .int 0, .null, .int 0, .null, .null, .null, .null, .null, .null, .int 0, .int 0, .int 0, .int 0, .int 0, .null, .int 0, .null, .int 0, .int 0, .null, .null, .null, .null]))]) 52 [(1, .ref (A1 0)), (0, .ref b)] [.int (cellv L xs 3), .int (cellv L xs 2), .int (cellv L xs 1), .int (cellv L xs 0), .ref m0, .ref m0]
  refine n_callI CM (As := [.int (cellv L xs 0), .int (cellv L xs 1), .int (cellv L xs 2), .int (cellv L xs 3)]) (wd 32 A1 (ceC A1 (lenC s0 b0) cI cG cR) (initC s0 l0 l1)) [(m0, .inr (5, [.int 0, .null, .null, .int 0, .null, .int 0, .null, .null, .null, .int 0, .null, .null, .int 0, .null, .int 0, .null, .int 0, .null, .null, .null, .null, .null, .null, .int 0, .int 0, .int 0, .int 0, .int 0, .null, .int 0, .null, .int 0, .int 0, .null, .null, .null, .null]))] [] [.ref m0] XTs trivial (by simp) (cn_Mod hs hl0 hl1 hb0) b_727 b_50 b_726 b_725 rfl ⟨by decide +kernel, by decide +kernel, (show (parseMethodDescriptor yX5_init.desc).map (fun d => d.parameters.length) = some 4 by decide +kernel)⟩ ⟨(Nat.le_of_ble_eq_true rfl), (Nat.le_of_ble_eq_true rfl)⟩ rfl (Nat.le_of_ble_eq_true rfl) 55 25039 rfl rfl ⟨(Nat.le_of_ble_eq_true rfl), (Nat.le_of_ble_eq_true rfl)⟩ dL_law_52 55 rfl (fun v w1 h => ?_)
  obtain ⟨rfl, q1, q2, q3, q4, q5, q6, q7, q8, q9, q10, q11, q12, q13, q14, q15, q16, q17, q18, q19, q20, q21, q22, rfl⟩ := h
  refine n_ws (w1 := (wd 32 A1 (ceC A1 (lenC s0 b0) cI cG cR) (initC s0 l0 l1)) ++ [(m0, .inr (5, [.int 0, .ref q1, .ref q2, .int (nI s0), .ref q3, .int (nI b0), .ref q4, .ref q5, .ref q6, .int 0, .ref q7, .ref q8, .int 0, .ref q9, .int 0, .ref q10, .int 0, .ref q11, .ref q12, .ref q13, .ref q14, .ref q15, .ref q16, .int 0, .int 0, .int 0, .int 0, .int 0, .ref q17, .int 0, .ref q18, .int 0, .int 0, .ref q19, .ref q20, .ref q21, .ref q22])), (q1, .inl (cI, 1793, .inl (fun _ => 0))), (q2, .inl (cI, 1793, .inl (fun _ => 0))), (q3, .inl (cI, 2, .inl (upd (upd (fun _ => 0) 0 ((nI l0))) 1 ((nI l1))))), (q4, .inl (cI, 3, .inl (fun _ => 0))), (q5, .inl (cI, 3, .inl (fun _ => 0))), (q6, .inl (cI, 16, .inl (fun _ => 0))), (q7, .inl (cI, 40, .inl (fun _ => 0))), (q8, .inl (cI, 8, .inl (fun _ => 0))), (q9, .inl (cI, 460, .inl (fun _ => 0))), (q10, .inl (cI, 460, .inl (fun _ => 0))), (q11, .inl (cI, 64, .inl (fun _ => 0))), (q12, .inl (cI, 2, .inl (fun _ => 0))), (q13, .inl (cI, 2000, .inl (fun _ => 0))), (q14, .inl (cI, 2, .inl (fun _ => 0))), (q15, .inl (cI, 2000, .inl (fun _ => 0))), (q16, .inl (cI, 3, .inl (fun _ => 0))), (q17, .inl (cI, 8, .inl (fun _ => 0))), (q18, .inl (cI, 256, .inl (fun _ => 0))), (q19, .inl (cI, 3, .inl (fun _ => 0))), (q20, .inl (cI, 3, .inl (fun _ => 0))), (q21, .inl (cI, 3, .inl (fun _ => 0))), (q22, .inl (cI, 3, .inl (fun _ => 0)))]) (by simp) ?_
  refine n_convE (Pr := fun A : Nat → Nat => A 0 = m0 ∧ Apart 23 A) (w1 := fun A => (wd 32 A1 (ceC A1 (lenC s0 b0) cI cG cR) (initC s0 l0 l1)) ++ wd 23 A (ceM A cI) (initM s0 l0 l1 b0)) (fun H hH => ?_) (fun A2 hA2 => ?_)
  · obtain ⟨pa, pb⟩ := P_app.mp hH.1
    obtain ⟨da, db, dx⟩ := D_app.mp hH.2
    obtain ⟨A, e0, eA, eP, eD⟩ := fixM (Acc := fun q => s.heap.size ≤ q ∧ ∀ (i : Nat) (y : Nat × va_E), (wd 32 A1 (ceC A1 (lenC s0 b0) cI cG cR) (initC s0 l0 l1))[i]? = some y → y.1 ≠ q) (s0 := s0) (l0 := l0) (l1 := l1) (b0 := b0) H ⟨pb, db.1, fun k q hq => ⟨db.2 k q hq, fun i y hy => dx i k y q hy hq⟩⟩
    exact ⟨A, ⟨e0, eA⟩, P_app.mpr ⟨pa, eP⟩, D_app.mpr ⟨da, ⟨eD.1, fun k q hq => (eD.2 k q hq).1⟩, fun i j y q hy hq => (eD.2 j q hq).2 i y hy⟩⟩
  obtain ⟨e2, hi2⟩ := hA2
  subst e2
  show JW p l e room_1 s m #[Value.ref b] below meth c 55 25039 (lw_Z below #[Value.ref b] s) D (fun q : Nat => s.heap.size ≤ q) 7 ((wd 32 A1 (ceC A1 (lenC s0 b0) cI cG cR) (initC s0 l0 l1)) ++ wd 23 A2 (ceM A2 cI) (initM s0 l0 l1 b0)) 55 [(1, .ref (A1 0)), (0, .ref b)] [.ref (A2 0)]
  refine n_astore_n C [(2, .ref (A2 0)), (1, .ref (A1 0)), (0, .ref b)] (Nat.le_of_ble_eq_true rfl) rfl dL_law_55 56 rfl ?_
  refine n_iconst C 1 rfl dL_law_56 57 rfl ?_
  refine n_newarr C (a0 := (1, .inr (.inl (fun _ => 0)))) (N1 := 1) 3 rfl b_1036 rfl (fun _ => rfl) (by decide) rfl (Nat.le_of_ble_eq_true rfl) ⟨(Nat.le_of_ble_eq_true rfl), (Nat.le_of_ble_eq_true rfl)⟩ 56 25040 rfl rfl dL_law_57 59 rfl (fun aO => ?_)
  refine n_conv (w1 := lawW A1 A2 (lenC s0 b0) cI cG cR cL aO (initC s0 l0 l1) (initM s0 l0 l1 b0) (fun _ => 0)) (fun H hH => PD_swap hH) ?_
  refine n_astore_n C [(3, .ref aO), (2, .ref (A2 0)), (1, .ref (A1 0)), (0, .ref b)] (Nat.le_of_ble_eq_true rfl) rfl dL_law_59 60 rfl ?_
  refine n_iconst C 4 rfl dL_law_60 61 rfl ?_
  refine n_istore C [(4, .int 4), (3, .ref aO), (2, .ref (A2 0)), (1, .ref (A1 0)), (0, .ref b)] (Nat.le_of_ble_eq_true rfl) rfl dL_law_61 63 rfl ?_
  refine n_sub [(0, .ref b), (1, .ref (A1 0)), (2, .ref (A2 0)), (3, .ref aO), (4, .int 4)] [4, 3, 2, 1, 0] rfl ?_
  refine n_widen 100 30000 (by decide) (by decide) ?_
  exact law_loop (aO := aO) ⟨C, hXW, hX, hbl, hi1, hi2, hst, hL⟩ hr hlocks hops 65 0 _ _ _ (by decide) (by decide) hinit
