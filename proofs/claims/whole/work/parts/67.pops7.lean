/-! THE PURE PART: count, code, scrap; what the machine's own rows change -/
section PO8
variable {s b : Nat} {α α' : Nat → Nat → Nat} {z : Nat → Nat} {S S' : Nat → Nat → Int32} {n : Nat → Nat}
/-- the machine's rows changed, no other -/
def MF (α α' : Nat → Nat → Nat) : Prop := (∀ k, k ≠ 0 → k ≠ 17 → k ≠ 18 → α' k = α k) ∧ ∀ i, i ≠ 0 → i ≠ 26 → i ≠ 27 → i ≠ 29 → α' 0 i = α 0 i
def MFS (S S' : Nat → Nat → Int32) : Prop := ∀ k, k ≠ 2 → k ≠ 27 → k ≠ 28 → S' k = S k
theorem MF_form (h : MF α α') : α' = fun k i => if k = 0 then (if i = 0 then α' 0 0 else if i = 26 then α' 0 26 else if i = 27 then α' 0 27 else if i = 29 then α' 0 29 else α 0 i) else if k = 17 then α' 17 i else if k = 18 then α' 18 i else α k i := by
  funext k i
  by_cases h0 : k = 0
  · subst h0
    rw [if_pos rfl]
    by_cases e : i = 0
    · rw [if_pos e, e]
    · rw [if_neg e]
      by_cases e1 : i = 26
      · rw [if_pos e1, e1]
      · rw [if_neg e1]
        by_cases e2 : i = 27
        · rw [if_pos e2, e2]
        · rw [if_neg e2]
          by_cases e3 : i = 29
          · rw [if_pos e3, e3]
          · rw [if_neg e3]
            exact h.2 i e e1 e2 e3
  · rw [if_neg h0]
    by_cases h17 : k = 17
    · rw [if_pos h17, h17]
    · rw [if_neg h17]
      by_cases h18 : k = 18
      · rw [if_pos h18, h18]
      · rw [if_neg h18]
        exact congrFun (h.1 k h0 h17 h18) i
theorem Gi_MF (h : MF α α') (gi : Gi s b 0 α z 0 0 (fun _ => True)) : Gi s b 0 α' z 0 0 (fun _ => True) := by
  rw [MF_form h]
  exact gi
theorem RS_MF (h : MF α α') (hS : MFS S S') (gr : RS s 0 α z S) (hm : RM α' S') : RS s 0 α' z S' := by
  obtain ⟨rg, rl, rr, rw', rc, -⟩ := gr
  have key : RG s 0 α' S' ∧ RLs α' S' ∧ RR α' S' ∧ RW s 0 α' z S' ∧ RC 0 α' S' := by
    rw [MF_form h]
    refine ⟨?_, ?_, ?_, ?_, ?_⟩
    · intro g hg
      rw [hS (3 + g) (by omega) (by omega) (by omega)]
      exact rg g hg
    · unfold RLs at rl ⊢
      rw [hS 6 (by omega) (by omega) (by omega), hS 7 (by omega) (by omega) (by omega), hS 8 (by omega) (by omega) (by omega), hS 9 (by omega) (by omega) (by omega), hS 10 (by omega) (by omega) (by omega), hS 11 (by omega) (by omega) (by omega), hS 16 (by omega) (by omega) (by omega), hS 17 (by omega) (by omega) (by omega), hS 18 (by omega) (by omega) (by omega), hS 19 (by omega) (by omega) (by omega), hS 20 (by omega) (by omega) (by omega), hS 21 (by omega) (by omega) (by omega)]
      exact rl
    · intro r hr
      have := rrow_in (S 1 8) hr
      rw [hS 1 (by omega) (by omega) (by omega), hS _ (by omega) (by omega) (by omega), hS _ (by omega) (by omega) (by omega)]
      exact rr r hr
    · unfold RW at rw' ⊢
      rw [hS 26 (by omega) (by omega) (by omega)]
      exact rw'
    · unfold RC at rc ⊢
      rw [hS 1 (by omega) (by omega) (by omega)]
      exact rc
  exact ⟨key.1, key.2.1, key.2.2.1, key.2.2.2.1, key.2.2.2.2, hm⟩
theorem rl_up {k k' N i v : Nat} (h : ∀ j, j < N → S k j = nI (α k' j)) : ∀ j, j < N → up2 S k i (nI v) k j = nI (upN α k' i v k' j) := fun j hj => by
  rw [up_at]
  exact it_in rfl h j hj
theorem O_scrap (hN : LN n s b) {T : Nat → Nat → Int32} (h : PV s b S T) : op_scrap n S T (PV s b) := by
  obtain ⟨α, z, rfl, gi, gr, h29⟩ := h
  unfold op_scrap wX4_scrap wX5_scrap
  rintro S1 rfl S2 rfl S3 rfl
  have rm := gr.2.2.2.2.2
  rw [← nI_0, up2_nR, up2_nR]
  refine ⟨rm.1, _, z, rfl, ?_, ?_, Nat.zero_le _⟩
  · exact gi
  · refine RS_MF (α := α) (S := S) ⟨fun k h0 h1 h2 => ?_, fun i h0 h1 h2 h3 => ?_⟩ (fun k h1 h2 h3 => ?_) gr ?_
    · rw [upN_row _ h0, upN_row _ h0]
    · rw [upN_ne _ (Or.inr h3), upN_ne _ (Or.inr h0)]
    · rw [up2_row _ h1]
    · exact ⟨rfl, rm.2.1, rm.2.2.1, rm.2.2.2.1, rm.2.2.2.2⟩
theorem O_code (hN : LN n s b) {T : Nat → Nat → Int32} (h : PV s b S T) (a1 a2 a3 a4 : Int32) : op_code n a1 a2 a3 a4 S T (PV s b) := by
  obtain ⟨α, z, rfl, gi, gr, h29⟩ := h
  unfold op_code wL_code wX4_code
  have rm := gr.2.2.2.2.2
  have n27 : n 27 = 256 := hN.2.2.2.2.2.2.2.2.2.2.2.1
  refine pk_eq (α 0 29) 64 (fun q => ⟨rfl, ?_⟩) (fun q => ?_) rm.1 rfl (by omega) (by omega)
  · unfold wX5_code wX5_code_b15
    rw [nR_at]
    refine pk_eq (α 0 29) 64 (fun _ => ?_) (fun q2 => absurd q q2) rfl rfl (by omega) (by omega)
    rintro S2 rfl
    rw [thr0]
    exact ⟨fun q => absurd q (by decide), fun _ => ⟨rfl, fun q => absurd q (by decide), PV_thrI (t := 1) gi gr h29⟩⟩
  · obtain ⟨l1, rfl⟩ := nI_any a1
    obtain ⟨l2, rfl⟩ := nI_any a2
    obtain ⟨l3, rfl⟩ := nI_any a3
    obtain ⟨l4, rfl⟩ := nI_any a4
    obtain ⟨L, hL⟩ : ∃ L, L = α 0 29 := ⟨_, rfl⟩
    have e23 : S 2 3 = nI L := by rw [hL]; exact rm.1
    -- what the class has
    have rm' : RM (upN (upN (upN (upN (upN (upN α 0 0 0) 18 (4 * L) l1) 18 (4 * L + 1) l2) 18 (4 * L + 2) l3) 18 (4 * L + 3) l4) 0 29 (L + 1)) (up2 (up2 (up2 (up2 (up2 S 27 (4 * L) (nI l1)) 27 (4 * L + 1) (nI l2)) 27 (4 * L + 2) (nI l3)) 27 (4 * L + 3) (nI l4)) 2 3 (nI (L + 1))) :=
      ⟨rfl, rm.2.1, rm.2.2.1, rl_up (k := 27) (k' := 18) (α := upN (upN (upN (upN α 0 0 0) 18 (4 * L) l1) 18 (4 * L + 1) l2) 18 (4 * L + 2) l3) (rl_up (k := 27) (k' := 18) (α := upN (upN (upN α 0 0 0) 18 (4 * L) l1) 18 (4 * L + 1) l2) (rl_up (k := 27) (k' := 18) (α := upN (upN α 0 0 0) 18 (4 * L) l1) (rl_up (k := 27) (k' := 18) (α := upN α 0 0 0) rm.2.2.2.1))), rm.2.2.2.2⟩
    have mf : MF α (upN (upN (upN (upN (upN (upN α 0 0 0) 18 (4 * L) l1) 18 (4 * L + 1) l2) 18 (4 * L + 2) l3) 18 (4 * L + 3) l4) 0 29 (L + 1)) := ⟨fun k h0 h1 h2 => by rw [upN_row _ h0, upN_row _ h2, upN_row _ h2, upN_row _ h2, upN_row _ h2, upN_row _ h0], fun i h0 h1 h2 h3 => by rw [upN_ne _ (Or.inr h3), upN_ne _ (Or.inl (by omega)), upN_ne _ (Or.inl (by omega)), upN_ne _ (Or.inl (by omega)), upN_ne _ (Or.inl (by omega)), upN_ne _ (Or.inr h0)]⟩
    have mfs : MFS S (up2 (up2 (up2 (up2 (up2 S 27 (4 * L) (nI l1)) 27 (4 * L + 1) (nI l2)) 27 (4 * L + 2) (nI l3)) 27 (4 * L + 3) (nI l4)) 2 3 (nI (L + 1))) := fun k h1 h2 h3 => by rw [up2_row _ h1, up2_row _ h2, up2_row _ h2, up2_row _ h2, up2_row _ h2]
    have fin : PV s b (up2 (up2 (up2 (up2 (up2 S 27 (4 * L) (nI l1)) 27 (4 * L + 1) (nI l2)) 27 (4 * L + 2) (nI l3)) 27 (4 * L + 3) (nI l4)) 2 3 (nI (L + 1))) (nR (upN (upN (upN (upN (upN (upN α 0 0 0) 18 (4 * L) l1) 18 (4 * L + 1) l2) 18 (4 * L + 2) l3) 18 (4 * L + 3) l4) 0 29 (L + 1))) := ⟨_, z, rfl, Gi_MF mf gi, RS_MF mf mfs gr rm', by show L + 1 ≤ 64; omega⟩
    have md : ∀ Q : Int32 → (Nat → Nat → Int32) → Prop, Q (nI (L + 1)) (nR (upN (upN (upN (upN (upN (upN α 0 0 0) 18 (4 * L) l1) 18 (4 * L + 1) l2) 18 (4 * L + 2) l3) 18 (4 * L + 3) l4) 0 29 (L + 1))) → wX5_code (nI l1) (nI l2) (nI l3) (nI l4) (nR α) Q := by
      intro Q hQ
      unfold wX5_code wX5_code_b15
      rw [nR_at]
      refine pk_eq (α 0 29) 64 (fun q2 => absurd q2 q) (fun _ => ?_) rfl rfl (by omega) (by omega)
      rintro S2 rfl
      rw [thr0]
      refine ⟨fun _ => ?_, fun q => absurd (by decide) q⟩
      have e0 : up2 (nR α) 0 0 0 = nR (upN α 0 0 0) := by rw [← nI_0, up2_nR]
      rw [e0, show nR (upN α 0 0 0) 0 29 = nI L by rw [hL]; rfl, show (4 : Int32) = nI 4 from rfl, pk_mul, nI_clamp (show 4 * L < 2 ^ 31 by omega)]
      refine ⟨(vp_nI (by omega)).mpr (by omega), ?_⟩
      rintro S5 rfl
      rw [up2_nR, show nR (upN (upN α 0 0 0) 18 (4 * L) l1) 0 29 = nI L by rw [hL]; rfl, pk_mul, nI_1, nI_clamp (show 4 * L + 1 < 2 ^ 31 by omega)]
      refine ⟨(vp_nI (by omega)).mpr (by omega), ?_⟩
      rintro S7 rfl
      rw [up2_nR, show nR (upN (upN (upN α 0 0 0) 18 (4 * L) l1) 18 (4 * L + 1) l2) 0 29 = nI L by rw [hL]; rfl, pk_mul, show (2 : Int32) = nI 2 from rfl, nI_add, nI_clamp (show 4 * L + 2 < 2 ^ 31 by omega)]
      refine ⟨(vp_nI (by omega)).mpr (by omega), ?_⟩
      rintro S9 rfl
      rw [up2_nR, show nR (upN (upN (upN (upN α 0 0 0) 18 (4 * L) l1) 18 (4 * L + 1) l2) 18 (4 * L + 2) l3) 0 29 = nI L by rw [hL]; rfl, pk_mul, show (3 : Int32) = nI 3 from rfl, nI_add, nI_clamp (show 4 * L + 3 < 2 ^ 31 by omega)]
      refine ⟨(vp_nI (by omega)).mpr (by omega), ?_⟩
      rintro S11 rfl S13 rfl
      rw [up2_nR, show nR (upN (upN (upN (upN (upN α 0 0 0) 18 (4 * L) l1) 18 (4 * L + 1) l2) 18 (4 * L + 2) l3) 18 (4 * L + 3) l4) 0 29 = nI L by rw [hL]; rfl, nI_1, up2_nR, nR_at, upN_hit]
      exact hQ
    unfold wX2_append
    rw [e23]
    refine pk_le 64 L (fun q2 => absurd q2 (by omega)) (fun _ => ?_) rfl rfl (by omega) (by omega)
    rw [show (4 : Int32) = nI 4 from rfl, pk_mul]
    rintro x2 rfl
    rw [nI_1, show (2 : Int32) = nI 2 from rfl, show (3 : Int32) = nI 3 from rfl, nI_add, nI_add, nI_clamp (show 4 * L < 2 ^ 31 by omega), nI_clamp (show 4 * L + 1 < 2 ^ 31 by omega), nI_clamp (show 4 * L + 2 < 2 ^ 31 by omega), nI_clamp (show 4 * L + 3 < 2 ^ 31 by omega), n27]
    refine ⟨(vp_nI (by omega)).mpr (by omega), ?_⟩
    rintro S4 rfl
    refine ⟨(vp_nI (by omega)).mpr (by omega), ?_⟩
    rintro S6 rfl
    refine ⟨(vp_nI (by omega)).mpr (by omega), ?_⟩
    rintro S8 rfl
    refine ⟨(vp_nI (by omega)).mpr (by omega), ?_⟩
    rintro S10 rfl S12 rfl
    rw [show up2 (up2 (up2 (up2 S 27 (4 * L) (nI l1)) 27 (4 * L + 1) (nI l2)) 27 (4 * L + 2) (nI l3)) 27 (4 * L + 3) (nI l4) 2 3 = nI L from e23, nI_1, up2_hit]
    exact md _ ⟨rfl, fun _ => rfl, fin⟩
theorem C_count (hN : LN n s b) (gi : Gi s b 0 α z 0 0 (fun _ => True)) (gr : RS s 0 α z S) {i : Nat} (hi : i < 25) {Q : Int32 → (Nat → Nat → Int32) → Prop} {QX : String → (Nat → Nat → Int32) → Prop} (hQ : Q (nI (cv α i)) S) : wX4_count n (nI i) S Q QX := by
  have rm := gr.2.2.2.2.2
  have rc := gr.2.2.2.2.1
  have n28 : n 28 = 8 := hN.2.2.2.2.2.2.2.2.2.2.2.2
  refine ⟨fun q => absurd q (nI_pos (by omega)), fun _ => ⟨fun _ => ?_, fun q => absurd (nI_le (show i ≤ 24 by omega) (by omega)) q⟩⟩
  refine pk_lt i 17 (fun h17 => ?_) (fun h17 => ?_) rfl rfl (by omega) (by omega)
  · refine ⟨fun q => ?_, fun q => ?_, fun q15 q16 => ?_⟩
    · have e : i = 15 := (nI_eq (b := 15) (by omega) (by omega)).mp q
      subst e
      rw [rm.2.2.1]
      exact hQ
    · have e : i = 16 := (nI_eq (b := 16) (by omega) (by omega)).mp q
      subst e
      rw [rm.2.1]
      exact hQ
    · have low : ∀ j, j < 3 → i = j → vp_in (nI i) 3 ∧ Q (S (3 + (nI i).toNatClampNeg) 5) S := fun j hj e => by
        subst e
        rw [nI_clamp (by omega), (gr.1 i hj).2.2.2.2.2.1]
        refine ⟨(vp_nI (by omega)).mpr hj, ?_⟩
        have e : cv α i = α 5 i := by
          unfold cv
          rw [if_pos hj]
        rw [e] at hQ
        exact hQ
      have mid : ∀ j, j < 6 → i = j + 3 → wX1_rowOf n (nI i - 3) S (fun r S9 => (r = none → Q 0 S9) ∧ (∀ g, r = some g → Q (S9 g 1) S9)) := fun j hj e => by
        have e3 : nI i - 3 = nI j := by
          rw [show (3 : Int32) = nI 3 from rfl, pk_sub (by omega), e]
          rfl
        obtain ⟨R, r1, r2, -⟩ := C_rowOf hN gi gr (show j < 7 by omega)
        rw [e3]
        refine r1 _ ⟨fun q => (by simp at q), fun g q => ?_⟩
        obtain rfl := Option.some.inj q
        rw [r2]
        have e4 : cv α i = rz α j := by
          unfold cv
          rw [if_neg (by omega), if_pos (by omega), show i - 3 = j by omega]
        rw [e4] at hQ
        exact hQ
      have hig : ∀ j, j < 3 → i = j + 9 → vp_in (nI i - 9) 3 ∧ Q (S (3 + ((nI i - 9).toNatClampNeg)) 9) S := fun j hj e => by
        have e3 : nI i - 9 = nI j := by
          rw [show (9 : Int32) = nI 9 from rfl, pk_sub (by omega), e]
          rfl
        rw [e3, nI_clamp (by omega), (gr.1 j hj).2.2.2.2.2.2.2.2.2]
        refine ⟨(vp_nI (by omega)).mpr hj, ?_⟩
        have e4 : cv α i = α 16 j := by
          unfold cv
          rw [if_neg (by omega), if_neg (by omega), if_pos (by omega), show i - 9 = j by omega]
        rw [e4] at hQ
        exact hQ
      have lit : ∀ k : Nat, k < 25 → nI i = nI k → i = k := fun k hk q => (nI_eq (by omega) (by omega)).mp q
      refine ⟨fun q => low 0 (by omega) (lit 0 (by omega) q), fun q => low 1 (by omega) (lit 1 (by omega) q), fun q => low 2 (by omega) (lit 2 (by omega) q), fun q => mid 0 (by omega) (lit 3 (by omega) q), fun q => mid 1 (by omega) (lit 4 (by omega) q), fun q => mid 2 (by omega) (lit 5 (by omega) q), fun q => mid 3 (by omega) (lit 6 (by omega) q), fun q => mid 4 (by omega) (lit 7 (by omega) q), fun q => mid 5 (by omega) (lit 8 (by omega) q), fun q => hig 0 (by omega) (lit 9 (by omega) q), fun q => hig 1 (by omega) (lit 10 (by omega) q), fun q => hig 2 (by omega) (lit 11 (by omega) q), fun q => ?_, fun q => ?_, fun q => ?_, fun q0 q1 q2 q3 q4 q5 q6 q7 q8 q9 q10 q11 q12 q13 q14 => ?_⟩
      · have e := lit 12 (by omega) q
        subst e
        rw [rc.1]
        exact hQ
      · have e := lit 13 (by omega) q
        subst e
        rw [rc.2.2.1]
        exact hQ
      · have e := lit 14 (by omega) q
        subst e
        rw [rc.2.1]
        exact hQ
      · exfalso
        have ne : ∀ k : Nat, ¬ nI i = nI k → i ≠ k := fun k h e => h (by rw [e])
        have := ne 0 q0
        have := ne 1 q1
        have := ne 2 q2
        have := ne 3 q3
        have := ne 4 q4
        have := ne 5 q5
        have := ne 6 q6
        have := ne 7 q7
        have := ne 8 q8
        have := ne 9 q9
        have := ne 10 q10
        have := ne 11 q11
        have := ne 12 q12
        have := ne 13 q13
        have := ne 14 q14
        have := ne 15 q15
        have := ne 16 q16
        omega
  · rw [show (17 : Int32) = nI 17 from rfl, pk_sub h17, nI_clamp (by omega), rm.2.2.2.2 _ (by omega)]
    refine ⟨(vp_nI (by omega)).mpr (by omega), ?_⟩
    have e4 : cv α i = α 17 (i - 17) := by
      unfold cv
      rw [if_neg (by omega), if_neg (by omega), if_neg (by omega), if_neg (by omega), if_neg (by omega), if_neg (by omega), if_neg (by omega), if_neg (by omega)]
    rw [e4] at hQ
    exact hQ
theorem M_count {i : Nat} (hi : i < 25) {Q : Int32 → (Nat → Nat → Int32) → Prop} (hQ : Q (nI (cv α i)) (nR (upN α 0 0 0))) : wX5_count (nI i) (nR α) Q := by
  unfold wX5_count
  refine M_in_t (k := 24) (by omega) ⟨i, by omega, rfl⟩ ⟨fun q => (by simp at q), fun _ => ?_⟩
  unfold wX5_count_b16
  rintro S4 rfl
  rw [thr0]
  refine ⟨fun _ => ?_, fun q => absurd (by decide) q⟩
  have e0 : up2 (nR α) 0 0 0 = nR (upN α 0 0 0) := by rw [← nI_0, up2_nR]
  rw [e0]
  refine pk_le 3 i (fun h3 => ?_) (fun h3 => ?_) rfl rfl (by omega) (by omega)
  · refine pk_le 9 i (fun h9 => ?_) (fun h9 => ?_) rfl rfl (by omega) (by omega)
    · refine pk_le 12 i (fun h12 => ?_) (fun h12 => ?_) rfl rfl (by omega) (by omega)
      · have b1 : cv α i = if i = 12 then α 0 23 else if i = 13 then α 0 24 else if i = 14 then α 0 25 else if i = 15 then α 0 26 else if i = 16 then α 0 27 else α 17 (i - 17) := by
          unfold cv
          rw [if_neg (by omega), if_neg (by omega), if_neg (by omega)]
        rw [b1] at hQ
        refine pk_eq i 12 (fun e => ?_) (fun ne => ?_) rfl rfl (by omega) (by omega)
        · rw [if_pos e] at hQ
          exact hQ
        · rw [if_neg ne] at hQ
          refine pk_eq i 13 (fun e => ?_) (fun ne => ?_) rfl rfl (by omega) (by omega)
          · rw [if_pos e] at hQ
            exact hQ
          · rw [if_neg ne] at hQ
            refine pk_eq i 14 (fun e => ?_) (fun ne => ?_) rfl rfl (by omega) (by omega)
            · rw [if_pos e] at hQ
              exact hQ
            · rw [if_neg ne] at hQ
              refine pk_eq i 15 (fun e => ?_) (fun ne => ?_) rfl rfl (by omega) (by omega)
              · rw [if_pos e] at hQ
                exact hQ
              · rw [if_neg ne] at hQ
                refine pk_eq i 16 (fun e => ?_) (fun ne => ?_) rfl rfl (by omega) (by omega)
                · rw [if_pos e] at hQ
                  exact hQ
                · rw [if_neg ne] at hQ
                  rw [show (17 : Int32) = nI 17 from rfl, pk_sub (by omega), nI_clamp (by omega)]
                  exact ⟨(vp_nI (by omega)).mpr (by omega), hQ⟩
      · have e4 : cv α i = α 16 (i - 9) := by
          unfold cv
          rw [if_neg (by omega), if_neg (by omega), if_pos (by omega)]
        rw [e4] at hQ
        rw [show (9 : Int32) = nI 9 from rfl, pk_sub (by omega), nI_clamp (by omega)]
        exact ⟨(vp_nI (by omega)).mpr (by omega), hQ⟩
    · have e4 : cv α i = rz α (i - 3) := by
        unfold cv
        rw [if_neg (by omega), if_pos (by omega)]
      rw [e4] at hQ
      rw [show (3 : Int32) = nI 3 from rfl, pk_sub (by omega)]
      refine M_sizeOf (α := upN α 0 0 0) (by omega) ?_
      have e5 : ∀ k, rz (upN α 0 0 0) k = rz α k := fun k => by
        match k with
        | 0 => rfl
        | 1 => rfl
        | 2 => rfl
        | 3 => rfl
        | 4 => rfl
        | 5 => rfl
        | k + 6 => rfl
      rw [e5]
      exact hQ
  · have e4 : cv α i = α 5 i := by
      unfold cv
      rw [if_pos (by omega)]
    rw [e4] at hQ
    rw [nI_clamp (by omega)]
    exact ⟨(vp_nI (by omega)).mpr (by omega), hQ⟩
theorem O_count (hN : LN n s b) {T : Nat → Nat → Int32} (h : PV s b S T) (a1 : Int32) : op_count n a1 S T (PV s b) := by
  obtain ⟨α, z, rfl, gi, gr, h29⟩ := h
  unfold op_count wL_count
  by_cases h1 : IX 25 a1
  · obtain ⟨i, hi, rfl⟩ := id h1
    exact C_count hN gi gr hi (M_count hi ⟨rfl, fun _ => rfl, PV_thr gi gr h29⟩)
  · have bd : wX5_count a1 (nR α) (fun b1 T1 => wX5_thrown T1 (fun th T2 => th = 1 ∧ ((1 : Int32) = 0 → none = some b1) ∧ PV s b S T2)) := by
      unfold wX5_count
      refine M_in_f (k := 24) (by omega) h1 ⟨fun _ => ?_, fun q => (by simp at q)⟩
      unfold wX5_count_b16
      rintro S4 rfl
      rw [thr0]
      exact ⟨fun q => absurd q (by decide), fun _ => ⟨rfl, fun q => absurd q (by decide), PV_thrI (t := 1) gi gr h29⟩⟩
    refine ⟨fun _ => ⟨rfl, bd⟩, fun q0 => ⟨fun q1 => ?_, fun _ => ⟨rfl, bd⟩⟩⟩
    obtain ⟨m, hm, rfl⟩ := nI_of q0
    rw [show (24 : Int32) = nI 24 from rfl, nI_leI hm (by omega)] at q1
    exact absurd ⟨m, by omega, rfl⟩ h1
end PO8
