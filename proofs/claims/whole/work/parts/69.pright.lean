/-! THE PURE PART: when an instruction is as told -/
def RTn (L : Nat) (a b c : Int32) : Nat → Prop
  | 0 => True
  | 1 => IX 16 a ∧ IX 7 b ∧ IX 8 c
  | 2 => IX 16 a ∧ IX 6 b ∧ (c = -1 ∨ IX 16 c)
  | 3 => IX 16 a ∧ IX 16 b ∧ IX 6 c
  | 4 => IX 16 a ∧ (b = -1 ∨ IX 16 b)
  | 5 => IX 16 a
  | 6 => IX 16 a
  | 7 => IX 8 a
  | 8 => IX 8 a ∧ IX 8 b ∧ IX 8 c
  | 9 => IX 8 a ∧ IX 16 b
  | 10 => IX 16 a ∧ IX (L + 1) b
  | 11 => IX 8 a ∧ IX 8 b ∧ IX (L + 1) c
  | 12 => IX (L + 1) a
  | 13 => IX 16 a ∧ IX 16 b ∧ IX (L + 1) c
  | 14 => IX 16 a ∧ IX 7 b ∧ IX 8 c
  | _ => False
def RT (L : Nat) (w a b c : Int32) : Prop := ∃ i, i < 15 ∧ w = nI i ∧ RTn L a b c i
section PO10
variable {s b : Nat} {α : Nat → Nat → Nat} {z : Nat → Nat} {S T : Nat → Nat → Int32} {n : Nat → Nat} {x : Int32} {Q : Bool → (Nat → Nat → Int32) → Prop}
theorem in_le {k : Nat} {A B : Prop} (hk : k < 2 ^ 31) (hb : IX k x → B) (ha : ¬ IX k x → A) : (x < 0 → A) ∧ (¬ x < 0 → (nI k ≤ x → A) ∧ (¬ nI k ≤ x → B)) := by
  refine ⟨fun q => ha (fun ⟨j, hj, e⟩ => by rw [e] at q; exact absurd q (nI_pos (by omega))), fun q => ?_⟩
  obtain ⟨j, hj, rfl⟩ := nI_of q
  rw [nI_leI hk hj]
  refine ⟨fun q2 => ha (fun ⟨i, hi, e⟩ => ?_), fun q2 => hb ⟨j, by omega, rfl⟩⟩
  have := (nI_eq hj (by omega)).mp e
  omega
theorem in_lt {k : Nat} {A B : Prop} (hk : k < 2 ^ 31) (hb : IX (k + 1) x → B) (ha : ¬ IX (k + 1) x → A) : (x < 0 → A) ∧ (¬ x < 0 → (nI k < x → A) ∧ (¬ nI k < x → B)) := by
  refine ⟨fun q => ha (fun ⟨j, hj, e⟩ => by rw [e] at q; exact absurd q (nI_pos (by omega))), fun q => ?_⟩
  obtain ⟨j, hj, rfl⟩ := nI_of q
  rw [nI_ltI hk hj]
  refine ⟨fun q2 => ha (fun ⟨i, hi, e⟩ => ?_), fun q2 => hb ⟨j, by omega, rfl⟩⟩
  have := (nI_eq hj (by omega)).mp e
  omega
theorem M_root2 (ht : IX 16 x → Q true T) (hf : ¬ IX 16 x → Q false T) : wX5_isRoot x T Q := by
  by_cases h : IX 16 x
  · exact M_rt h (ht h)
  · exact M_rf h (hf h)
theorem M_n2 (ht : IX 7 x → Q true T) (hf : ¬ IX 7 x → Q false T) : wX5_in x 0 6 T Q := by
  by_cases h : IX 7 x
  · exact M_in_t (k := 6) (by omega) h (ht h)
  · exact M_in_f (k := 6) (by omega) h (hf h)
theorem M_num2 (ht : IX 8 x → Q true T) (hf : ¬ IX 8 x → Q false T) : wX5_isNumber x T Q := by
  by_cases h : IX 8 x
  · exact M_in_t (k := 7) (by omega) h (ht h)
  · exact M_in_f (k := 7) (by omega) h (hf h)
theorem M_fld2 (ht : IX 6 x → Q true T) (hf : ¬ IX 6 x → Q false T) : wX5_isField x T Q := by
  by_cases h : IX 6 x
  · exact M_in_t (k := 5) (by omega) h (ht h)
  · exact M_in_f (k := 5) (by omega) h (hf h)
theorem M_plc2 {L : Nat} (hL : T 0 29 = nI L) (hL2 : L ≤ 64) (ht : IX (L + 1) x → Q true T) (hf : ¬ IX (L + 1) x → Q false T) : wX5_isPlace x T Q := by
  unfold wX5_isPlace
  rw [hL]
  by_cases h : IX (L + 1) x
  · exact M_in_t (k := L) (by omega) h (ht h)
  · exact M_in_f (k := L) (by omega) h (hf h)
theorem M_rn2 {P : Prop} (h1 : (x = -1 ∨ IX 16 x) → P) (h2 : ¬ (x = -1 ∨ IX 16 x) → Q false T) (hP : P → Q true T) : (x = (-1 : Int32) → P) ∧ (¬ x = (-1 : Int32) → wX5_isRoot x T (fun r S => (r = false → Q false S) ∧ (r = true → P))) := by
  refine ⟨fun q => h1 (Or.inl q), fun q => M_root2 (fun h => ⟨fun q2 => (by simp at q2), fun _ => h1 (Or.inr h)⟩) (fun h => ⟨fun _ => h2 (fun q2 => q2.elim (fun q3 => q q3) (fun q3 => h q3)), fun q2 => (by simp at q2)⟩)⟩
theorem M_right (hL : α 0 29 ≤ 64) {w a b' c : Int32} (ht : RT (α 0 29) w a b' c → Q true (nR α)) (hf : ¬ RT (α 0 29) w a b' c → Q false (nR α)) : wX5_isRight w a b' c (nR α) Q := by
  have t : ∀ i, i < 15 → w = nI i → RTn (α 0 29) a b' c i → Q true (nR α) := fun i h1 h2 h3 => ht ⟨i, h1, h2, h3⟩
  have f : ∀ i, i < 15 → w = nI i → ¬ RTn (α 0 29) a b' c i → Q false (nR α) := fun i h1 h2 h3 => hf (fun ⟨j, g1, g2, g3⟩ => h3 (by
    have e : i = j := (nI_eq (by omega) (by omega)).mp (h2.symm.trans g2)
    rw [e]
    exact g3))
  unfold wX5_isRight wX5_isRight_b137 wX5_isRight_b190
  refine ⟨fun e => t 0 (by omega) e trivial, fun e => ?_, fun e => ?_, fun e => ?_, fun e => ?_, fun e => ?_, fun e => ?_, fun e => ?_, fun e => ?_, fun e => ?_, fun e => ?_, fun e => ?_, fun e => ?_, fun e => ?_, fun e => ?_, fun q0 q1 q2 q3 q4 q5 q6 q7 q8 q9 q10 q11 q12 q13 q14 => hf ?_⟩
  · exact M_root2 (fun h0 => ⟨fun q => (by simp at q), fun _ => M_n2 (fun h1 => ⟨fun q => (by simp at q), fun _ => M_num2 (fun h2 => ⟨fun q => (by simp at q), fun _ => t 1 (by omega) e ⟨h0, h1, h2⟩⟩) (fun h => ⟨fun _ => f 1 (by omega) e (fun q => h q.2.2), fun q => (by simp at q)⟩)⟩) (fun h => ⟨fun _ => f 1 (by omega) e (fun q => h q.2.1), fun q => (by simp at q)⟩)⟩) (fun h => ⟨fun _ => f 1 (by omega) e (fun q => h q.1), fun q => (by simp at q)⟩)
  · exact M_root2 (fun h0 => ⟨fun q => (by simp at q), fun _ => M_fld2 (fun h1 => ⟨fun q => (by simp at q), fun _ => M_rn2 (P := Q true (nR α)) (fun h2 => t 2 (by omega) e ⟨h0, h1, h2⟩) (fun h => f 2 (by omega) e (fun q => h q.2.2)) (fun h => h)⟩) (fun h => ⟨fun _ => f 2 (by omega) e (fun q => h q.2.1), fun q => (by simp at q)⟩)⟩) (fun h => ⟨fun _ => f 2 (by omega) e (fun q => h q.1), fun q => (by simp at q)⟩)
  · exact M_root2 (fun h0 => ⟨fun q => (by simp at q), fun _ => M_root2 (fun h1 => ⟨fun q => (by simp at q), fun _ => M_fld2 (fun h2 => ⟨fun q => (by simp at q), fun _ => t 3 (by omega) e ⟨h0, h1, h2⟩⟩) (fun h => ⟨fun _ => f 3 (by omega) e (fun q => h q.2.2), fun q => (by simp at q)⟩)⟩) (fun h => ⟨fun _ => f 3 (by omega) e (fun q => h q.2.1), fun q => (by simp at q)⟩)⟩) (fun h => ⟨fun _ => f 3 (by omega) e (fun q => h q.1), fun q => (by simp at q)⟩)
  · exact M_root2 (fun h0 => ⟨fun q => (by simp at q), fun _ => M_rn2 (P := Q true (nR α)) (fun h1 => t 4 (by omega) e ⟨h0, h1⟩) (fun h => f 4 (by omega) e (fun q => h q.2)) (fun h => h)⟩) (fun h => ⟨fun _ => f 4 (by omega) e (fun q => h q.1), fun q => (by simp at q)⟩)
  · exact M_root2 (fun h0 => t 5 (by omega) e h0) (fun h => f 5 (by omega) e (fun q => h q))
  · exact M_root2 (fun h0 => t 6 (by omega) e h0) (fun h => f 6 (by omega) e (fun q => h q))
  · exact M_num2 (fun h0 => t 7 (by omega) e h0) (fun h => f 7 (by omega) e (fun q => h q))
  · exact M_num2 (fun h0 => ⟨fun q => (by simp at q), fun _ => M_num2 (fun h1 => ⟨fun q => (by simp at q), fun _ => M_num2 (fun h2 => ⟨fun q => (by simp at q), fun _ => t 8 (by omega) e ⟨h0, h1, h2⟩⟩) (fun h => ⟨fun _ => f 8 (by omega) e (fun q => h q.2.2), fun q => (by simp at q)⟩)⟩) (fun h => ⟨fun _ => f 8 (by omega) e (fun q => h q.2.1), fun q => (by simp at q)⟩)⟩) (fun h => ⟨fun _ => f 8 (by omega) e (fun q => h q.1), fun q => (by simp at q)⟩)
  · exact M_num2 (fun h0 => ⟨fun q => (by simp at q), fun _ => M_root2 (fun h1 => ⟨fun q => (by simp at q), fun _ => t 9 (by omega) e ⟨h0, h1⟩⟩) (fun h => ⟨fun _ => f 9 (by omega) e (fun q => h q.2), fun q => (by simp at q)⟩)⟩) (fun h => ⟨fun _ => f 9 (by omega) e (fun q => h q.1), fun q => (by simp at q)⟩)
  · exact M_root2 (fun h0 => ⟨fun q => (by simp at q), fun _ => M_plc2 (L := α 0 29) rfl hL (fun h1 => ⟨fun q => (by simp at q), fun _ => t 10 (by omega) e ⟨h0, h1⟩⟩) (fun h => ⟨fun _ => f 10 (by omega) e (fun q => h q.2), fun q => (by simp at q)⟩)⟩) (fun h => ⟨fun _ => f 10 (by omega) e (fun q => h q.1), fun q => (by simp at q)⟩)
  · exact M_num2 (fun h0 => ⟨fun q => (by simp at q), fun _ => M_num2 (fun h1 => ⟨fun q => (by simp at q), fun _ => M_plc2 (L := α 0 29) rfl hL (fun h2 => ⟨fun q => (by simp at q), fun _ => t 11 (by omega) e ⟨h0, h1, h2⟩⟩) (fun h => ⟨fun _ => f 11 (by omega) e (fun q => h q.2.2), fun q => (by simp at q)⟩)⟩) (fun h => ⟨fun _ => f 11 (by omega) e (fun q => h q.2.1), fun q => (by simp at q)⟩)⟩) (fun h => ⟨fun _ => f 11 (by omega) e (fun q => h q.1), fun q => (by simp at q)⟩)
  · exact M_plc2 (L := α 0 29) rfl hL (fun h0 => t 12 (by omega) e h0) (fun h => f 12 (by omega) e (fun q => h q))
  · exact M_root2 (fun h0 => ⟨fun q => (by simp at q), fun _ => M_root2 (fun h1 => ⟨fun q => (by simp at q), fun _ => M_plc2 (L := α 0 29) rfl hL (fun h2 => ⟨fun q => (by simp at q), fun _ => t 13 (by omega) e ⟨h0, h1, h2⟩⟩) (fun h => ⟨fun _ => f 13 (by omega) e (fun q => h q.2.2), fun q => (by simp at q)⟩)⟩) (fun h => ⟨fun _ => f 13 (by omega) e (fun q => h q.2.1), fun q => (by simp at q)⟩)⟩) (fun h => ⟨fun _ => f 13 (by omega) e (fun q => h q.1), fun q => (by simp at q)⟩)
  · exact M_root2 (fun h0 => ⟨fun q => (by simp at q), fun _ => M_n2 (fun h1 => ⟨fun q => (by simp at q), fun _ => M_num2 (fun h2 => ⟨fun q => (by simp at q), fun _ => t 14 (by omega) e ⟨h0, h1, h2⟩⟩) (fun h => ⟨fun _ => f 14 (by omega) e (fun q => h q.2.2), fun q => (by simp at q)⟩)⟩) (fun h => ⟨fun _ => f 14 (by omega) e (fun q => h q.2.1), fun q => (by simp at q)⟩)⟩) (fun h => ⟨fun _ => f 14 (by omega) e (fun q => h q.1), fun q => (by simp at q)⟩)
  · rintro ⟨i, hi, e, -⟩
    match i, hi with
    | 0, _ => exact q0 e
    | 1, _ => exact q1 e
    | 2, _ => exact q2 e
    | 3, _ => exact q3 e
    | 4, _ => exact q4 e
    | 5, _ => exact q5 e
    | 6, _ => exact q6 e
    | 7, _ => exact q7 e
    | 8, _ => exact q8 e
    | 9, _ => exact q9 e
    | 10, _ => exact q10 e
    | 11, _ => exact q11 e
    | 12, _ => exact q12 e
    | 13, _ => exact q13 e
    | 14, _ => exact q14 e
theorem T_any (hq : Q true S) : wX2_isAsTold n 45 x S Q := by
  refine ⟨fun q => absurd q (by decide), fun q => absurd q (by decide), fun q => absurd q (by decide), fun q => absurd q (by decide), fun q => absurd q (by decide), fun q => absurd q (by decide), fun q => absurd q (by decide), fun q => absurd q (by decide), fun q => absurd q (by decide), fun q => absurd q (by decide), fun q => absurd q (by decide), fun q => absurd q (by decide), fun q => absurd q (by decide), fun _ _ _ _ _ _ _ _ _ _ _ _ _ => hq⟩
theorem T_f (ht : IX 6 x → Q true S) (hf : ¬ IX 6 x → Q false S) : wX2_isAsTold n 102 x S Q := by
  refine ⟨fun _ => ?_, fun q => absurd q (by decide), fun q => absurd q (by decide), fun q => absurd q (by decide), fun q => absurd q (by decide), fun q => absurd q (by decide), fun q => absurd q (by decide), fun q => absurd q (by decide), fun q => absurd q (by decide), fun q => absurd q (by decide), fun q => absurd q (by decide), fun q => absurd q (by decide), fun q => absurd q (by decide), fun q _ _ _ _ _ _ _ _ _ _ _ _ => absurd rfl q⟩
  exact in_le (k := 6) (by omega) ht hf
theorem T_i (ht : IX 8 x → Q true S) (hf : ¬ IX 8 x → Q false S) : wX2_isAsTold n 105 x S Q := by
  refine ⟨fun q => absurd q (by decide), fun q => absurd q (by decide), fun q => absurd q (by decide), fun _ => ?_, fun q => absurd q (by decide), fun q => absurd q (by decide), fun q => absurd q (by decide), fun q => absurd q (by decide), fun q => absurd q (by decide), fun q => absurd q (by decide), fun q => absurd q (by decide), fun q => absurd q (by decide), fun q => absurd q (by decide), fun _ _ _ q _ _ _ _ _ _ _ _ _ => absurd rfl q⟩
  exact in_le (k := 8) (by omega) ht hf
theorem T_n (ht : IX 7 x → Q true S) (hf : ¬ IX 7 x → Q false S) : wX2_isAsTold n 110 x S Q := by
  refine ⟨fun q => absurd q (by decide), fun q => absurd q (by decide), fun q => absurd q (by decide), fun q => absurd q (by decide), fun q => absurd q (by decide), fun q => absurd q (by decide), fun q => absurd q (by decide), fun q => absurd q (by decide), fun _ => ?_, fun q => absurd q (by decide), fun q => absurd q (by decide), fun q => absurd q (by decide), fun q => absurd q (by decide), fun _ _ _ _ _ _ _ _ q _ _ _ _ => absurd rfl q⟩
  exact in_lt (k := 6) (by omega) ht hf
theorem T_p {L : Nat} (h23 : S 2 3 = nI L) (hL : L ≤ 64) (ht : IX (L + 1) x → Q true S) (hf : ¬ IX (L + 1) x → Q false S) : wX2_isAsTold n 112 x S Q := by
  refine ⟨fun q => absurd q (by decide), fun q => absurd q (by decide), fun q => absurd q (by decide), fun q => absurd q (by decide), fun q => absurd q (by decide), fun q => absurd q (by decide), fun q => absurd q (by decide), fun q => absurd q (by decide), fun q => absurd q (by decide), fun q => absurd q (by decide), fun _ => ?_, fun q => absurd q (by decide), fun q => absurd q (by decide), fun _ _ _ _ _ _ _ _ _ _ q _ _ => absurd rfl q⟩
  rw [h23]
  exact in_lt (by omega) ht hf
theorem C_root2 (ht : IX 16 x → Q true S) (hf : ¬ IX 16 x → Q false S) : wX4_isRoot n x S Q := by
  by_cases h : IX 16 x
  · exact C_rt h (ht h)
  · exact C_rf h (hf h)
theorem T_q (ht : (x = -1 ∨ IX 16 x) → Q true S) (hf : ¬ (x = -1 ∨ IX 16 x) → Q false S) : wX2_isAsTold n 113 x S Q := by
  refine ⟨fun q => absurd q (by decide), fun q => absurd q (by decide), fun q => absurd q (by decide), fun q => absurd q (by decide), fun q => absurd q (by decide), fun q => absurd q (by decide), fun q => absurd q (by decide), fun q => absurd q (by decide), fun q => absurd q (by decide), fun q => absurd q (by decide), fun q => absurd q (by decide), fun _ => ?_, fun q => absurd q (by decide), fun _ _ _ _ _ _ _ _ _ _ _ q _ => absurd rfl q⟩
  refine ⟨fun q => ht (Or.inl q), fun q => C_root2 (fun h => ⟨fun q2 => (by simp at q2), fun _ => ht (Or.inr h)⟩) (fun h => ⟨fun _ => hf (fun q2 => q2.elim (fun q3 => q q3) (fun q3 => h q3)), fun q2 => (by simp at q2)⟩)⟩
theorem T_r (ht : IX 16 x → Q true S) (hf : ¬ IX 16 x → Q false S) : wX2_isAsTold n 114 x S Q := by
  refine ⟨fun q => absurd q (by decide), fun q => absurd q (by decide), fun q => absurd q (by decide), fun q => absurd q (by decide), fun q => absurd q (by decide), fun q => absurd q (by decide), fun q => absurd q (by decide), fun q => absurd q (by decide), fun q => absurd q (by decide), fun q => absurd q (by decide), fun q => absurd q (by decide), fun q => absurd q (by decide), fun _ => ?_, fun _ _ _ _ _ _ _ _ _ _ _ _ q => absurd rfl q⟩
  exact C_root2 ht hf
theorem C_wr1 {i p j f : Nat} (hi : i < 15) (hp : p < 64) (hj : j < 3) (h24 : S 2 4 = nI p) (n27 : n 27 = 256) {P : Prop} (t : ∀ Q : Bool → (Nat → Nat → Int32) → Prop, (P → Q true S) → (¬ P → Q false S) → wX2_isAsTold n (toldAt (nI (4 * i + j))) (S 27 (4 * p + 1 + j)) S Q) (hf : ¬ P → Q true S) (ht : P → wX2_isWrong_b26 n f (nI (j + 1)) (nI i) S Q) : wX2_isWrong_b26 n (f + 1) (nI j) (nI i) S Q := by
  rw [wX2_isWrong_b26]
  refine ⟨fun q => absurd q (by rw [show (3 : Int32) = nI 3 from rfl, nI_leI (by omega) (by omega)]; omega), fun _ => ?_⟩
  rw [h24, show (4 : Int32) = nI 4 from rfl, pk_mul, pk_mul, nI_1, nI_add, nI_add, nI_clamp (show 4 * p + 1 + j < 2 ^ 31 by omega), n27]
  refine ⟨(vp_nI (by omega)).mpr (by omega), (vp_nI (by omega)).mpr (by omega), t _ (fun h => ⟨fun q => (by simp at q), fun _ => ?_⟩) (fun h => ⟨fun _ => hf h, fun q => (by simp at q)⟩)⟩
  rintro x10 rfl
  rw [nI_1]
  exact ht h
theorem C_wrong3 {i p : Nat} (hi : i < 15) (hp : p < 64) (h24 : S 2 4 = nI p) (n27 : n 27 = 256) {P0 P1 P2 : Prop} (t0 : ∀ Q : Bool → (Nat → Nat → Int32) → Prop, (P0 → Q true S) → (¬ P0 → Q false S) → wX2_isAsTold n (toldAt (nI (4 * i + 0))) (S 27 (4 * p + 1 + 0)) S Q) (t1 : ∀ Q : Bool → (Nat → Nat → Int32) → Prop, (P1 → Q true S) → (¬ P1 → Q false S) → wX2_isAsTold n (toldAt (nI (4 * i + 1))) (S 27 (4 * p + 1 + 1)) S Q) (t2 : ∀ Q : Bool → (Nat → Nat → Int32) → Prop, (P2 → Q true S) → (¬ P2 → Q false S) → wX2_isAsTold n (toldAt (nI (4 * i + 2))) (S 27 (4 * p + 1 + 2)) S Q) (ht : P0 ∧ P1 ∧ P2 → Q false S) (hf : ¬ (P0 ∧ P1 ∧ P2) → Q true S) : wX2_isWrong_b26 n 4 (nI 0) (nI i) S Q := by
  refine C_wr1 hi hp (by omega) h24 n27 t0 (fun h => hf (fun q => h q.1)) (fun h0 => ?_)
  refine C_wr1 hi hp (by omega) h24 n27 t1 (fun h => hf (fun q => h q.2.1)) (fun h1 => ?_)
  refine C_wr1 hi hp (by omega) h24 n27 t2 (fun h => hf (fun q => h q.2.2)) (fun h2 => ?_)
  rw [wX2_isWrong_b26]
  exact ⟨fun _ => ht ⟨h0, h1, h2⟩, fun q => absurd (by decide) q⟩
theorem C_wrong {p L : Nat} (h24 : S 2 4 = nI p) (h23 : S 2 3 = nI L) (hp : p < 64) (hL : L ≤ 64) (n27 : n 27 = 256) {w a b' c : Int32} (ew : S 27 (4 * p) = w) (ea : S 27 (4 * p + 1 + 0) = a) (eb : S 27 (4 * p + 1 + 1) = b') (ec : S 27 (4 * p + 1 + 2) = c) (ht : RT L w a b' c → Q false S) (hf : ¬ RT L w a b' c → Q true S) : wX2_isWrong n S Q := by
  unfold wX2_isWrong
  rw [h24, show (4 : Int32) = nI 4 from rfl, pk_mul, nI_clamp (show 4 * p < 2 ^ 31 by omega), n27, ew]
  refine ⟨(vp_nI (by omega)).mpr (by omega), ?_⟩
  rintro x1 rfl
  refine ⟨fun q => hf (fun ⟨i, hi, e, _⟩ => by rw [e] at q; exact absurd q (nI_pos (by omega))), fun q => ⟨fun q2 => ⟨4, ?_⟩, fun q2 => hf (fun ⟨i, hi, e, _⟩ => by rw [e] at q2; exact absurd (nI_le (show i ≤ 14 by omega) (by omega)) q2)⟩⟩
  obtain ⟨i, hi, e⟩ := nI_of q
  rw [e, show (14 : Int32) = nI 14 from rfl, nI_leI hi (by omega)] at q2
  have t : RTn L a b' c i → Q false S := fun h => ht ⟨i, by omega, e, h⟩
  have f : ¬ RTn L a b' c i → Q true S := fun h => hf (fun ⟨j, g1, g2, g3⟩ => h (by
    have e : i = j := (nI_eq hi (by omega)).mp (e.symm.trans g2)
    rw [e]
    exact g3))
  rw [e, ← nI_0]
  have hi' : i < 15 := by omega
  clear ht hf e q q2 hi
  match i, hi' with
  | 0, hi' =>
    exact C_wrong3 hi' hp h24 n27 (P0 := True) (P1 := True) (P2 := True) (fun Q q1 q2 => by rw [show toldAt (nI (4 * 0 + 0)) = 45 from by decide, ea]; exact T_any (q1 trivial)) (fun Q q1 q2 => by rw [show toldAt (nI (4 * 0 + 1)) = 45 from by decide, eb]; exact T_any (q1 trivial)) (fun Q q1 q2 => by rw [show toldAt (nI (4 * 0 + 2)) = 45 from by decide, ec]; exact T_any (q1 trivial)) (fun q => t trivial) (fun q => f (fun h => q ⟨trivial, trivial, trivial⟩))
  | 1, hi' =>
    exact C_wrong3 hi' hp h24 n27 (P0 := IX 16 a) (P1 := IX 7 b') (P2 := IX 8 c) (fun Q q1 q2 => by rw [show toldAt (nI (4 * 1 + 0)) = 114 from by decide, ea]; exact T_r q1 q2) (fun Q q1 q2 => by rw [show toldAt (nI (4 * 1 + 1)) = 110 from by decide, eb]; exact T_n q1 q2) (fun Q q1 q2 => by rw [show toldAt (nI (4 * 1 + 2)) = 105 from by decide, ec]; exact T_i q1 q2) (fun q => t q) (fun q => f (fun h => q h))
  | 2, hi' =>
    exact C_wrong3 hi' hp h24 n27 (P0 := IX 16 a) (P1 := IX 6 b') (P2 := (c = -1 ∨ IX 16 c)) (fun Q q1 q2 => by rw [show toldAt (nI (4 * 2 + 0)) = 114 from by decide, ea]; exact T_r q1 q2) (fun Q q1 q2 => by rw [show toldAt (nI (4 * 2 + 1)) = 102 from by decide, eb]; exact T_f q1 q2) (fun Q q1 q2 => by rw [show toldAt (nI (4 * 2 + 2)) = 113 from by decide, ec]; exact T_q q1 q2) (fun q => t q) (fun q => f (fun h => q h))
  | 3, hi' =>
    exact C_wrong3 hi' hp h24 n27 (P0 := IX 16 a) (P1 := IX 16 b') (P2 := IX 6 c) (fun Q q1 q2 => by rw [show toldAt (nI (4 * 3 + 0)) = 114 from by decide, ea]; exact T_r q1 q2) (fun Q q1 q2 => by rw [show toldAt (nI (4 * 3 + 1)) = 114 from by decide, eb]; exact T_r q1 q2) (fun Q q1 q2 => by rw [show toldAt (nI (4 * 3 + 2)) = 102 from by decide, ec]; exact T_f q1 q2) (fun q => t q) (fun q => f (fun h => q h))
  | 4, hi' =>
    exact C_wrong3 hi' hp h24 n27 (P0 := IX 16 a) (P1 := (b' = -1 ∨ IX 16 b')) (P2 := True) (fun Q q1 q2 => by rw [show toldAt (nI (4 * 4 + 0)) = 114 from by decide, ea]; exact T_r q1 q2) (fun Q q1 q2 => by rw [show toldAt (nI (4 * 4 + 1)) = 113 from by decide, eb]; exact T_q q1 q2) (fun Q q1 q2 => by rw [show toldAt (nI (4 * 4 + 2)) = 45 from by decide, ec]; exact T_any (q1 trivial)) (fun q => t ⟨q.1, q.2.1⟩) (fun q => f (fun h => q ⟨h.1, h.2, trivial⟩))
  | 5, hi' =>
    exact C_wrong3 hi' hp h24 n27 (P0 := IX 16 a) (P1 := True) (P2 := True) (fun Q q1 q2 => by rw [show toldAt (nI (4 * 5 + 0)) = 114 from by decide, ea]; exact T_r q1 q2) (fun Q q1 q2 => by rw [show toldAt (nI (4 * 5 + 1)) = 45 from by decide, eb]; exact T_any (q1 trivial)) (fun Q q1 q2 => by rw [show toldAt (nI (4 * 5 + 2)) = 45 from by decide, ec]; exact T_any (q1 trivial)) (fun q => t q.1) (fun q => f (fun h => q ⟨h, trivial, trivial⟩))
  | 6, hi' =>
    exact C_wrong3 hi' hp h24 n27 (P0 := IX 16 a) (P1 := True) (P2 := True) (fun Q q1 q2 => by rw [show toldAt (nI (4 * 6 + 0)) = 114 from by decide, ea]; exact T_r q1 q2) (fun Q q1 q2 => by rw [show toldAt (nI (4 * 6 + 1)) = 45 from by decide, eb]; exact T_any (q1 trivial)) (fun Q q1 q2 => by rw [show toldAt (nI (4 * 6 + 2)) = 45 from by decide, ec]; exact T_any (q1 trivial)) (fun q => t q.1) (fun q => f (fun h => q ⟨h, trivial, trivial⟩))
  | 7, hi' =>
    exact C_wrong3 hi' hp h24 n27 (P0 := IX 8 a) (P1 := True) (P2 := True) (fun Q q1 q2 => by rw [show toldAt (nI (4 * 7 + 0)) = 105 from by decide, ea]; exact T_i q1 q2) (fun Q q1 q2 => by rw [show toldAt (nI (4 * 7 + 1)) = 45 from by decide, eb]; exact T_any (q1 trivial)) (fun Q q1 q2 => by rw [show toldAt (nI (4 * 7 + 2)) = 45 from by decide, ec]; exact T_any (q1 trivial)) (fun q => t q.1) (fun q => f (fun h => q ⟨h, trivial, trivial⟩))
  | 8, hi' =>
    exact C_wrong3 hi' hp h24 n27 (P0 := IX 8 a) (P1 := IX 8 b') (P2 := IX 8 c) (fun Q q1 q2 => by rw [show toldAt (nI (4 * 8 + 0)) = 105 from by decide, ea]; exact T_i q1 q2) (fun Q q1 q2 => by rw [show toldAt (nI (4 * 8 + 1)) = 105 from by decide, eb]; exact T_i q1 q2) (fun Q q1 q2 => by rw [show toldAt (nI (4 * 8 + 2)) = 105 from by decide, ec]; exact T_i q1 q2) (fun q => t q) (fun q => f (fun h => q h))
  | 9, hi' =>
    exact C_wrong3 hi' hp h24 n27 (P0 := IX 8 a) (P1 := IX 16 b') (P2 := True) (fun Q q1 q2 => by rw [show toldAt (nI (4 * 9 + 0)) = 105 from by decide, ea]; exact T_i q1 q2) (fun Q q1 q2 => by rw [show toldAt (nI (4 * 9 + 1)) = 114 from by decide, eb]; exact T_r q1 q2) (fun Q q1 q2 => by rw [show toldAt (nI (4 * 9 + 2)) = 45 from by decide, ec]; exact T_any (q1 trivial)) (fun q => t ⟨q.1, q.2.1⟩) (fun q => f (fun h => q ⟨h.1, h.2, trivial⟩))
  | 10, hi' =>
    exact C_wrong3 hi' hp h24 n27 (P0 := IX 16 a) (P1 := IX (L + 1) b') (P2 := True) (fun Q q1 q2 => by rw [show toldAt (nI (4 * 10 + 0)) = 114 from by decide, ea]; exact T_r q1 q2) (fun Q q1 q2 => by rw [show toldAt (nI (4 * 10 + 1)) = 112 from by decide, eb]; exact T_p h23 hL q1 q2) (fun Q q1 q2 => by rw [show toldAt (nI (4 * 10 + 2)) = 45 from by decide, ec]; exact T_any (q1 trivial)) (fun q => t ⟨q.1, q.2.1⟩) (fun q => f (fun h => q ⟨h.1, h.2, trivial⟩))
  | 11, hi' =>
    exact C_wrong3 hi' hp h24 n27 (P0 := IX 8 a) (P1 := IX 8 b') (P2 := IX (L + 1) c) (fun Q q1 q2 => by rw [show toldAt (nI (4 * 11 + 0)) = 105 from by decide, ea]; exact T_i q1 q2) (fun Q q1 q2 => by rw [show toldAt (nI (4 * 11 + 1)) = 105 from by decide, eb]; exact T_i q1 q2) (fun Q q1 q2 => by rw [show toldAt (nI (4 * 11 + 2)) = 112 from by decide, ec]; exact T_p h23 hL q1 q2) (fun q => t q) (fun q => f (fun h => q h))
  | 12, hi' =>
    exact C_wrong3 hi' hp h24 n27 (P0 := IX (L + 1) a) (P1 := True) (P2 := True) (fun Q q1 q2 => by rw [show toldAt (nI (4 * 12 + 0)) = 112 from by decide, ea]; exact T_p h23 hL q1 q2) (fun Q q1 q2 => by rw [show toldAt (nI (4 * 12 + 1)) = 45 from by decide, eb]; exact T_any (q1 trivial)) (fun Q q1 q2 => by rw [show toldAt (nI (4 * 12 + 2)) = 45 from by decide, ec]; exact T_any (q1 trivial)) (fun q => t q.1) (fun q => f (fun h => q ⟨h, trivial, trivial⟩))
  | 13, hi' =>
    exact C_wrong3 hi' hp h24 n27 (P0 := IX 16 a) (P1 := IX 16 b') (P2 := IX (L + 1) c) (fun Q q1 q2 => by rw [show toldAt (nI (4 * 13 + 0)) = 114 from by decide, ea]; exact T_r q1 q2) (fun Q q1 q2 => by rw [show toldAt (nI (4 * 13 + 1)) = 114 from by decide, eb]; exact T_r q1 q2) (fun Q q1 q2 => by rw [show toldAt (nI (4 * 13 + 2)) = 112 from by decide, ec]; exact T_p h23 hL q1 q2) (fun q => t q) (fun q => f (fun h => q h))
  | 14, hi' =>
    exact C_wrong3 hi' hp h24 n27 (P0 := IX 16 a) (P1 := IX 7 b') (P2 := IX 8 c) (fun Q q1 q2 => by rw [show toldAt (nI (4 * 14 + 0)) = 114 from by decide, ea]; exact T_r q1 q2) (fun Q q1 q2 => by rw [show toldAt (nI (4 * 14 + 1)) = 110 from by decide, eb]; exact T_n q1 q2) (fun Q q1 q2 => by rw [show toldAt (nI (4 * 14 + 2)) = 105 from by decide, ec]; exact T_i q1 q2) (fun q => t q) (fun q => f (fun h => q h))
end PO10
