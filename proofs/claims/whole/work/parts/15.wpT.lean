/-! what StoreNotes's own methods ask: Q where they return, QX where they throw -/
def wX4_lookAtRoot (n : Nat → Nat) (a0 : Int32) (S : Nat → Nat → Int32) (Q : Unit → (Nat → Nat → Int32) → Prop) (QX : String → (Nat → Nat → Int32) → Prop) : Prop :=
  wX4_isRoot n a0 S (fun r1 S2 => 
  (r1 = false → QX "java/lang/IndexOutOfBoundsException" S2) ∧
  (r1 = true → Q () S2))
def wX4_make (n : Nat → Nat) (a1 : Int32) (a2 : Int32) (a3 : Int32) (a4 : Int32) (S : Nat → Nat → Int32) (Q : Int32 → (Nat → Nat → Int32) → Prop) (QX : String → (Nat → Nat → Int32) → Prop) : Prop :=
  wX4_lookAtRoot n a1 S (fun _ S2 => 
  (a2 < 0 → QX "java/lang/IllegalArgumentException" S2) ∧
  (¬ a2 < 0 → (a2 ≤ 6 → wX1_newObject n a2 a3 a4 S2 (fun r5 S6 => 
      (r5 = 0 → Q r5 S6) ∧
      (¬ r5 = 0 → vp_in a1 (n 16) ∧ ∀ S8, S8 = up2 S6 16 a1.toNatClampNeg r5 → 
        Q r5 S8))) ∧
    (¬ a2 ≤ 6 → QX "java/lang/IllegalArgumentException" S2))) QX
def wX4_push_b26 (n : Nat → Nat) (a1 : Int32) (a2 : Int32) (a3 : Int32) : Nat → Int32 → (Nat → Nat → Int32) → (Int32 → (Nat → Nat → Int32) → Prop) → (String → (Nat → Nat → Int32) → Prop) → Prop
  | 0, _, _, _, _ => False
  | nn + 1, x26_4, S, Q, QX =>
  (a3 ≤ x26_4 → Q a3 S) ∧
  (¬ a3 ≤ x26_4 → wX1_newObject n 2 (a2 + x26_4) 0 S (fun r7 S8 => 
    (r7 = 0 → Q x26_4 S8) ∧
    (¬ r7 = 0 → vp_in a1 (n 16) ∧ wX1_store n r7 0 (S8 16 a1.toNatClampNeg) S8 (fun _ S11 => 
      vp_in a1 (n 16) ∧ ∀ S12, S12 = up2 S11 16 a1.toNatClampNeg r7 → 
      ∀ x14 : Int32, x14 = x26_4 + 1 → wX4_push_b26 n a1 a2 a3  nn x14 S12 Q QX))))
def wX4_push (n : Nat → Nat) (a1 : Int32) (a2 : Int32) (a3 : Int32) (S : Nat → Nat → Int32) (Q : Int32 → (Nat → Nat → Int32) → Prop) (QX : String → (Nat → Nat → Int32) → Prop) : Prop :=
  wX4_lookAtRoot n a1 S (fun _ S2 => 
  (a3 < 1 → QX "java/lang/IllegalArgumentException" S2) ∧
  (¬ a3 < 1 → (a3 ≤ 40 → ∃ f5, wX4_push_b26 n a1 a2 a3  f5 0 S2 Q QX) ∧
    (¬ a3 ≤ 40 → QX "java/lang/IllegalArgumentException" S2))) QX
def wX4_lookAtRootOrNone (n : Nat → Nat) (a0 : Int32) (S : Nat → Nat → Int32) (Q : Unit → (Nat → Nat → Int32) → Prop) (QX : String → (Nat → Nat → Int32) → Prop) : Prop :=
  (a0 = (-1 : Int32) → Q () S) ∧
  (¬ a0 = (-1 : Int32) → wX4_lookAtRoot n a0 S (fun _ S3 => 
    Q () S3) QX)
def wX4_objectOf (n : Nat → Nat) (a1 : Int32) (S : Nat → Nat → Int32) (Q : Int32 → (Nat → Nat → Int32) → Prop) (QX : String → (Nat → Nat → Int32) → Prop) : Prop :=
  vp_in a1 (n 16) ∧ ((S 16 a1.toNatClampNeg) = 0 → QX "java/lang/IllegalStateException" S) ∧
  (¬ (S 16 a1.toNatClampNeg) = 0 → Q (S 16 a1.toNatClampNeg) S)
def wX4_lookAtField (n : Nat → Nat) (a1 : Int32) (a2 : Int32) (S : Nat → Nat → Int32) (Q : Unit → (Nat → Nat → Int32) → Prop) (QX : String → (Nat → Nat → Int32) → Prop) : Prop :=
  wX1_hasField n a1 a2 S (fun r1 S2 => 
  (r1 = false → QX "java/lang/IndexOutOfBoundsException" S2) ∧
  (r1 = true → Q () S2))
def wX4_put (n : Nat → Nat) (a1 : Int32) (a2 : Int32) (a3 : Int32) (S : Nat → Nat → Int32) (Q : Int32 → (Nat → Nat → Int32) → Prop) (QX : String → (Nat → Nat → Int32) → Prop) : Prop :=
  wX4_lookAtRoot n a1 S (fun _ S2 => 
  wX4_lookAtRootOrNone n a3 S2 (fun _ S4 => 
  wX4_objectOf n a1 S4 (fun r5 S6 => 
  wX4_lookAtField n r5 a2 S6 (fun _ S8 => 
  wX1_fieldOf n r5 a2 S8 (fun r9 S10 => 
  wX1_rootOrNull n a3 S10 (fun r11 S12 => 
  wX1_store n r5 a2 r11 S12 (fun _ S14 => 
  Q r9 S14)))) QX) QX) QX) QX
def wX4_get (n : Nat → Nat) (a1 : Int32) (a2 : Int32) (a3 : Int32) (S : Nat → Nat → Int32) (Q : Int32 → (Nat → Nat → Int32) → Prop) (QX : String → (Nat → Nat → Int32) → Prop) : Prop :=
  wX4_lookAtRoot n a1 S (fun _ S2 => 
  wX4_lookAtRoot n a2 S2 (fun _ S4 => 
  wX4_objectOf n a2 S4 (fun r5 S6 => 
  wX4_lookAtField n r5 a3 S6 (fun _ S8 => 
  wX1_fieldOf n r5 a3 S8 (fun r9 S10 => 
  vp_in a1 (n 16) ∧ ∀ S11, S11 = up2 S10 16 a1.toNatClampNeg r9 → 
  vp_in a1 (n 16) ∧ Q (S11 16 a1.toNatClampNeg) S11)) QX) QX) QX) QX
def wX4_move (n : Nat → Nat) (a1 : Int32) (a2 : Int32) (S : Nat → Nat → Int32) (Q : Int32 → (Nat → Nat → Int32) → Prop) (QX : String → (Nat → Nat → Int32) → Prop) : Prop :=
  wX4_lookAtRoot n a1 S (fun _ S2 => 
  wX4_lookAtRootOrNone n a2 S2 (fun _ S4 => 
  wX1_rootOrNull n a2 S4 (fun r5 S6 => 
  vp_in a1 (n 16) ∧ ∀ S7, S7 = up2 S6 16 a1.toNatClampNeg r5 → 
  vp_in a1 (n 16) ∧ Q (S7 16 a1.toNatClampNeg) S7)) QX) QX
def wX4_keep (n : Nat → Nat) (a1 : Int32) (S : Nat → Nat → Int32) (Q : Int32 → (Nat → Nat → Int32) → Prop) (QX : String → (Nat → Nat → Int32) → Prop) : Prop :=
  wX4_lookAtRoot n a1 S (fun _ S2 => 
  wX3_isFull n 7 S2 (fun r3 S4 => 
  (r3 = false → vp_in a1 (n 16) ∧ wX3_add n 7 (S4 16 a1.toNatClampNeg) S4 (fun _ S7 => 
    Q (S7 7 1) S7)) ∧
  (r3 = true → QX "java/lang/IllegalStateException" S4))) QX
def wX4_back (n : Nat → Nat) (a1 : Int32) (S : Nat → Nat → Int32) (Q : Int32 → (Nat → Nat → Int32) → Prop) (QX : String → (Nat → Nat → Int32) → Prop) : Prop :=
  wX4_lookAtRoot n a1 S (fun _ S2 => 
  ((S2 7 1) = 0 → QX "java/lang/IllegalStateException" S2) ∧
  (¬ (S2 7 1) = 0 → wX3_takeLast n 7 S2 (fun r4 S5 => 
    vp_in a1 (n 16) ∧ ∀ S6, S6 = up2 S5 16 a1.toNatClampNeg r4 → 
    vp_in a1 (n 16) ∧ Q (S6 16 a1.toNatClampNeg) S6))) QX
def wX4_lookAtWeakPlace (n : Nat → Nat) (a0 : Int32) (S : Nat → Nat → Int32) (Q : Unit → (Nat → Nat → Int32) → Prop) (QX : String → (Nat → Nat → Int32) → Prop) : Prop :=
  (a0 < 0 → QX "java/lang/IndexOutOfBoundsException" S) ∧
  (¬ a0 < 0 → (a0 < 8 → Q () S) ∧
    (¬ a0 < 8 → QX "java/lang/IndexOutOfBoundsException" S))
def wX4_weak (n : Nat → Nat) (a1 : Int32) (a2 : Int32) (S : Nat → Nat → Int32) (Q : Int32 → (Nat → Nat → Int32) → Prop) (QX : String → (Nat → Nat → Int32) → Prop) : Prop :=
  wX4_lookAtWeakPlace n a1 S (fun _ S2 => 
  wX4_lookAtRoot n a2 S2 (fun _ S4 => 
  vp_in a1 (n 18) ∧ vp_in a2 (n 16) ∧ vp_in a1 (n 18) ∧ ∀ S5, S5 = up2 S4 18 a1.toNatClampNeg (S4 16 a2.toNatClampNeg) → 
  Q (S4 18 a1.toNatClampNeg) S5) QX) QX
def wX4_strong (n : Nat → Nat) (a1 : Int32) (a2 : Int32) (S : Nat → Nat → Int32) (Q : Int32 → (Nat → Nat → Int32) → Prop) (QX : String → (Nat → Nat → Int32) → Prop) : Prop :=
  wX4_lookAtRoot n a1 S (fun _ S2 => 
  wX4_lookAtWeakPlace n a2 S2 (fun _ S4 => 
  vp_in a2 (n 18) ∧ vp_in a1 (n 16) ∧ ∀ S5, S5 = up2 S4 16 a1.toNatClampNeg (S4 18 a2.toNatClampNeg) → 
  vp_in a1 (n 16) ∧ Q (S5 16 a1.toNatClampNeg) S5) QX) QX
def wX4_wish (n : Nat → Nat) (a1 : Int32) (S : Nat → Nat → Int32) (Q : Int32 → (Nat → Nat → Int32) → Prop) (QX : String → (Nat → Nat → Int32) → Prop) : Prop :=
  wX4_lookAtRoot n a1 S (fun _ S2 => 
  ((S2 10 1) = 0 → Q 0 S2) ∧
  (¬ (S2 10 1) = 0 → wX3_takeFirst n 10 S2 (fun r4 S5 => 
    vp_in a1 (n 16) ∧ ∀ S6, S6 = up2 S5 16 a1.toNatClampNeg r4 → 
    vp_in a1 (n 16) ∧ Q (S6 16 a1.toNatClampNeg) S6))) QX
def wX4_collect (n : Nat → Nat) (a1 : Int32) (S : Nat → Nat → Int32) (Q : Int32 → (Nat → Nat → Int32) → Prop) (QX : String → (Nat → Nat → Int32) → Prop) : Prop :=
  (a1 < 0 → QX "java/lang/IllegalArgumentException" S) ∧
  (¬ a1 < 0 → (a1 < 3 → wX1_gather n a1 S (fun r3 S4 => 
      Q r3 S4)) ∧
    (¬ a1 < 3 → QX "java/lang/IllegalArgumentException" S))
def wX4_root (n : Nat → Nat) (a1 : Int32) (S : Nat → Nat → Int32) (Q : Int32 → (Nat → Nat → Int32) → Prop) (QX : String → (Nat → Nat → Int32) → Prop) : Prop :=
  wX4_lookAtRoot n a1 S (fun _ S2 => 
  vp_in a1 (n 16) ∧ Q (S2 16 a1.toNatClampNeg) S2) QX
def wX4_about (n : Nat → Nat) (a1 : Int32) (a2 : Int32) (S : Nat → Nat → Int32) (Q : Int32 → (Nat → Nat → Int32) → Prop) (QX : String → (Nat → Nat → Int32) → Prop) : Prop :=
  wX4_lookAtRoot n a1 S (fun _ S2 => 
  wX4_objectOf n a1 S2 (fun r3 S4 => 
  (a2 = 0 → wX1_fieldsOf n r3 S4 (fun r6 S7 => 
    Q r6 S7)) ∧
  (a2 = 1 → wX1_ageOf n r3 S4 (fun r9 S10 => 
    Q r9 S10)) ∧
  (a2 = 2 → wX1_isKeen n r3 S4 (fun r12 S13 => 
    (r12 = false → Q 0 S13) ∧
    (r12 = true → Q 1 S13))) ∧
  (a2 = 3 → wX1_labelOf n r3 S4 (fun r16 S17 => 
    Q r16 S17)) ∧
  (a2 = 4 → wX1_homeOf n r3 S4 (fun r19 S20 => 
    Q (S20 (3 + r19) 0) S20)) ∧
  (¬ a2 = 0 → ¬ a2 = 1 → ¬ a2 = 2 → ¬ a2 = 3 → ¬ a2 = 4 → wX4_lookAtField n r3 (a2 - 5) S4 (fun _ S23 => 
    wX1_fieldOf n r3 (a2 - 5) S23 (fun r24 S25 => 
    Q r24 S25)) QX)) QX) QX
def wX4_word (n : Nat → Nat) (a1 : Int32) (S : Nat → Nat → Int32) (Q : Int32 → (Nat → Nat → Int32) → Prop) (QX : String → (Nat → Nat → Int32) → Prop) : Prop :=
  wX1_isTaken n a1 S (fun r1 S2 => 
  (r1 = false → QX "java/lang/IndexOutOfBoundsException" S2) ∧
  (r1 = true → vp_in a1 (n 26) ∧ Q (S2 26 a1.toNatClampNeg) S2))
def wX4_row (n : Nat → Nat) (a1 : Int32) (a2 : Int32) (S : Nat → Nat → Int32) (Q : Int32 → (Nat → Nat → Int32) → Prop) (QX : String → (Nat → Nat → Int32) → Prop) : Prop :=
  wX1_rowOf n a1 S (fun r1 S2 => (r1 = none → QX "java/lang/IndexOutOfBoundsException" S2) ∧
  (∀ g4, r1 = some g4 → (a2 < 0 → QX "java/lang/IndexOutOfBoundsException" S2) ∧
    (¬ a2 < 0 → (a2 < (S2 g4 1) → vp_in a2 (n (g4 + 10)) ∧ Q (S2 (g4 + 10) a2.toNatClampNeg) S2) ∧
      (¬ a2 < (S2 g4 1) → QX "java/lang/IndexOutOfBoundsException" S2))))
def wX4_code (n : Nat → Nat) (a1 : Int32) (a2 : Int32) (a3 : Int32) (a4 : Int32) (S : Nat → Nat → Int32) (Q : Int32 → (Nat → Nat → Int32) → Prop) (QX : String → (Nat → Nat → Int32) → Prop) : Prop :=
  ((S 2 3) = 64 → QX "java/lang/IllegalStateException" S) ∧
  (¬ (S 2 3) = 64 → wX2_append n a1 a2 a3 a4 S (fun _ S3 => 
    Q (S3 2 3) S3))
def wX4_run_b98 (n : Nat → Nat) (a1 : Int32) (a2 : Int32) (K55 : Int32 → Int32 → (Nat → Nat → Int32) → Prop) (x98_3 : Int32) (x98_4 : Int32) (S : Nat → Nat → Int32) (Q : Int32 → (Nat → Nat → Int32) → Prop) (QX : String → (Nat → Nat → Int32) → Prop) : Prop :=
  ∀ x18 : Int32, x18 = x98_4 + 1 → K55 x18 x98_3 S
def wX4_run_b81 (n : Nat → Nat) (a1 : Int32) (a2 : Int32) (K55 : Int32 → Int32 → (Nat → Nat → Int32) → Prop) (x81_4 : Int32) (y81_0 : Int32) (S : Nat → Nat → Int32) (Q : Int32 → (Nat → Nat → Int32) → Prop) (QX : String → (Nat → Nat → Int32) → Prop) : Prop :=
  wX2_endBefore n y81_0 S (fun r13 S14 => 
  (r13 = (-1 : Int32) → wX2_step n  S14 (fun r16 S17 => 
    wX4_run_b98 n a1 a2 K55 r16 x81_4 S17 Q QX)) ∧
  (¬ r13 = (-1 : Int32) → wX4_run_b98 n a1 a2 K55 r13 x81_4 S14 Q QX))
def wX4_run_b55 (n : Nat → Nat) (a1 : Int32) (a2 : Int32) : Nat → Int32 → Int32 → (Nat → Nat → Int32) → (Int32 → (Nat → Nat → Int32) → Prop) → (String → (Nat → Nat → Int32) → Prop) → Prop
  | 0, _, _, _, _, _ => False
  | nn + 1, x55_4, x55_3, S, Q, QX =>
  (a2 < x55_4 → Q x55_3 S) ∧
  (¬ a2 < x55_4 → (x55_3 = (-1 : Int32) → (x55_4 = a2 → wX4_run_b81 n a1 a2 (fun z0 z1 T => wX4_run_b55 n a1 a2  nn z0 z1 T Q QX) x55_4 1 S Q QX) ∧
      (¬ x55_4 = a2 → wX4_run_b81 n a1 a2 (fun z0 z1 T => wX4_run_b55 n a1 a2  nn z0 z1 T Q QX) x55_4 0 S Q QX)) ∧
    (¬ x55_3 = (-1 : Int32) → Q x55_3 S))
def wX4_run (n : Nat → Nat) (a1 : Int32) (a2 : Int32) (S : Nat → Nat → Int32) (Q : Int32 → (Nat → Nat → Int32) → Prop) (QX : String → (Nat → Nat → Int32) → Prop) : Prop :=
  (a1 < 0 → QX "java/lang/IndexOutOfBoundsException" S) ∧
  (¬ a1 < 0 → (a1 ≤ (S 2 3) → (a2 < 0 → QX "java/lang/IllegalArgumentException" S) ∧
      (¬ a2 < 0 → (a2 ≤ 400 → ∀ S5, S5 = up2 S 2 4 a1 → 
          ∀ x7 : Int32, x7 = (-1 : Int32) → ∃ f9, wX4_run_b55 n a1 a2  f9 0 x7 S5 Q QX) ∧
        (¬ a2 ≤ 400 → QX "java/lang/IllegalArgumentException" S))) ∧
    (¬ a1 ≤ (S 2 3) → QX "java/lang/IndexOutOfBoundsException" S))
def wX4_count (n : Nat → Nat) (a1 : Int32) (S : Nat → Nat → Int32) (Q : Int32 → (Nat → Nat → Int32) → Prop) (QX : String → (Nat → Nat → Int32) → Prop) : Prop :=
  (a1 < 0 → QX "java/lang/IndexOutOfBoundsException" S) ∧
  (¬ a1 < 0 → (a1 ≤ 24 → (a1 < 17 → (a1 = 15 → Q (S 2 5) S) ∧
        (a1 = 16 → Q (S 2 4) S) ∧
        (¬ a1 = 15 → ¬ a1 = 16 → wX1_countOf n a1 S (fun r6 S7 => 
          Q r6 S7))) ∧
      (¬ a1 < 17 → vp_in (a1 - 17) (n 28) ∧ Q (S 28 ((a1 - 17).toNatClampNeg)) S)) ∧
    (¬ a1 ≤ 24 → QX "java/lang/IndexOutOfBoundsException" S))
