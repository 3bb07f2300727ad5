/-! what each of the class's methods asks of a state and of what comes behind it -/
def wX0_isTaken (n : Nat → Nat) (g0 : Nat) (a1 : Int32) (S : Nat → Nat → Int32) (Q : Bool → (Nat → Nat → Int32) → Prop) : Prop :=
  (a1 < (S (3 + g0) 4) → Q false S) ∧
  (¬ a1 < (S (3 + g0) 4) → (((S (3 + g0) 4) + (S (3 + g0) 5)) ≤ a1 → Q false S) ∧
    (¬ ((S (3 + g0) 4) + (S (3 + g0) 5)) ≤ a1 → Q true S))
def wX0_isInFrom (n : Nat → Nat) (g0 : Nat) (a1 : Int32) (S : Nat → Nat → Int32) (Q : Bool → (Nat → Nat → Int32) → Prop) : Prop :=
  ((S (3 + g0) 6) = 0 → Q false S) ∧
  (¬ (S (3 + g0) 6) = 0 → (a1 < (S (3 + g0) 6) → Q false S) ∧
    (¬ a1 < (S (3 + g0) 6) → (((S (3 + g0) 6) + (S (3 + g0) 2)) ≤ a1 → Q false S) ∧
      (¬ ((S (3 + g0) 6) + (S (3 + g0) 2)) ≤ a1 → Q true S)))
def wX0_fits (n : Nat → Nat) (g0 : Nat) (a1 : Int32) (S : Nat → Nat → Int32) (Q : Bool → (Nat → Nat → Int32) → Prop) : Prop :=
  ((S (3 + g0) 2) < (((S (3 + g0) 5) + (S (3 + g0) 7)) + a1) → Q false S) ∧
  (¬ (S (3 + g0) 2) < (((S (3 + g0) 5) + (S (3 + g0) 7)) + a1) → Q true S)
def wX0_take (n : Nat → Nat) (g0 : Nat) (a1 : Int32) (S : Nat → Nat → Int32) (Q : Int32 → (Nat → Nat → Int32) → Prop) : Prop :=
  ∀ x1 : Int32, x1 = (S (3 + g0) 4) + (S (3 + g0) 5) → ∀ S3, S3 = up2 S (3 + g0) 5 ((S (3 + g0) 5) + a1) → 
  Q x1 S3
def wX0_begin_b56 (n : Nat → Nat) (g0 : Nat) (a1 : Int32)  (S : Nat → Nat → Int32) (Q : Unit → (Nat → Nat → Int32) → Prop) : Prop :=
  ∀ S7, S7 = up2 S (3 + g0) 8 (S (3 + g0) 5) → 
  Q () S7
def wX0_begin_b48 (n : Nat → Nat) (g0 : Nat) (a1 : Int32) (y48_0 : Int32) (y48_1 : Nat) (S : Nat → Nat → Int32) (Q : Unit → (Nat → Nat → Int32) → Prop) : Prop :=
  ∀ S9, S9 = up2 S (3 + y48_1) 4 y48_0 → 
  ∀ S11, S11 = up2 S9 (3 + g0) 5 0 → 
  wX0_begin_b56 n g0 a1   S11 Q
def wX0_begin (n : Nat → Nat) (g0 : Nat) (a1 : Int32) (S : Nat → Nat → Int32) (Q : Unit → (Nat → Nat → Int32) → Prop) : Prop :=
  (a1 = 0 → wX0_begin_b56 n g0 a1   S Q) ∧
  (¬ a1 = 0 → ∀ S2, S2 = up2 S (3 + g0) 6 (S (3 + g0) 4) → 
    ∀ S4, S4 = up2 S2 (3 + g0) 7 (S2 (3 + g0) 5) → 
    ((S4 (3 + g0) 6) = (S4 (3 + g0) 1) → wX0_begin_b48 n g0 a1  ((S4 (3 + g0) 1) + (S4 (3 + g0) 2)) g0 S4 Q) ∧
    (¬ (S4 (3 + g0) 6) = (S4 (3 + g0) 1) → wX0_begin_b48 n g0 a1  (S4 (3 + g0) 1) g0 S4 Q))
def wX0_end (n : Nat → Nat) (g0 : Nat) (S : Nat → Nat → Int32) (Q : Unit → (Nat → Nat → Int32) → Prop) : Prop :=
  ∀ S1, S1 = up2 S (3 + g0) 6 0 → 
  ∀ S3, S3 = up2 S1 (3 + g0) 7 0 → 
  Q () S3
def wX1_fieldsOf (n : Nat → Nat) (a1 : Int32) (S : Nat → Nat → Int32) (Q : Int32 → (Nat → Nat → Int32) → Prop) : Prop :=
  vp_in a1 (n 26) ∧ Q ((S 26 a1.toNatClampNeg) &&& 7) S
def wX1_ageOf (n : Nat → Nat) (a1 : Int32) (S : Nat → Nat → Int32) (Q : Int32 → (Nat → Nat → Int32) → Prop) : Prop :=
  vp_in a1 (n 26) ∧ Q (((S 26 a1.toNatClampNeg) >>> (3 &&& 31)) &&& 7) S
def wX1_isKeen (n : Nat → Nat) (a1 : Int32) (S : Nat → Nat → Int32) (Q : Bool → (Nat → Nat → Int32) → Prop) : Prop :=
  vp_in a1 (n 26) ∧ (((S 26 a1.toNatClampNeg) &&& 64) = 0 → Q false S) ∧
  (¬ ((S 26 a1.toNatClampNeg) &&& 64) = 0 → Q true S)
def wX1_labelOf (n : Nat → Nat) (a1 : Int32) (S : Nat → Nat → Int32) (Q : Int32 → (Nat → Nat → Int32) → Prop) : Prop :=
  vp_in (a1 + 1) (n 26) ∧ Q (S 26 ((a1 + 1).toNatClampNeg)) S
def wX1_hasField (n : Nat → Nat) (a1 : Int32) (a2 : Int32) (S : Nat → Nat → Int32) (Q : Bool → (Nat → Nat → Int32) → Prop) : Prop :=
  (a2 < 0 → Q false S) ∧
  (¬ a2 < 0 → wX1_fieldsOf n a1 S (fun r2 S3 => 
    (r2 ≤ a2 → Q false S3) ∧
    (¬ r2 ≤ a2 → Q true S3)))
def wX1_fieldOf (n : Nat → Nat) (a1 : Int32) (a2 : Int32) (S : Nat → Nat → Int32) (Q : Int32 → (Nat → Nat → Int32) → Prop) : Prop :=
  vp_in ((a1 + 2) + a2) (n 26) ∧ Q (S 26 (((a1 + 2) + a2).toNatClampNeg)) S
def wX1_rootOrNull (n : Nat → Nat) (a1 : Int32) (S : Nat → Nat → Int32) (Q : Int32 → (Nat → Nat → Int32) → Prop) : Prop :=
  (a1 = (-1 : Int32) → Q 0 S) ∧
  (¬ a1 = (-1 : Int32) → vp_in a1 (n 16) ∧ Q (S 16 a1.toNatClampNeg) S)
def wX1_homeOf_b2 (n : Nat → Nat) (a1 : Int32) : Nat → Int32 → (Nat → Nat → Int32) → (Nat → (Nat → Nat → Int32) → Prop) → Prop
  | 0, _, _, _ => False
  | nn + 1, x2_2, S, Q =>
  (x2_2 ≤ 0 → Q 0 S) ∧
  (¬ x2_2 ≤ 0 → vp_in x2_2 3 ∧ (a1 < (S (3 + x2_2.toNatClampNeg) 1) → ∀ x6 : Int32, x6 = x2_2 + (-1) → wX1_homeOf_b2 n a1  nn x6 S Q) ∧
    (¬ a1 < (S (3 + x2_2.toNatClampNeg) 1) → vp_in x2_2 3 ∧ Q x2_2.toNatClampNeg S))
def wX1_homeOf (n : Nat → Nat) (a1 : Int32) (S : Nat → Nat → Int32) (Q : Nat → (Nat → Nat → Int32) → Prop) : Prop :=
  ∃ f1, wX1_homeOf_b2 n a1  f1 2 S Q
def wX1_isTaken (n : Nat → Nat) (a1 : Int32) (S : Nat → Nat → Int32) (Q : Bool → (Nat → Nat → Int32) → Prop) : Prop :=
  wX1_homeOf n a1 S (fun r1 S2 => 
  wX0_isTaken n r1 a1 S2 (fun r4 S5 => 
  Q r4 S5))
def wX1_rowOf (n : Nat → Nat) (a1 : Int32) (S : Nat → Nat → Int32) (Q : Option Nat → (Nat → Nat → Int32) → Prop) : Prop :=
  (a1 = 0 → vp_in a1 2 ∧ Q (some (rrow (S 1 8) a1.toNatClampNeg)) S) ∧
  (a1 = 1 → vp_in a1 2 ∧ Q (some (rrow (S 1 8) a1.toNatClampNeg)) S) ∧
  (a1 = 2 → Q (some 11) S) ∧
  (a1 = 3 → Q (some 7) S) ∧
  (a1 = 4 → Q (some 9) S) ∧
  (a1 = 5 → Q (some 10) S) ∧
  (a1 = 6 → Q (some 8) S) ∧
  (¬ a1 = 0 → ¬ a1 = 1 → ¬ a1 = 2 → ¬ a1 = 3 → ¬ a1 = 4 → ¬ a1 = 5 → ¬ a1 = 6 → Q none S)
def wX1_countOf (n : Nat → Nat) (a1 : Int32) (S : Nat → Nat → Int32) (Q : Int32 → (Nat → Nat → Int32) → Prop) : Prop :=
  (a1 = 0 → vp_in a1 3 ∧ Q (S (3 + a1.toNatClampNeg) 5) S) ∧
  (a1 = 1 → vp_in a1 3 ∧ Q (S (3 + a1.toNatClampNeg) 5) S) ∧
  (a1 = 2 → vp_in a1 3 ∧ Q (S (3 + a1.toNatClampNeg) 5) S) ∧
  (a1 = 3 → wX1_rowOf n (a1 - 3) S (fun r8 S9 => (r8 = none → Q 0 S9) ∧
    (∀ g11, r8 = some g11 → Q (S9 g11 1) S9))) ∧
  (a1 = 4 → wX1_rowOf n (a1 - 3) S (fun r13 S14 => (r13 = none → Q 0 S14) ∧
    (∀ g16, r13 = some g16 → Q (S14 g16 1) S14))) ∧
  (a1 = 5 → wX1_rowOf n (a1 - 3) S (fun r18 S19 => (r18 = none → Q 0 S19) ∧
    (∀ g21, r18 = some g21 → Q (S19 g21 1) S19))) ∧
  (a1 = 6 → wX1_rowOf n (a1 - 3) S (fun r23 S24 => (r23 = none → Q 0 S24) ∧
    (∀ g26, r23 = some g26 → Q (S24 g26 1) S24))) ∧
  (a1 = 7 → wX1_rowOf n (a1 - 3) S (fun r28 S29 => (r28 = none → Q 0 S29) ∧
    (∀ g31, r28 = some g31 → Q (S29 g31 1) S29))) ∧
  (a1 = 8 → wX1_rowOf n (a1 - 3) S (fun r33 S34 => (r33 = none → Q 0 S34) ∧
    (∀ g36, r33 = some g36 → Q (S34 g36 1) S34))) ∧
  (a1 = 9 → vp_in (a1 - 9) 3 ∧ Q (S (3 + ((a1 - 9).toNatClampNeg)) 9) S) ∧
  (a1 = 10 → vp_in (a1 - 9) 3 ∧ Q (S (3 + ((a1 - 9).toNatClampNeg)) 9) S) ∧
  (a1 = 11 → vp_in (a1 - 9) 3 ∧ Q (S (3 + ((a1 - 9).toNatClampNeg)) 9) S) ∧
  (a1 = 12 → Q (S 1 10) S) ∧
  (a1 = 13 → Q (S 1 11) S) ∧
  (a1 = 14 → Q (S 1 12) S) ∧
  (¬ a1 = 0 → ¬ a1 = 1 → ¬ a1 = 2 → ¬ a1 = 3 → ¬ a1 = 4 → ¬ a1 = 5 → ¬ a1 = 6 → ¬ a1 = 7 → ¬ a1 = 8 → ¬ a1 = 9 → ¬ a1 = 10 → ¬ a1 = 11 → ¬ a1 = 12 → ¬ a1 = 13 → ¬ a1 = 14 → wX1_rowOf n (a1 - 3) S (fun r46 S47 => (r46 = none → Q 0 S47) ∧
    (∀ g49, r46 = some g49 → Q (S47 g49 1) S47)))
def wX3_has_b2 (n : Nat → Nat) (r0 : Nat) (a1 : Int32) : Nat → Int32 → (Nat → Nat → Int32) → (Bool → (Nat → Nat → Int32) → Prop) → Prop
  | 0, _, _, _ => False
  | nn + 1, x2_2, S, Q =>
  ((S r0 1) ≤ x2_2 → Q false S) ∧
  (¬ (S r0 1) ≤ x2_2 → vp_in x2_2 (n (r0 + 10)) ∧ ((S (r0 + 10) x2_2.toNatClampNeg) = a1 → Q true S) ∧
    (¬ (S (r0 + 10) x2_2.toNatClampNeg) = a1 → ∀ x4 : Int32, x4 = x2_2 + 1 → wX3_has_b2 n r0 a1  nn x4 S Q))
def wX3_has (n : Nat → Nat) (r0 : Nat) (a1 : Int32) (S : Nat → Nat → Int32) (Q : Bool → (Nat → Nat → Int32) → Prop) : Prop :=
  ∃ f1, wX3_has_b2 n r0 a1  f1 0 S Q
def wX3_add (n : Nat → Nat) (r0 : Nat) (a1 : Int32) (S : Nat → Nat → Int32) (Q : Unit → (Nat → Nat → Int32) → Prop) : Prop :=
  ((nI (n (r0 + 10))) ≤ (S r0 1) → Q () S) ∧
  (¬ (nI (n (r0 + 10))) ≤ (S r0 1) → vp_in (S r0 1) (n (r0 + 10)) ∧ ∀ S2, S2 = up2 S (r0 + 10) ((S r0 1).toNatClampNeg) a1 → 
    ∀ S4, S4 = up2 S2 r0 1 ((S2 r0 1) + 1) → 
    Q () S4)
def wX1_remember (n : Nat → Nat) (a1 : Int32) (S : Nat → Nat → Int32) (Q : Unit → (Nat → Nat → Int32) → Prop) : Prop :=
  vp_in a1 (n 26) ∧ ((S 26 a1.toNatClampNeg) = 0 → Q () S) ∧
  (¬ (S 26 a1.toNatClampNeg) = 0 → wX1_homeOf n (S 26 a1.toNatClampNeg) S (fun r2 S3 => 
    ∀ x5 : Int32, x5 = S3 (3 + r2) 0 → wX1_homeOf n a1 S3 (fun r7 S8 => 
    ((S8 (3 + r7) 0) ≤ x5 → Q () S8) ∧
    (¬ (S8 (3 + r7) 0) ≤ x5 → vp_in x5 2 ∧ wX3_has n (rrow (S8 1 8) x5.toNatClampNeg) a1 S8 (fun r12 S13 => 
      (r12 = false → vp_in x5 2 ∧ wX3_add n (rrow (S13 1 8) x5.toNatClampNeg) a1 S13 (fun _ S17 => 
        Q () S17)) ∧
      (r12 = true → Q () S13))))))
def wX1_filter_b2 (n : Nat → Nat)  : Nat → Int32 → (Nat → Nat → Int32) → (Unit → (Nat → Nat → Int32) → Prop) → Prop
  | 0, _, _, _ => False
  | nn + 1, x2_1, S, Q =>
  ((S 11 1) ≤ x2_1 → ∀ S3, S3 = up2 S 11 1 0 → 
    Q () S3) ∧
  (¬ (S 11 1) ≤ x2_1 → vp_in x2_1 (n 21) ∧ wX1_remember n (S 21 x2_1.toNatClampNeg) S (fun _ S6 => 
    ∀ x7 : Int32, x7 = x2_1 + 1 → wX1_filter_b2 n   nn x7 S6 Q))
def wX1_filter (n : Nat → Nat)  (S : Nat → Nat → Int32) (Q : Unit → (Nat → Nat → Int32) → Prop) : Prop :=
  ∃ f1, wX1_filter_b2 n   f1 0 S Q
def wX1_putRowsAside (n : Nat → Nat)  (S : Nat → Nat → Int32) (Q : Unit → (Nat → Nat → Int32) → Prop) : Prop :=
  ∀ S1, S1 = up2 S 1 9 (S 1 8) → 
  ∀ S3, S3 = up2 S1 1 8 (S 1 9) → 
  ∀ S6, S6 = up2 S3 (rrow (S3 1 8) 0) 1 0 → 
  ∀ S9, S9 = up2 S6 (rrow (S6 1 8) 1) 1 0 → 
  Q () S9
def wX1_brought_b125 (n : Nat → Nat) (a1 : Int32) (x125_4 : Int32) (x125_3 : Int32) (x125_2 : Nat) (S : Nat → Nat → Int32) (Q : Int32 → (Nat → Nat → Int32) → Prop) : Prop :=
  wX0_take n x125_2 x125_3 S (fun r27 S28 => 
  (¬ a1 < 0 ∧ ¬ r27 < 0 ∧ ¬ x125_3 < 0 ∧ a1.toNatClampNeg + x125_3.toNatClampNeg ≤ n 26 ∧ r27.toNatClampNeg + x125_3.toNatClampNeg ≤ n 26) ∧ ∀ S29, S29 = upR S28 26 (va_cpy (S28 26) (S28 26) a1.toNatClampNeg r27.toNatClampNeg x125_3.toNatClampNeg) → 
  vp_in a1 (n 26) ∧ vp_in r27 (n 26) ∧ ∀ S31, S31 = up2 S29 26 r27.toNatClampNeg (((S29 26 a1.toNatClampNeg) &&& (-57 : Int32)) ||| (x125_4 <<< (3 &&& 31))) → 
  vp_in a1 (n 26) ∧ ∀ S33, S33 = up2 S31 26 a1.toNatClampNeg (-r27) → 
  ∀ S35, S35 = up2 S33 1 11 ((S33 1 11) + x125_3) → 
  Q r27 S35)
def wX1_brought (n : Nat → Nat) (a1 : Int32) (S : Nat → Nat → Int32) (Q : Int32 → (Nat → Nat → Int32) → Prop) : Prop :=
  wX1_homeOf n a1 S (fun r1 S2 => 
  wX0_isInFrom n r1 a1 S2 (fun r4 S5 => 
  (r4 = false → Q a1 S5) ∧
  (r4 = true → vp_in a1 (n 26) ∧ (0 ≤ (S5 26 a1.toNatClampNeg) → wX1_fieldsOf n a1 S5 (fun r8 S9 => 
      ∀ x10 : Int32, x10 = 2 + r8 → wX1_ageOf n a1 S9 (fun r12 S13 => 
      ∀ x14 : Int32, x14 = (if 7 < (r12 + 1) then 7 else (r12 + 1)) → ∀ S16, S16 = up2 S13 (3 + r1) 7 ((S13 (3 + r1) 7) - x10) → 
      (2 ≤ (S16 (3 + r1) 0) → wX1_brought_b125 n a1  x14 x10 r1 S16 Q) ∧
      (¬ 2 ≤ (S16 (3 + r1) 0) → (x14 ≤ (S16 (3 + r1) 3) → wX1_brought_b125 n a1  x14 x10 r1 S16 Q) ∧
        (¬ x14 ≤ (S16 (3 + r1) 3) → vp_in ((S16 (3 + r1) 0) + 1) 3 ∧ wX0_fits n (((S16 (3 + r1) 0) + 1).toNatClampNeg) x10 S16 (fun r21 S22 => 
          (r21 = false → wX1_brought_b125 n a1  x14 x10 r1 S22 Q) ∧
          (r21 = true → vp_in ((S22 (3 + r1) 0) + 1) 3 ∧ ∀ S25, S25 = up2 S22 1 12 ((S22 1 12) + 1) → 
            wX1_brought_b125 n a1  0 x10 (((S22 (3 + r1) 0) + 1).toNatClampNeg) S25 Q))))))) ∧
    (¬ 0 ≤ (S5 26 a1.toNatClampNeg) → vp_in a1 (n 26) ∧ Q (-(S5 26 a1.toNatClampNeg)) S5))))
def wX1_bringAll_b2 (n : Nat → Nat) (r1 : Nat) : Nat → Int32 → (Nat → Nat → Int32) → (Unit → (Nat → Nat → Int32) → Prop) → Prop
  | 0, _, _, _ => False
  | nn + 1, x2_2, S, Q =>
  ((S r1 1) ≤ x2_2 → Q () S) ∧
  (¬ (S r1 1) ≤ x2_2 → vp_in x2_2 (n (r1 + 10)) ∧ wX1_brought n (S (r1 + 10) x2_2.toNatClampNeg) S (fun r3 S4 => 
    vp_in x2_2 (n (r1 + 10)) ∧ ∀ S5, S5 = up2 S4 (r1 + 10) x2_2.toNatClampNeg r3 → 
    ∀ x7 : Int32, x7 = x2_2 + 1 → wX1_bringAll_b2 n r1  nn x7 S5 Q))
def wX1_bringAll (n : Nat → Nat) (r1 : Nat) (S : Nat → Nat → Int32) (Q : Unit → (Nat → Nat → Int32) → Prop) : Prop :=
  ∃ f1, wX1_bringAll_b2 n r1  f1 0 S Q
def wX1_bringRemembered_b55 (n : Nat → Nat) (r1 : Nat) (a2 : Int32) (K2 : Int32 → (Nat → Nat → Int32) → Prop) (x55_3 : Int32) (S : Nat → Nat → Int32) (Q : Unit → (Nat → Nat → Int32) → Prop) : Prop :=
  ∀ x15 : Int32, x15 = x55_3 + 1 → K2 x15 S
def wX1_bringRemembered_b2 (n : Nat → Nat) (r1 : Nat) (a2 : Int32) : Nat → Int32 → (Nat → Nat → Int32) → (Unit → (Nat → Nat → Int32) → Prop) → Prop
  | 0, _, _, _ => False
  | nn + 1, x2_3, S, Q =>
  ((S r1 1) ≤ x2_3 → Q () S) ∧
  (¬ (S r1 1) ≤ x2_3 → vp_in x2_3 (n (r1 + 10)) ∧ ∀ x3 : Int32, x3 = S (r1 + 10) x2_3.toNatClampNeg → wX1_homeOf n x3 S (fun r5 S6 => 
    ((S6 (3 + r5) 0) ≤ a2 → wX1_bringRemembered_b55 n r1 a2 (fun z0 T => wX1_bringRemembered_b2 n r1 a2  nn z0 T Q) x2_3 S6 Q) ∧
    (¬ (S6 (3 + r5) 0) ≤ a2 → vp_in x3 (n 26) ∧ wX1_brought n (S6 26 x3.toNatClampNeg) S6 (fun r9 S10 => 
      vp_in x3 (n 26) ∧ ∀ S11, S11 = up2 S10 26 x3.toNatClampNeg r9 → 
      wX1_remember n x3 S11 (fun _ S14 => 
      wX1_bringRemembered_b55 n r1 a2 (fun z0 T => wX1_bringRemembered_b2 n r1 a2  nn z0 T Q) x2_3 S14 Q)))))
def wX1_bringRemembered (n : Nat → Nat) (r1 : Nat) (a2 : Int32) (S : Nat → Nat → Int32) (Q : Unit → (Nat → Nat → Int32) → Prop) : Prop :=
  ∃ f1, wX1_bringRemembered_b2 n r1 a2  f1 0 S Q
def wX1_leastUnscanned_b2 (n : Nat → Nat)  : Nat → Int32 → (Nat → Nat → Int32) → (Option Nat → (Nat → Nat → Int32) → Prop) → Prop
  | 0, _, _, _ => False
  | nn + 1, x2_1, S, Q =>
  (3 ≤ x2_1 → Q none S) ∧
  (¬ 3 ≤ x2_1 → vp_in x2_1 3 ∧ vp_in x2_1 3 ∧ ((S (3 + x2_1.toNatClampNeg) 5) ≤ (S (3 + x2_1.toNatClampNeg) 8) → ∀ x6 : Int32, x6 = x2_1 + 1 → wX1_leastUnscanned_b2 n   nn x6 S Q) ∧
    (¬ (S (3 + x2_1.toNatClampNeg) 5) ≤ (S (3 + x2_1.toNatClampNeg) 8) → vp_in x2_1 3 ∧ Q (some x2_1.toNatClampNeg) S))
def wX1_leastUnscanned (n : Nat → Nat)  (S : Nat → Nat → Int32) (Q : Option Nat → (Nat → Nat → Int32) → Prop) : Prop :=
  ∃ f1, wX1_leastUnscanned_b2 n   f1 0 S Q
def wX1_scan_b47 (n : Nat → Nat)  (K2 : Int32 → (Nat → Nat → Int32) → Prop) : Nat → Int32 → Int32 → Int32 → Nat → Int32 → (Nat → Nat → Int32) → (Unit → (Nat → Nat → Int32) → Prop) → Prop
  | 0, _, _, _, _, _, _, _ => False
  | nn + 1, x47_5, x47_4, x47_3, x47_2, x47_1, S, Q =>
  (x47_4 ≤ x47_5 → ∀ S17, S17 = up2 S (3 + x47_2) 8 ((S (3 + x47_2) 8) + (x47_4 - x47_3)) → 
    ∀ x19 : Int32, x19 = x47_1 + 1 → K2 x19 S17) ∧
  (¬ x47_4 ≤ x47_5 → vp_in x47_5 (n 26) ∧ wX1_brought n (S 26 x47_5.toNatClampNeg) S (fun r21 S22 => 
    vp_in x47_5 (n 26) ∧ ∀ S23, S23 = up2 S22 26 x47_5.toNatClampNeg r21 → 
    wX1_remember n x47_5 S23 (fun _ S26 => 
    ∀ x27 : Int32, x27 = x47_5 + 1 → wX1_scan_b47 n  K2 nn x27 x47_4 x47_3 x47_2 x47_1 S26 Q)))
def wX1_scan_b2 (n : Nat → Nat)  : Nat → Int32 → (Nat → Nat → Int32) → (Unit → (Nat → Nat → Int32) → Prop) → Prop
  | 0, _, _, _ => False
  | nn + 1, x2_1, S, Q =>
  ((nI (n 26)) ≤ x2_1 → Q () S) ∧
  (¬ (nI (n 26)) ≤ x2_1 → wX1_leastUnscanned n  S (fun r3 S4 => (r3 = none → Q () S4) ∧
    (∀ g6, r3 = some g6 → ∀ x7 : Int32, x7 = (S4 (3 + g6) 4) + (S4 (3 + g6) 8) → wX1_fieldsOf n x7 S4 (fun r9 S10 => 
      ∀ x11 : Int32, x11 = (x7 + 2) + r9 → ∀ x13 : Int32, x13 = x7 + 2 → ∃ f15, wX1_scan_b47 n  (fun z0 T => wX1_scan_b2 n   nn z0 T Q) f15 x13 x11 x7 g6 x2_1 S10 Q))))
def wX1_scan (n : Nat → Nat)  (S : Nat → Nat → Int32) (Q : Unit → (Nat → Nat → Int32) → Prop) : Prop :=
  ∃ f1, wX1_scan_b2 n   f1 0 S Q
def wX1_grantWishes_b103 (n : Nat → Nat)  (K4 : Int32 → Int32 → (Nat → Nat → Int32) → Prop) (x103_1 : Int32) (x103_2 : Int32) (S : Nat → Nat → Int32) (Q : Unit → (Nat → Nat → Int32) → Prop) : Prop :=
  ∀ x23 : Int32, x23 = x103_2 + 1 → K4 x23 x103_1 S
def wX1_grantWishes_b51 (n : Nat → Nat)  (K4 : Int32 → Int32 → (Nat → Nat → Int32) → Prop) (x51_3 : Int32) (x51_2 : Int32) (x51_1 : Int32) (y51_0 : Int32) (S : Nat → Nat → Int32) (Q : Unit → (Nat → Nat → Int32) → Prop) : Prop :=
  wX1_brought n x51_3 S (fun r12 S13 => 
  (y51_0 = 0 → vp_in x51_1 (n 19) ∧ ∀ S15, S15 = up2 S13 19 x51_1.toNatClampNeg r12 → 
    ∀ x17 : Int32, x17 = x51_1 + 1 → wX1_grantWishes_b103 n  K4 x17 x51_2 S15 Q) ∧
  (¬ y51_0 = 0 → vp_in r12 (n 26) ∧ vp_in r12 (n 26) ∧ ∀ S19, S19 = up2 S13 26 r12.toNatClampNeg ((S13 26 r12.toNatClampNeg) &&& (-65 : Int32)) → 
    wX3_add n 10 r12 S19 (fun _ S22 => 
    wX1_grantWishes_b103 n  K4 x51_1 x51_2 S22 Q)))
def wX1_grantWishes_b50 (n : Nat → Nat)  (K4 : Int32 → Int32 → (Nat → Nat → Int32) → Prop) (x50_3 : Int32) (x50_2 : Int32) (x50_1 : Int32) (S : Nat → Nat → Int32) (Q : Unit → (Nat → Nat → Int32) → Prop) : Prop :=
  wX1_grantWishes_b51 n  K4 x50_3 x50_2 x50_1 0 S Q
def wX1_grantWishes_b4 (n : Nat → Nat)  : Nat → Int32 → Int32 → (Nat → Nat → Int32) → (Unit → (Nat → Nat → Int32) → Prop) → Prop
  | 0, _, _, _, _ => False
  | nn + 1, x4_2, x4_1, S, Q =>
  ((S 9 1) ≤ x4_2 → ∀ S3, S3 = up2 S 9 1 x4_1 → 
    Q () S3) ∧
  (¬ (S 9 1) ≤ x4_2 → vp_in x4_2 (n 19) ∧ wX1_homeOf n (S 19 x4_2.toNatClampNeg) S (fun r5 S6 => 
    wX0_isInFrom n r5 (S 19 x4_2.toNatClampNeg) S6 (fun r8 S9 => 
    (r8 = false → wX1_grantWishes_b50 n  (fun z0 z1 T => wX1_grantWishes_b4 n   nn z0 z1 T Q) (S 19 x4_2.toNatClampNeg) x4_2 x4_1 S9 Q) ∧
    (r8 = true → vp_in (S 19 x4_2.toNatClampNeg) (n 26) ∧ ((S9 26 ((S 19 x4_2.toNatClampNeg).toNatClampNeg)) < 0 → wX1_grantWishes_b50 n  (fun z0 z1 T => wX1_grantWishes_b4 n   nn z0 z1 T Q) (S 19 x4_2.toNatClampNeg) x4_2 x4_1 S9 Q) ∧
      (¬ (S9 26 ((S 19 x4_2.toNatClampNeg).toNatClampNeg)) < 0 → wX1_grantWishes_b51 n  (fun z0 z1 T => wX1_grantWishes_b4 n   nn z0 z1 T Q) (S 19 x4_2.toNatClampNeg) x4_2 x4_1 1 S9 Q)))))
def wX1_grantWishes (n : Nat → Nat)  (S : Nat → Nat → Int32) (Q : Unit → (Nat → Nat → Int32) → Prop) : Prop :=
  ∃ f1, wX1_grantWishes_b4 n   f1 0 0 S Q
def wX1_clearWeakPlaces_b64 (n : Nat → Nat)  (K2 : Int32 → (Nat → Nat → Int32) → Prop) (x64_1 : Int32) (S : Nat → Nat → Int32) (Q : Unit → (Nat → Nat → Int32) → Prop) : Prop :=
  ∀ x10 : Int32, x10 = x64_1 + 1 → K2 x10 S
def wX1_clearWeakPlaces_b63 (n : Nat → Nat)  (K2 : Int32 → (Nat → Nat → Int32) → Prop) (x63_1 : Int32) (y63_0 : Int32) (y63_1 : Int32) (S : Nat → Nat → Int32) (Q : Unit → (Nat → Nat → Int32) → Prop) : Prop :=
  vp_in y63_1 (n 18) ∧ ∀ S12, S12 = up2 S 18 y63_1.toNatClampNeg y63_0 → 
  wX1_clearWeakPlaces_b64 n  K2 x63_1 S12 Q
def wX1_clearWeakPlaces_b2 (n : Nat → Nat)  : Nat → Int32 → (Nat → Nat → Int32) → (Unit → (Nat → Nat → Int32) → Prop) → Prop
  | 0, _, _, _ => False
  | nn + 1, x2_1, S, Q =>
  ((S 8 1) ≤ x2_1 → Q () S) ∧
  (¬ (S 8 1) ≤ x2_1 → vp_in x2_1 (n 18) ∧ wX1_homeOf n (S 18 x2_1.toNatClampNeg) S (fun r3 S4 => 
    wX0_isInFrom n r3 (S 18 x2_1.toNatClampNeg) S4 (fun r6 S7 => 
    (r6 = false → wX1_clearWeakPlaces_b64 n  (fun z0 T => wX1_clearWeakPlaces_b2 n   nn z0 T Q) x2_1 S7 Q) ∧
    (r6 = true → vp_in (S 18 x2_1.toNatClampNeg) (n 26) ∧ (0 ≤ (S7 26 ((S 18 x2_1.toNatClampNeg).toNatClampNeg)) → wX1_clearWeakPlaces_b63 n  (fun z0 T => wX1_clearWeakPlaces_b2 n   nn z0 T Q) x2_1 0 x2_1 S7 Q) ∧
      (¬ 0 ≤ (S7 26 ((S 18 x2_1.toNatClampNeg).toNatClampNeg)) → vp_in (S 18 x2_1.toNatClampNeg) (n 26) ∧ wX1_clearWeakPlaces_b63 n  (fun z0 T => wX1_clearWeakPlaces_b2 n   nn z0 T Q) x2_1 (-(S7 26 ((S 18 x2_1.toNatClampNeg).toNatClampNeg))) x2_1 S7 Q)))))
def wX1_clearWeakPlaces (n : Nat → Nat)  (S : Nat → Nat → Int32) (Q : Unit → (Nat → Nat → Int32) → Prop) : Prop :=
  ∃ f1, wX1_clearWeakPlaces_b2 n   f1 0 S Q
def wX1_gather_b32 (n : Nat → Nat) (a1 : Int32) (K11 : Int32 → Int32 → (Nat → Nat → Int32) → Prop) (x32_3 : Int32) (x32_2 : Int32) (y32_0 : Int32) (y32_1 : Nat) (S : Nat → Nat → Int32) (Q : Int32 → (Nat → Nat → Int32) → Prop) : Prop :=
  wX0_begin n y32_1 y32_0 S (fun _ S40 => 
  ∀ x41 : Int32, x41 = x32_3 + 1 → K11 x41 x32_2 S40)
def wX1_gather_b109 (n : Nat → Nat) (a1 : Int32) : Nat → Int32 → Int32 → (Nat → Nat → Int32) → (Int32 → (Nat → Nat → Int32) → Prop) → Prop
  | 0, _, _, _, _ => False
  | nn + 1, x109_3, x109_2, S, Q =>
  (a1 < x109_3 → vp_in a1 3 ∧ ∀ S32, S32 = up2 S (3 + a1.toNatClampNeg) 9 ((S (3 + a1.toNatClampNeg) 9) + 1) → 
    Q ((S32 1 11) - x109_2) S32) ∧
  (¬ a1 < x109_3 → vp_in x109_3 3 ∧ wX0_end n x109_3.toNatClampNeg S (fun _ S36 => 
    ∀ x37 : Int32, x37 = x109_3 + 1 → wX1_gather_b109 n a1  nn x37 x109_2 S36 Q))
def wX1_gather_b11 (n : Nat → Nat) (a1 : Int32) : Nat → Int32 → Int32 → (Nat → Nat → Int32) → (Int32 → (Nat → Nat → Int32) → Prop) → Prop
  | 0, _, _, _, _ => False
  | nn + 1, x11_3, x11_2, S, Q =>
  (3 ≤ x11_3 → wX1_putRowsAside n  S (fun _ S6 => 
    wX1_bringAll n 6 S6 (fun _ S8 => 
    wX1_bringAll n 7 S8 (fun _ S10 => 
    wX1_bringAll n 10 S10 (fun _ S12 => 
    wX1_bringRemembered n (rrow (S12 1 9) 0) a1 S12 (fun _ S15 => 
    wX1_bringRemembered n (rrow (S15 1 9) 1) a1 S15 (fun _ S18 => 
    wX1_scan n  S18 (fun _ S20 => 
    wX1_grantWishes n  S20 (fun _ S22 => 
    wX1_scan n  S22 (fun _ S24 => 
    wX1_clearWeakPlaces n  S24 (fun _ S26 => 
    ∃ f27, wX1_gather_b109 n a1  f27 0 x11_2 S26 Q))))))))))) ∧
  (¬ 3 ≤ x11_3 → vp_in x11_3 3 ∧ (a1 < x11_3 → wX1_gather_b32 n a1 (fun z0 z1 T => wX1_gather_b11 n a1  nn z0 z1 T Q) x11_3 x11_2 0 x11_3.toNatClampNeg S Q) ∧
    (¬ a1 < x11_3 → wX1_gather_b32 n a1 (fun z0 z1 T => wX1_gather_b11 n a1  nn z0 z1 T Q) x11_3 x11_2 1 x11_3.toNatClampNeg S Q))
def wX1_gather (n : Nat → Nat) (a1 : Int32) (S : Nat → Nat → Int32) (Q : Int32 → (Nat → Nat → Int32) → Prop) : Prop :=
  wX1_filter n  S (fun _ S2 => 
  ∃ f3, wX1_gather_b11 n a1  f3 0 (S 1 11) S2 Q)
def wX1_newObject_b98 (n : Nat → Nat) (a1 : Int32) (a2 : Int32) (a3 : Int32) : Nat → Int32 → Int32 → (Nat → Nat → Int32) → (Int32 → (Nat → Nat → Int32) → Prop) → Prop
  | 0, _, _, _, _ => False
  | nn + 1, x98_7, x98_6, S, Q =>
  (a1 ≤ x98_7 → (a3 = 0 → Q x98_6 S) ∧
    (¬ a3 = 0 → wX3_add n 9 x98_6 S (fun _ S27 => 
      Q x98_6 S27))) ∧
  (¬ a1 ≤ x98_7 → vp_in ((x98_6 + 2) + x98_7) (n 26) ∧ ∀ S28, S28 = up2 S 26 (((x98_6 + 2) + x98_7).toNatClampNeg) 0 → 
    ∀ x30 : Int32, x30 = x98_7 + 1 → wX1_newObject_b98 n a1 a2 a3  nn x30 x98_6 S28 Q)
def wX1_newObject_b84 (n : Nat → Nat) (a1 : Int32) (a2 : Int32) (a3 : Int32) (x84_6 : Int32) (y84_0 : Int32) (y84_1 : Int32) (S : Nat → Nat → Int32) (Q : Int32 → (Nat → Nat → Int32) → Prop) : Prop :=
  vp_in y84_1 (n 26) ∧ ∀ S19, S19 = up2 S 26 y84_1.toNatClampNeg y84_0 → 
  vp_in (x84_6 + 1) (n 26) ∧ ∀ S21, S21 = up2 S19 26 ((x84_6 + 1).toNatClampNeg) a2 → 
  ∃ f23, wX1_newObject_b98 n a1 a2 a3  f23 0 x84_6 S21 Q
def wX1_newObject_b45 (n : Nat → Nat) (a1 : Int32) (a2 : Int32) (a3 : Int32) (x45_5 : Nat) (x45_4 : Int32) (S : Nat → Nat → Int32) (Q : Int32 → (Nat → Nat → Int32) → Prop) : Prop :=
  wX0_fits n x45_5 x45_4 S (fun r13 S14 => 
  (r13 = false → Q 0 S14) ∧
  (r13 = true → wX0_take n x45_5 x45_4 S14 (fun r16 S17 => 
    (a3 = 0 → wX1_newObject_b84 n a1 a2 a3  r16 a1 r16 S17 Q) ∧
    (¬ a3 = 0 → wX1_newObject_b84 n a1 a2 a3  r16 (a1 + 64) r16 S17 Q))))
def wX1_newObject_b16 (n : Nat → Nat) (a1 : Int32) (a2 : Int32) (a3 : Int32) : Nat → Int32 → Nat → Int32 → (Nat → Nat → Int32) → (Int32 → (Nat → Nat → Int32) → Prop) → Prop
  | 0, _, _, _, _, _ => False
  | nn + 1, x16_6, x16_5, x16_4, S, Q =>
  (3 ≤ x16_6 → wX1_newObject_b45 n a1 a2 a3  x16_5 x16_4 S Q) ∧
  (¬ 3 ≤ x16_6 → wX0_fits n x16_5 x16_4 S (fun r6 S7 => 
    (r6 = false → wX1_gather n x16_6 S7 (fun r9 S10 => 
      ∀ x11 : Int32, x11 = x16_6 + 1 → wX1_newObject_b16 n a1 a2 a3  nn x11 x16_5 x16_4 S10 Q)) ∧
    (r6 = true → wX1_newObject_b45 n a1 a2 a3  x16_5 x16_4 S7 Q)))
def wX1_newObject (n : Nat → Nat) (a1 : Int32) (a2 : Int32) (a3 : Int32) (S : Nat → Nat → Int32) (Q : Int32 → (Nat → Nat → Int32) → Prop) : Prop :=
  ∀ x1 : Int32, x1 = 2 + a1 → ∃ f4, wX1_newObject_b16 n a1 a2 a3  f4 0 0 x1 S Q
def wX3_isFull (n : Nat → Nat) (r0 : Nat) (S : Nat → Nat → Int32) (Q : Bool → (Nat → Nat → Int32) → Prop) : Prop :=
  ((S r0 1) = (nI (n (r0 + 10))) → Q true S) ∧
  (¬ (S r0 1) = (nI (n (r0 + 10))) → Q false S)
def wX1_store_b44 (n : Nat → Nat) (a1 : Int32) (a2 : Int32) (a3 : Int32) (x44_4 : Int32) (S : Nat → Nat → Int32) (Q : Unit → (Nat → Nat → Int32) → Prop) : Prop :=
  wX3_add n 11 x44_4 S (fun _ S14 => 
  Q () S14)
def wX1_store (n : Nat → Nat) (a1 : Int32) (a2 : Int32) (a3 : Int32) (S : Nat → Nat → Int32) (Q : Unit → (Nat → Nat → Int32) → Prop) : Prop :=
  ∀ x1 : Int32, x1 = (a1 + 2) + a2 → vp_in x1 (n 26) ∧ ∀ S3, S3 = up2 S 26 x1.toNatClampNeg a3 → 
  (a3 = 0 → Q () S3) ∧
  (¬ a3 = 0 → wX3_isFull n 11 S3 (fun r6 S7 => 
    (r6 = false → wX1_store_b44 n a1 a2 a3  x1 S7 Q) ∧
    (r6 = true → ∀ S9, S9 = up2 S7 1 10 ((S7 1 10) + 1) → 
      wX1_filter n  S9 (fun _ S12 => 
      wX1_store_b44 n a1 a2 a3  x1 S12 Q))))
def wX2_append (n : Nat → Nat) (a1 : Int32) (a2 : Int32) (a3 : Int32) (a4 : Int32) (S : Nat → Nat → Int32) (Q : Unit → (Nat → Nat → Int32) → Prop) : Prop :=
  (64 ≤ (S 2 3) → Q () S) ∧
  (¬ 64 ≤ (S 2 3) → ∀ x2 : Int32, x2 = 4 * (S 2 3) → vp_in x2 (n 27) ∧ ∀ S4, S4 = up2 S 27 x2.toNatClampNeg a1 → 
    vp_in (x2 + 1) (n 27) ∧ ∀ S6, S6 = up2 S4 27 ((x2 + 1).toNatClampNeg) a2 → 
    vp_in (x2 + 2) (n 27) ∧ ∀ S8, S8 = up2 S6 27 ((x2 + 2).toNatClampNeg) a3 → 
    vp_in (x2 + 3) (n 27) ∧ ∀ S10, S10 = up2 S8 27 ((x2 + 3).toNatClampNeg) a4 → 
    ∀ S12, S12 = up2 S10 2 3 ((S10 2 3) + 1) → 
    Q () S12)
def wX4_isRoot (n : Nat → Nat) (a0 : Int32) (S : Nat → Nat → Int32) (Q : Bool → (Nat → Nat → Int32) → Prop) : Prop :=
  (a0 < 0 → Q false S) ∧
  (¬ a0 < 0 → (16 ≤ a0 → Q false S) ∧
    (¬ 16 ≤ a0 → Q true S))
def wX2_isAsTold_b85 (n : Nat → Nat) (a1 : Int32) (a2 : Int32)  (S : Nat → Nat → Int32) (Q : Bool → (Nat → Nat → Int32) → Prop) : Prop :=
  Q true S
def wX2_isAsTold (n : Nat → Nat) (a1 : Int32) (a2 : Int32) (S : Nat → Nat → Int32) (Q : Bool → (Nat → Nat → Int32) → Prop) : Prop :=
  (a1 = 102 → (a2 < 0 → Q false S) ∧
    (¬ a2 < 0 → (6 ≤ a2 → Q false S) ∧
      (¬ 6 ≤ a2 → Q true S))) ∧
  (a1 = 103 → Q true S) ∧
  (a1 = 104 → Q true S) ∧
  (a1 = 105 → (a2 < 0 → Q false S) ∧
    (¬ a2 < 0 → (8 ≤ a2 → Q false S) ∧
      (¬ 8 ≤ a2 → Q true S))) ∧
  (a1 = 106 → Q true S) ∧
  (a1 = 107 → Q true S) ∧
  (a1 = 108 → Q true S) ∧
  (a1 = 109 → Q true S) ∧
  (a1 = 110 → (a2 < 0 → Q false S) ∧
    (¬ a2 < 0 → (6 < a2 → Q false S) ∧
      (¬ 6 < a2 → Q true S))) ∧
  (a1 = 111 → Q true S) ∧
  (a1 = 112 → (a2 < 0 → Q false S) ∧
    (¬ a2 < 0 → ((S 2 3) < a2 → Q false S) ∧
      (¬ (S 2 3) < a2 → Q true S))) ∧
  (a1 = 113 → (a2 = (-1 : Int32) → wX2_isAsTold_b85 n a1 a2   S Q) ∧
    (¬ a2 = (-1 : Int32) → wX4_isRoot n a2 S (fun r22 S23 => 
      (r22 = false → Q false S23) ∧
      (r22 = true → wX2_isAsTold_b85 n a1 a2   S23 Q)))) ∧
  (a1 = 114 → wX4_isRoot n a2 S (fun r26 S27 => 
    Q r26 S27)) ∧
  (¬ a1 = 102 → ¬ a1 = 103 → ¬ a1 = 104 → ¬ a1 = 105 → ¬ a1 = 106 → ¬ a1 = 107 → ¬ a1 = 108 → ¬ a1 = 109 → ¬ a1 = 110 → ¬ a1 = 111 → ¬ a1 = 112 → ¬ a1 = 113 → ¬ a1 = 114 → Q true S)
def wX2_isWrong_b26 (n : Nat → Nat)  : Nat → Int32 → Int32 → (Nat → Nat → Int32) → (Bool → (Nat → Nat → Int32) → Prop) → Prop
  | 0, _, _, _, _ => False
  | nn + 1, x26_2, x26_1, S, Q =>
  (3 ≤ x26_2 → Q false S) ∧
  (¬ 3 ≤ x26_2 → vp_in ((4 * x26_1) + x26_2) 59 ∧ vp_in (((4 * (S 2 4)) + 1) + x26_2) (n 27) ∧ wX2_isAsTold n (toldAt ((4 * x26_1) + x26_2)) (S 27 ((((4 * (S 2 4)) + 1) + x26_2).toNatClampNeg)) S (fun r7 S8 => 
    (r7 = false → Q true S8) ∧
    (r7 = true → ∀ x10 : Int32, x10 = x26_2 + 1 → wX2_isWrong_b26 n   nn x10 x26_1 S8 Q)))
def wX2_isWrong (n : Nat → Nat)  (S : Nat → Nat → Int32) (Q : Bool → (Nat → Nat → Int32) → Prop) : Prop :=
  vp_in (4 * (S 2 4)) (n 27) ∧ ∀ x1 : Int32, x1 = S 27 ((4 * (S 2 4)).toNatClampNeg) → (x1 < 0 → Q true S) ∧
  (¬ x1 < 0 → (x1 ≤ 14 → ∃ f5, wX2_isWrong_b26 n   f5 0 x1 S Q) ∧
    (¬ x1 ≤ 14 → Q true S))
def wX2_endOfObject (n : Nat → Nat) (a1 : Int32) (a2 : Int32) (S : Nat → Nat → Int32) (Q : Int32 → (Nat → Nat → Int32) → Prop) : Prop :=
  vp_in a1 (n 16) ∧ ((S 16 a1.toNatClampNeg) = 0 → Q 2 S) ∧
  (¬ (S 16 a1.toNatClampNeg) = 0 → wX1_hasField n (S 16 a1.toNatClampNeg) a2 S (fun r2 S3 => 
    (r2 = false → Q 3 S3) ∧
    (r2 = true → Q (-1 : Int32) S3)))
def wX2_endBefore (n : Nat → Nat) (a1 : Int32) (S : Nat → Nat → Int32) (Q : Int32 → (Nat → Nat → Int32) → Prop) : Prop :=
  ((S 2 4) < (S 2 3) → (a1 = 0 → wX2_isWrong n  S (fun r3 S4 => 
      (r3 = false → vp_in (4 * (S4 2 4)) (n 27) ∧ ((S4 27 ((4 * (S4 2 4)).toNatClampNeg)) = 2 → vp_in ((4 * (S4 2 4)) + 1) (n 27) ∧ vp_in ((4 * (S4 2 4)) + 2) (n 27) ∧ wX2_endOfObject n (S4 27 (((4 * (S4 2 4)) + 1).toNatClampNeg)) (S4 27 (((4 * (S4 2 4)) + 2).toNatClampNeg)) S4 (fun r7 S8 => 
          Q r7 S8)) ∧
        ((S4 27 ((4 * (S4 2 4)).toNatClampNeg)) = 3 → vp_in ((4 * (S4 2 4)) + 2) (n 27) ∧ vp_in ((4 * (S4 2 4)) + 3) (n 27) ∧ wX2_endOfObject n (S4 27 (((4 * (S4 2 4)) + 2).toNatClampNeg)) (S4 27 (((4 * (S4 2 4)) + 3).toNatClampNeg)) S4 (fun r10 S11 => 
          Q r10 S11)) ∧
        ((S4 27 ((4 * (S4 2 4)).toNatClampNeg)) = 4 → Q (-1 : Int32) S4) ∧
        ((S4 27 ((4 * (S4 2 4)).toNatClampNeg)) = 5 → wX3_isFull n 7 S4 (fun r14 S15 => 
          (r14 = false → Q (-1 : Int32) S15) ∧
          (r14 = true → Q 4 S15))) ∧
        ((S4 27 ((4 * (S4 2 4)).toNatClampNeg)) = 6 → ((S4 7 1) = 0 → Q 4 S4) ∧
          (¬ (S4 7 1) = 0 → Q (-1 : Int32) S4)) ∧
        ((S4 27 ((4 * (S4 2 4)).toNatClampNeg)) = 7 → Q (-1 : Int32) S4) ∧
        ((S4 27 ((4 * (S4 2 4)).toNatClampNeg)) = 8 → Q (-1 : Int32) S4) ∧
        ((S4 27 ((4 * (S4 2 4)).toNatClampNeg)) = 9 → vp_in ((4 * (S4 2 4)) + 2) (n 27) ∧ vp_in (S4 27 (((4 * (S4 2 4)) + 2).toNatClampNeg)) (n 16) ∧ ((S4 16 ((S4 27 (((4 * (S4 2 4)) + 2).toNatClampNeg)).toNatClampNeg)) = 0 → Q 2 S4) ∧
          (¬ (S4 16 ((S4 27 (((4 * (S4 2 4)) + 2).toNatClampNeg)).toNatClampNeg)) = 0 → Q (-1 : Int32) S4)) ∧
        (¬ (S4 27 ((4 * (S4 2 4)).toNatClampNeg)) = 2 → ¬ (S4 27 ((4 * (S4 2 4)).toNatClampNeg)) = 3 → ¬ (S4 27 ((4 * (S4 2 4)).toNatClampNeg)) = 4 → ¬ (S4 27 ((4 * (S4 2 4)).toNatClampNeg)) = 5 → ¬ (S4 27 ((4 * (S4 2 4)).toNatClampNeg)) = 6 → ¬ (S4 27 ((4 * (S4 2 4)).toNatClampNeg)) = 7 → ¬ (S4 27 ((4 * (S4 2 4)).toNatClampNeg)) = 8 → ¬ (S4 27 ((4 * (S4 2 4)).toNatClampNeg)) = 9 → Q (-1 : Int32) S4)) ∧
      (r3 = true → Q 1 S4))) ∧
    (¬ a1 = 0 → Q 6 S)) ∧
  (¬ (S 2 4) < (S 2 3) → Q 0 S)
def wX3_takeLast (n : Nat → Nat) (r0 : Nat) (S : Nat → Nat → Int32) (Q : Int32 → (Nat → Nat → Int32) → Prop) : Prop :=
  ((S r0 1) = 0 → Q 0 S) ∧
  (¬ (S r0 1) = 0 → ∀ S2, S2 = up2 S r0 1 ((S r0 1) - 1) → 
    vp_in (S2 r0 1) (n (r0 + 10)) ∧ Q (S2 (r0 + 10) ((S2 r0 1).toNatClampNeg)) S2)
def wX2_change (n : Nat → Nat) (a1 : Int32) (a2 : Int32) (a3 : Int32) (a4 : Int32) (S : Nat → Nat → Int32) (Q : Unit → (Nat → Nat → Int32) → Prop) : Prop :=
  (a1 = 2 → vp_in a2 (n 16) ∧ wX1_rootOrNull n a4 S (fun r2 S3 => 
    wX1_store n (S 16 a2.toNatClampNeg) a3 r2 S3 (fun _ S5 => 
    Q () S5))) ∧
  (a1 = 3 → vp_in a3 (n 16) ∧ wX1_fieldOf n (S 16 a3.toNatClampNeg) a4 S (fun r7 S8 => 
    vp_in a2 (n 16) ∧ ∀ S9, S9 = up2 S8 16 a2.toNatClampNeg r7 → 
    Q () S9)) ∧
  (a1 = 4 → wX1_rootOrNull n a3 S (fun r12 S13 => 
    vp_in a2 (n 16) ∧ ∀ S14, S14 = up2 S13 16 a2.toNatClampNeg r12 → 
    Q () S14)) ∧
  (a1 = 5 → vp_in a2 (n 16) ∧ wX3_add n 7 (S 16 a2.toNatClampNeg) S (fun _ S18 => 
    Q () S18)) ∧
  (a1 = 6 → wX3_takeLast n 7 S (fun r20 S21 => 
    vp_in a2 (n 16) ∧ ∀ S22, S22 = up2 S21 16 a2.toNatClampNeg r20 → 
    Q () S22)) ∧
  (a1 = 7 → vp_in a2 (n 28) ∧ ∀ S25, S25 = up2 S 28 a2.toNatClampNeg a3 → 
    Q () S25) ∧
  (a1 = 8 → vp_in a3 (n 28) ∧ vp_in a4 (n 28) ∧ vp_in a2 (n 28) ∧ ∀ S28, S28 = up2 S 28 a2.toNatClampNeg ((S 28 a3.toNatClampNeg) + (S 28 a4.toNatClampNeg)) → 
    Q () S28) ∧
  (a1 = 9 → vp_in a3 (n 16) ∧ wX1_labelOf n (S 16 a3.toNatClampNeg) S (fun r31 S32 => 
    vp_in a2 (n 28) ∧ ∀ S33, S33 = up2 S32 28 a2.toNatClampNeg r31 → 
    Q () S33)) ∧
  (¬ a1 = 2 → ¬ a1 = 3 → ¬ a1 = 4 → ¬ a1 = 5 → ¬ a1 = 6 → ¬ a1 = 7 → ¬ a1 = 8 → ¬ a1 = 9 → Q () S)
def wX2_goesOnAt (n : Nat → Nat) (a1 : Int32) (a2 : Int32) (a3 : Int32) (a4 : Int32) (S : Nat → Nat → Int32) (Q : Int32 → (Nat → Nat → Int32) → Prop) : Prop :=
  (a1 = 10 → vp_in a2 (n 16) ∧ ((S 16 a2.toNatClampNeg) = 0 → Q a3 S) ∧
    (¬ (S 16 a2.toNatClampNeg) = 0 → Q ((S 2 4) + 1) S)) ∧
  (a1 = 11 → vp_in a2 (n 28) ∧ vp_in a3 (n 28) ∧ ((S 28 a3.toNatClampNeg) ≤ (S 28 a2.toNatClampNeg) → Q ((S 2 4) + 1) S) ∧
    (¬ (S 28 a3.toNatClampNeg) ≤ (S 28 a2.toNatClampNeg) → Q a4 S)) ∧
  (a1 = 12 → Q a2 S) ∧
  (a1 = 13 → vp_in a2 (n 16) ∧ vp_in a3 (n 16) ∧ ((S 16 a2.toNatClampNeg) = (S 16 a3.toNatClampNeg) → Q a4 S) ∧
    (¬ (S 16 a2.toNatClampNeg) = (S 16 a3.toNatClampNeg) → Q ((S 2 4) + 1) S)) ∧
  (¬ a1 = 10 → ¬ a1 = 11 → ¬ a1 = 12 → ¬ a1 = 13 → Q ((S 2 4) + 1) S)
def wX2_step_b115 (n : Nat → Nat)  (x115_4 : Int32) (x115_3 : Int32) (x115_2 : Int32) (x115_1 : Int32) (S : Nat → Nat → Int32) (Q : Int32 → (Nat → Nat → Int32) → Prop) : Prop :=
  ∀ S12, S12 = up2 S 2 5 ((S 2 5) + 1) → 
  (x115_1 = 0 → Q 0 S12) ∧
  (¬ x115_1 = 0 → wX2_change n x115_1 x115_2 x115_3 x115_4 S12 (fun _ S16 => 
    wX2_goesOnAt n x115_1 x115_2 x115_3 x115_4 S16 (fun r17 S18 => 
    ∀ S19, S19 = up2 S18 2 4 r17 → 
    Q (-1 : Int32) S19)))
def wX2_step_b89 (n : Nat → Nat)  (x89_4 : Int32) (x89_3 : Int32) (x89_2 : Int32) (x89_1 : Int32) (y89_0 : Int32) (y89_1 : Int32) (y89_2 : Int32) (S : Nat → Nat → Int32) (Q : Int32 → (Nat → Nat → Int32) → Prop) : Prop :=
  wX1_newObject n y89_2 y89_1 y89_0 S (fun r21 S22 => 
  (r21 = 0 → Q 5 S22) ∧
  (¬ r21 = 0 → vp_in x89_2 (n 16) ∧ ∀ S24, S24 = up2 S22 16 x89_2.toNatClampNeg r21 → 
    wX2_step_b115 n   x89_4 x89_3 x89_2 x89_1 S24 Q))
def wX2_step_b66 (n : Nat → Nat)  (x66_4 : Int32) (x66_3 : Int32) (x66_2 : Int32) (x66_1 : Int32) (S : Nat → Nat → Int32) (Q : Int32 → (Nat → Nat → Int32) → Prop) : Prop :=
  vp_in x66_4 (n 28) ∧ (x66_1 = 14 → wX2_step_b89 n   x66_4 x66_3 x66_2 x66_1 1 (S 28 x66_4.toNatClampNeg) x66_3 S Q) ∧
  (¬ x66_1 = 14 → wX2_step_b89 n   x66_4 x66_3 x66_2 x66_1 0 (S 28 x66_4.toNatClampNeg) x66_3 S Q)
def wX2_step (n : Nat → Nat)  (S : Nat → Nat → Int32) (Q : Int32 → (Nat → Nat → Int32) → Prop) : Prop :=
  vp_in (4 * (S 2 4)) (n 27) ∧ ∀ x1 : Int32, x1 = S 27 ((4 * (S 2 4)).toNatClampNeg) → vp_in ((4 * (S 2 4)) + 1) (n 27) ∧ ∀ x3 : Int32, x3 = S 27 (((4 * (S 2 4)) + 1).toNatClampNeg) → vp_in ((4 * (S 2 4)) + 2) (n 27) ∧ ∀ x5 : Int32, x5 = S 27 (((4 * (S 2 4)) + 2).toNatClampNeg) → vp_in ((4 * (S 2 4)) + 3) (n 27) ∧ ∀ x7 : Int32, x7 = S 27 (((4 * (S 2 4)) + 3).toNatClampNeg) → (x1 = 1 → wX2_step_b66 n   x7 x5 x3 x1 S Q) ∧
  (¬ x1 = 1 → (x1 = 14 → wX2_step_b66 n   x7 x5 x3 x1 S Q) ∧
    (¬ x1 = 14 → wX2_step_b115 n   x7 x5 x3 x1 S Q))
def wX3_takeFirst (n : Nat → Nat) (r0 : Nat) (S : Nat → Nat → Int32) (Q : Int32 → (Nat → Nat → Int32) → Prop) : Prop :=
  ((S r0 1) = 0 → Q 0 S) ∧
  (¬ (S r0 1) = 0 → vp_in 0 (n (r0 + 10)) ∧ ∀ x2 : Int32, x2 = S (r0 + 10) 0 → ∀ S4, S4 = up2 S r0 1 ((S r0 1) - 1) → 
    (¬ (1 : Int32) < 0 ∧ ¬ (0 : Int32) < 0 ∧ ¬ (S4 r0 1) < 0 ∧ (1 : Int32).toNatClampNeg + (S4 r0 1).toNatClampNeg ≤ n (r0 + 10) ∧ (0 : Int32).toNatClampNeg + (S4 r0 1).toNatClampNeg ≤ n (r0 + 10)) ∧ ∀ S6, S6 = upR S4 (r0 + 10) (va_cpy (S4 (r0 + 10)) (S4 (r0 + 10)) (1 : Int32).toNatClampNeg (0 : Int32).toNatClampNeg (S4 r0 1).toNatClampNeg) → 
    Q x2 S6)
def wX4_scrap (n : Nat → Nat)  (S : Nat → Nat → Int32) (Q : Int32 → (Nat → Nat → Int32) → Prop) : Prop :=
  ∀ S1, S1 = up2 S 2 3 0 → 
  Q (S 2 3) S1
def wX4_nearest (n : Nat → Nat) (a0 : Int32) (a1 : Int32) (a2 : Int32) (S : Nat → Nat → Int32) (Q : Int32 → (Nat → Nat → Int32) → Prop) : Prop :=
  Q (if a1 < (if a0 < a2 then a0 else a2) then (if a0 < a2 then a0 else a2) else a1) S
