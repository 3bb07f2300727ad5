/-! what each of the model's methods asks of a state and of what comes behind it -/
def wX5_near (a0 : Int32) (a1 : Int32) (a2 : Int32) (S : Nat → Nat → Int32) (Q : Int32 → (Nat → Nat → Int32) → Prop) : Prop :=
  (a1 ≤ a0 → (a0 ≤ a2 → Q a0 S) ∧
    (¬ a0 ≤ a2 → Q a2 S)) ∧
  (¬ a1 ≤ a0 → Q a1 S)
def wX5_thrown  (S : Nat → Nat → Int32) (Q : Int32 → (Nat → Nat → Int32) → Prop) : Prop :=
  Q (S 0 0) S
def wX5_in (a0 : Int32) (a1 : Int32) (a2 : Int32) (S : Nat → Nat → Int32) (Q : Bool → (Nat → Nat → Int32) → Prop) : Prop :=
  (a0 < a1 → Q false S) ∧
  (¬ a0 < a1 → (a2 < a0 → Q false S) ∧
    (¬ a2 < a0 → Q true S))
def wX5_isRoot (a0 : Int32) (S : Nat → Nat → Int32) (Q : Bool → (Nat → Nat → Int32) → Prop) : Prop :=
  wX5_in a0 0 15 S (fun r1 S2 => 
  Q r1 S2)
def wX5_size (a1 : Int32) (S : Nat → Nat → Int32) (Q : Int32 → (Nat → Nat → Int32) → Prop) : Prop :=
  Q ((S 0 3) <<< (a1 &&& 31)) S
def wX5_begin_b24 (a1 : Int32) (a2 : Int32) (y24_0 : Int32) (y24_1 : Int32) (y24_2 : Int32) (S : Nat → Nat → Int32) (Q : Int32 → (Nat → Nat → Int32) → Prop) : Prop :=
  wX5_size a1 S (fun r3 S4 => 
  Q ((y24_2 + (y24_1 * y24_0)) + (a2 * r3)) S4)
def wX5_begin (a1 : Int32) (a2 : Int32) (S : Nat → Nat → Int32) (Q : Int32 → (Nat → Nat → Int32) → Prop) : Prop :=
  (a1 = 0 → wX5_begin_b24 a1 a2  0 (S 0 3) 1 S Q) ∧
  (¬ a1 = 0 → (a1 = 1 → wX5_begin_b24 a1 a2  2 (S 0 3) 1 S Q) ∧
    (¬ a1 = 1 → wX5_begin_b24 a1 a2  6 (S 0 3) 1 S Q))
def wX5_generation (a1 : Int32) (S : Nat → Nat → Int32) (Q : Int32 → (Nat → Nat → Int32) → Prop) : Prop :=
  ((2 * (S 0 3)) < a1 → ((6 * (S 0 3)) < a1 → Q 2 S) ∧
    (¬ (6 * (S 0 3)) < a1 → Q 1 S)) ∧
  (¬ (2 * (S 0 3)) < a1 → Q 0 S)
def wX5_fields (a1 : Int32) (S : Nat → Nat → Int32) (Q : Int32 → (Nat → Nat → Int32) → Prop) : Prop :=
  vp_in a1 1793 ∧ Q ((S 1 a1.toNatClampNeg) &&& 7) S
def wX5_age (a1 : Int32) (S : Nat → Nat → Int32) (Q : Int32 → (Nat → Nat → Int32) → Prop) : Prop :=
  vp_in a1 1793 ∧ Q (((S 1 a1.toNatClampNeg) >>> (3 &&& 31)) &&& 7) S
def wX5_isKeen (a1 : Int32) (S : Nat → Nat → Int32) (Q : Bool → (Nat → Nat → Int32) → Prop) : Prop :=
  vp_in a1 1793 ∧ (((S 1 a1.toNatClampNeg) &&& 64) ≤ 0 → Q false S) ∧
  (¬ ((S 1 a1.toNatClampNeg) &&& 64) ≤ 0 → Q true S)
def wX5_remember_b2 (a1 : Int32) (a2 : Int32) : Nat → Int32 → (Nat → Nat → Int32) → (Unit → (Nat → Nat → Int32) → Prop) → Prop
  | 0, _, _, _ => False
  | nn + 1, x2_3, S, Q =>
  vp_in a1 2 ∧ ((S 12 a1.toNatClampNeg) ≤ x2_3 → vp_in a1 2 ∧ vp_in ((1000 * a1) + (S 12 a1.toNatClampNeg)) 2000 ∧ ∀ S3, S3 = up2 S 13 (((1000 * a1) + (S 12 a1.toNatClampNeg)).toNatClampNeg) a2 → 
    vp_in a1 2 ∧ vp_in a1 2 ∧ ∀ S5, S5 = up2 S3 12 a1.toNatClampNeg ((S3 12 a1.toNatClampNeg) + 1) → 
    Q () S5) ∧
  (¬ (S 12 a1.toNatClampNeg) ≤ x2_3 → vp_in ((1000 * a1) + x2_3) 2000 ∧ ((S 13 (((1000 * a1) + x2_3).toNatClampNeg)) = a2 → Q () S) ∧
    (¬ (S 13 (((1000 * a1) + x2_3).toNatClampNeg)) = a2 → ∀ x8 : Int32, x8 = x2_3 + 1 → wX5_remember_b2 a1 a2  nn x8 S Q))
def wX5_remember (a1 : Int32) (a2 : Int32) (S : Nat → Nat → Int32) (Q : Unit → (Nat → Nat → Int32) → Prop) : Prop :=
  ∃ f1, wX5_remember_b2 a1 a2  f1 0 S Q
def wX5_rememberIf (a1 : Int32) (S : Nat → Nat → Int32) (Q : Unit → (Nat → Nat → Int32) → Prop) : Prop :=
  vp_in a1 1793 ∧ ((S 1 a1.toNatClampNeg) = 0 → Q () S) ∧
  (¬ (S 1 a1.toNatClampNeg) = 0 → wX5_generation (S 1 a1.toNatClampNeg) S (fun r2 S3 => 
    wX5_generation a1 S3 (fun r4 S5 => 
    (r4 ≤ r2 → Q () S5) ∧
    (¬ r4 ≤ r2 → wX5_generation (S 1 a1.toNatClampNeg) S5 (fun r7 S8 => 
      wX5_remember r7 a1 S8 (fun _ S10 => 
      Q () S10))))))
def wX5_filter_b2  : Nat → Int32 → (Nat → Nat → Int32) → (Unit → (Nat → Nat → Int32) → Prop) → Prop
  | 0, _, _, _ => False
  | nn + 1, x2_1, S, Q =>
  ((S 0 16) ≤ x2_1 → ∀ S3, S3 = up2 S 0 16 0 → 
    Q () S3) ∧
  (¬ (S 0 16) ≤ x2_1 → vp_in x2_1 64 ∧ wX5_rememberIf (S 11 x2_1.toNatClampNeg) S (fun _ S6 => 
    ∀ x7 : Int32, x7 = x2_1 + 1 → wX5_filter_b2   nn x7 S6 Q))
def wX5_filter  (S : Nat → Nat → Int32) (Q : Unit → (Nat → Nat → Int32) → Prop) : Prop :=
  ∃ f1, wX5_filter_b2   f1 0 S Q
def wX5_store_b37 (a1 : Int32) (a2 : Int32)  (S : Nat → Nat → Int32) (Q : Unit → (Nat → Nat → Int32) → Prop) : Prop :=
  vp_in (S 0 16) 64 ∧ ∀ S9, S9 = up2 S 11 ((S 0 16).toNatClampNeg) a1 → 
  ∀ S11, S11 = up2 S9 0 16 ((S9 0 16) + 1) → 
  Q () S11
def wX5_store (a1 : Int32) (a2 : Int32) (S : Nat → Nat → Int32) (Q : Unit → (Nat → Nat → Int32) → Prop) : Prop :=
  vp_in a1 1793 ∧ ∀ S1, S1 = up2 S 1 a1.toNatClampNeg a2 → 
  (a2 = 0 → Q () S1) ∧
  (¬ a2 = 0 → ((S1 0 16) = (S1 0 5) → ∀ S5, S5 = up2 S1 0 23 ((S1 0 23) + 1) → 
      wX5_filter  S5 (fun _ S8 => 
      wX5_store_b37 a1 a2   S8 Q)) ∧
    (¬ (S1 0 16) = (S1 0 5) → wX5_store_b37 a1 a2   S1 Q))
def wX5_isFrom (a1 : Int32) (S : Nat → Nat → Int32) (Q : Bool → (Nat → Nat → Int32) → Prop) : Prop :=
  wX5_generation a1 S (fun r1 S2 => 
  (a1 = 0 → Q false S2) ∧
  (¬ a1 = 0 → ((S2 0 31) < r1 → Q false S2) ∧
    (¬ (S2 0 31) < r1 → vp_in r1 3 ∧ (a1 < (S2 19 r1.toNatClampNeg) → Q false S2) ∧
      (¬ a1 < (S2 19 r1.toNatClampNeg) → vp_in r1 3 ∧ ((S2 20 r1.toNatClampNeg) ≤ a1 → Q false S2) ∧
        (¬ (S2 20 r1.toNatClampNeg) ≤ a1 → Q true S2)))))
def wX5_fits_b26 (a1 : Int32) (a2 : Int32) (y26_0 : Int32) (y26_1 : Int32) (S : Nat → Nat → Int32) (Q : Bool → (Nat → Nat → Int32) → Prop) : Prop :=
  ∀ x2 : Int32, x2 = y26_1 + y26_0 → wX5_size a1 S (fun r4 S5 => 
  (r4 < x2 → Q false S5) ∧
  (¬ r4 < x2 → Q true S5))
def wX5_fits (a1 : Int32) (a2 : Int32) (S : Nat → Nat → Int32) (Q : Bool → (Nat → Nat → Int32) → Prop) : Prop :=
  vp_in a1 3 ∧ ((S 0 31) < a1 → wX5_fits_b26 a1 a2  0 ((S 5 a1.toNatClampNeg) + a2) S Q) ∧
  (¬ (S 0 31) < a1 → vp_in a1 3 ∧ wX5_fits_b26 a1 a2  (S 21 a1.toNatClampNeg) ((S 5 a1.toNatClampNeg) + a2) S Q)
def wX5_copy_b228 (a1 : Int32) (x228_6 : Int32) (x228_3 : Int32) (y228_0 : Int32) (S : Nat → Nat → Int32) (Q : Int32 → (Nat → Nat → Int32) → Prop) : Prop :=
  ∀ S38, S38 = up2 S 0 25 y228_0 → 
  ∀ S40, S40 = up2 S38 0 32 ((S38 0 32) + x228_3) → 
  vp_in a1 1793 ∧ ∀ S42, S42 = up2 S40 2 a1.toNatClampNeg x228_6 → 
  Q x228_6 S42
def wX5_copy_b195 (a1 : Int32) (x195_6 : Int32) (x195_5 : Int32) (x195_3 : Int32) (x195_2 : Int32) (y195_0 : Int32) (y195_1 : Int32) (y195_2 : Int32) (y195_3 : Int32) (S : Nat → Nat → Int32) (Q : Int32 → (Nat → Nat → Int32) → Prop) : Prop :=
  vp_in a1 1793 ∧ vp_in y195_3 1793 ∧ ∀ S35, S35 = up2 S 1 y195_3.toNatClampNeg ((y195_2 + (y195_1 * y195_0)) + ((S 1 a1.toNatClampNeg) &&& 64)) → 
  (x195_5 ≤ x195_2 → wX5_copy_b228 a1  x195_6 x195_3 (S35 0 25) S35 Q) ∧
  (¬ x195_5 ≤ x195_2 → wX5_copy_b228 a1  x195_6 x195_3 ((S35 0 25) + 1) S35 Q)
def wX5_copy_b139 (a1 : Int32) : Nat → Int32 → Int32 → Int32 → Int32 → Int32 → Int32 → (Nat → Nat → Int32) → (Int32 → (Nat → Nat → Int32) → Prop) → Prop
  | 0, _, _, _, _, _, _, _, _ => False
  | nn + 1, x139_7, x139_6, x139_5, x139_4, x139_3, x139_2, S, Q =>
  (x139_3 ≤ x139_7 → wX5_fields a1 S (fun r28 S29 => 
    (x139_5 ≤ x139_2 → wX5_copy_b195 a1  x139_6 x139_5 x139_3 x139_2 x139_4 8 r28 x139_6 S29 Q) ∧
    (¬ x139_5 ≤ x139_2 → wX5_copy_b195 a1  x139_6 x139_5 x139_3 x139_2 0 8 r28 x139_6 S29 Q))) ∧
  (¬ x139_3 ≤ x139_7 → vp_in (a1 + x139_7) 1793 ∧ vp_in (x139_6 + x139_7) 1793 ∧ ∀ S31, S31 = up2 S 1 ((x139_6 + x139_7).toNatClampNeg) (S 1 ((a1 + x139_7).toNatClampNeg)) → 
    ∀ x33 : Int32, x33 = x139_7 + 1 → wX5_copy_b139 a1  nn x33 x139_6 x139_5 x139_4 x139_3 x139_2 S31 Q)
def wX5_copy_b95 (a1 : Int32) (x95_4 : Int32) (x95_3 : Int32) (x95_2 : Int32) (y95_0 : Int32) (S : Nat → Nat → Int32) (Q : Int32 → (Nat → Nat → Int32) → Prop) : Prop :=
  vp_in y95_0 3 ∧ wX5_begin y95_0 (S 4 y95_0.toNatClampNeg) S (fun r20 S21 => 
  vp_in y95_0 3 ∧ ∀ x22 : Int32, x22 = r20 + (S21 5 y95_0.toNatClampNeg) → vp_in y95_0 3 ∧ vp_in y95_0 3 ∧ ∀ S24, S24 = up2 S21 5 y95_0.toNatClampNeg ((S21 5 y95_0.toNatClampNeg) + x95_3) → 
  ∃ f26, wX5_copy_b139 a1  f26 0 x22 y95_0 x95_4 x95_3 x95_2 S24 Q)
def wX5_copy_b94 (a1 : Int32) (x94_4 : Int32) (x94_3 : Int32) (x94_2 : Int32) (S : Nat → Nat → Int32) (Q : Int32 → (Nat → Nat → Int32) → Prop) : Prop :=
  wX5_copy_b95 a1  x94_4 x94_3 x94_2 x94_2 S Q
def wX5_copy_b73 (a1 : Int32) (x73_4 : Int32) (x73_3 : Int32) (x73_2 : Int32) (y73_0 : Int32) (y73_2 : Int32) (S : Nat → Nat → Int32) (Q : Int32 → (Nat → Nat → Int32) → Prop) : Prop :=
  vp_in y73_0 2 ∧ (y73_2 ≤ (S 3 y73_0.toNatClampNeg) → wX5_copy_b94 a1  x73_4 x73_3 x73_2 S Q) ∧
  (¬ y73_2 ≤ (S 3 y73_0.toNatClampNeg) → wX5_fits (x73_2 + 1) x73_3 S (fun r17 S18 => 
    (r17 = false → wX5_copy_b94 a1  x73_4 x73_3 x73_2 S18 Q) ∧
    (r17 = true → wX5_copy_b95 a1  x73_4 x73_3 x73_2 (x73_2 + 1) S18 Q)))
def wX5_copy_b36 (a1 : Int32) (x36_3 : Int32) (x36_2 : Int32) (y36_0 : Int32) (S : Nat → Nat → Int32) (Q : Int32 → (Nat → Nat → Int32) → Prop) : Prop :=
  vp_in x36_2 3 ∧ vp_in x36_2 3 ∧ ∀ S12, S12 = up2 S 21 x36_2.toNatClampNeg ((S 21 x36_2.toNatClampNeg) - x36_3) → 
  (2 ≤ x36_2 → wX5_copy_b94 a1  y36_0 x36_3 x36_2 S12 Q) ∧
  (¬ 2 ≤ x36_2 → (2 ≤ x36_2 → wX5_copy_b73 a1  y36_0 x36_3 x36_2 0 y36_0 S12 Q) ∧
    (¬ 2 ≤ x36_2 → wX5_copy_b73 a1  y36_0 x36_3 x36_2 x36_2 y36_0 S12 Q))
def wX5_copy (a1 : Int32) (S : Nat → Nat → Int32) (Q : Int32 → (Nat → Nat → Int32) → Prop) : Prop :=
  wX5_generation a1 S (fun r1 S2 => 
  wX5_fields a1 S2 (fun r3 S4 => 
  ∀ x5 : Int32, x5 = r3 + 2 → wX5_age a1 S4 (fun r7 S8 => 
  (7 ≤ r7 → wX5_copy_b36 a1  x5 r1 7 S8 Q) ∧
  (¬ 7 ≤ r7 → wX5_age a1 S8 (fun r10 S11 => 
    wX5_copy_b36 a1  x5 r1 (r10 + 1) S11 Q)))))
def wX5_bring (a1 : Int32) (S : Nat → Nat → Int32) (Q : Int32 → (Nat → Nat → Int32) → Prop) : Prop :=
  wX5_isFrom a1 S (fun r1 S2 => 
  (r1 = false → Q a1 S2) ∧
  (r1 = true → vp_in a1 1793 ∧ ((S2 2 a1.toNatClampNeg) = 0 → wX5_copy a1 S2 (fun r5 S6 => 
      Q r5 S6)) ∧
    (¬ (S2 2 a1.toNatClampNeg) = 0 → vp_in a1 1793 ∧ Q (S2 2 a1.toNatClampNeg) S2)))
def wX5_scan_b58  (K2 : Int32 → (Nat → Nat → Int32) → Prop) : Nat → Int32 → Int32 → Int32 → Int32 → (Nat → Nat → Int32) → (Unit → (Nat → Nat → Int32) → Prop) → Prop
  | 0, _, _, _, _, _, _ => False
  | nn + 1, x58_4, x58_3, x58_2, x58_1, S, Q =>
  (((x58_2 + 2) + x58_3) ≤ x58_4 → vp_in x58_1 3 ∧ vp_in x58_1 3 ∧ ∀ S16, S16 = up2 S 22 x58_1.toNatClampNeg (((S 22 x58_1.toNatClampNeg) + x58_3) + 2) → 
    K2 0 S16) ∧
  (¬ ((x58_2 + 2) + x58_3) ≤ x58_4 → vp_in x58_4 1793 ∧ wX5_bring (S 1 x58_4.toNatClampNeg) S (fun r18 S19 => 
    vp_in x58_4 1793 ∧ ∀ S20, S20 = up2 S19 1 x58_4.toNatClampNeg r18 → 
    wX5_rememberIf x58_4 S20 (fun _ S23 => 
    ∀ x24 : Int32, x24 = x58_4 + 1 → wX5_scan_b58  K2 nn x24 x58_3 x58_2 x58_1 S23 Q)))
def wX5_scan_b2  : Nat → Int32 → (Nat → Nat → Int32) → (Unit → (Nat → Nat → Int32) → Prop) → Prop
  | 0, _, _, _ => False
  | nn + 1, x2_1, S, Q =>
  (3 ≤ x2_1 → Q () S) ∧
  (¬ 3 ≤ x2_1 → vp_in x2_1 3 ∧ vp_in x2_1 3 ∧ ((S 22 x2_1.toNatClampNeg) = (S 5 x2_1.toNatClampNeg) → ∀ x4 : Int32, x4 = x2_1 + 1 → wX5_scan_b2   nn x4 S Q) ∧
    (¬ (S 22 x2_1.toNatClampNeg) = (S 5 x2_1.toNatClampNeg) → vp_in x2_1 3 ∧ wX5_begin x2_1 (S 4 x2_1.toNatClampNeg) S (fun r6 S7 => 
      vp_in x2_1 3 ∧ ∀ x8 : Int32, x8 = r6 + (S7 22 x2_1.toNatClampNeg) → wX5_fields x8 S7 (fun r10 S11 => 
      ∀ x12 : Int32, x12 = x8 + 2 → ∃ f14, wX5_scan_b58  (fun z0 T => wX5_scan_b2   nn z0 T Q) f14 x12 r10 x8 x2_1 S11 Q))))
def wX5_scan  (S : Nat → Nat → Int32) (Q : Unit → (Nat → Nat → Int32) → Prop) : Prop :=
  ∃ f1, wX5_scan_b2   f1 0 S Q
def wX5_bringRows_b67 (a1 : Int32) (K2 : Int32 → (Nat → Nat → Int32) → Prop) (K9 : Int32 → Int32 → (Nat → Nat → Int32) → Prop) (x67_3 : Int32) (x67_2 : Int32) (S : Nat → Nat → Int32) (Q : Unit → (Nat → Nat → Int32) → Prop) : Prop :=
  ∀ x18 : Int32, x18 = x67_3 + 1 → K9 x18 x67_2 S
def wX5_bringRows_b9 (a1 : Int32) (K2 : Int32 → (Nat → Nat → Int32) → Prop) : Nat → Int32 → Int32 → (Nat → Nat → Int32) → (Unit → (Nat → Nat → Int32) → Prop) → Prop
  | 0, _, _, _, _ => False
  | nn + 1, x9_3, x9_2, S, Q =>
  vp_in x9_2 2 ∧ ((S 14 x9_2.toNatClampNeg) ≤ x9_3 → ∀ x5 : Int32, x5 = x9_2 + 1 → K2 x5 S) ∧
  (¬ (S 14 x9_2.toNatClampNeg) ≤ x9_3 → vp_in ((1000 * x9_2) + x9_3) 2000 ∧ ∀ x7 : Int32, x7 = S 15 (((1000 * x9_2) + x9_3).toNatClampNeg) → wX5_generation x7 S (fun r9 S10 => 
    (r9 ≤ a1 → wX5_bringRows_b67 a1 K2 (fun z0 z1 T => wX5_bringRows_b9 a1 K2 nn z0 z1 T Q) x9_3 x9_2 S10 Q) ∧
    (¬ r9 ≤ a1 → vp_in x7 1793 ∧ wX5_bring (S10 1 x7.toNatClampNeg) S10 (fun r12 S13 => 
      vp_in x7 1793 ∧ ∀ S14, S14 = up2 S13 1 x7.toNatClampNeg r12 → 
      wX5_rememberIf x7 S14 (fun _ S17 => 
      wX5_bringRows_b67 a1 K2 (fun z0 z1 T => wX5_bringRows_b9 a1 K2 nn z0 z1 T Q) x9_3 x9_2 S17 Q)))))
def wX5_bringRows_b2 (a1 : Int32) : Nat → Int32 → (Nat → Nat → Int32) → (Unit → (Nat → Nat → Int32) → Prop) → Prop
  | 0, _, _, _ => False
  | nn + 1, x2_2, S, Q =>
  (2 ≤ x2_2 → Q () S) ∧
  (¬ 2 ≤ x2_2 → ∃ f3, wX5_bringRows_b9 a1 (fun z0 T => wX5_bringRows_b2 a1  nn z0 T Q) f3 0 x2_2 S Q)
def wX5_bringRows (a1 : Int32) (S : Nat → Nat → Int32) (Q : Unit → (Nat → Nat → Int32) → Prop) : Prop :=
  ∃ f1, wX5_bringRows_b2 a1  f1 0 S Q
def wX5_grantWishes_b98  (K4 : Int32 → Int32 → (Nat → Nat → Int32) → Prop) (x98_2 : Int32) (x98_1 : Int32) (S : Nat → Nat → Int32) (Q : Unit → (Nat → Nat → Int32) → Prop) : Prop :=
  ∀ x23 : Int32, x23 = x98_2 + 1 → K4 x23 x98_1 S
def wX5_grantWishes_b84  (K4 : Int32 → Int32 → (Nat → Nat → Int32) → Prop) (x84_3 : Int32) (x84_2 : Int32) (x84_1 : Int32) (S : Nat → Nat → Int32) (Q : Unit → (Nat → Nat → Int32) → Prop) : Prop :=
  wX5_bring x84_3 S (fun r17 S18 => 
  vp_in x84_1 460 ∧ ∀ S19, S19 = up2 S18 9 x84_1.toNatClampNeg r17 → 
  ∀ x21 : Int32, x21 = x84_1 + 1 → wX5_grantWishes_b98  K4 x84_2 x21 S19 Q)
def wX5_grantWishes_b4  : Nat → Int32 → Int32 → (Nat → Nat → Int32) → (Unit → (Nat → Nat → Int32) → Prop) → Prop
  | 0, _, _, _, _ => False
  | nn + 1, x4_2, x4_1, S, Q =>
  ((S 0 12) ≤ x4_2 → ∀ S3, S3 = up2 S 0 12 x4_1 → 
    Q () S3) ∧
  (¬ (S 0 12) ≤ x4_2 → vp_in x4_2 460 ∧ wX5_isFrom (S 9 x4_2.toNatClampNeg) S (fun r5 S6 => 
    (r5 = false → wX5_grantWishes_b84  (fun z0 z1 T => wX5_grantWishes_b4   nn z0 z1 T Q) (S 9 x4_2.toNatClampNeg) x4_2 x4_1 S6 Q) ∧
    (r5 = true → vp_in (S 9 x4_2.toNatClampNeg) 1793 ∧ ((S6 2 ((S 9 x4_2.toNatClampNeg).toNatClampNeg)) = 0 → wX5_bring (S 9 x4_2.toNatClampNeg) S6 (fun r9 S10 => 
        vp_in r9 1793 ∧ vp_in r9 1793 ∧ ∀ S11, S11 = up2 S10 1 r9.toNatClampNeg ((S10 1 r9.toNatClampNeg) &&& 63) → 
        vp_in (S11 0 14) 460 ∧ ∀ S13, S13 = up2 S11 10 ((S11 0 14).toNatClampNeg) r9 → 
        ∀ S15, S15 = up2 S13 0 14 ((S13 0 14) + 1) → 
        wX5_grantWishes_b98  (fun z0 z1 T => wX5_grantWishes_b4   nn z0 z1 T Q) x4_2 x4_1 S15 Q)) ∧
      (¬ (S6 2 ((S 9 x4_2.toNatClampNeg).toNatClampNeg)) = 0 → wX5_grantWishes_b84  (fun z0 z1 T => wX5_grantWishes_b4   nn z0 z1 T Q) (S 9 x4_2.toNatClampNeg) x4_2 x4_1 S6 Q))))
def wX5_grantWishes  (S : Nat → Nat → Int32) (Q : Unit → (Nat → Nat → Int32) → Prop) : Prop :=
  ∃ f1, wX5_grantWishes_b4   f1 0 0 S Q
def wX5_gather_b125 (a1 : Int32) (K16 : Int32 → (Nat → Nat → Int32) → Prop) (x125_2 : Int32) (S : Nat → Nat → Int32) (Q : Int32 → (Nat → Nat → Int32) → Prop) : Prop :=
  vp_in x125_2 3 ∧ vp_in x125_2 3 ∧ ∀ S31, S31 = up2 S 22 x125_2.toNatClampNeg (S 5 x125_2.toNatClampNeg) → 
  ∀ x33 : Int32, x33 = x125_2 + 1 → K16 x33 S31
def wX5_gather_b102 (a1 : Int32) (K16 : Int32 → (Nat → Nat → Int32) → Prop) : Nat → Int32 → Int32 → (Nat → Nat → Int32) → (Int32 → (Nat → Nat → Int32) → Prop) → Prop
  | 0, _, _, _, _ => False
  | nn + 1, x102_3, x102_2, S, Q =>
  vp_in x102_2 3 ∧ ((S 20 x102_2.toNatClampNeg) ≤ x102_3 → wX5_gather_b125 a1 K16 x102_2 S Q) ∧
  (¬ (S 20 x102_2.toNatClampNeg) ≤ x102_3 → vp_in x102_3 1793 ∧ ∀ S36, S36 = up2 S 2 x102_3.toNatClampNeg 0 → 
    ∀ x38 : Int32, x38 = x102_3 + 1 → wX5_gather_b102 a1 K16 nn x38 x102_2 S36 Q)
def wX5_gather_b171 (a1 : Int32) (K145 : Int32 → (Nat → Nat → Int32) → Prop) : Nat → Int32 → Int32 → (Nat → Nat → Int32) → (Int32 → (Nat → Nat → Int32) → Prop) → Prop
  | 0, _, _, _, _ => False
  | nn + 1, x171_3, x171_2, S, Q =>
  vp_in x171_2 2 ∧ ((S 14 x171_2.toNatClampNeg) ≤ x171_3 → ∀ x49 : Int32, x49 = x171_2 + 1 → K145 x49 S) ∧
  (¬ (S 14 x171_2.toNatClampNeg) ≤ x171_3 → vp_in ((1000 * x171_2) + x171_3) 2000 ∧ vp_in ((1000 * x171_2) + x171_3) 2000 ∧ ∀ S51, S51 = up2 S 15 (((1000 * x171_2) + x171_3).toNatClampNeg) (S 13 (((1000 * x171_2) + x171_3).toNatClampNeg)) → 
    ∀ x53 : Int32, x53 = x171_3 + 1 → wX5_gather_b171 a1 K145 nn x53 x171_2 S51 Q)
def wX5_gather_b374 (a1 : Int32) (K330 : Int32 → (Nat → Nat → Int32) → Prop) (x374_2 : Int32) (y374_0 : Int32) (y374_1 : Int32) (S : Nat → Nat → Int32) (Q : Int32 → (Nat → Nat → Int32) → Prop) : Prop :=
  vp_in y374_1 8 ∧ ∀ S87, S87 = up2 S 8 y374_1.toNatClampNeg y374_0 → 
  ∀ x89 : Int32, x89 = x374_2 + 1 → K330 x89 S87
def wX5_gather_b330 (a1 : Int32) : Nat → Int32 → (Nat → Nat → Int32) → (Int32 → (Nat → Nat → Int32) → Prop) → Prop
  | 0, _, _, _ => False
  | nn + 1, x330_2, S, Q =>
  (8 ≤ x330_2 → vp_in a1 3 ∧ vp_in a1 3 ∧ ∀ S80, S80 = up2 S 16 a1.toNatClampNeg ((S 16 a1.toNatClampNeg) + 1) → 
    ∀ S82, S82 = up2 S80 0 24 ((S80 0 24) + (S80 0 32)) → 
    Q (S82 0 32) S82) ∧
  (¬ 8 ≤ x330_2 → vp_in x330_2 8 ∧ wX5_isFrom (S 8 x330_2.toNatClampNeg) S (fun r84 S85 => 
    (r84 = false → vp_in x330_2 8 ∧ wX5_gather_b374 a1 (fun z0 T => wX5_gather_b330 a1  nn z0 T Q) x330_2 (S85 8 x330_2.toNatClampNeg) x330_2 S85 Q) ∧
    (r84 = true → vp_in x330_2 8 ∧ vp_in (S85 8 x330_2.toNatClampNeg) 1793 ∧ wX5_gather_b374 a1 (fun z0 T => wX5_gather_b330 a1  nn z0 T Q) x330_2 (S85 2 ((S85 8 x330_2.toNatClampNeg).toNatClampNeg)) x330_2 S85 Q)))
def wX5_gather_b281 (a1 : Int32) : Nat → Int32 → (Nat → Nat → Int32) → (Int32 → (Nat → Nat → Int32) → Prop) → Prop
  | 0, _, _, _ => False
  | nn + 1, x281_2, S, Q =>
  ((S 0 14) ≤ x281_2 → wX5_bringRows a1 S (fun _ S65 => 
    wX5_scan  S65 (fun _ S67 => 
    wX5_grantWishes  S67 (fun _ S69 => 
    wX5_scan  S69 (fun _ S71 => 
    ∃ f72, wX5_gather_b330 a1  f72 0 S71 Q))))) ∧
  (¬ (S 0 14) ≤ x281_2 → vp_in x281_2 460 ∧ wX5_bring (S 10 x281_2.toNatClampNeg) S (fun r73 S74 => 
    vp_in x281_2 460 ∧ ∀ S75, S75 = up2 S74 10 x281_2.toNatClampNeg r73 → 
    ∀ x77 : Int32, x77 = x281_2 + 1 → wX5_gather_b281 a1  nn x77 S75 Q))
def wX5_gather_b249 (a1 : Int32) : Nat → Int32 → (Nat → Nat → Int32) → (Int32 → (Nat → Nat → Int32) → Prop) → Prop
  | 0, _, _, _ => False
  | nn + 1, x249_2, S, Q =>
  ((S 0 9) ≤ x249_2 → ∃ f56, wX5_gather_b281 a1  f56 0 S Q) ∧
  (¬ (S 0 9) ≤ x249_2 → vp_in x249_2 40 ∧ wX5_bring (S 7 x249_2.toNatClampNeg) S (fun r57 S58 => 
    vp_in x249_2 40 ∧ ∀ S59, S59 = up2 S58 7 x249_2.toNatClampNeg r57 → 
    ∀ x61 : Int32, x61 = x249_2 + 1 → wX5_gather_b249 a1  nn x61 S59 Q))
def wX5_gather_b219 (a1 : Int32) : Nat → Int32 → (Nat → Nat → Int32) → (Int32 → (Nat → Nat → Int32) → Prop) → Prop
  | 0, _, _, _ => False
  | nn + 1, x219_2, S, Q =>
  (16 ≤ x219_2 → ∃ f41, wX5_gather_b249 a1  f41 0 S Q) ∧
  (¬ 16 ≤ x219_2 → vp_in x219_2 16 ∧ wX5_bring (S 6 x219_2.toNatClampNeg) S (fun r42 S43 => 
    vp_in x219_2 16 ∧ ∀ S44, S44 = up2 S43 6 x219_2.toNatClampNeg r42 → 
    ∀ x46 : Int32, x46 = x219_2 + 1 → wX5_gather_b219 a1  nn x46 S44 Q))
def wX5_gather_b145 (a1 : Int32) : Nat → Int32 → (Nat → Nat → Int32) → (Int32 → (Nat → Nat → Int32) → Prop) → Prop
  | 0, _, _, _ => False
  | nn + 1, x145_2, S, Q =>
  (2 ≤ x145_2 → ∃ f25, wX5_gather_b219 a1  f25 0 S Q) ∧
  (¬ 2 ≤ x145_2 → vp_in x145_2 2 ∧ vp_in x145_2 2 ∧ ∀ S26, S26 = up2 S 14 x145_2.toNatClampNeg (S 12 x145_2.toNatClampNeg) → 
    vp_in x145_2 2 ∧ ∀ S28, S28 = up2 S26 12 x145_2.toNatClampNeg 0 → 
    ∃ f30, wX5_gather_b171 a1 (fun z0 T => wX5_gather_b145 a1  nn z0 T Q) f30 0 x145_2 S28 Q)
def wX5_gather_b16 (a1 : Int32) : Nat → Int32 → (Nat → Nat → Int32) → (Int32 → (Nat → Nat → Int32) → Prop) → Prop
  | 0, _, _, _ => False
  | nn + 1, x16_2, S, Q =>
  (3 ≤ x16_2 → ∃ f9, wX5_gather_b145 a1  f9 0 S Q) ∧
  (¬ 3 ≤ x16_2 → (a1 < x16_2 → wX5_gather_b125 a1 (fun z0 T => wX5_gather_b16 a1  nn z0 T Q) x16_2 S Q) ∧
    (¬ a1 < x16_2 → vp_in x16_2 3 ∧ wX5_begin x16_2 (S 4 x16_2.toNatClampNeg) S (fun r11 S12 => 
      vp_in x16_2 3 ∧ ∀ S13, S13 = up2 S12 19 x16_2.toNatClampNeg r11 → 
      vp_in x16_2 3 ∧ vp_in x16_2 3 ∧ vp_in x16_2 3 ∧ ∀ S15, S15 = up2 S13 20 x16_2.toNatClampNeg ((S13 19 x16_2.toNatClampNeg) + (S13 5 x16_2.toNatClampNeg)) → 
      vp_in x16_2 3 ∧ vp_in x16_2 3 ∧ ∀ S17, S17 = up2 S15 21 x16_2.toNatClampNeg (S15 5 x16_2.toNatClampNeg) → 
      vp_in x16_2 3 ∧ vp_in x16_2 3 ∧ ∀ S19, S19 = up2 S17 4 x16_2.toNatClampNeg (1 - (S17 4 x16_2.toNatClampNeg)) → 
      vp_in x16_2 3 ∧ ∀ S21, S21 = up2 S19 5 x16_2.toNatClampNeg 0 → 
      vp_in x16_2 3 ∧ ∃ f23, wX5_gather_b102 a1 (fun z0 T => wX5_gather_b16 a1  nn z0 T Q) f23 (S21 19 x16_2.toNatClampNeg) x16_2 S21 Q)))
def wX5_gather (a1 : Int32) (S : Nat → Nat → Int32) (Q : Int32 → (Nat → Nat → Int32) → Prop) : Prop :=
  wX5_filter  S (fun _ S2 => 
  ∀ S3, S3 = up2 S2 0 31 a1 → 
  ∀ S5, S5 = up2 S3 0 32 0 → 
  ∃ f7, wX5_gather_b16 a1  f7 0 S5 Q)
def wX5_object_b129 (a1 : Int32) (a2 : Int32) (a3 : Int32) : Nat → Int32 → Int32 → (Nat → Nat → Int32) → (Int32 → (Nat → Nat → Int32) → Prop) → Prop
  | 0, _, _, _, _ => False
  | nn + 1, x129_5, x129_4, S, Q =>
  (a1 ≤ x129_5 → (a3 = 0 → Q x129_4 S) ∧
    (¬ a3 = 0 → vp_in (S 0 12) 460 ∧ ∀ S27, S27 = up2 S 9 ((S 0 12).toNatClampNeg) x129_4 → 
      ∀ S29, S29 = up2 S27 0 12 ((S27 0 12) + 1) → 
      Q x129_4 S29)) ∧
  (¬ a1 ≤ x129_5 → vp_in ((x129_4 + 2) + x129_5) 1793 ∧ ∀ S31, S31 = up2 S 1 (((x129_4 + 2) + x129_5).toNatClampNeg) 0 → 
    ∀ x33 : Int32, x33 = x129_5 + 1 → wX5_object_b129 a1 a2 a3  nn x33 x129_4 S31 Q)
def wX5_object_b114 (a1 : Int32) (a2 : Int32) (a3 : Int32) (x114_4 : Int32) (y114_0 : Int32) (y114_1 : Int32) (y114_2 : Int32) (S : Nat → Nat → Int32) (Q : Int32 → (Nat → Nat → Int32) → Prop) : Prop :=
  vp_in y114_2 1793 ∧ ∀ S20, S20 = up2 S 1 y114_2.toNatClampNeg (y114_1 + y114_0) → 
  vp_in (x114_4 + 1) 1793 ∧ ∀ S22, S22 = up2 S20 1 ((x114_4 + 1).toNatClampNeg) a2 → 
  ∃ f24, wX5_object_b129 a1 a2 a3  f24 0 x114_4 S22 Q
def wX5_object_b41 (a1 : Int32) (a2 : Int32) (a3 : Int32)  (S : Nat → Nat → Int32) (Q : Int32 → (Nat → Nat → Int32) → Prop) : Prop :=
  wX5_size 0 S (fun r10 S11 => 
  ((((S 5 0) + a1) + 2) ≤ r10 → wX5_begin 0 (S11 4 0) S11 (fun r13 S14 => 
    ∀ x15 : Int32, x15 = r13 + (S14 5 0) → ∀ S17, S17 = up2 S14 5 0 (((S14 5 0) + a1) + 2) → 
    (a3 = 0 → wX5_object_b114 a1 a2 a3  x15 0 a1 x15 S17 Q) ∧
    (¬ a3 = 0 → wX5_object_b114 a1 a2 a3  x15 64 a1 x15 S17 Q))) ∧
  (¬ (((S 5 0) + a1) + 2) ≤ r10 → Q 0 S11))
def wX5_object_b3 (a1 : Int32) (a2 : Int32) (a3 : Int32) : Nat → Int32 → (Nat → Nat → Int32) → (Int32 → (Nat → Nat → Int32) → Prop) → Prop
  | 0, _, _, _ => False
  | nn + 1, x3_4, S, Q =>
  (3 ≤ x3_4 → wX5_object_b41 a1 a2 a3   S Q) ∧
  (¬ 3 ≤ x3_4 → wX5_size 0 S (fun r3 S4 => 
    ((((S 5 0) + a1) + 2) ≤ r3 → wX5_object_b41 a1 a2 a3   S4 Q) ∧
    (¬ (((S 5 0) + a1) + 2) ≤ r3 → wX5_gather x3_4 S4 (fun r6 S7 => 
      ∀ x8 : Int32, x8 = x3_4 + 1 → wX5_object_b3 a1 a2 a3  nn x8 S7 Q))))
def wX5_object (a1 : Int32) (a2 : Int32) (a3 : Int32) (S : Nat → Nat → Int32) (Q : Int32 → (Nat → Nat → Int32) → Prop) : Prop :=
  ∃ f1, wX5_object_b3 a1 a2 a3  f1 0 S Q
def wX5_make_b70 (a1 : Int32) (a2 : Int32) (a3 : Int32) (a4 : Int32) (x70_5 : Int32) (y70_0 : Int32) (y70_1 : Int32) (S : Nat → Nat → Int32) (Q : Int32 → (Nat → Nat → Int32) → Prop) : Prop :=
  vp_in y70_1 16 ∧ ∀ S13, S13 = up2 S 6 y70_1.toNatClampNeg y70_0 → 
  Q x70_5 S13
def wX5_make_b27 (a1 : Int32) (a2 : Int32) (a3 : Int32) (a4 : Int32) (y27_0 : Int32) (S : Nat → Nat → Int32) (Q : Int32 → (Nat → Nat → Int32) → Prop) : Prop :=
  ∀ S7, S7 = up2 S 0 0 y27_0 → 
  ((S7 0 0) ≤ 0 → wX5_object a2 a3 a4 S7 (fun r10 S11 => 
    (r10 = 0 → vp_in a1 16 ∧ wX5_make_b70 a1 a2 a3 a4  r10 (S11 6 a1.toNatClampNeg) a1 S11 Q) ∧
    (¬ r10 = 0 → wX5_make_b70 a1 a2 a3 a4  r10 r10 a1 S11 Q))) ∧
  (¬ (S7 0 0) ≤ 0 → Q 0 S7)
def wX5_make (a1 : Int32) (a2 : Int32) (a3 : Int32) (a4 : Int32) (S : Nat → Nat → Int32) (Q : Int32 → (Nat → Nat → Int32) → Prop) : Prop :=
  wX5_isRoot a1 S (fun r1 S2 => 
  (r1 = false → wX5_make_b27 a1 a2 a3 a4  1 S2 Q) ∧
  (r1 = true → wX5_in a2 0 6 S2 (fun r4 S5 => 
    (r4 = false → wX5_make_b27 a1 a2 a3 a4  2 S5 Q) ∧
    (r4 = true → wX5_make_b27 a1 a2 a3 a4  0 S5 Q))))
def wX5_push_b36 (a1 : Int32) (a2 : Int32) (a3 : Int32) : Nat → Int32 → Int32 → (Nat → Nat → Int32) → (Int32 → (Nat → Nat → Int32) → Prop) → Prop
  | 0, _, _, _, _ => False
  | nn + 1, x36_5, x36_4, S, Q =>
  ((S 0 0) = 0 → (x36_5 = 0 → Q x36_4 S) ∧
    (¬ x36_5 = 0 → (a3 ≤ x36_4 → Q x36_4 S) ∧
      (¬ a3 ≤ x36_4 → wX5_object 2 (a2 + x36_4) 0 S (fun r13 S14 => 
        (r13 = 0 → wX5_push_b36 a1 a2 a3  nn r13 x36_4 S14 Q) ∧
        (¬ r13 = 0 → vp_in a1 16 ∧ wX5_store (r13 + 2) (S14 6 a1.toNatClampNeg) S14 (fun _ S17 => 
          vp_in a1 16 ∧ ∀ S18, S18 = up2 S17 6 a1.toNatClampNeg r13 → 
          ∀ x20 : Int32, x20 = x36_4 + 1 → wX5_push_b36 a1 a2 a3  nn r13 x20 S18 Q)))))) ∧
  (¬ (S 0 0) = 0 → Q x36_4 S)
def wX5_push_b27 (a1 : Int32) (a2 : Int32) (a3 : Int32) (y27_0 : Int32) (S : Nat → Nat → Int32) (Q : Int32 → (Nat → Nat → Int32) → Prop) : Prop :=
  ∀ S7, S7 = up2 S 0 0 y27_0 → 
  ∃ f9, wX5_push_b36 a1 a2 a3  f9 1 0 S7 Q
def wX5_push (a1 : Int32) (a2 : Int32) (a3 : Int32) (S : Nat → Nat → Int32) (Q : Int32 → (Nat → Nat → Int32) → Prop) : Prop :=
  wX5_isRoot a1 S (fun r1 S2 => 
  (r1 = false → wX5_push_b27 a1 a2 a3  1 S2 Q) ∧
  (r1 = true → wX5_in a3 1 40 S2 (fun r4 S5 => 
    (r4 = false → wX5_push_b27 a1 a2 a3  2 S5 Q) ∧
    (r4 = true → wX5_push_b27 a1 a2 a3  0 S5 Q))))
def wX5_hasField_b39 (a1 : Int32) (a2 : Int32) (y39_0 : Int32) (S : Nat → Nat → Int32) (Q : Bool → (Nat → Nat → Int32) → Prop) : Prop :=
  ∀ S7, S7 = up2 S 0 0 y39_0 → 
  ((S7 0 0) = 0 → Q true S7) ∧
  (¬ (S7 0 0) = 0 → Q false S7)
def wX5_hasField (a1 : Int32) (a2 : Int32) (S : Nat → Nat → Int32) (Q : Bool → (Nat → Nat → Int32) → Prop) : Prop :=
  vp_in a1 16 ∧ ((S 6 a1.toNatClampNeg) = 0 → wX5_hasField_b39 a1 a2  2 S Q) ∧
  (¬ (S 6 a1.toNatClampNeg) = 0 → vp_in a1 16 ∧ wX5_fields (S 6 a1.toNatClampNeg) S (fun r2 S3 => 
    wX5_in a2 0 (r2 - 1) S3 (fun r4 S5 => 
    (r4 = false → wX5_hasField_b39 a1 a2  1 S5 Q) ∧
    (r4 = true → wX5_hasField_b39 a1 a2  0 S5 Q))))
def wX5_put_b85 (a1 : Int32) (a2 : Int32) (a3 : Int32) (x85_5 : Int32) (y85_0 : Int32) (y85_1 : Int32) (S : Nat → Nat → Int32) (Q : Int32 → (Nat → Nat → Int32) → Prop) : Prop :=
  wX5_store y85_1 y85_0 S (fun _ S18 => 
  Q x85_5 S18)
def wX5_put_b25 (a1 : Int32) (a2 : Int32) (a3 : Int32) (y25_0 : Int32) (S : Nat → Nat → Int32) (Q : Int32 → (Nat → Nat → Int32) → Prop) : Prop :=
  ∀ S8, S8 = up2 S 0 0 y25_0 → 
  (0 < (S8 0 0) → Q 0 S8) ∧
  (¬ 0 < (S8 0 0) → wX5_hasField a1 a2 S8 (fun r11 S12 => 
    (r11 = false → Q 0 S12) ∧
    (r11 = true → vp_in a1 16 ∧ ∀ x14 : Int32, x14 = ((S12 6 a1.toNatClampNeg) + 2) + a2 → vp_in x14 1793 ∧ (a3 = (-1 : Int32) → wX5_put_b85 a1 a2 a3  (S12 1 x14.toNatClampNeg) 0 x14 S12 Q) ∧
      (¬ a3 = (-1 : Int32) → vp_in a3 16 ∧ wX5_put_b85 a1 a2 a3  (S12 1 x14.toNatClampNeg) (S12 6 a3.toNatClampNeg) x14 S12 Q))))
def wX5_put_b24 (a1 : Int32) (a2 : Int32) (a3 : Int32)  (S : Nat → Nat → Int32) (Q : Int32 → (Nat → Nat → Int32) → Prop) : Prop :=
  wX5_put_b25 a1 a2 a3  1 S Q
def wX5_put_b20 (a1 : Int32) (a2 : Int32) (a3 : Int32)  (S : Nat → Nat → Int32) (Q : Int32 → (Nat → Nat → Int32) → Prop) : Prop :=
  wX5_put_b25 a1 a2 a3  0 S Q
def wX5_put (a1 : Int32) (a2 : Int32) (a3 : Int32) (S : Nat → Nat → Int32) (Q : Int32 → (Nat → Nat → Int32) → Prop) : Prop :=
  wX5_isRoot a1 S (fun r1 S2 => 
  (r1 = false → wX5_put_b24 a1 a2 a3   S2 Q) ∧
  (r1 = true → (a3 = (-1 : Int32) → wX5_put_b20 a1 a2 a3   S2 Q) ∧
    (¬ a3 = (-1 : Int32) → wX5_isRoot a3 S2 (fun r5 S6 => 
      (r5 = false → wX5_put_b24 a1 a2 a3   S6 Q) ∧
      (r5 = true → wX5_put_b20 a1 a2 a3   S6 Q)))))
def wX5_get_b20 (a1 : Int32) (a2 : Int32) (a3 : Int32) (y20_0 : Int32) (S : Nat → Nat → Int32) (Q : Int32 → (Nat → Nat → Int32) → Prop) : Prop :=
  ∀ S7, S7 = up2 S 0 0 y20_0 → 
  (0 < (S7 0 0) → Q 0 S7) ∧
  (¬ 0 < (S7 0 0) → wX5_hasField a2 a3 S7 (fun r10 S11 => 
    (r10 = false → Q 0 S11) ∧
    (r10 = true → vp_in a2 16 ∧ vp_in (((S11 6 a2.toNatClampNeg) + 2) + a3) 1793 ∧ vp_in a1 16 ∧ ∀ S13, S13 = up2 S11 6 a1.toNatClampNeg (S11 1 ((((S11 6 a2.toNatClampNeg) + 2) + a3).toNatClampNeg)) → 
      vp_in a1 16 ∧ Q (S13 6 a1.toNatClampNeg) S13)))
def wX5_get_b19 (a1 : Int32) (a2 : Int32) (a3 : Int32)  (S : Nat → Nat → Int32) (Q : Int32 → (Nat → Nat → Int32) → Prop) : Prop :=
  wX5_get_b20 a1 a2 a3  1 S Q
def wX5_get (a1 : Int32) (a2 : Int32) (a3 : Int32) (S : Nat → Nat → Int32) (Q : Int32 → (Nat → Nat → Int32) → Prop) : Prop :=
  wX5_isRoot a1 S (fun r1 S2 => 
  (r1 = false → wX5_get_b19 a1 a2 a3   S2 Q) ∧
  (r1 = true → wX5_isRoot a2 S2 (fun r4 S5 => 
    (r4 = false → wX5_get_b19 a1 a2 a3   S5 Q) ∧
    (r4 = true → wX5_get_b20 a1 a2 a3  0 S5 Q))))
def wX5_move_b57 (a1 : Int32) (a2 : Int32) (y57_0 : Int32) (y57_1 : Int32) (S : Nat → Nat → Int32) (Q : Int32 → (Nat → Nat → Int32) → Prop) : Prop :=
  vp_in y57_1 16 ∧ ∀ S12, S12 = up2 S 6 y57_1.toNatClampNeg y57_0 → 
  vp_in a1 16 ∧ Q (S12 6 a1.toNatClampNeg) S12
def wX5_move_b25 (a1 : Int32) (a2 : Int32) (y25_0 : Int32) (S : Nat → Nat → Int32) (Q : Int32 → (Nat → Nat → Int32) → Prop) : Prop :=
  ∀ S8, S8 = up2 S 0 0 y25_0 → 
  ((S8 0 0) ≤ 0 → (a2 = (-1 : Int32) → wX5_move_b57 a1 a2  0 a1 S8 Q) ∧
    (¬ a2 = (-1 : Int32) → vp_in a2 16 ∧ wX5_move_b57 a1 a2  (S8 6 a2.toNatClampNeg) a1 S8 Q)) ∧
  (¬ (S8 0 0) ≤ 0 → Q 0 S8)
def wX5_move_b24 (a1 : Int32) (a2 : Int32)  (S : Nat → Nat → Int32) (Q : Int32 → (Nat → Nat → Int32) → Prop) : Prop :=
  wX5_move_b25 a1 a2  1 S Q
def wX5_move_b20 (a1 : Int32) (a2 : Int32)  (S : Nat → Nat → Int32) (Q : Int32 → (Nat → Nat → Int32) → Prop) : Prop :=
  wX5_move_b25 a1 a2  0 S Q
def wX5_move (a1 : Int32) (a2 : Int32) (S : Nat → Nat → Int32) (Q : Int32 → (Nat → Nat → Int32) → Prop) : Prop :=
  wX5_isRoot a1 S (fun r1 S2 => 
  (r1 = false → wX5_move_b24 a1 a2   S2 Q) ∧
  (r1 = true → (a2 = (-1 : Int32) → wX5_move_b20 a1 a2   S2 Q) ∧
    (¬ a2 = (-1 : Int32) → wX5_isRoot a2 S2 (fun r5 S6 => 
      (r5 = false → wX5_move_b24 a1 a2   S6 Q) ∧
      (r5 = true → wX5_move_b20 a1 a2   S6 Q)))))
def wX5_keep_b26 (a1 : Int32) (y26_0 : Int32) (S : Nat → Nat → Int32) (Q : Int32 → (Nat → Nat → Int32) → Prop) : Prop :=
  ∀ S5, S5 = up2 S 0 0 y26_0 → 
  ((S5 0 0) ≤ 0 → vp_in a1 16 ∧ vp_in (S5 0 9) 40 ∧ ∀ S8, S8 = up2 S5 7 ((S5 0 9).toNatClampNeg) (S5 6 a1.toNatClampNeg) → 
    ∀ S10, S10 = up2 S8 0 9 ((S8 0 9) + 1) → 
    Q (S10 0 9) S10) ∧
  (¬ (S5 0 0) ≤ 0 → Q 0 S5)
def wX5_keep (a1 : Int32) (S : Nat → Nat → Int32) (Q : Int32 → (Nat → Nat → Int32) → Prop) : Prop :=
  wX5_isRoot a1 S (fun r1 S2 => 
  (r1 = false → wX5_keep_b26 a1  1 S2 Q) ∧
  (r1 = true → ((S2 0 9) = 40 → wX5_keep_b26 a1  2 S2 Q) ∧
    (¬ (S2 0 9) = 40 → wX5_keep_b26 a1  0 S2 Q)))
def wX5_back_b24 (a1 : Int32) (y24_0 : Int32) (S : Nat → Nat → Int32) (Q : Int32 → (Nat → Nat → Int32) → Prop) : Prop :=
  ∀ S5, S5 = up2 S 0 0 y24_0 → 
  ((S5 0 0) ≤ 0 → ∀ S8, S8 = up2 S5 0 9 ((S5 0 9) - 1) → 
    vp_in (S8 0 9) 40 ∧ vp_in a1 16 ∧ ∀ S10, S10 = up2 S8 6 a1.toNatClampNeg (S8 7 ((S8 0 9).toNatClampNeg)) → 
    vp_in a1 16 ∧ Q (S10 6 a1.toNatClampNeg) S10) ∧
  (¬ (S5 0 0) ≤ 0 → Q 0 S5)
def wX5_back (a1 : Int32) (S : Nat → Nat → Int32) (Q : Int32 → (Nat → Nat → Int32) → Prop) : Prop :=
  wX5_isRoot a1 S (fun r1 S2 => 
  (r1 = false → wX5_back_b24 a1  1 S2 Q) ∧
  (r1 = true → ((S2 0 9) = 0 → wX5_back_b24 a1  2 S2 Q) ∧
    (¬ (S2 0 9) = 0 → wX5_back_b24 a1  0 S2 Q)))
def wX5_weak_b23 (a1 : Int32) (a2 : Int32) (y23_0 : Int32) (S : Nat → Nat → Int32) (Q : Int32 → (Nat → Nat → Int32) → Prop) : Prop :=
  ∀ S7, S7 = up2 S 0 0 y23_0 → 
  ((S7 0 0) ≤ 0 → vp_in a1 8 ∧ vp_in a2 16 ∧ vp_in a1 8 ∧ ∀ S10, S10 = up2 S7 8 a1.toNatClampNeg (S7 6 a2.toNatClampNeg) → 
    Q (S7 8 a1.toNatClampNeg) S10) ∧
  (¬ (S7 0 0) ≤ 0 → Q 0 S7)
def wX5_weak_b22 (a1 : Int32) (a2 : Int32)  (S : Nat → Nat → Int32) (Q : Int32 → (Nat → Nat → Int32) → Prop) : Prop :=
  wX5_weak_b23 a1 a2  1 S Q
def wX5_weak (a1 : Int32) (a2 : Int32) (S : Nat → Nat → Int32) (Q : Int32 → (Nat → Nat → Int32) → Prop) : Prop :=
  wX5_in a1 0 7 S (fun r1 S2 => 
  (r1 = false → wX5_weak_b22 a1 a2   S2 Q) ∧
  (r1 = true → wX5_isRoot a2 S2 (fun r4 S5 => 
    (r4 = false → wX5_weak_b22 a1 a2   S5 Q) ∧
    (r4 = true → wX5_weak_b23 a1 a2  0 S5 Q))))
def wX5_strong_b23 (a1 : Int32) (a2 : Int32) (y23_0 : Int32) (S : Nat → Nat → Int32) (Q : Int32 → (Nat → Nat → Int32) → Prop) : Prop :=
  ∀ S7, S7 = up2 S 0 0 y23_0 → 
  ((S7 0 0) ≤ 0 → vp_in a2 8 ∧ vp_in a1 16 ∧ ∀ S10, S10 = up2 S7 6 a1.toNatClampNeg (S7 8 a2.toNatClampNeg) → 
    vp_in a1 16 ∧ Q (S10 6 a1.toNatClampNeg) S10) ∧
  (¬ (S7 0 0) ≤ 0 → Q 0 S7)
def wX5_strong_b22 (a1 : Int32) (a2 : Int32)  (S : Nat → Nat → Int32) (Q : Int32 → (Nat → Nat → Int32) → Prop) : Prop :=
  wX5_strong_b23 a1 a2  1 S Q
def wX5_strong (a1 : Int32) (a2 : Int32) (S : Nat → Nat → Int32) (Q : Int32 → (Nat → Nat → Int32) → Prop) : Prop :=
  wX5_in a2 0 7 S (fun r1 S2 => 
  (r1 = false → wX5_strong_b22 a1 a2   S2 Q) ∧
  (r1 = true → wX5_isRoot a1 S2 (fun r4 S5 => 
    (r4 = false → wX5_strong_b22 a1 a2   S5 Q) ∧
    (r4 = true → wX5_strong_b23 a1 a2  0 S5 Q))))
def wX5_wish_b56 (a1 : Int32) : Nat → Int32 → (Nat → Nat → Int32) → (Int32 → (Nat → Nat → Int32) → Prop) → Prop
  | 0, _, _, _ => False
  | nn + 1, x56_2, S, Q =>
  ((S 0 14) ≤ x56_2 → vp_in a1 16 ∧ Q (S 6 a1.toNatClampNeg) S) ∧
  (¬ (S 0 14) ≤ x56_2 → vp_in (x56_2 + 1) 460 ∧ vp_in x56_2 460 ∧ ∀ S14, S14 = up2 S 10 x56_2.toNatClampNeg (S 10 ((x56_2 + 1).toNatClampNeg)) → 
    ∀ x16 : Int32, x16 = x56_2 + 1 → wX5_wish_b56 a1  nn x16 S14 Q)
def wX5_wish_b13 (a1 : Int32) (y13_0 : Int32) (S : Nat → Nat → Int32) (Q : Int32 → (Nat → Nat → Int32) → Prop) : Prop :=
  ∀ S4, S4 = up2 S 0 0 y13_0 → 
  (0 < (S4 0 0) → Q 0 S4) ∧
  (¬ 0 < (S4 0 0) → ((S4 0 14) = 0 → Q 0 S4) ∧
    (¬ (S4 0 14) = 0 → vp_in a1 16 ∧ ∀ S8, S8 = up2 S4 6 a1.toNatClampNeg (S4 10 0) → 
      ∀ S10, S10 = up2 S8 0 14 ((S8 0 14) - 1) → 
      ∃ f12, wX5_wish_b56 a1  f12 0 S10 Q))
def wX5_wish (a1 : Int32) (S : Nat → Nat → Int32) (Q : Int32 → (Nat → Nat → Int32) → Prop) : Prop :=
  wX5_isRoot a1 S (fun r1 S2 => 
  (r1 = false → wX5_wish_b13 a1  1 S2 Q) ∧
  (r1 = true → wX5_wish_b13 a1  0 S2 Q))
def wX5_collect_b15 (a1 : Int32) (y15_0 : Int32) (S : Nat → Nat → Int32) (Q : Int32 → (Nat → Nat → Int32) → Prop) : Prop :=
  ∀ S4, S4 = up2 S 0 0 y15_0 → 
  ((S4 0 0) ≤ 0 → wX5_gather a1 S4 (fun r7 S8 => 
    Q r7 S8)) ∧
  (¬ (S4 0 0) ≤ 0 → Q 0 S4)
def wX5_collect (a1 : Int32) (S : Nat → Nat → Int32) (Q : Int32 → (Nat → Nat → Int32) → Prop) : Prop :=
  wX5_in a1 0 2 S (fun r1 S2 => 
  (r1 = false → wX5_collect_b15 a1  1 S2 Q) ∧
  (r1 = true → wX5_collect_b15 a1  0 S2 Q))
def wX5_root_b13 (a1 : Int32) (y13_0 : Int32) (S : Nat → Nat → Int32) (Q : Int32 → (Nat → Nat → Int32) → Prop) : Prop :=
  ∀ S4, S4 = up2 S 0 0 y13_0 → 
  ((S4 0 0) ≤ 0 → vp_in a1 16 ∧ Q (S4 6 a1.toNatClampNeg) S4) ∧
  (¬ (S4 0 0) ≤ 0 → Q 0 S4)
def wX5_root (a1 : Int32) (S : Nat → Nat → Int32) (Q : Int32 → (Nat → Nat → Int32) → Prop) : Prop :=
  wX5_isRoot a1 S (fun r1 S2 => 
  (r1 = false → wX5_root_b13 a1  1 S2 Q) ∧
  (r1 = true → wX5_root_b13 a1  0 S2 Q))
def wX5_about_b50 (a1 : Int32) (a2 : Int32) (y50_0 : Int32) (S : Nat → Nat → Int32) (Q : Int32 → (Nat → Nat → Int32) → Prop) : Prop :=
  ∀ S10, S10 = up2 S 0 0 y50_0 → 
  ((S10 0 0) ≤ 0 → vp_in a1 16 ∧ (a2 = 0 → wX5_fields (S10 6 a1.toNatClampNeg) S10 (fun r14 S15 => 
      Q r14 S15)) ∧
    (a2 = 1 → wX5_age (S10 6 a1.toNatClampNeg) S10 (fun r17 S18 => 
      Q r17 S18)) ∧
    (a2 = 2 → wX5_isKeen (S10 6 a1.toNatClampNeg) S10 (fun r20 S21 => 
      (r20 = false → Q 0 S21) ∧
      (r20 = true → Q 1 S21))) ∧
    (a2 = 3 → vp_in ((S10 6 a1.toNatClampNeg) + 1) 1793 ∧ Q (S10 1 (((S10 6 a1.toNatClampNeg) + 1).toNatClampNeg)) S10) ∧
    (a2 = 4 → wX5_generation (S10 6 a1.toNatClampNeg) S10 (fun r25 S26 => 
      Q r25 S26)) ∧
    (¬ a2 = 0 → ¬ a2 = 1 → ¬ a2 = 2 → ¬ a2 = 3 → ¬ a2 = 4 → vp_in ((((S10 6 a1.toNatClampNeg) + 2) + a2) - 5) 1793 ∧ Q (S10 1 (((((S10 6 a1.toNatClampNeg) + 2) + a2) - 5).toNatClampNeg)) S10)) ∧
  (¬ (S10 0 0) ≤ 0 → Q 0 S10)
def wX5_about (a1 : Int32) (a2 : Int32) (S : Nat → Nat → Int32) (Q : Int32 → (Nat → Nat → Int32) → Prop) : Prop :=
  wX5_isRoot a1 S (fun r1 S2 => 
  (r1 = false → wX5_about_b50 a1 a2  1 S2 Q) ∧
  (r1 = true → vp_in a1 16 ∧ ((S2 6 a1.toNatClampNeg) = 0 → wX5_about_b50 a1 a2  2 S2 Q) ∧
    (¬ (S2 6 a1.toNatClampNeg) = 0 → vp_in a1 16 ∧ wX5_fields (S2 6 a1.toNatClampNeg) S2 (fun r5 S6 => 
      wX5_in a2 0 (4 + r5) S6 (fun r7 S8 => 
      (r7 = false → wX5_about_b50 a1 a2  1 S8 Q) ∧
      (r7 = true → wX5_about_b50 a1 a2  0 S8 Q))))))
def wX5_word_b51 (a1 : Int32) (K4 : Int32 → Int32 → (Nat → Nat → Int32) → Prop) (x51_3 : Int32) (y51_0 : Int32) (S : Nat → Nat → Int32) (Q : Int32 → (Nat → Nat → Int32) → Prop) : Prop :=
  ∀ x13 : Int32, x13 = x51_3 + 1 → K4 x13 y51_0 S
def wX5_word_b46 (a1 : Int32) (K4 : Int32 → Int32 → (Nat → Nat → Int32) → Prop) (x46_3 : Int32) (S : Nat → Nat → Int32) (Q : Int32 → (Nat → Nat → Int32) → Prop) : Prop :=
  wX5_word_b51 a1 K4 x46_3 1 S Q
def wX5_word_b68 (a1 : Int32) (x68_2 : Int32) (y68_0 : Int32) (S : Nat → Nat → Int32) (Q : Int32 → (Nat → Nat → Int32) → Prop) : Prop :=
  ∀ S10, S10 = up2 S 0 0 y68_0 → 
  (x68_2 = 0 → Q 0 S10) ∧
  (¬ x68_2 = 0 → vp_in a1 1793 ∧ Q (S10 1 a1.toNatClampNeg) S10)
def wX5_word_b4 (a1 : Int32) : Nat → Int32 → Int32 → (Nat → Nat → Int32) → (Int32 → (Nat → Nat → Int32) → Prop) → Prop
  | 0, _, _, _, _ => False
  | nn + 1, x4_3, x4_2, S, Q =>
  (3 ≤ x4_3 → (x4_2 = 0 → wX5_word_b68 a1  x4_2 1 S Q) ∧
    (¬ x4_2 = 0 → wX5_word_b68 a1  x4_2 0 S Q)) ∧
  (¬ 3 ≤ x4_3 → vp_in x4_3 3 ∧ wX5_begin x4_3 (S 4 x4_3.toNatClampNeg) S (fun r4 S5 => 
    (x4_2 = 0 → vp_in x4_3 3 ∧ wX5_in a1 r4 ((r4 + (S5 5 x4_3.toNatClampNeg)) - 1) S5 (fun r7 S8 => 
      (r7 = false → wX5_word_b51 a1 (fun z0 z1 T => wX5_word_b4 a1  nn z0 z1 T Q) x4_3 0 S8 Q) ∧
      (r7 = true → wX5_word_b46 a1 (fun z0 z1 T => wX5_word_b4 a1  nn z0 z1 T Q) x4_3 S8 Q))) ∧
    (¬ x4_2 = 0 → wX5_word_b46 a1 (fun z0 z1 T => wX5_word_b4 a1  nn z0 z1 T Q) x4_3 S5 Q)))
def wX5_word (a1 : Int32) (S : Nat → Nat → Int32) (Q : Int32 → (Nat → Nat → Int32) → Prop) : Prop :=
  ∃ f1, wX5_word_b4 a1  f1 0 0 S Q
def wX5_sizeOf (a1 : Int32) (S : Nat → Nat → Int32) (Q : Int32 → (Nat → Nat → Int32) → Prop) : Prop :=
  (a1 = 0 → vp_in a1 2 ∧ Q (S 12 a1.toNatClampNeg) S) ∧
  (a1 = 1 → vp_in a1 2 ∧ Q (S 12 a1.toNatClampNeg) S) ∧
  (a1 = 2 → Q (S 0 16) S) ∧
  (a1 = 3 → Q (S 0 9) S) ∧
  (a1 = 4 → Q (S 0 12) S) ∧
  (a1 = 5 → Q (S 0 14) S) ∧
  (a1 = 6 → Q 8 S) ∧
  (¬ a1 = 0 → ¬ a1 = 1 → ¬ a1 = 2 → ¬ a1 = 3 → ¬ a1 = 4 → ¬ a1 = 5 → ¬ a1 = 6 → Q 0 S)
def wX5_row_b31 (a1 : Int32) (a2 : Int32) (y31_0 : Int32) (S : Nat → Nat → Int32) (Q : Int32 → (Nat → Nat → Int32) → Prop) : Prop :=
  ∀ S9, S9 = up2 S 0 0 y31_0 → 
  ((S9 0 0) ≤ 0 → (a1 = 0 → vp_in ((1000 * a1) + a2) 2000 ∧ Q (S9 13 (((1000 * a1) + a2).toNatClampNeg)) S9) ∧
    (a1 = 1 → vp_in ((1000 * a1) + a2) 2000 ∧ Q (S9 13 (((1000 * a1) + a2).toNatClampNeg)) S9) ∧
    (a1 = 2 → vp_in a2 64 ∧ Q (S9 11 a2.toNatClampNeg) S9) ∧
    (a1 = 3 → vp_in a2 40 ∧ Q (S9 7 a2.toNatClampNeg) S9) ∧
    (a1 = 4 → vp_in a2 460 ∧ Q (S9 9 a2.toNatClampNeg) S9) ∧
    (a1 = 5 → vp_in a2 460 ∧ Q (S9 10 a2.toNatClampNeg) S9) ∧
    (¬ a1 = 0 → ¬ a1 = 1 → ¬ a1 = 2 → ¬ a1 = 3 → ¬ a1 = 4 → ¬ a1 = 5 → vp_in a2 8 ∧ Q (S9 8 a2.toNatClampNeg) S9)) ∧
  (¬ (S9 0 0) ≤ 0 → Q 0 S9)
def wX5_row_b30 (a1 : Int32) (a2 : Int32)  (S : Nat → Nat → Int32) (Q : Int32 → (Nat → Nat → Int32) → Prop) : Prop :=
  wX5_row_b31 a1 a2  1 S Q
def wX5_row (a1 : Int32) (a2 : Int32) (S : Nat → Nat → Int32) (Q : Int32 → (Nat → Nat → Int32) → Prop) : Prop :=
  wX5_in a1 0 6 S (fun r1 S2 => 
  (r1 = false → wX5_row_b30 a1 a2   S2 Q) ∧
  (r1 = true → wX5_sizeOf a1 S2 (fun r4 S5 => 
    wX5_in a2 0 (r4 - 1) S5 (fun r6 S7 => 
    (r6 = false → wX5_row_b30 a1 a2   S7 Q) ∧
    (r6 = true → wX5_row_b31 a1 a2  0 S7 Q)))))
def wX5_code_b15 (a1 : Int32) (a2 : Int32) (a3 : Int32) (a4 : Int32) (y15_0 : Int32) (S : Nat → Nat → Int32) (Q : Int32 → (Nat → Nat → Int32) → Prop) : Prop :=
  ∀ S2, S2 = up2 S 0 0 y15_0 → 
  ((S2 0 0) ≤ 0 → vp_in (4 * (S2 0 29)) 256 ∧ ∀ S5, S5 = up2 S2 18 ((4 * (S2 0 29)).toNatClampNeg) a1 → 
    vp_in ((4 * (S5 0 29)) + 1) 256 ∧ ∀ S7, S7 = up2 S5 18 (((4 * (S5 0 29)) + 1).toNatClampNeg) a2 → 
    vp_in ((4 * (S7 0 29)) + 2) 256 ∧ ∀ S9, S9 = up2 S7 18 (((4 * (S7 0 29)) + 2).toNatClampNeg) a3 → 
    vp_in ((4 * (S9 0 29)) + 3) 256 ∧ ∀ S11, S11 = up2 S9 18 (((4 * (S9 0 29)) + 3).toNatClampNeg) a4 → 
    ∀ S13, S13 = up2 S11 0 29 ((S11 0 29) + 1) → 
    Q (S13 0 29) S13) ∧
  (¬ (S2 0 0) ≤ 0 → Q 0 S2)
def wX5_code (a1 : Int32) (a2 : Int32) (a3 : Int32) (a4 : Int32) (S : Nat → Nat → Int32) (Q : Int32 → (Nat → Nat → Int32) → Prop) : Prop :=
  ((S 0 29) = 64 → wX5_code_b15 a1 a2 a3 a4  1 S Q) ∧
  (¬ (S 0 29) = 64 → wX5_code_b15 a1 a2 a3 a4  0 S Q)
def wX5_scrap  (S : Nat → Nat → Int32) (Q : Int32 → (Nat → Nat → Int32) → Prop) : Prop :=
  ∀ S1, S1 = up2 S 0 0 0 → 
  ∀ S3, S3 = up2 S1 0 29 0 → 
  Q (S1 0 29) S3
def wX5_isNumber (a0 : Int32) (S : Nat → Nat → Int32) (Q : Bool → (Nat → Nat → Int32) → Prop) : Prop :=
  wX5_in a0 0 7 S (fun r1 S2 => 
  Q r1 S2)
def wX5_isPlace (a1 : Int32) (S : Nat → Nat → Int32) (Q : Bool → (Nat → Nat → Int32) → Prop) : Prop :=
  wX5_in a1 0 (S 0 29) S (fun r1 S2 => 
  Q r1 S2)
def wX5_isField (a0 : Int32) (S : Nat → Nat → Int32) (Q : Bool → (Nat → Nat → Int32) → Prop) : Prop :=
  wX5_in a0 0 5 S (fun r1 S2 => 
  Q r1 S2)
def wX5_isRight_b137 (a1 : Int32) (a2 : Int32) (a3 : Int32) (a4 : Int32)  (S : Nat → Nat → Int32) (Q : Bool → (Nat → Nat → Int32) → Prop) : Prop :=
  Q true S
def wX5_isRight_b190 (a1 : Int32) (a2 : Int32) (a3 : Int32) (a4 : Int32)  (S : Nat → Nat → Int32) (Q : Bool → (Nat → Nat → Int32) → Prop) : Prop :=
  Q true S
def wX5_isRight (a1 : Int32) (a2 : Int32) (a3 : Int32) (a4 : Int32) (S : Nat → Nat → Int32) (Q : Bool → (Nat → Nat → Int32) → Prop) : Prop :=
  (a1 = 0 → Q true S) ∧
  (a1 = 1 → wX5_isRoot a2 S (fun r3 S4 => 
    (r3 = false → Q false S4) ∧
    (r3 = true → wX5_in a3 0 6 S4 (fun r6 S7 => 
      (r6 = false → Q false S7) ∧
      (r6 = true → wX5_isNumber a4 S7 (fun r9 S10 => 
        (r9 = false → Q false S10) ∧
        (r9 = true → Q true S10))))))) ∧
  (a1 = 2 → wX5_isRoot a2 S (fun r13 S14 => 
    (r13 = false → Q false S14) ∧
    (r13 = true → wX5_isField a3 S14 (fun r16 S17 => 
      (r16 = false → Q false S17) ∧
      (r16 = true → (a4 = (-1 : Int32) → wX5_isRight_b137 a1 a2 a3 a4   S17 Q) ∧
        (¬ a4 = (-1 : Int32) → wX5_isRoot a4 S17 (fun r20 S21 => 
          (r20 = false → Q false S21) ∧
          (r20 = true → wX5_isRight_b137 a1 a2 a3 a4   S21 Q)))))))) ∧
  (a1 = 3 → wX5_isRoot a2 S (fun r24 S25 => 
    (r24 = false → Q false S25) ∧
    (r24 = true → wX5_isRoot a3 S25 (fun r27 S28 => 
      (r27 = false → Q false S28) ∧
      (r27 = true → wX5_isField a4 S28 (fun r30 S31 => 
        (r30 = false → Q false S31) ∧
        (r30 = true → Q true S31))))))) ∧
  (a1 = 4 → wX5_isRoot a2 S (fun r34 S35 => 
    (r34 = false → Q false S35) ∧
    (r34 = true → (a3 = (-1 : Int32) → wX5_isRight_b190 a1 a2 a3 a4   S35 Q) ∧
      (¬ a3 = (-1 : Int32) → wX5_isRoot a3 S35 (fun r38 S39 => 
        (r38 = false → Q false S39) ∧
        (r38 = true → wX5_isRight_b190 a1 a2 a3 a4   S39 Q)))))) ∧
  (a1 = 5 → wX5_isRoot a2 S (fun r42 S43 => 
    Q r42 S43)) ∧
  (a1 = 6 → wX5_isRoot a2 S (fun r45 S46 => 
    Q r45 S46)) ∧
  (a1 = 7 → wX5_isNumber a2 S (fun r48 S49 => 
    Q r48 S49)) ∧
  (a1 = 8 → wX5_isNumber a2 S (fun r51 S52 => 
    (r51 = false → Q false S52) ∧
    (r51 = true → wX5_isNumber a3 S52 (fun r54 S55 => 
      (r54 = false → Q false S55) ∧
      (r54 = true → wX5_isNumber a4 S55 (fun r57 S58 => 
        (r57 = false → Q false S58) ∧
        (r57 = true → Q true S58))))))) ∧
  (a1 = 9 → wX5_isNumber a2 S (fun r61 S62 => 
    (r61 = false → Q false S62) ∧
    (r61 = true → wX5_isRoot a3 S62 (fun r64 S65 => 
      (r64 = false → Q false S65) ∧
      (r64 = true → Q true S65))))) ∧
  (a1 = 10 → wX5_isRoot a2 S (fun r68 S69 => 
    (r68 = false → Q false S69) ∧
    (r68 = true → wX5_isPlace a3 S69 (fun r71 S72 => 
      (r71 = false → Q false S72) ∧
      (r71 = true → Q true S72))))) ∧
  (a1 = 11 → wX5_isNumber a2 S (fun r75 S76 => 
    (r75 = false → Q false S76) ∧
    (r75 = true → wX5_isNumber a3 S76 (fun r78 S79 => 
      (r78 = false → Q false S79) ∧
      (r78 = true → wX5_isPlace a4 S79 (fun r81 S82 => 
        (r81 = false → Q false S82) ∧
        (r81 = true → Q true S82))))))) ∧
  (a1 = 12 → wX5_isPlace a2 S (fun r85 S86 => 
    Q r85 S86)) ∧
  (a1 = 13 → wX5_isRoot a2 S (fun r88 S89 => 
    (r88 = false → Q false S89) ∧
    (r88 = true → wX5_isRoot a3 S89 (fun r91 S92 => 
      (r91 = false → Q false S92) ∧
      (r91 = true → wX5_isPlace a4 S92 (fun r94 S95 => 
        (r94 = false → Q false S95) ∧
        (r94 = true → Q true S95))))))) ∧
  (a1 = 14 → wX5_isRoot a2 S (fun r98 S99 => 
    (r98 = false → Q false S99) ∧
    (r98 = true → wX5_in a3 0 6 S99 (fun r101 S102 => 
      (r101 = false → Q false S102) ∧
      (r101 = true → wX5_isNumber a4 S102 (fun r104 S105 => 
        (r104 = false → Q false S105) ∧
        (r104 = true → Q true S105))))))) ∧
  (¬ a1 = 0 → ¬ a1 = 1 → ¬ a1 = 2 → ¬ a1 = 3 → ¬ a1 = 4 → ¬ a1 = 5 → ¬ a1 = 6 → ¬ a1 = 7 → ¬ a1 = 8 → ¬ a1 = 9 → ¬ a1 = 10 → ¬ a1 = 11 → ¬ a1 = 12 → ¬ a1 = 13 → ¬ a1 = 14 → Q false S)
def wX5_hindered_b113 (a1 : Int32) (a2 : Int32) (a3 : Int32) (a4 : Int32)  (S : Nat → Nat → Int32) (Q : Int32 → (Nat → Nat → Int32) → Prop) : Prop :=
  Q 4 S
def wX5_hindered_b100 (a1 : Int32) (a2 : Int32) (a3 : Int32) (a4 : Int32)  (S : Nat → Nat → Int32) (Q : Int32 → (Nat → Nat → Int32) → Prop) : Prop :=
  (a1 = 6 → ((S 0 9) = 0 → wX5_hindered_b113 a1 a2 a3 a4   S Q) ∧
    (¬ (S 0 9) = 0 → Q 0 S)) ∧
  (¬ a1 = 6 → Q 0 S)
def wX5_hindered_b86 (a1 : Int32) (a2 : Int32) (a3 : Int32) (a4 : Int32)  (S : Nat → Nat → Int32) (Q : Int32 → (Nat → Nat → Int32) → Prop) : Prop :=
  (a1 = 5 → ((S 0 9) = 40 → wX5_hindered_b113 a1 a2 a3 a4   S Q) ∧
    (¬ (S 0 9) = 40 → wX5_hindered_b100 a1 a2 a3 a4   S Q)) ∧
  (¬ a1 = 5 → wX5_hindered_b100 a1 a2 a3 a4   S Q)
def wX5_hindered_b64 (a1 : Int32) (a2 : Int32) (a3 : Int32) (a4 : Int32)  (S : Nat → Nat → Int32) (Q : Int32 → (Nat → Nat → Int32) → Prop) : Prop :=
  (a1 = 3 → vp_in a3 16 ∧ wX5_fields (S 6 a3.toNatClampNeg) S (fun r11 S12 => 
    (a4 < r11 → wX5_hindered_b86 a1 a2 a3 a4   S12 Q) ∧
    (¬ a4 < r11 → Q 3 S12))) ∧
  (¬ a1 = 3 → wX5_hindered_b86 a1 a2 a3 a4   S Q)
def wX5_hindered_b45 (a1 : Int32) (a2 : Int32) (a3 : Int32) (a4 : Int32)  (S : Nat → Nat → Int32) (Q : Int32 → (Nat → Nat → Int32) → Prop) : Prop :=
  (a1 = 2 → vp_in a2 16 ∧ wX5_fields (S 6 a2.toNatClampNeg) S (fun r7 S8 => 
    (r7 ≤ a3 → Q 3 S8) ∧
    (¬ r7 ≤ a3 → wX5_hindered_b64 a1 a2 a3 a4   S8 Q))) ∧
  (¬ a1 = 2 → wX5_hindered_b64 a1 a2 a3 a4   S Q)
def wX5_hindered_b25 (a1 : Int32) (a2 : Int32) (a3 : Int32) (a4 : Int32) (y25_0 : Int32) (S : Nat → Nat → Int32) (Q : Int32 → (Nat → Nat → Int32) → Prop) : Prop :=
  (y25_0 = (-1 : Int32) → wX5_hindered_b45 a1 a2 a3 a4   S Q) ∧
  (¬ y25_0 = (-1 : Int32) → vp_in y25_0 16 ∧ ((S 6 y25_0.toNatClampNeg) = 0 → Q 2 S) ∧
    (¬ (S 6 y25_0.toNatClampNeg) = 0 → wX5_hindered_b45 a1 a2 a3 a4   S Q))
def wX5_hindered_b20 (a1 : Int32) (a2 : Int32) (a3 : Int32) (a4 : Int32)  (S : Nat → Nat → Int32) (Q : Int32 → (Nat → Nat → Int32) → Prop) : Prop :=
  wX5_hindered_b25 a1 a2 a3 a4  a3 S Q
def wX5_hindered (a1 : Int32) (a2 : Int32) (a3 : Int32) (a4 : Int32) (S : Nat → Nat → Int32) (Q : Int32 → (Nat → Nat → Int32) → Prop) : Prop :=
  (a1 = 2 → wX5_hindered_b25 a1 a2 a3 a4  a2 S Q) ∧
  (¬ a1 = 2 → (a1 = 3 → wX5_hindered_b20 a1 a2 a3 a4   S Q) ∧
    (¬ a1 = 3 → (a1 = 9 → wX5_hindered_b20 a1 a2 a3 a4   S Q) ∧
      (¬ a1 = 9 → wX5_hindered_b25 a1 a2 a3 a4  (-1 : Int32) S Q)))
def wX5_does_b123 (a1 : Int32) (a2 : Int32) (a3 : Int32) (a4 : Int32) (a5 : Int32) (x123_7 : Int32) (x123_6 : Int32) (y123_0 : Int32) (y123_1 : Int32) (S : Nat → Nat → Int32) (Q : Int32 → (Nat → Nat → Int32) → Prop) : Prop :=
  vp_in y123_1 16 ∧ ∀ S48, S48 = up2 S 6 y123_1.toNatClampNeg y123_0 → 
  (x123_7 = 0 → Q (-1 : Int32) S48) ∧
  (¬ x123_7 = 0 → Q x123_6 S48)
def wX5_does_b97 (a1 : Int32) (a2 : Int32) (a3 : Int32) (a4 : Int32) (a5 : Int32) (x97_6 : Int32) (y97_0 : Int32) (y97_1 : Int32) (y97_2 : Int32) (S : Nat → Nat → Int32) (Q : Int32 → (Nat → Nat → Int32) → Prop) : Prop :=
  wX5_object y97_2 y97_1 y97_0 S (fun r41 S42 => 
  (r41 = 0 → vp_in a3 16 ∧ wX5_does_b123 a1 a2 a3 a4 a5  r41 x97_6 (S42 6 a3.toNatClampNeg) a3 S42 Q) ∧
  (¬ r41 = 0 → wX5_does_b123 a1 a2 a3 a4 a5  r41 x97_6 r41 a3 S42 Q))
def wX5_does_b165 (a1 : Int32) (a2 : Int32) (a3 : Int32) (a4 : Int32) (a5 : Int32) (x165_6 : Int32) (y165_0 : Int32) (y165_1 : Int32) (S : Nat → Nat → Int32) (Q : Int32 → (Nat → Nat → Int32) → Prop) : Prop :=
  wX5_store y165_1 y165_0 S (fun _ S45 => 
  Q x165_6 S45)
def wX5_does_b219 (a1 : Int32) (a2 : Int32) (a3 : Int32) (a4 : Int32) (a5 : Int32) (x219_6 : Int32) (y219_0 : Int32) (y219_1 : Int32) (S : Nat → Nat → Int32) (Q : Int32 → (Nat → Nat → Int32) → Prop) : Prop :=
  vp_in y219_1 16 ∧ ∀ S46, S46 = up2 S 6 y219_1.toNatClampNeg y219_0 → 
  Q x219_6 S46
def wX5_does (a1 : Int32) (a2 : Int32) (a3 : Int32) (a4 : Int32) (a5 : Int32) (S : Nat → Nat → Int32) (Q : Int32 → (Nat → Nat → Int32) → Prop) : Prop :=
  ∀ x1 : Int32, x1 = a1 + 1 → (a2 = 1 → vp_in a5 8 ∧ (a2 = 14 → wX5_does_b97 a1 a2 a3 a4 a5  x1 1 (S 17 a5.toNatClampNeg) a4 S Q) ∧
    (¬ a2 = 14 → wX5_does_b97 a1 a2 a3 a4 a5  x1 0 (S 17 a5.toNatClampNeg) a4 S Q)) ∧
  (a2 = 2 → vp_in a3 16 ∧ (a5 = (-1 : Int32) → wX5_does_b165 a1 a2 a3 a4 a5  x1 0 (((S 6 a3.toNatClampNeg) + 2) + a4) S Q) ∧
    (¬ a5 = (-1 : Int32) → vp_in a5 16 ∧ wX5_does_b165 a1 a2 a3 a4 a5  x1 (S 6 a5.toNatClampNeg) (((S 6 a3.toNatClampNeg) + 2) + a4) S Q)) ∧
  (a2 = 3 → vp_in a4 16 ∧ vp_in (((S 6 a4.toNatClampNeg) + 2) + a5) 1793 ∧ vp_in a3 16 ∧ ∀ S8, S8 = up2 S 6 a3.toNatClampNeg (S 1 ((((S 6 a4.toNatClampNeg) + 2) + a5).toNatClampNeg)) → 
    Q x1 S8) ∧
  (a2 = 4 → (a4 = (-1 : Int32) → wX5_does_b219 a1 a2 a3 a4 a5  x1 0 a3 S Q) ∧
    (¬ a4 = (-1 : Int32) → vp_in a4 16 ∧ wX5_does_b219 a1 a2 a3 a4 a5  x1 (S 6 a4.toNatClampNeg) a3 S Q)) ∧
  (a2 = 5 → vp_in a3 16 ∧ vp_in (S 0 9) 40 ∧ ∀ S13, S13 = up2 S 7 ((S 0 9).toNatClampNeg) (S 6 a3.toNatClampNeg) → 
    ∀ S15, S15 = up2 S13 0 9 ((S13 0 9) + 1) → 
    Q x1 S15) ∧
  (a2 = 6 → ∀ S18, S18 = up2 S 0 9 ((S 0 9) - 1) → 
    vp_in (S18 0 9) 40 ∧ vp_in a3 16 ∧ ∀ S20, S20 = up2 S18 6 a3.toNatClampNeg (S18 7 ((S18 0 9).toNatClampNeg)) → 
    Q x1 S20) ∧
  (a2 = 7 → vp_in a3 8 ∧ ∀ S23, S23 = up2 S 17 a3.toNatClampNeg a4 → 
    Q x1 S23) ∧
  (a2 = 8 → vp_in a4 8 ∧ vp_in a5 8 ∧ vp_in a3 8 ∧ ∀ S26, S26 = up2 S 17 a3.toNatClampNeg ((S 17 a4.toNatClampNeg) + (S 17 a5.toNatClampNeg)) → 
    Q x1 S26) ∧
  (a2 = 9 → vp_in a4 16 ∧ vp_in ((S 6 a4.toNatClampNeg) + 1) 1793 ∧ vp_in a3 8 ∧ ∀ S29, S29 = up2 S 17 a3.toNatClampNeg (S 1 (((S 6 a4.toNatClampNeg) + 1).toNatClampNeg)) → 
    Q x1 S29) ∧
  (a2 = 10 → vp_in a3 16 ∧ ((S 6 a3.toNatClampNeg) = 0 → Q a4 S) ∧
    (¬ (S 6 a3.toNatClampNeg) = 0 → Q x1 S)) ∧
  (a2 = 11 → vp_in a3 8 ∧ vp_in a4 8 ∧ ((S 17 a4.toNatClampNeg) ≤ (S 17 a3.toNatClampNeg) → Q x1 S) ∧
    (¬ (S 17 a4.toNatClampNeg) ≤ (S 17 a3.toNatClampNeg) → Q a5 S)) ∧
  (a2 = 12 → Q a3 S) ∧
  (a2 = 13 → vp_in a3 16 ∧ vp_in a4 16 ∧ ((S 6 a3.toNatClampNeg) = (S 6 a4.toNatClampNeg) → Q a5 S) ∧
    (¬ (S 6 a3.toNatClampNeg) = (S 6 a4.toNatClampNeg) → Q x1 S)) ∧
  (a2 = 14 → vp_in a5 8 ∧ (a2 = 14 → wX5_does_b97 a1 a2 a3 a4 a5  x1 1 (S 17 a5.toNatClampNeg) a4 S Q) ∧
    (¬ a2 = 14 → wX5_does_b97 a1 a2 a3 a4 a5  x1 0 (S 17 a5.toNatClampNeg) a4 S Q)) ∧
  (¬ a2 = 1 → ¬ a2 = 2 → ¬ a2 = 3 → ¬ a2 = 4 → ¬ a2 = 5 → ¬ a2 = 6 → ¬ a2 = 7 → ¬ a2 = 8 → ¬ a2 = 9 → ¬ a2 = 10 → ¬ a2 = 11 → ¬ a2 = 12 → ¬ a2 = 13 → ¬ a2 = 14 → vp_in a3 16 ∧ vp_in a4 16 ∧ ((S 6 a3.toNatClampNeg) = (S 6 a4.toNatClampNeg) → Q a5 S) ∧
    (¬ (S 6 a3.toNatClampNeg) = (S 6 a4.toNatClampNeg) → Q x1 S))
def wX5_run_b48 (a1 : Int32) (a2 : Int32) : Nat → Int32 → (Nat → Nat → Int32) → (Int32 → (Nat → Nat → Int32) → Prop) → Prop
  | 0, _, _, _ => False
  | nn + 1, x48_3, S, Q =>
  ((S 0 29) ≤ (S 0 27) → Q 0 S) ∧
  (¬ (S 0 29) ≤ (S 0 27) → (x48_3 = a2 → Q 6 S) ∧
    (¬ x48_3 = a2 → vp_in (4 * (S 0 27)) 256 ∧ ∀ x15 : Int32, x15 = S 18 ((4 * (S 0 27)).toNatClampNeg) → vp_in ((4 * (S 0 27)) + 1) 256 ∧ ∀ x17 : Int32, x17 = S 18 (((4 * (S 0 27)) + 1).toNatClampNeg) → vp_in ((4 * (S 0 27)) + 2) 256 ∧ ∀ x19 : Int32, x19 = S 18 (((4 * (S 0 27)) + 2).toNatClampNeg) → vp_in ((4 * (S 0 27)) + 3) 256 ∧ ∀ x21 : Int32, x21 = S 18 (((4 * (S 0 27)) + 3).toNatClampNeg) → wX5_isRight x15 x17 x19 x21 S (fun r23 S24 => 
      (r23 = false → Q 1 S24) ∧
      (r23 = true → wX5_hindered x15 x17 x19 x21 S24 (fun r26 S27 => 
        (r26 ≤ 0 → (x15 = 0 → ∀ S30, S30 = up2 S27 0 26 ((S27 0 26) + 1) → 
            Q 0 S30) ∧
          (¬ x15 = 0 → wX5_does (S27 0 27) x15 x17 x19 x21 S27 (fun r32 S33 => 
            (r32 = (-1 : Int32) → Q 5 S33) ∧
            (¬ r32 = (-1 : Int32) → ∀ S35, S35 = up2 S33 0 26 ((S33 0 26) + 1) → 
              ∀ S37, S37 = up2 S35 0 27 r32 → 
              ∀ x39 : Int32, x39 = x48_3 + 1 → wX5_run_b48 a1 a2  nn x39 S37 Q)))) ∧
        (¬ r26 ≤ 0 → Q r26 S27))))))
def wX5_run_b29 (a1 : Int32) (a2 : Int32) (y29_0 : Int32) (S : Nat → Nat → Int32) (Q : Int32 → (Nat → Nat → Int32) → Prop) : Prop :=
  ∀ S7, S7 = up2 S 0 0 y29_0 → 
  ((S7 0 0) ≤ 0 → ∀ S10, S10 = up2 S7 0 27 a1 → 
    ∃ f12, wX5_run_b48 a1 a2  f12 0 S10 Q) ∧
  (¬ (S7 0 0) ≤ 0 → Q 0 S7)
def wX5_run (a1 : Int32) (a2 : Int32) (S : Nat → Nat → Int32) (Q : Int32 → (Nat → Nat → Int32) → Prop) : Prop :=
  wX5_isPlace a1 S (fun r1 S2 => 
  (r1 = false → wX5_run_b29 a1 a2  1 S2 Q) ∧
  (r1 = true → wX5_in a2 0 400 S2 (fun r4 S5 => 
    (r4 = false → wX5_run_b29 a1 a2  2 S5 Q) ∧
    (r4 = true → wX5_run_b29 a1 a2  0 S5 Q))))
def wX5_count_b16 (a1 : Int32) (y16_0 : Int32) (S : Nat → Nat → Int32) (Q : Int32 → (Nat → Nat → Int32) → Prop) : Prop :=
  ∀ S4, S4 = up2 S 0 0 y16_0 → 
  ((S4 0 0) ≤ 0 → (3 ≤ a1 → (9 ≤ a1 → (12 ≤ a1 → (a1 = 12 → Q (S4 0 23) S4) ∧
          (¬ a1 = 12 → (a1 = 13 → Q (S4 0 24) S4) ∧
            (¬ a1 = 13 → (a1 = 14 → Q (S4 0 25) S4) ∧
              (¬ a1 = 14 → (a1 = 15 → Q (S4 0 26) S4) ∧
                (¬ a1 = 15 → (a1 = 16 → Q (S4 0 27) S4) ∧
                  (¬ a1 = 16 → vp_in (a1 - 17) 8 ∧ Q (S4 17 ((a1 - 17).toNatClampNeg)) S4)))))) ∧
        (¬ 12 ≤ a1 → vp_in (a1 - 9) 3 ∧ Q (S4 16 ((a1 - 9).toNatClampNeg)) S4)) ∧
      (¬ 9 ≤ a1 → wX5_sizeOf (a1 - 3) S4 (fun r15 S16 => 
        Q r15 S16))) ∧
    (¬ 3 ≤ a1 → vp_in a1 3 ∧ Q (S4 5 a1.toNatClampNeg) S4)) ∧
  (¬ (S4 0 0) ≤ 0 → Q 0 S4)
def wX5_count (a1 : Int32) (S : Nat → Nat → Int32) (Q : Int32 → (Nat → Nat → Int32) → Prop) : Prop :=
  wX5_in a1 0 24 S (fun r1 S2 => 
  (r1 = false → wX5_count_b16 a1  1 S2 Q) ∧
  (r1 = true → wX5_count_b16 a1  0 S2 Q))
