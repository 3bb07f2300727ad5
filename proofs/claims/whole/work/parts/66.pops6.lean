/-! THE PURE PART: word, row, count -/
theorem neg_lt {x : Int32} {m : Nat} (hx : x < 0) (hm : m < 2 ^ 31) : x < nI m := by
  rw [Int32.lt_iff_toInt_lt] at hx ⊢
  rw [nI_toInt hm]
  have e0 : (0 : Int32).toInt = 0 := rfl
  rw [e0] at hx
  omega
def TK (s : Nat) (α : Nat → Nat → Nat) (a1 : Int32) (g : Nat) : Prop := ∃ a, a1 = nI a ∧ st s α g ≤ a ∧ a < st s α g + α 5 g
def rz (α : Nat → Nat → Nat) : Nat → Nat
  | 0 => α 12 0
  | 1 => α 12 1
  | 2 => α 0 16
  | 3 => α 0 9
  | 4 => α 0 12
  | 5 => α 0 14
  | _ => 8
def ra (α : Nat → Nat → Nat) : Nat → Nat → Nat
  | 0 => fun k => α 13 (1000 * 0 + k)
  | 1 => fun k => α 13 (1000 * 1 + k)
  | 2 => fun k => α 11 k
  | 3 => fun k => α 7 k
  | 4 => fun k => α 9 k
  | 5 => fun k => α 10 k
  | _ => fun k => α 8 k
def cv (α : Nat → Nat → Nat) (i : Nat) : Nat := if i < 3 then α 5 i else if i < 9 then rz α (i - 3) else if i < 12 then α 16 (i - 9) else if i = 12 then α 0 23 else if i = 13 then α 0 24 else if i = 14 then α 0 25 else if i = 15 then α 0 26 else if i = 16 then α 0 27 else α 17 (i - 17)
theorem M_in1' {m : Nat} {a : Int32} (hm : m < 2 ^ 30) {T : Nat → Nat → Int32} {Q : Bool → (Nat → Nat → Int32) → Prop} (ht : IX m a → Q true T) (hf : ¬ IX m a → Q false T) : wX5_in a 0 (nI m - 1) T Q := by
  match m, hm with
  | 0, _ =>
    have no : ¬ IX 0 a := fun ⟨i, hi, _⟩ => absurd hi (Nat.not_lt_zero i)
    refine ⟨fun _ => hf no, fun q => ⟨fun _ => hf no, fun q2 => ?_⟩⟩
    obtain ⟨i, hi, rfl⟩ := nI_of q
    exfalso
    apply q2
    rw [Int32.lt_iff_toInt_lt, nI_toInt hi, show (nI 0 - 1 : Int32).toInt = -1 from rfl]
    omega
  | k + 1, hm =>
    rw [nI_pred]
    by_cases h : IX (k + 1) a
    · exact M_in_t (by omega) h (ht h)
    · exact M_in_f (by omega) h (hf h)
section PO7
variable {s b : Nat} {α : Nat → Nat → Nat} {z : Nat → Nat} {S : Nat → Nat → Int32} {n : Nat → Nat}
theorem C_home_neg {a1 : Int32} (h : a1 < 0) (hs : s ≤ 128) (hr : RG s 0 α S) {Q : Nat → (Nat → Nat → Int32) → Prop} (hq : Q 0 S) : wX1_homeOf n a1 S Q := by
  have h2 := (hr 2 (by omega)).2.1
  have h1 := (hr 1 (by omega)).2.1
  refine ⟨3, ?_⟩
  rw [wX1_homeOf_b2]
  refine ⟨fun q => absurd q (by decide), fun _ => ⟨(vp_nI (i := 2) (by omega)).mpr (by omega), fun _ => ?_, fun q => absurd ?_ q⟩⟩
  · rintro x6 rfl
    rw [wX1_homeOf_b2]
    rw [show (2 : Int32) + (-1) = nI 1 from rfl]
    refine ⟨fun q => absurd q (by decide), fun _ => ⟨(vp_nI (i := 1) (by omega)).mpr (by omega), fun _ => ?_, fun q2 => absurd ?_ q2⟩⟩
    · rintro x6 rfl
      rw [wX1_homeOf_b2]
      rw [show nI 1 + (-1) = nI 0 from rfl]
      exact ⟨fun _ => hq, fun q => absurd (by decide) q⟩
    · rw [show S (3 + (nI 1).toNatClampNeg) 1 = nI (bs s 1) from h1]
      exact neg_lt h (by simp only [bs]; omega)
  · rw [show S (3 + (2 : Int32).toNatClampNeg) 1 = nI (bs s 2) from h2]
    exact neg_lt h (by simp only [bs]; omega)
theorem st_bd (hn : Gn s b 0 α) {g : Nat} (hg : g < 3) : 1 ≤ st s α g ∧ st s α g + α 5 g ≤ 1793 := by
  have h1 := U_bd hn hg
  have h2 := (hn.2.1 g hg).2.1
  omega
theorem M_in_g (hn : Gn s b 0 α) {g : Nat} (hg : g < 3) {a1 : Int32} {T : Nat → Nat → Int32} {Q : Bool → (Nat → Nat → Int32) → Prop} (ht : TK s α a1 g → Q true T) (hf : ¬ TK s α a1 g → Q false T) : wX5_in a1 (nI (st s α g)) ((nI (st s α g) + nI (α 5 g)) - 1) T Q := by
  have hbd := st_bd hn hg
  rw [nI_add, show (1 : Int32) = nI 1 from rfl, pk_sub (by omega)]
  by_cases h : TK s α a1 g
  · have h' := h
    obtain ⟨a, rfl, h1, h2⟩ := h
    exact ⟨fun q => absurd q (nI_nlt h1 (by omega)), fun _ => ⟨fun q => absurd q (nI_nlt (by omega) (by omega)), fun _ => ht h'⟩⟩
  · refine ⟨fun _ => hf h, fun q0 => ⟨fun _ => hf h, fun q1 => ?_⟩⟩
    have q2 : ¬ a1 < 0 := fun q => q0 (neg_lt q (by omega))
    obtain ⟨a, ha, rfl⟩ := nI_of q2
    rw [nI_ltI ha (by omega)] at q0
    rw [nI_ltI (by omega) ha] at q1
    exact absurd ⟨a, rfl, by omega, by omega⟩ h
theorem L_word (hn : Gn s b 0 α) {a1 : Int32} {Q : Int32 → (Nat → Nat → Int32) → Prop} : ∀ m k (x : Int32), k + m = 3 → (x = 0 ∨ x = 1) → ((x = 1 ∨ ∃ g, k ≤ g ∧ g < 3 ∧ TK s α a1 g) → wX5_word_b68 a1 1 0 (nR α) Q) → ((x = 0 ∧ ¬ ∃ g, k ≤ g ∧ g < 3 ∧ TK s α a1 g) → wX5_word_b68 a1 0 1 (nR α) Q) → wX5_word_b4 a1 (m + 1) (nI k) x (nR α) Q := by
  intro m
  induction m with
  | zero =>
    intro k x hk hx q1 q2
    rw [wX5_word_b4]
    refine ⟨fun _ => ⟨fun q => ?_, fun q => ?_⟩, fun q => absurd (nI_le (show 3 ≤ k by omega) (by omega)) q⟩
    · subst q
      exact q2 ⟨rfl, fun ⟨g, h1, h2, _⟩ => by omega⟩
    · have e : x = 1 := hx.elim (fun q' => absurd q' q) (fun q' => q')
      subst e
      exact q1 (Or.inl rfl)
  | succ m ih =>
    intro k x hk hx q1 q2
    have hk3 : k < 3 := by omega
    have v3 : vp_in (nI k) 3 := (vp_nI (by omega)).mpr hk3
    rw [wX5_word_b4]
    refine ⟨fun q => absurd q (by rw [show (3 : Int32) = nI 3 from rfl, nI_leI (by omega) (by omega)]; omega), fun _ => ⟨v3, ?_⟩⟩
    rw [nI_clamp (show k < 2 ^ 31 by omega), nR_at]
    refine M_begin' hn hk3 (hn.2.1 k hk3).1 ⟨fun q => ⟨v3, ?_⟩, fun q => ?_⟩
    · rw [nR_at]
      refine M_in_g hn hk3 (fun h => ⟨fun q3 => (by simp at q3), fun _ => ?_⟩) (fun h => ⟨fun _ => ?_, fun q3 => (by simp at q3)⟩)
      · unfold wX5_word_b46 wX5_word_b51
        rintro x13 rfl
        rw [nI_1]
        exact ih (k + 1) 1 (by omega) (Or.inr rfl) (fun _ => q1 (Or.inr ⟨k, Nat.le_refl k, hk3, h⟩)) (fun q3 => absurd q3.1 (by decide))
      · unfold wX5_word_b51
        rintro x13 rfl
        rw [nI_1]
        refine ih (k + 1) 0 (by omega) (Or.inl rfl) (fun q3 => ?_) (fun q3 => q2 ⟨q, ?_⟩)
        · rcases q3 with q3 | ⟨g, g1, g2, g3⟩
          · exact absurd q3 (by decide)
          · exact q1 (Or.inr ⟨g, by omega, g2, g3⟩)
        · rintro ⟨g, g1, g2, g3⟩
          by_cases e : g = k
          · subst e
            exact h g3
          · exact q3.2 ⟨g, by omega, g2, g3⟩
    · have e : x = 1 := hx.elim (fun q' => absurd q' q) (fun q' => q')
      unfold wX5_word_b46 wX5_word_b51
      rintro x13 rfl
      rw [nI_1]
      exact ih (k + 1) 1 (by omega) (Or.inr rfl) (fun _ => q1 (Or.inl e)) (fun q3 => absurd q3.1 (by decide))
theorem O_word (hN : LN n s b) {T : Nat → Nat → Int32} (h : PV s b S T) (a1 : Int32) : op_word n a1 S T (PV s b) := by
  obtain ⟨α, z, rfl, gi, gr, h29⟩ := h
  unfold op_word wL_word wX4_word wX1_isTaken
  have hs1 := gi.1.1.2.1
  have hn26 : n 26 = 1 + 14 * s := hN.2.2.2.2.2.2.2.2.2.2.1
  have bad : (¬ ∃ g, 0 ≤ g ∧ g < 3 ∧ TK s α a1 g) → wX5_word a1 (nR α) (fun b1 T1 => wX5_thrown T1 (fun th T2 => th = 1 ∧ ((1 : Int32) = 0 → none = some b1) ∧ PV s b S T2)) := fun hno => by
    refine ⟨4, L_word gi.1 3 0 0 (by omega) (Or.inl rfl) (fun q => q.elim (fun q => absurd q (by decide)) (fun q => absurd q hno)) (fun _ => ?_)⟩
    unfold wX5_word_b68
    rintro S10 rfl
    exact ⟨fun _ => ⟨rfl, fun q => absurd q (by decide), PV_thrI (t := 1) gi gr h29⟩, fun q => absurd rfl q⟩
  by_cases hneg : a1 < 0
  · refine C_home_neg hneg hs1 gr.1 ?_
    have e4 : S (3 + 0) 4 = nI (st s α 0) := (gr.1 0 (by omega)).2.2.2.2.1
    have hlt : a1 < S (3 + 0) 4 := by
      rw [e4]
      exact neg_lt hneg (by have := st_bd gi.1 (show 0 < 3 by omega); omega)
    refine ⟨fun _ => ⟨fun _ => ⟨rfl, bad ?_⟩, fun q => (by simp at q)⟩, fun q => absurd hlt q⟩
    rintro ⟨g, -, hg, a, rfl, h1, h2⟩
    have := st_bd gi.1 hg
    exact absurd hneg (nI_pos (by omega))
  · obtain ⟨a, ha, rfl⟩ := nI_of hneg
    refine C_home (s := s) (c := 0) (α := α) hs1 ha gr.1 ?_
    have hg := aG_lt s a
    have e4 : S (3 + aG s a) 4 = nI (st s α (aG s a)) := (gr.1 _ hg).2.2.2.2.1
    have e5 : S (3 + aG s a) 5 = nI (α 5 (aG s a)) := (gr.1 _ hg).2.2.2.2.2.1
    have hbd := st_bd gi.1 hg
    have hno : ¬ inU s α a → ¬ ∃ g, 0 ≤ g ∧ g < 3 ∧ TK s α (nI a) g := by
      rintro hni ⟨g, -, hg', a', e, h1, h2⟩
      have := st_bd gi.1 hg'
      have ea := (nI_eq ha (by omega)).mp e
      subst ea
      exact hni (U_of gi.1 hg' h1 h2)
    unfold wX0_isTaken
    rw [e4, e5, nI_add, nI_ltI ha (by omega), nI_leI (by omega) ha]
    refine ⟨fun q => ⟨fun _ => ⟨rfl, bad (hno (fun q2 => by have := q2.1; omega))⟩, fun q2 => (by simp at q2)⟩, fun q => ⟨fun q1 => ⟨fun _ => ⟨rfl, bad (hno (fun q2 => by have := q2.2; omega))⟩, fun q2 => (by simp at q2)⟩, fun q1 => ⟨fun q2 => (by simp at q2), fun _ => ?_⟩⟩⟩
    have hin : inU s α a := ⟨by omega, by omega⟩
    rw [nI_clamp ha, w26 gi.1 gr hin]
    refine ⟨(vp_nI ha).mpr (by have := U_lt gi.1 hin; omega), ?_⟩
    refine ⟨4, L_word gi.1 3 0 0 (by omega) (Or.inl rfl) (fun _ => ?_) (fun q => absurd ⟨aG s a, Nat.zero_le _, hg, a, rfl, hin.1, hin.2⟩ q.2)⟩
    unfold wX5_word_b68
    rintro S10 rfl
    refine ⟨fun q => absurd q (by decide), fun _ => ⟨(vp_nI ha).mpr (by omega), ?_⟩⟩
    rw [nI_clamp ha, ← nI_0, set_thr]
    exact ⟨rfl, fun _ => rfl, PV_thr gi gr h29⟩
theorem C_rowOf (hN : LN n s b) (gi : Gi s b 0 α z 0 0 (fun _ => True)) (gr : RS s 0 α z S) {i : Nat} (hi : i < 7) : ∃ R, (∀ Q : Option Nat → (Nat → Nat → Int32) → Prop, Q (some R) S → wX1_rowOf n (nI i) S Q) ∧ S R 1 = nI (rz α i) ∧ (∀ k, k < rz α i → S (R + 10) k = nI (ra α i k)) ∧ rz α i ≤ n (R + 10) ∧ rz α i < 1000 := by
  have hs1 := gi.1.1.2.1
  have hb1 := gi.1.1.2.2.2.2.2.2.1
  have hl := gi.2.2.2.2.2.1
  obtain ⟨m1, m2, m3, m4, m5, m6, m7, m8, m9, m10, -⟩ := hN
  have hrow : ∀ r, r < 2 → S (rrow (S 1 8) r) 1 = nI (α 12 r) ∧ (∀ k, k < α 12 r → S (rrow (S 1 8) r + 10) k = nI (α 13 (1000 * r + k))) ∧ α 12 r ≤ n (rrow (S 1 8) r + 10) ∧ α 12 r < 1000 := fun r hr => by
    have h1 := gr.2.2.1 r hr
    have h2 := row_le gi.1 gi.2.2.1 gi.2.2.2.2.2.2.2.2.1 hr
    refine ⟨h1.1, h1.2, ?_, by split at h2 <;> omega⟩
    rcases rrow_in (S 1 8) hr with ⟨e, -⟩ | ⟨e, -⟩
    · rw [e]
      match r, hr with
      | 0, _ => show α 12 0 ≤ n 22; simpa [m7] using h2
      | 1, _ => show α 12 1 ≤ n 23; simpa [m8] using h2
    · rw [e]
      match r, hr with
      | 0, _ => show α 12 0 ≤ n 24; simpa [m9] using h2
      | 1, _ => show α 12 1 ≤ n 25; simpa [m10] using h2
  obtain ⟨-, l1, -, -, ⟨-, -, l2, l3⟩, -, -⟩ := hl
  have l4 := gi.2.2.2.2.2.2.2.1.1
  have rl := gr.2.1
  match i, hi with
  | 0, _ =>
    refine ⟨rrow (S 1 8) 0, fun Q hQ => ?_, hrow 0 (by omega)⟩
    refine ⟨fun q => ⟨(vp_nI (by omega)).mpr (by omega), by rw [nI_clamp (by omega)]; exact hQ⟩, fun q => absurd q (by decide), fun q => absurd q (by decide), fun q => absurd q (by decide), fun q => absurd q (by decide), fun q => absurd q (by decide), fun q => absurd q (by decide), fun q => absurd rfl q⟩
  | 1, _ =>
    refine ⟨rrow (S 1 8) 1, fun Q hQ => ?_, hrow 1 (by omega)⟩
    refine ⟨fun q => absurd q (by decide), fun q => ⟨(vp_nI (by omega)).mpr (by omega), by rw [nI_clamp (by omega)]; exact hQ⟩, fun q => absurd q (by decide), fun q => absurd q (by decide), fun q => absurd q (by decide), fun q => absurd q (by decide), fun q => absurd q (by decide), fun _ q => absurd rfl q⟩
  | 2, _ =>
    refine ⟨11, fun Q hQ => ?_, rl.2.2.2.2.2.1, rl.2.2.2.2.2.2, by show α 0 16 ≤ n 21; omega, by show α 0 16 < 1000; omega⟩
    refine ⟨fun q => absurd q (by decide), fun q => absurd q (by decide), fun _ => hQ, fun q => absurd q (by decide), fun q => absurd q (by decide), fun q => absurd q (by decide), fun q => absurd q (by decide), fun _ _ q => absurd rfl q⟩
  | 3, _ =>
    refine ⟨7, fun Q hQ => ?_, rl.2.1.1, rl.2.1.2, by show α 0 9 ≤ n 17; omega, by show α 0 9 < 1000; omega⟩
    refine ⟨fun q => absurd q (by decide), fun q => absurd q (by decide), fun q => absurd q (by decide), fun _ => hQ, fun q => absurd q (by decide), fun q => absurd q (by decide), fun q => absurd q (by decide), fun _ _ _ q => absurd rfl q⟩
  | 4, _ =>
    refine ⟨9, fun Q hQ => ?_, rl.2.2.2.1.1, rl.2.2.2.1.2, by show α 0 12 ≤ n 19; omega, by show α 0 12 < 1000; omega⟩
    refine ⟨fun q => absurd q (by decide), fun q => absurd q (by decide), fun q => absurd q (by decide), fun q => absurd q (by decide), fun _ => hQ, fun q => absurd q (by decide), fun q => absurd q (by decide), fun _ _ _ _ q => absurd rfl q⟩
  | 5, _ =>
    refine ⟨10, fun Q hQ => ?_, rl.2.2.2.2.1.1, rl.2.2.2.2.1.2, by show α 0 14 ≤ n 20; omega, by show α 0 14 < 1000; omega⟩
    refine ⟨fun q => absurd q (by decide), fun q => absurd q (by decide), fun q => absurd q (by decide), fun q => absurd q (by decide), fun q => absurd q (by decide), fun _ => hQ, fun q => absurd q (by decide), fun _ _ _ _ _ q => absurd rfl q⟩
  | 6, _ =>
    refine ⟨8, fun Q hQ => ?_, rl.2.2.1.1, rl.2.2.1.2, by show 8 ≤ n 18; omega, by show 8 < 1000; omega⟩
    refine ⟨fun q => absurd q (by decide), fun q => absurd q (by decide), fun q => absurd q (by decide), fun q => absurd q (by decide), fun q => absurd q (by decide), fun q => absurd q (by decide), fun _ => hQ, fun _ _ _ _ _ _ q => absurd rfl q⟩
theorem M_sizeOf {i : Nat} (hi : i < 7) {Q : Int32 → (Nat → Nat → Int32) → Prop} (hQ : Q (nI (rz α i)) (nR α)) : wX5_sizeOf (nI i) (nR α) Q := by
  match i, hi with
  | 0, _ => exact ⟨fun q => ⟨(vp_nI (by omega)).mpr (by omega), hQ⟩, fun q => absurd q (by decide), fun q => absurd q (by decide), fun q => absurd q (by decide), fun q => absurd q (by decide), fun q => absurd q (by decide), fun q => absurd q (by decide), fun q => absurd rfl q⟩
  | 1, _ => exact ⟨fun q => absurd q (by decide), fun q => ⟨(vp_nI (by omega)).mpr (by omega), hQ⟩, fun q => absurd q (by decide), fun q => absurd q (by decide), fun q => absurd q (by decide), fun q => absurd q (by decide), fun q => absurd q (by decide), fun _ q => absurd rfl q⟩
  | 2, _ => exact ⟨fun q => absurd q (by decide), fun q => absurd q (by decide), fun _ => hQ, fun q => absurd q (by decide), fun q => absurd q (by decide), fun q => absurd q (by decide), fun q => absurd q (by decide), fun _ _ q => absurd rfl q⟩
  | 3, _ => exact ⟨fun q => absurd q (by decide), fun q => absurd q (by decide), fun q => absurd q (by decide), fun _ => hQ, fun q => absurd q (by decide), fun q => absurd q (by decide), fun q => absurd q (by decide), fun _ _ _ q => absurd rfl q⟩
  | 4, _ => exact ⟨fun q => absurd q (by decide), fun q => absurd q (by decide), fun q => absurd q (by decide), fun q => absurd q (by decide), fun _ => hQ, fun q => absurd q (by decide), fun q => absurd q (by decide), fun _ _ _ _ q => absurd rfl q⟩
  | 5, _ => exact ⟨fun q => absurd q (by decide), fun q => absurd q (by decide), fun q => absurd q (by decide), fun q => absurd q (by decide), fun q => absurd q (by decide), fun _ => hQ, fun q => absurd q (by decide), fun _ _ _ _ _ q => absurd rfl q⟩
  | 6, _ => exact ⟨fun q => absurd q (by decide), fun q => absurd q (by decide), fun q => absurd q (by decide), fun q => absurd q (by decide), fun q => absurd q (by decide), fun q => absurd q (by decide), fun _ => hQ, fun _ _ _ _ _ _ q => absurd rfl q⟩
theorem M_rowAt {i k : Nat} (hi : i < 7) (hk : k < rz α i) (h1000 : rz α i < 1000) (h9 : α 0 9 ≤ 40) (h12 : α 0 12 ≤ 460) (h14 : α 0 14 ≤ 460) (h16 : α 0 16 ≤ 64) {Q : Int32 → (Nat → Nat → Int32) → Prop} (hQ : Q (nI (ra α i k)) (nR (upN α 0 0 0))) : wX5_row_b31 (nI i) (nI k) 0 (nR α) Q := by
  unfold wX5_row_b31
  rintro S9 rfl
  rw [thr0]
  refine ⟨fun _ => ?_, fun q => absurd (by decide) q⟩
  have eS : up2 (nR α) 0 0 0 = nR (upN α 0 0 0) := by
    rw [← nI_0, up2_nR]
  rw [eS]
  match i, hi with
  | 0, _ =>
    refine ⟨fun q => ?_, fun q => absurd q (by decide), fun q => absurd q (by decide), fun q => absurd q (by decide), fun q => absurd q (by decide), fun q => absurd q (by decide), fun q => absurd rfl q⟩
    rw [show (1000 : Int32) = nI 1000 from rfl, pk_mul, nI_add, nI_clamp (by omega)]
    exact ⟨(vp_nI (by omega)).mpr (by omega), hQ⟩
  | 1, _ =>
    refine ⟨fun q => absurd q (by decide), fun q => ?_, fun q => absurd q (by decide), fun q => absurd q (by decide), fun q => absurd q (by decide), fun q => absurd q (by decide), fun _ q => absurd rfl q⟩
    rw [show (1000 : Int32) = nI 1000 from rfl, pk_mul, nI_add, nI_clamp (by omega)]
    exact ⟨(vp_nI (by omega)).mpr (by omega), hQ⟩
  | 2, _ =>
    have hk' : k < α 0 16 := hk
    refine ⟨fun q => absurd q (by decide), fun q => absurd q (by decide), fun q => ?_, fun q => absurd q (by decide), fun q => absurd q (by decide), fun q => absurd q (by decide), fun _ _ q => absurd rfl q⟩
    rw [nI_clamp (by omega)]
    exact ⟨(vp_nI (by omega)).mpr (by omega), hQ⟩
  | 3, _ =>
    have hk' : k < α 0 9 := hk
    refine ⟨fun q => absurd q (by decide), fun q => absurd q (by decide), fun q => absurd q (by decide), fun q => ?_, fun q => absurd q (by decide), fun q => absurd q (by decide), fun _ _ _ q => absurd rfl q⟩
    rw [nI_clamp (by omega)]
    exact ⟨(vp_nI (by omega)).mpr (by omega), hQ⟩
  | 4, _ =>
    have hk' : k < α 0 12 := hk
    refine ⟨fun q => absurd q (by decide), fun q => absurd q (by decide), fun q => absurd q (by decide), fun q => absurd q (by decide), fun q => ?_, fun q => absurd q (by decide), fun _ _ _ _ q => absurd rfl q⟩
    rw [nI_clamp (by omega)]
    exact ⟨(vp_nI (by omega)).mpr (by omega), hQ⟩
  | 5, _ =>
    have hk' : k < α 0 14 := hk
    refine ⟨fun q => absurd q (by decide), fun q => absurd q (by decide), fun q => absurd q (by decide), fun q => absurd q (by decide), fun q => absurd q (by decide), fun q => ?_, fun _ _ _ _ _ q => absurd rfl q⟩
    rw [nI_clamp (by omega)]
    exact ⟨(vp_nI (by omega)).mpr (by omega), hQ⟩
  | 6, _ =>
    have hk' : k < 8 := hk
    refine ⟨fun q => absurd q (by decide), fun q => absurd q (by decide), fun q => absurd q (by decide), fun q => absurd q (by decide), fun q => absurd q (by decide), fun q => absurd q (by decide), fun _ _ _ _ _ _ => ?_⟩
    rw [nI_clamp (by omega)]
    exact ⟨(vp_nI (by omega)).mpr (by omega), hQ⟩
theorem O_row (hN : LN n s b) {T : Nat → Nat → Int32} (h : PV s b S T) (a1 a2 : Int32) : op_row n a1 a2 S T (PV s b) := by
  obtain ⟨α, z, rfl, gi, gr, h29⟩ := h
  unfold op_row wL_row wX4_row
  have k : wX5_row_b31 a1 a2 1 (nR α) (fun b1 T1 => wX5_thrown T1 (fun th T2 => th = 1 ∧ ((1 : Int32) = 0 → none = some b1) ∧ PV s b S T2)) := by
    unfold wX5_row_b31
    rintro S4 rfl
    rw [thr0]
    exact ⟨fun q => absurd q (by decide), fun _ => ⟨rfl, fun q => absurd q (by decide), PV_thrI (t := 1) gi gr h29⟩⟩
  by_cases h1 : IX 7 a1
  · obtain ⟨i, hi, rfl⟩ := id h1
    obtain ⟨R, r1, r2, r3, r4, r5⟩ := C_rowOf hN gi gr hi
    have hs1 := gi.1.1.2.1
    have hb1 := gi.1.1.2.2.2.2.2.2.1
    obtain ⟨-, l1, -, -, ⟨-, -, l2, l3⟩, -, -⟩ := gi.2.2.2.2.2.1
    have l4 := gi.2.2.2.2.2.2.2.1.1
    refine r1 _ ⟨fun q => (by simp at q), fun g4 e => ?_⟩
    obtain rfl := Option.some.inj e
    have md : ∀ Q : Int32 → (Nat → Nat → Int32) → Prop, (IX (rz α i) a2 → wX5_row_b31 (nI i) a2 0 (nR α) Q) → (¬ IX (rz α i) a2 → wX5_row_b31 (nI i) a2 1 (nR α) Q) → wX5_row (nI i) a2 (nR α) Q := by
      intro Q q1 q2
      unfold wX5_row
      refine M_in_t (k := 6) (by omega) h1 ⟨fun q => (by simp at q), fun _ => M_sizeOf hi ?_⟩
      exact M_in1' (by omega) (fun q => ⟨fun q3 => (by simp at q3), fun _ => q1 q⟩) (fun q => ⟨fun _ => q2 q, fun q3 => (by simp at q3)⟩)
    rw [r2]
    by_cases h2 : IX (rz α i) a2
    · obtain ⟨m, hm, rfl⟩ := id h2
      refine ⟨fun q => absurd q (nI_pos (by omega)), fun _ => ⟨fun _ => ⟨(vp_nI (by omega)).mpr (by omega), ?_⟩, fun q => absurd (nI_lt hm (by omega)) q⟩⟩
      rw [nI_clamp (by omega), r3 m hm]
      refine md _ (fun _ => M_rowAt hi hm r5 l1 (by omega) (by omega) (by omega) ⟨rfl, fun _ => rfl, PV_thr gi gr h29⟩) (fun q => absurd h2 q)
    · have bd := md _ (fun q => absurd q h2) (fun _ => k)
      refine ⟨fun _ => ⟨rfl, bd⟩, fun q0 => ⟨fun q1 => ?_, fun _ => ⟨rfl, bd⟩⟩⟩
      obtain ⟨m, hm, rfl⟩ := nI_of q0
      rw [nI_ltI hm (by omega)] at q1
      exact absurd ⟨m, q1, rfl⟩ h2
  · have bd : wX5_row a1 a2 (nR α) (fun b1 T1 => wX5_thrown T1 (fun th T2 => th = 1 ∧ ((1 : Int32) = 0 → none = some b1) ∧ PV s b S T2)) := by
      unfold wX5_row
      exact M_in_f (k := 6) (by omega) h1 ⟨fun _ => k, fun q => (by simp at q)⟩
    refine ⟨fun q => absurd ⟨0, by omega, q⟩ h1, fun q => absurd ⟨1, by omega, q⟩ h1, fun q => absurd ⟨2, by omega, q⟩ h1, fun q => absurd ⟨3, by omega, q⟩ h1, fun q => absurd ⟨4, by omega, q⟩ h1, fun q => absurd ⟨5, by omega, q⟩ h1, fun q => absurd ⟨6, by omega, q⟩ h1, fun _ _ _ _ _ _ _ => ⟨fun _ => ⟨rfl, bd⟩, fun g q => (by simp at q)⟩⟩
end PO7
