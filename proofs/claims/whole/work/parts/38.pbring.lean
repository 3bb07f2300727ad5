/-! THE PURE PART: both bring -/
theorem nI_nn (w : Int32) : -(-w) = w := by simp
/-- what a step of a collection leaves as it was, and what only grows -/
def FRM (s c : Nat) (α : Nat → Nat → Nat) (z : Nat → Nat) (S : Nat → Nat → Int32) (α' : Nat → Nat → Nat) (z' : Nat → Nat) (S' : Nat → Nat → Int32) : Prop :=
  (∀ x, OU s α z x → OU s α' z' x) ∧ (∀ x, OF s c α' z' x ↔ OF s c α z x) ∧ (∀ x, inU s α x ∨ inF s c α x → α' 1 x = α 1 x ∧ z' x = z x) ∧
  (∀ k, k ≠ 0 → k ≠ 1 → k ≠ 2 → k ≠ 5 → k ≠ 21 → α' k = α k) ∧ (∀ i, i ≠ 25 → i ≠ 32 → α' 0 i = α 0 i) ∧
  ((∀ k, 6 ≤ k → k ≠ 26 → S' k = S k) ∧ S' 1 8 = S 1 8 ∧ S' 1 9 = S 1 9) ∧ (∀ g, α 5 g ≤ α' 5 g) ∧ (∀ g, g < 3 → α 5 g < α' 5 g → z' (st s α g + α 5 g) ≠ 0)
section PB
variable {s b c : Nat} {α : Nat → Nat → Nat} {z : Nat → Nat} {S : Nat → Nat → Int32} {n : Nat → Nat}
theorem FRM_refl : FRM s c α z S α z S := ⟨fun _ h => h, fun _ => Iff.rfl, fun _ _ => ⟨rfl, rfl⟩, fun _ _ _ _ _ _ => rfl, fun _ _ _ => rfl, ⟨fun _ _ _ => rfl, rfl, rfl⟩, fun _ => Nat.le_refl _, fun _ _ h => absurd h (Nat.lt_irrefl _)⟩
theorem cpS_gen {o g t a m hd k j : Nat} (hk : k < 3) : cpS S o g t a m hd (3 + k) j = if k = g ∧ j = 7 then S (3 + g) 7 - nI m else if k = t ∧ j = 5 then S (3 + t) 5 + nI m else S (3 + k) j := by
  unfold cpS
  rw [if_neg (by omega), if_neg (by omega)]
  have e1 : (3 + k = 3 + g ∧ j = 7) ↔ (k = g ∧ j = 7) := by omega
  have e2 : (3 + k = 3 + t ∧ j = 5) ↔ (k = t ∧ j = 5) := by omega
  simp only [e1, e2]
theorem cpS_row {o g t a m hd k : Nat} (hg : g < 3) (ht : t < 3) (h1 : k ≠ 26) (h2 : k ≠ 1) (h3 : k < 3 ∨ 6 ≤ k) : cpS S o g t a m hd k = S k := by
  funext j
  unfold cpS
  rw [if_neg h1, if_neg h2, if_neg (by omega), if_neg (by omega)]
theorem cpS_1 {o g t a m hd j : Nat} (h1 : j ≠ 11) (h2 : j ≠ 12) : cpS S o g t a m hd 1 j = S 1 j := by
  unfold cpS
  rw [if_neg (by omega), if_pos rfl, if_neg h1, if_neg h2]
theorem cp_RS {o t hd : Nat} (h : CG s b c α z o t hd) (hr : RS s c α z S) : RS s c (cpA α o (aG s o) t (st s α t + α 5 t) (z o) hd) (zA z (st s α t + α 5 t) (z o)) (cpS S o (aG s o) t (st s α t + α 5 t) (z o) hd) := by
  have hl := cp_left h
  have hz' := fun a q => cp_z h (a := a) q
  have hw' := fun a q => cp_w h (a := a) q
  have hfr := fun a => @cp_fresh s b c α z o t hd h a
  have hin := fun a => @cp_inU s b c α z o t hd h a
  have hof := fun a => @cp_OF s b c α z o t hd h a
  have hop := OF_pz h.2.2.1 h.2.2.2.2.1
  obtain ⟨hn, hs, hz, hf, ho, h2, h3, h4, -⟩ := h
  have hg := aG_lt s o
  have hp0 : st s α t + α 5 t ≠ 0 := by have := U_bd hn h3; omega
  have hno : ¬ (st s α t + α 5 t ≤ o ∧ o < st s α t + α 5 t + z o) := fun q => (hfr o q.1 q.2).2.2 ho.1
  have hrow := fun k (h1 : k ≠ 26) (h2 : k ≠ 1) (h5 : k < 3 ∨ 6 ≤ k) => @cpS_row S o (aG s o) t (st s α t + α 5 t) (z o) hd k hg h3 h1 h2 h5
  obtain ⟨rg, rl, rr, rw', rc, rm⟩ := hr
  refine ⟨?_, ?_, ?_, ?_, ?_, ?_⟩
  · intro k hk
    obtain ⟨g0, g1, g2, g3, g4, g5, g6, g7, g8, g9⟩ := rg k hk
    simp only [cpS_gen hk]
    refine ⟨?_, ?_, ?_, fun q => ?_, ?_, ?_, ?_, ?_, ?_, ?_⟩
    · simp [g0]
    · simp [g1]
    · simp [g2]
    · simp [g3 q]; rfl
    · simp [g4]; rfl
    · have e : cpA α o (aG s o) t (st s α t + α 5 t) (z o) hd 5 k = if k = t then α 5 t + z o else α 5 k := rfl
      rw [e]
      by_cases q : k = t
      · subst q
        simp [g5, nI_add]
      · simp [q, g5]
    · simp [g6]; rfl
    · have e : cpA α o (aG s o) t (st s α t + α 5 t) (z o) hd 21 k = if k = aG s o then α 21 (aG s o) - z o else α 21 k := rfl
      rw [e]
      by_cases q : k = aG s o
      · subst q
        rw [if_pos ho.1.1] at g7
        simp only [if_pos ho.1.1, g7, pk_sub hl, and_self, if_true]
      · simp [q, g7]
    · simp [g8]; rfl
    · simp [g9]; rfl
  · unfold RLs at rl ⊢
    rw [hrow 6 (by omega) (by omega) (by omega), hrow 7 (by omega) (by omega) (by omega), hrow 8 (by omega) (by omega) (by omega), hrow 9 (by omega) (by omega) (by omega), hrow 10 (by omega) (by omega) (by omega), hrow 11 (by omega) (by omega) (by omega), hrow 16 (by omega) (by omega) (by omega), hrow 17 (by omega) (by omega) (by omega), hrow 18 (by omega) (by omega) (by omega), hrow 19 (by omega) (by omega) (by omega), hrow 20 (by omega) (by omega) (by omega), hrow 21 (by omega) (by omega) (by omega)]
    exact rl
  · intro r hr2
    rw [cpS_1 (by omega) (by omega)]
    have q := rrow_in (S 1 8) hr2
    rw [hrow _ (by omega) (by omega) (by omega), hrow _ (by omega) (by omega) (by omega)]
    exact rr r hr2
  · have e26 : ∀ i, cpS S o (aG s o) t (st s α t + α 5 t) (z o) hd 26 i = if i = o then -(nI (st s α t + α 5 t)) else if i = st s α t + α 5 t then nI hd else if st s α t + α 5 t < i ∧ i < st s α t + α 5 t + z o then S 26 (o + (i - (st s α t + α 5 t))) else S 26 i := fun i => rfl
    have e2 : ∀ i, cpA α o (aG s o) t (st s α t + α 5 t) (z o) hd 2 i = if i = o then st s α t + α 5 t else α 2 i := fun i => rfl
    have e1 : ∀ i, cpA α o (aG s o) t (st s α t + α 5 t) (z o) hd 1 i = if i = st s α t + α 5 t then hd else if st s α t + α 5 t < i ∧ i < st s α t + α 5 t + z o then α 1 (o + (i - (st s α t + α 5 t))) else α 1 i := fun i => rfl
    constructor
    · intro x hx hx0
      have hx1 := (hof x).mp hx
      rw [e2] at hx0
      rw [e26, e2]
      by_cases q : x = o
      · rw [if_pos q, if_pos q]
      · rw [if_neg q] at hx0
        rw [if_neg q, if_neg q, if_neg (fun q2 => (hfr x (by omega) (by omega)).2.2 hx1.1), if_neg (fun q2 => (hfr x (by omega) (by omega)).2.2 hx1.1)]
        exact rw'.1 x hx1 hx0
    · intro x hx hxn
      rw [hof x, e2] at hxn
      rw [e26, e1]
      by_cases q : st s α t + α 5 t ≤ x ∧ x < st s α t + α 5 t + z o
      · rw [if_neg (fun q2 => hno (by omega))]
        by_cases q3 : x = st s α t + α 5 t
        · rw [if_pos q3, if_pos q3]
        · rw [if_neg q3, if_neg q3, if_pos (by omega), if_pos (by omega)]
          have q4 := OF_in hn hz ho (i := x - (st s α t + α 5 t)) (by omega)
          refine rw'.2 _ (Or.inr q4.2) (fun q5 => q5.1.2 ?_)
          exact hop.2.2.2 _ (by omega) (by omega)
      · have hx1 : inU s α x ∨ inF s c α x := hx.elim (fun q2 => ((hin x).mp q2).elim Or.inl (fun q3 => absurd q3 q)) Or.inr
        by_cases q2 : x = o
        · subst q2
          rw [if_pos rfl] at hxn
          exact absurd ⟨ho, hp0⟩ hxn
        · rw [if_neg q2] at hxn
          rw [if_neg q2, if_neg (by omega), if_neg (by omega), if_neg (by omega), if_neg (by omega)]
          exact rw'.2 x hx1 hxn
  · obtain ⟨c1, c2, c3, c4⟩ := rc
    have hc0 : ¬ c = 0 := by have := ho.1.1; omega
    rw [if_neg hc0] at c3
    have e : ∀ j, cpS S o (aG s o) t (st s α t + α 5 t) (z o) hd 1 j = if j = 11 then S 1 11 + nI (z o) else if j = 12 then S 1 12 + nI (if aG s o < t then 1 else 0) else S 1 j := fun j => rfl
    unfold RC
    rw [cpS_1 (by omega) (by omega), cpS_1 (j := 9) (by omega) (by omega), cpS_1 (j := 8) (by omega) (by omega), e, e, if_neg (by omega), if_pos rfl, if_pos rfl, c2, c3, nI_add, nI_add, if_neg hc0]
    refine ⟨c1, rfl, ?_, c4⟩
    rw [Nat.add_assoc]
    rfl
  · obtain ⟨m1, m2, m3, m4, m5⟩ := rm
    unfold RM
    rw [hrow 2 (by omega) (by omega) (by omega), hrow 27 (by omega) (by omega) (by omega), hrow 28 (by omega) (by omega) (by omega)]
    exact ⟨m1, m2, m3, m4, m5⟩
theorem cp_FRM {o t hd : Nat} (h : CG s b c α z o t hd) : FRM s c α z S (cpA α o (aG s o) t (st s α t + α 5 t) (z o) hd) (zA z (st s α t + α 5 t) (z o)) (cpS S o (aG s o) t (st s α t + α 5 t) (z o) hd) := by
  have hg := aG_lt s o
  have h3 := h.2.2.2.2.2.2.1
  refine ⟨fun x hx => (cp_OU h).mpr (Or.inl hx), fun x => cp_OF h, fun x hx => ⟨cp_w h hx, cp_z h hx⟩, fun k => cp_k, fun i => cp_0, ⟨fun k h6 h26 => cpS_row hg h3 h26 (by omega) (Or.inr h6), cpS_1 (by omega) (by omega), cpS_1 (by omega) (by omega)⟩, fun g => ?_, fun g hg3 => ?_⟩
  · show α 5 g ≤ if g = t then α 5 t + z o else α 5 g
    by_cases e : g = t
    · rw [if_pos e, e]
      omega
    · rw [if_neg e]
      omega
  · show α 5 g < (if g = t then α 5 t + z o else α 5 g) → _
    by_cases e : g = t
    · intro _
      rw [e]
      show (if _ then z o else _) ≠ 0
      rw [if_pos rfl]
      exact h.2.2.2.2.1.2
    · rw [if_neg e]
      intro q
      omega
theorem J_bring {lo hi a : Nat} {K : Nat → Prop} (hi' : Gi s b c α z lo hi K) (hK : ∀ f, K f → f < st s α (aG s f) + α 5 (aG s f)) (hc : 0 < c) (hr : RS s c α z S) (hN : n 26 = 1 + 14 * s) (ha : VV s c α z a) : ∃ α' z' S' r, Gi s b c α' z' lo hi K ∧ RS s c α' z' S' ∧ (∀ Q : Int32 → (Nat → Nat → Int32) → Prop, Q (nI r) (nR α') → wX5_bring (nI a) (nR α) Q) ∧ (∀ Q : Int32 → (Nat → Nat → Int32) → Prop, Q (nI r) S' → wX1_brought n (nI a) S Q) ∧ (a = 0 → r = 0) ∧ (Ob s c α z a → OU s α' z' r) ∧ FRM s c α z S α' z' S' ∧ (Ob s c α z a → ∀ y, Ob s c α z y → EE s c α z a y → EE s c α' z' r y) := by
  obtain ⟨hn, hs, hz, hw, hf, hl, hd, hq, hrr, hk⟩ := hi'
  have hs1 := hn.1.2.1
  have halt := VV_lt hn ha
  have hi2 : Gi s b c α z lo hi K := ⟨hn, hs, hz, hw, hf, hl, hd, hq, hrr, hk⟩
  by_cases hF : inF s c α a
  · have ho : OF s c α z a := by
      rcases ha with q | q | q
      · have := F_lt hn hF
        omega
      · exact (UF_no hn q.1 hF).elim
      · exact q
    have hlo := F_lt hn hF
    by_cases h0 : α 2 a = 0
    · obtain ⟨t, hd', ht⟩ := CT_is s c α z a
      have hg := CG_of hn hs hz hw hf ho h0 ht
      have hh := (hw a (Or.inr ho)).1
      refine ⟨_, _, _, _, cp_Gi hg hK hi2, cp_RS hg hr, fun Q hQ => ?_, fun Q hQ => cp_C hg hh ht hr hN hQ, fun q => by omega, fun _ => (cp_OU hg).mpr (Or.inr rfl), cp_FRM hg, fun hoa y hy he => ?_⟩
      · unfold wX5_bring
        refine M_from_t hn hF ?_
        refine ⟨fun q => (by simp at q), fun _ => ⟨(vp_nI (by omega)).mpr (by omega), fun _ => M_copy hg hh ht hQ, fun q => ?_⟩⟩
        rw [nI_clamp (by omega), nR_at, h0] at q
        exact absurd nI_0 q
      · have hno := cp_no hg
        have hU := (cp_OU hg).mpr (Or.inr rfl)
        refine ⟨fun e => hno (e ▸ hy), fun q => (UF_no (cp_Gn hg) hU.1 q.1).elim, fun q => ?_⟩
        have e2 : cpA α a (aG s a) t (st s α t + α 5 t) (z a) hd' 2 y = if y = a then st s α t + α 5 t else α 2 y := rfl
        rw [e2, if_neg (fun e => he.1 e.symm)]
        intro e
        by_cases h2 : α 2 y = 0
        · have := (U_lt (cp_Gn hg) hU.1).1
          omega
        · have := (hf y ((cp_OF hg).mp q) h2).1
          rw [e] at this
          exact hno (Or.inl this)
    · have hU := (hf a ho h0).1
      have hUl := U_lt hn hU.1
      refine ⟨α, z, S, α 2 a, hi2, hr, fun Q hQ => ?_, fun Q hQ => ?_, fun q => by omega, fun _ => hU, FRM_refl, fun hoa y hy he => ?_⟩
      · unfold wX5_bring
        refine M_from_t hn hF ?_
        refine ⟨fun q => (by simp at q), fun _ => ⟨(vp_nI (by omega)).mpr (by omega), fun q => ?_, fun q => ⟨(vp_nI (by omega)).mpr (by omega), ?_⟩⟩⟩
        · rw [nI_clamp (by omega), nR_at, ← nI_0, nI_eq (by omega) (by omega)] at q
          exact absurd q h0
        · rw [nI_clamp (by omega)]
          exact hQ
      · have e26 := hr.2.2.2.1.1 a ho h0
        unfold wX1_brought
        refine C_home hs1 (by omega) hr.1 ?_
        refine C_from_t hn hr.1 hF ?_
        rw [nI_clamp (by omega), e26]
        refine ⟨fun q => (by simp at q), fun _ => ⟨(vp_nI (by omega)).mpr (by omega), fun q => ?_, fun q => ⟨(vp_nI (by omega)).mpr (by omega), ?_⟩⟩⟩
        · exact absurd q (nI_neg (by omega) (by omega))
        · rw [nI_nn]
          exact hQ
      · refine ⟨he.2.1 ho, fun q => (UF_no hn hU.1 q.1).elim, fun q e => ?_⟩
        exact he.1 ((hf a ho h0).2 y q e).symm
  · have hU : a = 0 ∨ OU s α z a := ha.elim Or.inl (fun q => q.elim Or.inr (fun q => absurd q.1 hF))
    refine ⟨α, z, S, a, hi2, hr, fun Q hQ => ?_, fun Q hQ => ?_, fun q => q, fun q => ?_, FRM_refl, fun hoa y hy he => he⟩
    · unfold wX5_bring
      refine M_from_f hn hc (by omega) hF ?_
      exact ⟨fun _ => hQ, fun q => (by simp at q)⟩
    · unfold wX1_brought
      refine C_home hs1 (by omega) hr.1 ?_
      refine C_from_f hn hr.1 (hU.imp_right (fun q => q.1)) ?_
      exact ⟨fun _ => hQ, fun q => (by simp at q)⟩
    · exact q.elim (fun q => q) (fun q => absurd q.1 hF)
end PB
