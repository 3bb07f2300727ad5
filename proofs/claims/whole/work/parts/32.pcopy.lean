/-! THE PURE PART: an object is copied: what is kept -/
def cpA (α : Nat → Nat → Nat) (o g t at' n hd : Nat) : Nat → Nat → Nat := fun k i =>
  if k = 1 then (if i = at' then hd else if at' < i ∧ i < at' + n then α 1 (o + (i - at')) else α 1 i)
  else if k = 2 then (if i = o then at' else α 2 i)
  else if k = 5 then (if i = t then α 5 t + n else α 5 i)
  else if k = 21 then (if i = g then α 21 g - n else α 21 i)
  else if k = 0 then (if i = 25 then α 0 25 + (if g < t then 1 else 0) else if i = 32 then α 0 32 + n else α 0 i)
  else α k i
def zA (z : Nat → Nat) (at' n : Nat) : Nat → Nat := fun i => if i = at' then n else if at' < i ∧ i < at' + n then 0 else z i
/-- the ground on which an object can be copied -/
def CG (s b c : Nat) (α : Nat → Nat → Nat) (z : Nat → Nat) (o t hd : Nat) : Prop := Gn s b c α ∧ Gs c α z ∧ Gz s c α z ∧ Gf s c α z ∧ OF s c α z o ∧ α 2 o = 0 ∧ t < 3 ∧ (t = aG s o ∨ t = aG s o + 1 ∧ α 5 t + z o + (if t < c then α 21 t else 0) ≤ sz s t) ∧ HD hd (z o)
section PC
variable {s b c : Nat} {α : Nat → Nat → Nat} {z : Nat → Nat} {o t hd : Nat}
theorem cp_k {g a n k : Nat} (h0 : k ≠ 0) (h1 : k ≠ 1) (h2 : k ≠ 2) (h3 : k ≠ 5) (h4 : k ≠ 21) : cpA α o g t a n hd k = α k := by
  funext i
  unfold cpA
  rw [if_neg h1, if_neg h2, if_neg h3, if_neg h4, if_neg h0]
theorem cp_0 {g a n i : Nat} (h0 : i ≠ 25) (h1 : i ≠ 32) : cpA α o g t a n hd 0 i = α 0 i := by
  show (if i = 25 then _ else if i = 32 then _ else α 0 i) = _
  rw [if_neg h0, if_neg h1]
theorem cp_left (h : CG s b c α z o t hd) : z o ≤ α 21 (aG s o) := by
  obtain ⟨hn, hs, hz, hf, ho, h2, -⟩ := h
  have q := OF_pz hz ho
  have := hs _ ho.1.1
  refine Nat.le_trans ?_ this
  have h3 : o - α 19 (aG s o) < α 20 (aG s o) - α 19 (aG s o) := by have := ho.1.2; omega
  refine Nat.le_trans ?_ (fb_sm_part _ h3)
  have e : α 19 (aG s o) + (o - α 19 (aG s o)) = o := by have := ho.1.2; omega
  simp only [e, h2, if_true]
  omega
theorem cp_room (h : CG s b c α z o t hd) : α 5 t + z o ≤ sz s t := by
  have hl := cp_left h
  obtain ⟨hn, hs, hz, hf, ho, h2, h3, h4, -⟩ := h
  rcases h4 with q | q
  · have := (hn.2.1 t h3).2.1
    rw [q, if_pos ho.1.1] at this
    rw [q]
    omega
  · omega
theorem cp_fresh (h : CG s b c α z o t hd) {a : Nat} (h1 : st s α t + α 5 t ≤ a) (h2 : a < st s α t + α 5 t + z o) : aG s a = t ∧ ¬ inU s α a ∧ ¬ inF s c α a := by
  have hr := cp_room h
  obtain ⟨hn, hs, hz, hf, ho, -, h3, -⟩ := h
  have h4 := hb_in (s := s) (h := α 4 t) h3
  have e : aG s a = t := by
    unfold st at h1 h2
    exact aG_of h3 (by omega) (by omega)
  refine ⟨e, ?_, ?_⟩
  · unfold inU
    rw [e]
    omega
  · unfold inF
    rw [e]
    intro ⟨q1, q2, q3⟩
    have h5 := hn.2.2 t q1
    have h6 := hn.2.1 t h3
    unfold st at h1 h2
    rw [h5.1] at q2 h5
    rcases (show α 4 t = 0 ∨ α 4 t = 1 by omega) with q | q <;> rw [q] at h1 h2 q2 h5 <;> simp [hb] at h1 h2 q2 h5 <;> omega
theorem cp_inU (h : CG s b c α z o t hd) {a : Nat} : inU s (cpA α o (aG s o) t (st s α t + α 5 t) (z o) hd) a ↔ inU s α a ∨ (st s α t + α 5 t ≤ a ∧ a < st s α t + α 5 t + z o) := by
  have e5 : ∀ i, cpA α o (aG s o) t (st s α t + α 5 t) (z o) hd 5 i = if i = t then α 5 t + z o else α 5 i := fun i => rfl
  have e4 : ∀ i, st s (cpA α o (aG s o) t (st s α t + α 5 t) (z o) hd) i = st s α i := fun i => rfl
  by_cases q : aG s a = t
  · unfold inU
    rw [q, e4, e5, if_pos rfl]
    have := (cp_room h)
    omega
  · constructor
    · intro hu
      unfold inU at hu ⊢
      rw [e4, e5, if_neg q] at hu
      exact Or.inl hu
    · rintro (hu | hu)
      · unfold inU at hu ⊢
        rw [e4, e5, if_neg q]
        exact hu
      · exact absurd (cp_fresh h hu.1 hu.2).1 q
theorem cp_z (h : CG s b c α z o t hd) {a : Nat} (hu : inU s α a ∨ inF s c α a) : zA z (st s α t + α 5 t) (z o) a = z a := by
  have hq : ¬ (st s α t + α 5 t ≤ a ∧ a < st s α t + α 5 t + z o) := fun q => by
    have := cp_fresh h q.1 q.2
    exact hu.elim this.2.1 this.2.2
  have hp := (OF_pz h.2.2.1 h.2.2.2.2.1).1
  unfold zA
  rw [if_neg (by omega), if_neg (by omega)]
theorem cp_w (h : CG s b c α z o t hd) {a : Nat} (hu : inU s α a ∨ inF s c α a) : cpA α o (aG s o) t (st s α t + α 5 t) (z o) hd 1 a = α 1 a := by
  have hq : ¬ (st s α t + α 5 t ≤ a ∧ a < st s α t + α 5 t + z o) := fun q => by
    have := cp_fresh h q.1 q.2
    exact hu.elim this.2.1 this.2.2
  have hp := (OF_pz h.2.2.1 h.2.2.2.2.1).1
  show (if a = st s α t + α 5 t then hd else if st s α t + α 5 t < a ∧ a < st s α t + α 5 t + z o then _ else α 1 a) = _
  rw [if_neg (by omega), if_neg (by omega)]
theorem cp_OF (h : CG s b c α z o t hd) {a : Nat} : OF s c (cpA α o (aG s o) t (st s α t + α 5 t) (z o) hd) (zA z (st s α t + α 5 t) (z o)) a ↔ OF s c α z a := by
  unfold OF
  show inF s c α a ∧ _ ↔ _
  constructor
  · rintro ⟨h1, h2⟩
    rw [cp_z h (Or.inr h1)] at h2
    exact ⟨h1, h2⟩
  · rintro ⟨h1, h2⟩
    rw [cp_z h (Or.inr h1)]
    exact ⟨h1, h2⟩
theorem cp_OU (h : CG s b c α z o t hd) {a : Nat} : OU s (cpA α o (aG s o) t (st s α t + α 5 t) (z o) hd) (zA z (st s α t + α 5 t) (z o)) a ↔ (OU s α z a ∨ a = st s α t + α 5 t) := by
  have hp := (OF_pz h.2.2.1 h.2.2.2.2.1).1
  unfold OU
  rw [cp_inU h]
  constructor
  · rintro ⟨h1 | h1, h2⟩
    · rw [cp_z h (Or.inl h1)] at h2
      exact Or.inl ⟨h1, h2⟩
    · refine Or.inr ?_
      unfold zA at h2
      by_cases q : a = st s α t + α 5 t
      · exact q
      · rw [if_neg q, if_pos (by omega)] at h2
        exact absurd rfl h2
  · rintro (⟨h1, h2⟩ | h1)
    · rw [cp_z h (Or.inl h1)]
      exact ⟨Or.inl h1, h2⟩
    · refine ⟨Or.inr (by omega), ?_⟩
      unfold zA
      rw [if_pos h1]
      omega
theorem cp_Ob (h : CG s b c α z o t hd) {a : Nat} : Ob s c (cpA α o (aG s o) t (st s α t + α 5 t) (z o) hd) (zA z (st s α t + α 5 t) (z o)) a ↔ (Ob s c α z a ∨ a = st s α t + α 5 t) := by
  unfold Ob
  rw [cp_OU h, cp_OF h]
  constructor
  · rintro ((q | q) | q)
    · exact Or.inl (Or.inl q)
    · exact Or.inr q
    · exact Or.inl (Or.inr q)
  · rintro ((q | q) | q)
    · exact Or.inl (Or.inl q)
    · exact Or.inr q
    · exact Or.inl (Or.inr q)
theorem cp_V (h : CG s b c α z o t hd) {a : Nat} (hv : VV s c α z a) : VV s c (cpA α o (aG s o) t (st s α t + α 5 t) (z o) hd) (zA z (st s α t + α 5 t) (z o)) a := hv.elim Or.inl (fun q => Or.inr ((cp_Ob h).mpr (Or.inl q)))
theorem cp_FU (h : CG s b c α z o t hd) {f : Nat} (hv : FU s α z f) : FU s (cpA α o (aG s o) t (st s α t + α 5 t) (z o) hd) (zA z (st s α t + α 5 t) (z o)) f := by
  obtain ⟨x, h1, h2, h3⟩ := hv
  refine ⟨x, (cp_OU h).mpr (Or.inl h1), h2, ?_⟩
  rw [cp_z h (Or.inl h1.1)]
  exact h3
theorem cp_no (h : CG s b c α z o t hd) : ¬ Ob s c α z (st s α t + α 5 t) := by
  have hp := (OF_pz h.2.2.1 h.2.2.2.2.1).1
  have := cp_fresh h (a := st s α t + α 5 t) (Nat.le_refl _) (by omega)
  exact fun q => q.elim (fun q => this.2.1 q.1) (fun q => this.2.2 q.1)
end PC
