/-! THE PURE PART: an object is copied: each thing that is kept -/
section PG
variable {s b c : Nat} {α : Nat → Nat → Nat} {z : Nat → Nat} {o t hd : Nat}
theorem cp_Gn (h : CG s b c α z o t hd) : Gn s b c (cpA α o (aG s o) t (st s α t + α 5 t) (z o) hd) := by
  have hl := cp_left h
  obtain ⟨hn, hs, hz, hf, ho, h2, h3, h4, -⟩ := h
  refine ⟨hn.1, ?_, hn.2.2⟩
  intro g hg
  have q := hn.2.1 g hg
  refine ⟨q.1, ?_, ?_⟩
  · show (if g = t then α 5 t + z o else α 5 g) + (if g < c then (if g = aG s o then α 21 (aG s o) - z o else α 21 g) else 0) ≤ sz s g
    by_cases e1 : g = t
    · by_cases e2 : g = aG s o
      · rw [if_pos e1, if_pos e2]
        have hc := ho.1.1
        rw [← e2] at hc hl ⊢
        rw [if_pos hc] at q ⊢
        rw [← e1]
        omega
      · rw [if_pos e1, if_neg e2]
        rcases h4 with q4 | q4
        · exact absurd (e1.trans q4) e2
        · rw [e1]
          exact q4.2
    · by_cases e2 : g = aG s o
      · rw [if_neg e1, if_pos e2, ← e2]
        have := q.2.1
        by_cases e3 : g < c
        · rw [if_pos e3] at this ⊢
          omega
        · rw [if_neg e3] at this ⊢
          omega
      · rw [if_neg e1, if_neg e2]
        exact q.2.1
  · show α 22 g ≤ (if g = t then α 5 t + z o else α 5 g)
    by_cases e1 : g = t
    · rw [if_pos e1, ← e1]
      have := q.2.2
      omega
    · rw [if_neg e1]
      exact q.2.2
theorem cp_Gs (h : CG s b c α z o t hd) : Gs c (cpA α o (aG s o) t (st s α t + α 5 t) (z o) hd) (zA z (st s α t + α 5 t) (z o)) := by
  have hl := cp_left h
  have hz' := fun a (q : inF s c α a) => cp_z h (Or.inr q)
  have hp0 : st s α t + α 5 t ≠ 0 := by
    have := cp_fresh h (a := st s α t + α 5 t) (Nat.le_refl _) (by have := (OF_pz h.2.2.1 h.2.2.2.2.1).1; omega)
    have h6 := bs_mono (s := s) (g := 0) (k := t) (by omega)
    have h7 : bs s 0 = 1 := rfl
    have h8 := hb_in (s := s) (h := α 4 t) h.2.2.2.2.2.2.1
    unfold st
    omega
  obtain ⟨hn, hs, hz, hf, ho, h2, h3, h4, -⟩ := h
  intro g hg
  show fb_sm (fun i => if (if α 19 g + i = o then st s α t + α 5 t else α 2 (α 19 g + i)) = 0 then zA z (st s α t + α 5 t) (z o) (α 19 g + i) else 0) (α 20 g - α 19 g) ≤ (if g = aG s o then α 21 (aG s o) - z o else α 21 g)
  by_cases e : g = aG s o
  · rw [if_pos e]
    have h5 : α 19 g ≤ o ∧ o < α 20 g := by rw [e]; exact ho.1.2
    have q := fb_sm_upd (fun i => if α 2 (α 19 g + i) = 0 then z (α 19 g + i) else 0) 0 (i := o - α 19 g) (n := α 20 g - α 19 g) (by omega)
    have e2 : α 19 g + (o - α 19 g) = o := by omega
    simp only [e2, h2, if_true] at q
    have q2 := hs g hg
    have q3 : fb_sm (fun i => if (if α 19 g + i = o then st s α t + α 5 t else α 2 (α 19 g + i)) = 0 then zA z (st s α t + α 5 t) (z o) (α 19 g + i) else 0) (α 20 g - α 19 g) = fb_sm (fun k => if k = o - α 19 g then 0 else if α 2 (α 19 g + k) = 0 then z (α 19 g + k) else 0) (α 20 g - α 19 g) := by
      refine fb_sm_cong fun k hk => ?_
      by_cases e3 : k = o - α 19 g
      · rw [if_pos e3, if_pos (show α 19 g + k = o by omega), if_neg hp0]
      · rw [if_neg e3, if_neg (show ¬ α 19 g + k = o by omega), hz' _ (F_of hn hg (by omega) (by omega))]
    rw [q3]
    rw [← e]
    omega
  · rw [if_neg e]
    refine Nat.le_trans (Nat.le_of_eq (fb_sm_cong fun k hk => ?_)) (hs g hg)
    have e4 := F_gen (a := α 19 g + k) hn hg (by omega) (by omega)
    have e5 : ¬ α 19 g + k = o := fun q => e (by rw [← q, e4])
    rw [if_neg e5, hz' _ (F_of hn hg (by omega) (by omega))]
theorem PZ_cong {z z' : Nat → Nat} {lo hi : Nat} (h : PZ z lo hi) (e : ∀ a, lo ≤ a → a < hi → z' a = z a) : PZ z' lo hi := by
  refine ⟨fun a h1 h2 h3 => ?_, fun q => by rw [e lo (Nat.le_refl _) q]; exact h.2 q⟩
  rw [e a h1 h2] at h3 ⊢
  have q := h.1 a h1 h2 h3
  refine ⟨q.1, q.2.1, q.2.2.1, fun q2 => by rw [e _ (by omega) q2]; exact q.2.2.2.1 q2, fun i h4 h5 => by rw [e i (by omega) (by omega)]; exact q.2.2.2.2 i h4 h5⟩
theorem PZ_more {z z' : Nat → Nat} {lo hi n : Nat} (h : PZ z lo hi) (hlo : lo ≤ hi) (e : ∀ a, lo ≤ a → a < hi → z' a = z a) (h2 : 2 ≤ n) (h8 : n ≤ 8) (e1 : z' hi = n) (e2 : ∀ i, hi < i → i < hi + n → z' i = 0) : PZ z' lo (hi + n) := by
  refine ⟨fun a h1 h2 h3 => ?_, fun q => ?_⟩
  · rcases Nat.lt_trichotomy a hi with q | q | q
    · rw [e a h1 q] at h3 ⊢
      have q := h.1 a h1 q h3
      refine ⟨q.1, q.2.1, by omega, fun q2 => ?_, fun i h4 h5 => by rw [e i (by omega) (by omega)]; exact q.2.2.2.2 i h4 h5⟩
      by_cases q3 : a + z a < hi
      · rw [e _ (by omega) q3]; exact q.2.2.2.1 q3
      · have q4 : a + z a = hi := by omega
        rw [q4, e1]
        omega
    · subst q
      rw [e1]
      exact ⟨by omega, by omega, by omega, fun q => by omega, e2⟩
    · exact absurd (e2 a q (by omega)) h3
  · by_cases q2 : lo < hi
    · rw [e lo (Nat.le_refl _) q2]
      exact h.2 q2
    · have q4 : lo = hi := by omega
      rw [q4, e1]
      omega
theorem cp_Gz (h : CG s b c α z o t hd) : Gz s c (cpA α o (aG s o) t (st s α t + α 5 t) (z o) hd) (zA z (st s α t + α 5 t) (z o)) := by
  have hz' := fun a q => cp_z h (a := a) q
  have hp := OF_pz h.2.2.1 h.2.2.2.2.1
  obtain ⟨hn, hs, hz, hf, ho, h2, h3, h4, -⟩ := h
  constructor
  · intro g hg
    show PZ _ (st s α g) (st s α g + (if g = t then α 5 t + z o else α 5 g))
    have e := fun a (q1 : st s α g ≤ a) q2 => hz' a (Or.inl (U_of hn hg q1 q2))
    by_cases e1 : g = t
    · rw [if_pos e1, ← e1, ← Nat.add_assoc]
      rw [← e1] at e
      refine PZ_more (hz.1 g hg) (by omega) e hp.1 hp.2.1 ?_ ?_
      · unfold zA
        rw [if_pos rfl]
      · intro i q1 q2
        unfold zA
        rw [if_neg (by omega), if_pos ⟨q1, q2⟩]
    · rw [if_neg e1]
      exact PZ_cong (hz.1 g hg) e
  · intro g hg
    exact PZ_cong (hz.2 g hg) fun a q1 q2 => hz' a (Or.inr (F_of hn hg q1 q2))
theorem cp_Gw (h : CG s b c α z o t hd) (hw : Gw s c α z) : Gw s c (cpA α o (aG s o) t (st s α t + α 5 t) (z o) hd) (zA z (st s α t + α 5 t) (z o)) := by
  have hp := OF_pz h.2.2.1 h.2.2.2.2.1
  intro x hx
  rcases (cp_Ob h).mp hx with q | q
  · have e : inU s α x ∨ inF s c α x := q.elim (fun q => Or.inl q.1) (fun q => Or.inr q.1)
    rw [cp_w h e, cp_z h e]
    refine ⟨(hw x q).1, fun f h1 h2 => ?_⟩
    have e2 : inU s α f ∨ inF s c α f := by
      rw [show f = x + (f - x) by omega]
      exact q.elim (fun q => Or.inl (OU_in h.1 h.2.2.1 q (by omega)).2) (fun q => Or.inr (OF_in h.1 h.2.2.1 q (by omega)).2)
    rw [cp_w h e2]
    exact cp_V h ((hw x q).2 f h1 h2)
  · subst q
    constructor
    · show HD (if _ then hd else _) (if _ then z o else _)
      rw [if_pos rfl, if_pos rfl]
      exact h.2.2.2.2.2.2.2.2
    · intro f h1 h2
      have e3 : zA z (st s α t + α 5 t) (z o) (st s α t + α 5 t) = z o := if_pos rfl
      rw [e3] at h2
      refine cp_V h ?_
      show VV s c α z (if f = st s α t + α 5 t then hd else if st s α t + α 5 t < f ∧ f < st s α t + α 5 t + z o then α 1 (o + (f - (st s α t + α 5 t))) else α 1 f)
      rw [if_neg (by omega), if_pos (by omega)]
      exact (hw o (Or.inr h.2.2.2.2.1)).2 _ (by omega) (by omega)
theorem cp_Gf (h : CG s b c α z o t hd) : Gf s c (cpA α o (aG s o) t (st s α t + α 5 t) (z o) hd) (zA z (st s α t + α 5 t) (z o)) := by
  intro x hx h0
  have hx1 := (cp_OF h).mp hx
  have hf := h.2.2.2.1
  have e2 : ∀ i, cpA α o (aG s o) t (st s α t + α 5 t) (z o) hd 2 i = if i = o then st s α t + α 5 t else α 2 i := fun i => rfl
  have hno := cp_no h
  rw [e2] at h0 ⊢
  by_cases q : x = o
  · rw [if_pos q]
    refine ⟨(cp_OU h).mpr (Or.inr rfl), fun o' ho' e => ?_⟩
    rw [e2] at e
    by_cases q2 : o' = o
    · exact q2.trans q.symm
    · rw [if_neg q2] at e
      have h3 := (cp_OF h).mp ho'
      by_cases q3 : α 2 o' = 0
      · have := (U_lt (cp_Gn h) ((cp_OU h).mpr (Or.inr rfl)).1).1
        omega
      · have := (hf o' h3 q3).1
        rw [e] at this
        exact absurd (Or.inl this) hno
  · rw [if_neg q] at h0 ⊢
    refine ⟨(cp_OU h).mpr (Or.inl (hf x hx1 h0).1), fun o' ho' e => ?_⟩
    rw [e2] at e
    by_cases q2 : o' = o
    · rw [if_pos q2] at e
      have := (hf x hx1 h0).1
      rw [← e] at this
      exact absurd (Or.inl this) hno
    · rw [if_neg q2] at e
      exact (hf x hx1 h0).2 o' ((cp_OF h).mp ho') e
theorem cp_Gl (h : CG s b c α z o t hd) {lo hi : Nat} (hl : Gl s c α z lo hi) : Gl s c (cpA α o (aG s o) t (st s α t + α 5 t) (z o) hd) (zA z (st s α t + α 5 t) (z o)) lo hi := by
  obtain ⟨h1, h2, h3, h4, h5, h6, h7⟩ := hl
  exact ⟨fun i hi => cp_V h (h1 i hi), h2, fun i hi => cp_V h (h3 i hi), fun i hi => cp_V h (h4 i hi), h5, fun i hi ha => (cp_Ob h).mpr (Or.inl (h6 i hi ha)), fun i hi => (cp_Ob h).mpr (Or.inl (h7 i hi))⟩
theorem cp_EE (h : CG s b c α z o t hd) {x y : Nat} (hx : Ob s c α z x) (hy : Ob s c α z y) (he : EE s c α z x y) : EE s c (cpA α o (aG s o) t (st s α t + α 5 t) (z o) hd) (zA z (st s α t + α 5 t) (z o)) x y := by
  have hno := cp_no h
  have e2 : ∀ i, cpA α o (aG s o) t (st s α t + α 5 t) (z o) hd 2 i = if i = o then st s α t + α 5 t else α 2 i := fun i => rfl
  refine ⟨he.1, fun hf => ?_, fun hf => ?_⟩
  · rw [e2]
    by_cases q : x = o
    · rw [if_pos q]
      intro e
      exact hno (e ▸ hy)
    · rw [if_neg q]
      exact he.2.1 ((cp_OF h).mp hf)
  · rw [e2]
    by_cases q : y = o
    · rw [if_pos q]
      intro e
      exact hno (e ▸ hx)
    · rw [if_neg q]
      exact he.2.2 ((cp_OF h).mp hf)
theorem cp_Gd (h : CG s b c α z o t hd) {lo hi : Nat} (hl : Gl s c α z lo hi) (hd' : Gd s c α z lo hi) : Gd s c (cpA α o (aG s o) t (st s α t + α 5 t) (z o) hd) (zA z (st s α t + α 5 t) (z o)) lo hi := by
  obtain ⟨h1, h2, h3⟩ := hd'
  obtain ⟨-, -, -, -, -, h6, h7⟩ := hl
  exact ⟨fun i j hi hj ai aj => cp_EE h (h6 i (Nat.lt_trans hi hj) ai) (h6 j hj aj) (h1 i j hi hj ai aj), fun i j hi hj => cp_EE h (h7 i (Nat.lt_trans hi hj)) (h7 j hj) (h2 i j hi hj), fun i j hi hj ai => cp_EE h (h6 i hi ai) (h7 j hj) (h3 i j hi hj ai)⟩
theorem cp_Gq (h : CG s b c α z o t hd) (hq : Gq s b α z) : Gq s b (cpA α o (aG s o) t (st s α t + α 5 t) (z o) hd) (zA z (st s α t + α 5 t) (z o)) := ⟨hq.1, fun i hi => cp_FU h (hq.2 i hi)⟩
theorem cp_Gr (h : CG s b c α z o t hd) (hr : Gr s α z) : Gr s (cpA α o (aG s o) t (st s α t + α 5 t) (z o) hd) (zA z (st s α t + α 5 t) (z o)) := fun r hr' i hi => ⟨cp_FU h (hr r hr' i hi).1, (hr r hr' i hi).2⟩
theorem cp_DN (h : CG s b c α z o t hd) {f : Nat} (hf : inU s α f) (hd' : DN s α z f) : DN s (cpA α o (aG s o) t (st s α t + α 5 t) (z o) hd) (zA z (st s α t + α 5 t) (z o)) f := by
  unfold DN at hd' ⊢
  rw [cp_w h (Or.inl hf)]
  rcases hd' with q | q
  · exact Or.inl q
  · exact Or.inr ⟨(cp_OU h).mpr (Or.inl q.1), q.2⟩
/-- a field of an object in use after the copy, that lies below what was used, was one before -/
theorem cp_FUr (h : CG s b c α z o t hd) {f : Nat} (hf : FU s (cpA α o (aG s o) t (st s α t + α 5 t) (z o) hd) (zA z (st s α t + α 5 t) (z o)) f) (hu : f < st s α (aG s f) + α 5 (aG s f)) : FU s α z f := by
  obtain ⟨x, h1, h2, h3⟩ := hf
  rcases (cp_OU h).mp h1 with q | q
  · rw [cp_z h (Or.inl q.1)] at h3
    exact ⟨x, q, h2, h3⟩
  · exfalso
    subst q
    rw [show zA z (st s α t + α 5 t) (z o) (st s α t + α 5 t) = z o from if_pos rfl] at h3
    have := (cp_fresh h (a := f) (by omega) (by omega)).1
    rw [this] at hu
    omega
theorem cp_Gk (h : CG s b c α z o t hd) {K : Nat → Prop} (hK : ∀ f, K f → f < st s α (aG s f) + α 5 (aG s f)) (hk : Gk s α z K) : Gk s (cpA α o (aG s o) t (st s α t + α 5 t) (z o) hd) (zA z (st s α t + α 5 t) (z o)) K := by
  intro f h1 h2
  have h3 := cp_FUr h h2 (hK f h1)
  have h4 := hk f h1 h3
  refine ⟨?_, cp_DN h (FU_in h.1 h.2.2.1 h3).1 h4.2⟩
  show f < st s α (aG s f) + (if aG s f = t then α 5 t + z o else α 5 (aG s f))
  by_cases e : aG s f = t
  · rw [if_pos e, e]
    have := h4.1
    rw [e] at this
    omega
  · rw [if_neg e]
    exact h4.1
theorem cp_Gi (h : CG s b c α z o t hd) {lo hi : Nat} {K : Nat → Prop} (hK : ∀ f, K f → f < st s α (aG s f) + α 5 (aG s f)) (hi' : Gi s b c α z lo hi K) : Gi s b c (cpA α o (aG s o) t (st s α t + α 5 t) (z o) hd) (zA z (st s α t + α 5 t) (z o)) lo hi K := by
  obtain ⟨-, -, -, h4, -, h6, h7, h8, h9, h10⟩ := hi'
  exact ⟨cp_Gn h, cp_Gs h, cp_Gz h, cp_Gw h h4, cp_Gf h, cp_Gl h h6, cp_Gd h h6 h7, cp_Gq h h8, cp_Gr h h9, cp_Gk h hK h10⟩
end PG
