/-! THE PURE PART: the model's store doesn't look at the machine's steps -/
def U6 (x : Int32) (T : Nat → Nat → Int32) : Nat → Nat → Int32 := up2 T 0 26 x
section PO9
variable {x : Int32}
theorem U6_up {T : Nat → Nat → Int32} {k i : Nat} {y : Int32} (h : k ≠ 0 ∨ i ≠ 26) : up2 (U6 x T) k i y = U6 x (up2 T k i y) := by
  funext j m
  unfold U6
  rw [up2_get, up2_get, up2_get, up2_get]
  by_cases e : j = k ∧ m = i
  · rw [if_pos e, if_pos e, if_neg (by omega)]
  · rw [if_neg e, if_neg e]
theorem gen26 {a : Int32} {T : Nat → Nat → Int32} {Q P : Int32 → (Nat → Nat → Int32) → Prop} (h : wX5_generation a (U6 x T) Q) (hP : ∀ r, Q r (U6 x T) → P r T) : wX5_generation a T P :=
  ⟨fun c1 => ⟨fun c2 => hP _ ((h.1 c1).1 c2), fun c2 => hP _ ((h.1 c1).2 c2)⟩, fun c1 => hP _ (h.2 c1)⟩
theorem rem26 {a1 a2 : Int32} {T : Nat → Nat → Int32} {Q P : Unit → (Nat → Nat → Int32) → Prop} (hP : ∀ T', T' 0 26 = T 0 26 → Q () (U6 x T') → P () T') : ∀ f x2, wX5_remember_b2 a1 a2 f x2 (U6 x T) Q → wX5_remember_b2 a1 a2 f x2 T P := by
  intro f
  induction f with
  | zero => exact fun _ h => h
  | succ f ih =>
    intro x2 h
    rw [wX5_remember_b2] at h ⊢
    obtain ⟨h1, h2, h3⟩ := h
    refine ⟨h1, fun c => ?_, fun c => ?_⟩
    · obtain ⟨v1, v2, g⟩ := h2 c
      refine ⟨v1, v2, ?_⟩
      rintro S3 rfl
      obtain ⟨v3, v4, g3⟩ := g _ rfl
      refine ⟨v3, v4, ?_⟩
      rintro S5 rfl
      have g4 := g3 _ rfl
      rw [U6_up (Or.inl (by omega)), U6_up (Or.inl (by omega))] at g4
      exact hP _ rfl g4
    · obtain ⟨v1, g1, g2⟩ := h3 c
      refine ⟨v1, fun c2 => hP _ rfl (g1 c2), fun c2 => ?_⟩
      rintro x8 rfl
      exact ih _ (g2 c2 _ rfl)
theorem rif26 {a1 : Int32} {T : Nat → Nat → Int32} {Q P : Unit → (Nat → Nat → Int32) → Prop} (hP : ∀ T', T' 0 26 = T 0 26 → Q () (U6 x T') → P () T') (h : wX5_rememberIf a1 (U6 x T) Q) : wX5_rememberIf a1 T P := by
  refine ⟨h.1, fun c => hP _ rfl (h.2.1 c), fun c => ?_⟩
  refine gen26 (h.2.2 c) (fun r g => ?_)
  refine gen26 g (fun r' g' => ⟨fun c => hP _ rfl (g'.1 c), fun c => ?_⟩)
  refine gen26 (g'.2 c) (fun r'' g'' => ?_)
  obtain ⟨f, g3⟩ := g''
  exact ⟨f, rem26 hP f 0 g3⟩
theorem fil26 {Q P : Unit → (Nat → Nat → Int32) → Prop} : ∀ f x2 (T : Nat → Nat → Int32), (∀ T', T' 0 26 = T 0 26 → Q () (U6 x T') → P () T') → wX5_filter_b2 f x2 (U6 x T) Q → wX5_filter_b2 f x2 T P := by
  intro f
  induction f with
  | zero => exact fun _ _ _ h => h
  | succ f ih =>
    intro x2 T hP h
    rw [wX5_filter_b2] at h ⊢
    obtain ⟨h1, h2⟩ := h
    refine ⟨fun c => ?_, fun c => ?_⟩
    · rintro S3 rfl
      have g := h1 c _ rfl
      rw [U6_up (Or.inr (by omega))] at g
      exact hP _ rfl g
    · obtain ⟨v1, g⟩ := h2 c
      refine ⟨v1, rif26 (fun T' e g' => ?_) g⟩
      rintro x7 rfl
      exact ih _ T' (fun T'' e' g'' => hP T'' (e'.trans e) g'') (g' _ rfl)
theorem b3726 {a v : Int32} {T : Nat → Nat → Int32} {Q P : Unit → (Nat → Nat → Int32) → Prop} (hP : ∀ T', T' 0 26 = T 0 26 → Q () (U6 x T') → P () T') (h : wX5_store_b37 a v (U6 x T) Q) : wX5_store_b37 a v T P := by
  refine ⟨h.1, ?_⟩
  rintro S9 rfl S11 rfl
  have g := h.2 _ rfl _ rfl
  rw [U6_up (Or.inl (by omega)), U6_up (Or.inr (by omega))] at g
  exact hP _ rfl g
theorem sto26 {a v : Int32} {T : Nat → Nat → Int32} {Q P : Unit → (Nat → Nat → Int32) → Prop} (hP : ∀ T', T' 0 26 = T 0 26 → Q () (U6 x T') → P () T') (h : wX5_store a v (U6 x T) Q) : wX5_store a v T P := by
  refine ⟨h.1, ?_⟩
  rintro S1 rfl
  have g := h.2 _ rfl
  rw [U6_up (Or.inl (by omega))] at g
  refine ⟨fun c => hP _ rfl (g.1 c), fun c => ⟨fun c2 => ?_, fun c2 => b3726 hP ((g.2 c).2 c2)⟩⟩
  rintro S5 rfl
  have g2 := (g.2 c).1 c2 _ rfl
  rw [U6_up (Or.inr (by omega))] at g2
  obtain ⟨f, g3⟩ := g2
  exact ⟨f, fil26 f 0 _ (fun T' e g' => b3726 (fun T'' e' g'' => hP T'' (e'.trans e) g'') g') g3⟩
end PO9
