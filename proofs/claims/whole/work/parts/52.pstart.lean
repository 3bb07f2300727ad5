/-! THE PURE PART: a collection begins -/
def PBg (s : Nat) (α : Nat → Nat → Nat) (g0 : Nat) (α' : Nat → Nat → Nat) : Prop :=
  (α' 0 31 = g0 ∧ α' 0 32 = 0 ∧ ∀ i, i ≠ 31 → i ≠ 32 → α' 0 i = α 0 i) ∧
  (∀ g, g < 3 → g ≤ g0 → α' 19 g = st s α g ∧ α' 20 g = st s α g + α 5 g ∧ α' 21 g = α 5 g ∧ α' 4 g = 1 - α 4 g ∧ α' 5 g = 0 ∧ α' 22 g = 0) ∧
  (∀ g, g < 3 → g0 < g → α' 4 g = α 4 g ∧ α' 5 g = α 5 g ∧ α' 22 g = α 5 g) ∧
  (∀ g, g < 3 → g ≤ g0 → ∀ i, st s α g ≤ i → i < st s α g + α 5 g → α' 2 i = 0) ∧
  (∀ r, r < 2 → α' 14 r = α 12 r ∧ α' 12 r = 0 ∧ ∀ i, i < α 12 r → α' 15 (1000 * r + i) = α 13 (1000 * r + i)) ∧
  (∀ k, k ≠ 0 → k ≠ 2 → k ≠ 4 → k ≠ 5 → k ≠ 12 → k ≠ 14 → k ≠ 15 → k ≠ 19 → k ≠ 20 → k ≠ 21 → k ≠ 22 → α' k = α k)
def PSg (s : Nat) (α : Nat → Nat → Nat) (g0 : Nat) (S S' : Nat → Nat → Int32) : Prop :=
  (S' 1 8 = S 1 9 ∧ S' 1 9 = S 1 8 ∧ ∀ i, i ≠ 8 → i ≠ 9 → S' 1 i = S 1 i) ∧
  (∀ g, g < 3 → g ≤ g0 → S' (3 + g) 4 = nI (hb s g (1 - α 4 g)) ∧ S' (3 + g) 5 = nI 0 ∧ S' (3 + g) 6 = nI (st s α g) ∧ S' (3 + g) 7 = nI (α 5 g) ∧ S' (3 + g) 8 = nI 0) ∧
  (∀ g, g < 3 → g0 < g → S' (3 + g) 4 = S (3 + g) 4 ∧ S' (3 + g) 5 = S (3 + g) 5 ∧ S' (3 + g) 6 = S (3 + g) 6 ∧ S' (3 + g) 7 = S (3 + g) 7 ∧ S' (3 + g) 8 = nI (α 5 g)) ∧
  (∀ g, g < 3 → S' (3 + g) 0 = S (3 + g) 0 ∧ S' (3 + g) 1 = S (3 + g) 1 ∧ S' (3 + g) 2 = S (3 + g) 2 ∧ S' (3 + g) 3 = S (3 + g) 3 ∧ S' (3 + g) 9 = S (3 + g) 9) ∧
  (∀ r, r < 2 → S' (rrow (S 1 9) r) 1 = nI 0 ∧ S' (rrow (S 1 8) r) = S (rrow (S 1 8) r)) ∧
  (∀ k, k = 2 ∨ (6 ≤ k ∧ k < 12) ∨ 16 ≤ k → S' k = S k)
section PST
variable {s b : Nat} {α α' : Nat → Nat → Nat} {z : Nat → Nat} {g0 : Nat} {S S' : Nat → Nat → Int32}
theorem PZ_sum {lo hi : Nat} (h : PZ z lo hi) : ∀ m a, lo ≤ a → a + m = hi → fb_sm (fun i => z (a + i)) m ≤ m := by
  intro m
  induction m using Nat.strongRecOn with
  | ind m ih =>
  intro a ha e
  rcases Nat.eq_zero_or_pos m with e0 | hpos
  · rw [e0]
    exact Nat.le_refl _
  · by_cases hz : z a = 0
    · have q := ih (m - 1) (by omega) (a + 1) (by omega) (by omega)
      have e1 : m = 1 + (m - 1) := by omega
      rw [e1, fb_sm_split]
      have e2 : fb_sm (fun i => z (a + i)) 1 = 0 := by
        show 0 + z (a + 0) = 0
        rw [Nat.add_zero, hz]
      have e3 : fb_sm (fun k => z (a + (1 + k))) (m - 1) = fb_sm (fun i => z (a + 1 + i)) (m - 1) := fb_sm_cong fun k _ => by rw [Nat.add_assoc]
      rw [e2, e3]
      omega
    · have q := h.1 a ha (by omega) hz
      have q2 := ih (m - z a) (by omega) (a + z a) (by omega) (by omega)
      have e1 : m = z a + (m - z a) := by omega
      have e3 : fb_sm (fun k => z (a + (z a + k))) (m - z a) = fb_sm (fun i => z (a + z a + i)) (m - z a) := fb_sm_cong fun k _ => by rw [Nat.add_assoc]
      have e4 : fb_sm (fun i => z (a + i)) (z a) = z a := by
        have e5 : z a = 1 + (z a - 1) := by omega
        have e6 : fb_sm (fun i => z (a + i)) (1 + (z a - 1)) = z a := by
          rw [fb_sm_split]
          have e7 : fb_sm (fun k => z (a + (1 + k))) (z a - 1) = fb_sm (fun _ => 0) (z a - 1) := fb_sm_cong fun k hk => q.2.2.2.2 _ (by omega) (by omega)
          have e8 : ∀ t, fb_sm (fun _ => 0) t = 0 := fun t => by
            induction t with
            | zero => rfl
            | succ t iht => rw [fb_sm_succ, iht]
          rw [e7, e8]
          show 0 + z a + 0 = z a
          omega
        rw [← e5] at e6
        exact e6
      have e9 : fb_sm (fun i => z (a + i)) (z a + (m - z a)) ≤ z a + (m - z a) := by
        rw [fb_sm_split, e3, e4]
        omega
      rw [← e1] at e9
      exact e9
theorem ps_U (hn : Gn s b 0 α) (hp : PBg s α g0 α') {x : Nat} : inU s α x ↔ (inU s α' x ∨ inF s (g0 + 1) α' x) := by
  have hg := aG_lt s x
  obtain ⟨-, p2, p3, -⟩ := hp
  unfold inU inF st
  by_cases e : aG s x ≤ g0
  · obtain ⟨q1, q2, q3, q4, q5, q6⟩ := p2 _ hg e
    rw [q1, q2, q5]
    unfold st
    constructor
    · intro h
      exact Or.inr ⟨by omega, h.1, h.2⟩
    · rintro (h | h)
      · omega
      · exact h.2
  · obtain ⟨q1, q2, q3⟩ := p3 _ hg (by omega)
    rw [q1, q2]
    constructor
    · exact Or.inl
    · rintro (h | h)
      · exact h
      · omega
theorem ps_inU (hp : PBg s α g0 α') {x : Nat} (h : inU s α x) : inU s α' x ↔ g0 < aG s x := by
  have hg := aG_lt s x
  obtain ⟨-, p2, p3, -⟩ := hp
  unfold inU st at h ⊢
  by_cases e : aG s x ≤ g0
  · obtain ⟨q1, q2, q3, q4, q5, q6⟩ := p2 _ hg e
    rw [q5]
    omega
  · obtain ⟨q1, q2, q3⟩ := p3 _ hg (by omega)
    rw [q1, q2]
    omega
theorem ps_Ob (hn : Gn s b 0 α) (hp : PBg s α g0 α') {x : Nat} : Ob s (g0 + 1) α' z x ↔ OU s α z x := by
  unfold Ob OU OF
  rw [ps_U hn hp]
  constructor
  · rintro (h | h)
    · exact ⟨Or.inl h.1, h.2⟩
    · exact ⟨Or.inr h.1, h.2⟩
  · rintro ⟨h | h, h2⟩
    · exact Or.inl ⟨h, h2⟩
    · exact Or.inr ⟨h, h2⟩
theorem ps_FU (hn : Gn s b 0 α) (hz : Gz s 0 α z) (hp : PBg s α g0 α') {f : Nat} : FU s α' z f ↔ (FU s α z f ∧ g0 < aG s f) := by
  constructor
  · rintro ⟨o, h1, h2, h3⟩
    have h4 : OU s α z o := ⟨(ps_U hn hp).mpr (Or.inl h1.1), h1.2⟩
    have h5 := (ps_inU hp h4.1).mp h1.1
    have h6 := (OU_in (i := f - o) hn hz h4 (by omega)).1
    rw [show o + (f - o) = f by omega] at h6
    exact ⟨⟨o, h4, h2, h3⟩, by omega⟩
  · rintro ⟨⟨o, h1, h2, h3⟩, h4⟩
    have h6 := (OU_in (i := f - o) hn hz h1 (by omega)).1
    rw [show o + (f - o) = f by omega] at h6
    exact ⟨o, ⟨(ps_inU hp h1.1).mpr (by omega), h1.2⟩, h2, h3⟩
theorem G_start (hg0 : g0 < 3) (hi' : Gi s b 0 α z 0 0 (fun _ => True)) (h16 : α 0 16 = 0) (hp : PBg s α g0 α') : Gi s b (g0 + 1) α' z 0 0 (KR s (g0 + 1) α' (α' 22) 0 0) := by
  obtain ⟨hn, hs, hz, hw, hff, hl, hd, hq, hrr, hk⟩ := hi'
  have hU := fun x => @ps_U s b α α' g0 hn hp x
  have hOb := fun x => @ps_Ob s b α α' z g0 hn hp x
  have hFU := fun f => @ps_FU s b α α' z g0 hn hz hp f
  have hpp := hp
  obtain ⟨⟨p31, p32, p0⟩, p2, p3, p4, p5, pk⟩ := hp
  have rw' : ∀ k, k ≠ 0 → k ≠ 2 → k ≠ 4 → k ≠ 5 → k ≠ 12 → k ≠ 14 → k ≠ 15 → k ≠ 19 → k ≠ 20 → k ≠ 21 → k ≠ 22 → α' k = α k := pk
  have e1 := pk 1 (by omega) (by omega) (by omega) (by omega) (by omega) (by omega) (by omega) (by omega) (by omega) (by omega) (by omega)
  have e3 := pk 3 (by omega) (by omega) (by omega) (by omega) (by omega) (by omega) (by omega) (by omega) (by omega) (by omega) (by omega)
  have e6 := pk 6 (by omega) (by omega) (by omega) (by omega) (by omega) (by omega) (by omega) (by omega) (by omega) (by omega) (by omega)
  have e7 := pk 7 (by omega) (by omega) (by omega) (by omega) (by omega) (by omega) (by omega) (by omega) (by omega) (by omega) (by omega)
  have e8 := pk 8 (by omega) (by omega) (by omega) (by omega) (by omega) (by omega) (by omega) (by omega) (by omega) (by omega) (by omega)
  have e9 := pk 9 (by omega) (by omega) (by omega) (by omega) (by omega) (by omega) (by omega) (by omega) (by omega) (by omega) (by omega)
  have e10 := pk 10 (by omega) (by omega) (by omega) (by omega) (by omega) (by omega) (by omega) (by omega) (by omega) (by omega) (by omega)
  have hV : ∀ x, VV s 0 α z x → VV s (g0 + 1) α' z x := fun x h => h.imp_right (fun q => (hOb x).mpr (Ob_0 q))
  have hE : ∀ x y, Ob s 0 α z x → Ob s 0 α z y → EE s 0 α z x y → EE s (g0 + 1) α' z x y := fun x y hx hy h => by
    have f2 : ∀ x y, Ob s 0 α z y → OF s (g0 + 1) α' z x → α' 2 x ≠ y := fun x y hy hx => by
      have h1 := hx.1
      have hg := aG_lt s x
      obtain ⟨q1, q2, -⟩ := p2 _ hg (by have := h1.1; omega)
      have h2 := h1.2
      rw [q1, q2] at h2
      rw [p4 _ hg (by have := h1.1; omega) x h2.1 h2.2]
      have := Ob_lt hn hy
      omega
    exact ⟨h.1, f2 x y hy, f2 y x hx⟩
  have gn' : Gn s b (g0 + 1) α' := by
    refine ⟨⟨hn.1.1, hn.1.2.1, by omega, ?_, ?_, hn.1.2.2.2.2.2.1, hn.1.2.2.2.2.2.2.1, ?_, ?_, Or.inr (by omega)⟩, fun g hg => ?_, fun g hg => ?_⟩
    · rw [p0 3 (by omega) (by omega)]
      exact hn.1.2.2.2.1
    · rw [p0 5 (by omega) (by omega)]
      exact hn.1.2.2.2.2.1
    · rw [e3]
      exact hn.1.2.2.2.2.2.2.2.1
    · rw [e3]
      exact hn.1.2.2.2.2.2.2.2.2.1
    · have h := hn.2.1 g hg
      rw [if_neg (by omega)] at h
      by_cases e : g ≤ g0
      · obtain ⟨q1, q2, q3, q4, q5, q6⟩ := p2 g hg e
        rw [q3, q4, q5, q6, if_pos (by omega)]
        omega
      · obtain ⟨q1, q2, q3⟩ := p3 g hg (by omega)
        rw [q1, q2, q3, if_neg (by omega)]
        omega
    · have h := hn.2.1 g (by omega)
      rw [if_neg (by omega)] at h
      obtain ⟨q1, q2, q3, q4, q5, q6⟩ := p2 g (by omega) (by omega)
      rw [q1, q2, q4]
      refine ⟨?_, by omega⟩
      unfold st
      rw [show 1 - (1 - α 4 g) = α 4 g by omega]
  refine ⟨gn', fun g hg => ?_, ⟨fun g hg => ?_, fun g hg => ?_⟩, fun o ho => ?_, fun o ho h0 => ?_, ?_, ?_, ?_, fun r hr i hi => ?_, fun f hf1 hf2 => ?_⟩
  · obtain ⟨q1, q2, q3, q4, q5, q6⟩ := p2 g (by omega) (by omega)
    rw [q1, q2, q3, Nat.add_sub_cancel_left]
    refine Nat.le_trans (Nat.le_of_eq (fb_sm_cong fun i hi => ?_)) (PZ_sum (hz.1 g (by omega)) (α 5 g) (st s α g) (Nat.le_refl _) rfl)
    rw [p4 g (by omega) (by omega) _ (by omega) (by omega), if_pos rfl]
  · by_cases e : g ≤ g0
    · obtain ⟨q1, q2, q3, q4, q5, q6⟩ := p2 g hg e
      rw [q5]
      exact ⟨fun a h1 h2 => by omega, fun q => by omega⟩
    · obtain ⟨q1, q2, q3⟩ := p3 g hg (by omega)
      have := hz.1 g hg
      unfold st at this ⊢
      rw [q1, q2]
      exact this
  · obtain ⟨q1, q2, q3, q4, q5, q6⟩ := p2 g (by omega) (by omega)
    rw [q1, q2]
    exact hz.1 g (by omega)
  · have ho' := (hOb o).mp ho
    rw [e1]
    exact ⟨(hw o (Or.inl ho')).1, fun f h1 h2 => hV _ ((hw o (Or.inl ho')).2 f h1 h2)⟩
  · have h1 := ho.1
    obtain ⟨q1, q2, -⟩ := p2 _ (aG_lt s o) (by have := h1.1; omega)
    have h2 := h1.2
    rw [q1, q2] at h2
    exact absurd (p4 _ (aG_lt s o) (by have := h1.1; omega) o h2.1 h2.2) h0
  · obtain ⟨l1, l0, l2, l3, l4, l5, l6⟩ := hl
    unfold Gl
    rw [e6, e7, e8, e9, e10, p0 9 (by omega) (by omega), p0 12 (by omega) (by omega), p0 14 (by omega) (by omega)]
    exact ⟨fun i hi => hV _ (l1 i hi), l0, fun i hi => hV _ (l2 i hi), fun i hi => hV _ (l3 i hi), l4, fun i hi ha => (hOb _).mpr (Ob_0 (l5 i hi ha)), fun i hi => (hOb _).mpr (Ob_0 (l6 i hi))⟩
  · obtain ⟨l1, l0, l2, l3, l4, l5, l6⟩ := hl
    obtain ⟨d1, d2, d3⟩ := hd
    unfold Gd
    rw [e9, e10, p0 12 (by omega) (by omega), p0 14 (by omega) (by omega)]
    exact ⟨fun i j hij hj ai aj => hE _ _ (l5 i (by omega) ai) (l5 j hj aj) (d1 i j hij hj ai aj), fun i j hij hj => hE _ _ (l6 i (by omega)) (l6 j hj) (d2 i j hij hj), fun i j hi hj ai => hE _ _ (l5 i hi ai) (l6 j hj) (d3 i j hi hj ai)⟩
  · unfold Gq
    rw [p0 16 (by omega) (by omega), h16]
    exact ⟨Nat.zero_le _, fun i hi => absurd hi (Nat.not_lt_zero i)⟩
  · rw [(p5 r hr).2.1] at hi
    exact absurd hi (Nat.not_lt_zero i)
  · have h1 := (hFU f).mp hf2
    have h2 : inU s α' f := (ps_inU hpp (FU_in hn hz h1.1).1).mpr h1.2
    refine ⟨h2.2, ?_⟩
    unfold DN
    rw [e1]
    rcases (hk f trivial h1.1).2 with q | ⟨q1, q2⟩
    · exact Or.inl q
    · by_cases hy : aG s (α 1 f) < aG s f
      · exfalso
        rcases q2 hy with ⟨i, q3, q4⟩ | ⟨i, q3, q4⟩
        · have hg := aG_lt s f
          have q5 := p5 (aG s (α 1 f)) (by omega)
          refine hf1.2 (by omega) (aG s (α 1 f)) i (by omega) (by rw [q5.1]; exact q3) (by omega) ?_
          rw [q5.2.2 i q3]
          exact q4
        · omega
      · refine Or.inr ⟨⟨(ps_inU hpp q1.1).mpr (by omega), q1.2⟩, fun q => absurd q hy⟩
end PST
