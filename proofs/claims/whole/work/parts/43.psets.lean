/-! THE PURE PART: one entry of a list is changed -/
theorem EE_sym {s c : Nat} {α : Nat → Nat → Nat} {z : Nat → Nat} {x y : Nat} (h : EE s c α z x y) : EE s c α z y x := ⟨fun e => h.1 e.symm, h.2.2, h.2.1⟩
section PSE
variable {s b c : Nat} {α : Nat → Nat → Nat} {z : Nat → Nat} {S : Nat → Nat → Int32} {n : Nat → Nat}
theorem RS_item {k i : Nat} {x : Int32} (h1 : 6 ≤ k) (h2 : k < 12 ∨ 16 ≤ k) (h3 : k < 22) (hr : RS s c α z S) : RG s c α (up2 S k i x) ∧ RR α (up2 S k i x) ∧ RW s c α z (up2 S k i x) ∧ RC c α (up2 S k i x) ∧ RM α (up2 S k i x) := by
  obtain ⟨rg, rl, rr, rw', rc, rm⟩ := hr
  have row : ∀ j, j ≠ k → up2 S k i x j = S j := fun j h1 => up2_row _ h1
  refine ⟨?_, ?_, ?_, ?_, ?_⟩
  · intro g hg
    rw [row (3 + g) (by omega)]
    exact rg g hg
  · intro r hr
    have := rrow_in (S 1 8) hr
    rw [row 1 (by omega), row _ (by omega), row _ (by omega)]
    exact rr r hr
  · unfold RW at rw' ⊢
    rw [row 26 (by omega)]
    exact rw'
  · unfold RC at rc ⊢
    rw [row 1 (by omega)]
    exact rc
  · unfold RM at rm ⊢
    rw [row 2 (by omega), row 27 (by omega), row 28 (by omega)]
    exact rm
theorem it_in {k i : Nat} {x : Int32} {v : Nat} {N : Nat} {f : Nat → Nat} (hx : x = nI v) (h : ∀ j, j < N → S k j = nI (f j)) : ∀ j, j < N → up2 S k i x k j = nI (if j = i then v else f j) := by
  intro j hj
  rw [up2_get]
  by_cases e : j = i
  · rw [if_pos ⟨rfl, e⟩, if_pos e, hx]
  · rw [if_neg (fun q => e q.2), if_neg e]
    exact h j hj
theorem up_at {k i v j : Nat} : upN α k i v k j = if j = i then v else α k j := by
  unfold upN
  by_cases e : j = i
  · rw [if_pos ⟨rfl, e⟩, if_pos e]
  · rw [if_neg (fun q => e q.2), if_neg e]
theorem set6 {lo hi k v : Nat} {K : Nat → Prop} (hi' : Gi s b c α z lo hi K) (hr : RS s c α z S) (hv : VV s c α z v) : Gi s b c (upN α 6 k v) z lo hi K ∧ RS s c (upN α 6 k v) z (up2 S 16 k (nI v)) := by
  obtain ⟨hn, hs, hz, hw, hff, hl, hd, hq, hrr, hk⟩ := hi'
  obtain ⟨l1, l2⟩ := hl
  obtain ⟨q1, q2, q3, q4, q5⟩ := RS_item (k := 16) (i := k) (x := nI v) (by omega) (by omega) (by omega) hr
  obtain ⟨⟨r1, r2⟩, r3⟩ := hr.2.1
  refine ⟨⟨hn, hs, hz, hw, hff, ⟨fun i hi => ?_, l2⟩, hd, hq, hrr, hk⟩, q1, ⟨⟨r1, fun i hi => ?_⟩, r3⟩, q2, q3, q4, q5⟩
  · rw [up_at]
    split
    · exact hv
    · exact l1 i hi
  · rw [up_at]
    exact it_in rfl r2 i hi
theorem set7 {lo hi k v : Nat} {K : Nat → Prop} (hi' : Gi s b c α z lo hi K) (hr : RS s c α z S) (hv : VV s c α z v) : Gi s b c (upN α 7 k v) z lo hi K ∧ RS s c (upN α 7 k v) z (up2 S 17 k (nI v)) := by
  obtain ⟨hn, hs, hz, hw, hff, hl, hd, hq, hrr, hk⟩ := hi'
  obtain ⟨l1, l0, l2, l3⟩ := hl
  obtain ⟨q1, q2, q3, q4, q5⟩ := RS_item (k := 17) (i := k) (x := nI v) (by omega) (by omega) (by omega) hr
  obtain ⟨r0, ⟨r1, r2⟩, r3⟩ := hr.2.1
  refine ⟨⟨hn, hs, hz, hw, hff, ⟨l1, l0, fun i hi => ?_, l3⟩, hd, hq, hrr, hk⟩, q1, ⟨r0, ⟨r1, fun i hi => ?_⟩, r3⟩, q2, q3, q4, q5⟩
  · rw [up_at]
    split
    · exact hv
    · exact l2 i hi
  · rw [up_at]
    exact it_in rfl r2 i hi
theorem set8 {lo hi k v : Nat} {K : Nat → Prop} (hi' : Gi s b c α z lo hi K) (hr : RS s c α z S) (hv : VV s c α z v) : Gi s b c (upN α 8 k v) z lo hi K ∧ RS s c (upN α 8 k v) z (up2 S 18 k (nI v)) := by
  obtain ⟨hn, hs, hz, hw, hff, hl, hd, hq, hrr, hk⟩ := hi'
  obtain ⟨l1, l0, l2, l3, l4⟩ := hl
  obtain ⟨q1, q2, q3, q4, q5⟩ := RS_item (k := 18) (i := k) (x := nI v) (by omega) (by omega) (by omega) hr
  obtain ⟨r0, r01, ⟨r1, r2⟩, r3⟩ := hr.2.1
  refine ⟨⟨hn, hs, hz, hw, hff, ⟨l1, l0, l2, fun i hi => ?_, l4⟩, hd, hq, hrr, hk⟩, q1, ⟨r0, r01, ⟨r1, fun i hi => ?_⟩, r3⟩, q2, q3, q4, q5⟩
  · rw [up_at]
    split
    · exact hv
    · exact l3 i hi
  · rw [up_at]
    exact it_in rfl r2 i hi
theorem set10 {lo hi k v : Nat} {K : Nat → Prop} (hi' : Gi s b c α z lo hi K) (hr : RS s c α z S) (hv : Ob s c α z v) (h10 : ∀ j, j < α 0 14 → j ≠ k → EE s c α z v (α 10 j)) (h9 : ∀ i, i < α 0 12 → i < lo ∨ hi ≤ i → EE s c α z v (α 9 i)) : Gi s b c (upN α 10 k v) z lo hi K ∧ RS s c (upN α 10 k v) z (up2 S 20 k (nI v)) := by
  obtain ⟨hn, hs, hz, hw, hff, hl, hd, hq, hrr, hk⟩ := hi'
  obtain ⟨l1, l0, l2, l3, l4, l5, l6⟩ := hl
  obtain ⟨d1, d2, d3⟩ := hd
  obtain ⟨q1, q2, q3, q4, q5⟩ := RS_item (k := 20) (i := k) (x := nI v) (by omega) (by omega) (by omega) hr
  obtain ⟨r0, r01, r02, r03, ⟨r1, r2⟩, r3⟩ := hr.2.1
  refine ⟨⟨hn, hs, hz, hw, hff, ⟨l1, l0, l2, l3, l4, l5, fun i hi => ?_⟩, ⟨d1, fun i j hij hj => ?_, fun i j hi hj ha => ?_⟩, hq, hrr, hk⟩, q1, ⟨r0, r01, r02, r03, ⟨r1, fun i hi => ?_⟩, r3⟩, q2, q3, q4, q5⟩
  · rw [up_at]
    split
    · exact hv
    · exact l6 i hi
  · show EE s c α z _ _
    rw [up_at, up_at]
    have hj' : j < α 0 14 := hj
    by_cases e1 : i = k
    · rw [if_pos e1, if_neg (by omega)]
      exact h10 j hj' (by omega)
    · rw [if_neg e1]
      by_cases e2 : j = k
      · rw [if_pos e2]
        exact EE_sym (h10 i (by omega) e1)
      · rw [if_neg e2]
        exact d2 i j hij hj
  · show EE s c α z (α 9 i) _
    rw [up_at]
    split
    · exact EE_sym (h9 i hi ha)
    · exact d3 i j hi hj ha
  · rw [up_at]
    exact it_in rfl r2 i hi
end PSE
-- what goes along through a collection
def SB (s : Nat) (α : Nat → Nat → Nat) (z : Nat → Nat) : Prop := ∀ g, g < 3 → α 22 g < α 5 g → z (st s α g + α 22 g) ≠ 0
def RB (s c : Nat) (α : Nat → Nat → Nat) (z : Nat → Nat) (S : Nat → Nat → Int32) : Prop := ∀ r, r < 2 → α 14 r ≤ (if r = 0 then 6 * s else 4 * s) ∧ S (rrow (S 1 9) r) 1 = nI (α 14 r) ∧ ∀ i, i < α 14 r → S (rrow (S 1 9) r + 10) i = nI (α 15 (1000 * r + i)) ∧ α 15 (1000 * r + i) < 1793 ∧ (c ≤ aG s (α 15 (1000 * r + i)) → FU s α z (α 15 (1000 * r + i)))
def EX (s c : Nat) (α : Nat → Nat → Nat) (z : Nat → Nat) (S : Nat → Nat → Int32) (β : Nat → Nat → Nat) (h22 : Nat → Nat) : Prop := SB s α z ∧ RB s c α z S ∧ (α 4 = β 4 ∧ α 14 = β 14 ∧ α 15 = β 15 ∧ α 22 = h22) ∧ (α 0 0 = β 0 0 ∧ α 0 24 = β 0 24 ∧ α 0 27 = β 0 27 ∧ α 0 29 = β 0 29 ∧ α 0 16 = 0 ∧ α 0 9 = β 0 9 ∧ α 0 12 = β 0 12)
def UU (s : Nat) (α : Nat → Nat → Nat) (z : Nat → Nat) (x : Nat) : Prop := x = 0 ∨ OU s α z x
def PRG (s : Nat) (α : Nat → Nat → Nat) (z : Nat → Nat) (nr ns nq wl : Nat) : Prop := (∀ i, i < nr → i < 16 → UU s α z (α 6 i)) ∧ (∀ i, i < ns → i < α 0 9 → UU s α z (α 7 i)) ∧ (∀ i, i < nq → i < α 0 14 → OU s α z (α 10 i)) ∧ (∀ i, i < wl → i < α 0 12 → OU s α z (α 9 i))
def IG (s b c : Nat) (α : Nat → Nat → Nat) (z : Nat → Nat) (S : Nat → Nat → Int32) (lo hi : Nat) (K : Nat → Prop) (β : Nat → Nat → Nat) (h22 : Nat → Nat) (nr ns nq : Nat) : Prop := Gi s b c α z lo hi K ∧ (∀ f, K f → f < st s α (aG s f) + α 5 (aG s f)) ∧ RS s c α z S ∧ EX s c α z S β h22 ∧ PRG s α z nr ns nq lo
section PEX
variable {s b c : Nat} {α : Nat → Nat → Nat} {z : Nat → Nat} {S : Nat → Nat → Int32} {n : Nat → Nat} {α' : Nat → Nat → Nat} {z' : Nat → Nat} {S' : Nat → Nat → Int32} {β : Nat → Nat → Nat} {h22 : Nat → Nat} {f : Nat}
theorem FRM_FRG (h : FRM s c α z S α' z' S') : FRG s c α z S α' z' S' f := by
  obtain ⟨m1, m2, m3, m4, m5, ⟨m6, m7, m8⟩, m9, m10⟩ := h
  refine ⟨m1, m2, fun x hx => ⟨(m3 x hx).2, fun _ => (m3 x hx).1⟩, fun k h0 h1 h2 h5 _ _ h21 => m4 k h0 h1 h2 h5 h21, m5, ⟨fun k hk => m6 k (by omega) (by omega), m7, m8, fun r hr => ?_⟩, m9, m10⟩
  have := rrow_in (S 1 9) hr
  exact ⟨m6 _ (by omega) (by omega), m6 _ (by omega) (by omega)⟩
theorem FRG_FU (h : FRG s c α z S α' z' S' f) {x : Nat} (hf : FU s α z x) : FU s α' z' x := by
  obtain ⟨o, h1, h2, h3⟩ := hf
  exact ⟨o, h.1 o h1, h2, by rw [(h.2.2.1 o (Or.inl h1.1)).1]; exact h3⟩
theorem FRG_st (h : FRG s c α z S α' z' S' f) {g : Nat} : st s α' g = st s α g := by
  unfold st
  rw [h.2.2.2.1 4 (by omega) (by omega) (by omega) (by omega) (by omega) (by omega) (by omega)]
theorem FRG_KB (h : FRG s c α z S α' z' S' f) {K : Nat → Prop} (hK : ∀ f, K f → f < st s α (aG s f) + α 5 (aG s f)) : ∀ f, K f → f < st s α' (aG s f) + α' 5 (aG s f) := fun x hx => by
  rw [FRG_st h]
  have h1 := hK x hx
  have h2 := h.2.2.2.2.2.2.1 (aG s x)
  omega
theorem FRG_EX (hn : Gn s b c α) (h : FRG s c α z S α' z' S' f) (hx : EX s c α z S β h22) : EX s c α' z' S' β h22 := by
  have hFU := fun x hf => FRG_FU h (x := x) hf
  have hst := fun g => FRG_st h (g := g)
  obtain ⟨m1, m2, m3, m4, m5, ⟨m6, m7, m8, m9⟩, m10, m11⟩ := h
  have q := fun k h0 h1 h2 h5 h12 h13 h21 => m4 k h0 h1 h2 h5 h12 h13 h21
  obtain ⟨x1, x2, ⟨x3, x4, x5, x6⟩, x7, x8, x9, x10, x11, x12, x13⟩ := hx
  have e22 := q 22 (by omega) (by omega) (by omega) (by omega) (by omega) (by omega) (by omega)
  have e14 := q 14 (by omega) (by omega) (by omega) (by omega) (by omega) (by omega) (by omega)
  have e15 := q 15 (by omega) (by omega) (by omega) (by omega) (by omega) (by omega) (by omega)
  refine ⟨fun g hg hlt => ?_, fun r hr => ?_, ⟨?_, e14.trans x4, e15.trans x5, e22.trans x6⟩, ?_⟩
  · rw [hst, e22] at *
    have hu := (hn.2.1 g hg).2
    by_cases e : α 22 g < α 5 g
    · rw [(m3 _ (Or.inl (U_of hn hg (by omega) (by omega)))).1]
      exact x1 g hg e
    · have e2 : α 22 g = α 5 g := by omega
      rw [e2]
      exact m11 g hg (by omega)
  · rw [e14, e15, m8, (m9 r hr).1, (m9 r hr).2]
    have := x2 r hr
    exact ⟨this.1, this.2.1, fun i hi => ⟨(this.2.2 i hi).1, (this.2.2 i hi).2.1, fun hc => hFU _ ((this.2.2 i hi).2.2 hc)⟩⟩
  · exact (q 4 (by omega) (by omega) (by omega) (by omega) (by omega) (by omega) (by omega)).trans x3
  · rw [m5 0 (by omega) (by omega), m5 24 (by omega) (by omega), m5 27 (by omega) (by omega), m5 29 (by omega) (by omega), m5 16 (by omega) (by omega), m5 9 (by omega) (by omega), m5 12 (by omega) (by omega)]
    exact ⟨x7, x8, x9, x10, x11, x12, x13⟩
theorem FRG_PRG (h : FRG s c α z S α' z' S' f) {nr ns nq wl : Nat} (hp : PRG s α z nr ns nq wl) : PRG s α' z' nr ns nq wl := by
  obtain ⟨m1, m2, m3, m4, m5, ⟨m6, m7, m8, m9⟩, m10, m11⟩ := h
  have q := fun k h0 h1 h2 h5 h12 h13 h21 => m4 k h0 h1 h2 h5 h12 h13 h21
  unfold PRG UU at hp ⊢
  rw [q 6 (by omega) (by omega) (by omega) (by omega) (by omega) (by omega) (by omega), q 7 (by omega) (by omega) (by omega) (by omega) (by omega) (by omega) (by omega), q 9 (by omega) (by omega) (by omega) (by omega) (by omega) (by omega) (by omega), q 10 (by omega) (by omega) (by omega) (by omega) (by omega) (by omega) (by omega), m5 9 (by omega) (by omega), m5 14 (by omega) (by omega), m5 12 (by omega) (by omega)]
  exact ⟨fun i h1 h2 => (hp.1 i h1 h2).imp_right (m1 _), fun i h1 h2 => (hp.2.1 i h1 h2).imp_right (m1 _), fun i h1 h2 => m1 _ (hp.2.2.1 i h1 h2), fun i h1 h2 => m1 _ (hp.2.2.2 i h1 h2)⟩
theorem RB_item {k i : Nat} {x : Int32} (h1 : 6 ≤ k) (h2 : k < 12 ∨ 16 ≤ k) (h3 : k < 22) (h : RB s c α z S) : RB s c α z (up2 S k i x) := by
  intro r hr
  have := rrow_in (S 1 9) hr
  rw [up2_row _ (show 1 ≠ k by omega), up2_row _ (show rrow (S 1 9) r ≠ k by omega), up2_row _ (show rrow (S 1 9) r + 10 ≠ k by omega)]
  exact h r hr
end PEX
