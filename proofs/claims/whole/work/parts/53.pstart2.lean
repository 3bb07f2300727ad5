/-! THE PURE PART: a collection begins: the class's rows -/
section PT2
variable {s b : Nat} {α α' : Nat → Nat → Nat} {z : Nat → Nat} {g0 : Nat} {S S' : Nat → Nat → Int32}
theorem RS_start (hg0 : g0 < 3) (hn : Gn s b 0 α) (hp : PBg s α g0 α') (hs' : PSg s α g0 S S') (hr : RS s 0 α z S) : RS s (g0 + 1) α' z S' := by
  have hU := fun x => @ps_U s b α α' g0 hn hp x
  obtain ⟨⟨p31, p32, p0⟩, p2, p3, p4, p5, pk⟩ := hp
  obtain ⟨⟨s1, s2, s3⟩, s4, s5, s6, s7, s8⟩ := hs'
  obtain ⟨rg, rl, rr, rw', rc, rm⟩ := hr
  have e1 := pk 1 (by omega) (by omega) (by omega) (by omega) (by omega) (by omega) (by omega) (by omega) (by omega) (by omega) (by omega)
  have e3 := pk 3 (by omega) (by omega) (by omega) (by omega) (by omega) (by omega) (by omega) (by omega) (by omega) (by omega) (by omega)
  have e6 := pk 6 (by omega) (by omega) (by omega) (by omega) (by omega) (by omega) (by omega) (by omega) (by omega) (by omega) (by omega)
  have e7 := pk 7 (by omega) (by omega) (by omega) (by omega) (by omega) (by omega) (by omega) (by omega) (by omega) (by omega) (by omega)
  have e8 := pk 8 (by omega) (by omega) (by omega) (by omega) (by omega) (by omega) (by omega) (by omega) (by omega) (by omega) (by omega)
  have e9 := pk 9 (by omega) (by omega) (by omega) (by omega) (by omega) (by omega) (by omega) (by omega) (by omega) (by omega) (by omega)
  have e10 := pk 10 (by omega) (by omega) (by omega) (by omega) (by omega) (by omega) (by omega) (by omega) (by omega) (by omega) (by omega)
  have e11 := pk 11 (by omega) (by omega) (by omega) (by omega) (by omega) (by omega) (by omega) (by omega) (by omega) (by omega) (by omega)
  have e16 := pk 16 (by omega) (by omega) (by omega) (by omega) (by omega) (by omega) (by omega) (by omega) (by omega) (by omega) (by omega)
  have e17 := pk 17 (by omega) (by omega) (by omega) (by omega) (by omega) (by omega) (by omega) (by omega) (by omega) (by omega) (by omega)
  have e18 := pk 18 (by omega) (by omega) (by omega) (by omega) (by omega) (by omega) (by omega) (by omega) (by omega) (by omega) (by omega)
  refine ⟨fun g hg => ?_, ?_, fun r hr => ?_, ⟨fun x hx h0 => ?_, fun x hx _ => ?_⟩, ?_, ?_⟩
  · obtain ⟨q0, q1, q2, q3, q4, q5, q6, q7, q8, q9⟩ := rg g hg
    obtain ⟨t0, t1, t2, t3, t9⟩ := s6 g hg
    rw [t0, t1, t2, t3, t9, q0, q1, q2, q9, e16, e3]
    by_cases e : g ≤ g0
    · obtain ⟨u1, u2, u3, u4, u5, u6⟩ := p2 g hg e
      obtain ⟨v4, v5, v6, v7, v8⟩ := s4 g hg e
      rw [v4, v5, v6, v7, v8, u1, u3, u5, u6, if_pos (by omega), if_pos (by omega)]
      refine ⟨rfl, rfl, rfl, q3, ?_, rfl, rfl, rfl, rfl, rfl⟩
      unfold st
      rw [u4]
    · obtain ⟨u1, u2, u3⟩ := p3 g hg (by omega)
      obtain ⟨v4, v5, v6, v7, v8⟩ := s5 g hg (by omega)
      rw [v4, v5, v6, v7, v8, u2, u3, q4, q5, q6, q7, if_neg (by omega), if_neg (by omega), if_neg (by omega), if_neg (by omega)]
      refine ⟨rfl, rfl, rfl, q3, ?_, rfl, rfl, rfl, rfl, rfl⟩
      unfold st
      rw [u1]
  · unfold RLs at rl ⊢
    rw [s8 6 (by omega), s8 7 (by omega), s8 8 (by omega), s8 9 (by omega), s8 10 (by omega), s8 11 (by omega), s8 16 (by omega), s8 17 (by omega), s8 18 (by omega), s8 19 (by omega), s8 20 (by omega), s8 21 (by omega), e6, e7, e8, e9, e10, e11, p0 9 (by omega) (by omega), p0 12 (by omega) (by omega), p0 14 (by omega) (by omega), p0 16 (by omega) (by omega)]
    exact rl
  · rw [s1, (s7 r hr).1, (p5 r hr).2.1]
    exact ⟨rfl, fun i hi => absurd hi (Nat.not_lt_zero i)⟩
  · have h1 := hx.1
    obtain ⟨q1, q2, -⟩ := p2 _ (aG_lt s x) (by have := h1.1; omega)
    have h2 := h1.2
    rw [q1, q2] at h2
    exact absurd (p4 _ (aG_lt s x) (by have := h1.1; omega) x h2.1 h2.2) h0
  · rw [s8 26 (by omega), e1]
    exact rw'.2 x (Or.inl ((hU x).mpr hx)) (fun q => no_OF rfl q.1)
  · obtain ⟨c1, c2, c3, c4⟩ := rc
    unfold RC
    rw [s1, s2, s3 10 (by omega) (by omega), s3 11 (by omega) (by omega), s3 12 (by omega) (by omega), p0 23 (by omega) (by omega), p0 24 (by omega) (by omega), p0 25 (by omega) (by omega), p32, if_neg (by omega)]
    rw [if_pos rfl] at c3
    refine ⟨c1, c2, c3, ?_⟩
    constructor
    · intro h h2
      exact (c4.mp h2) h
    · intro h
      exact Classical.byContradiction fun h2 => h (c4.mpr h2)
  · unfold RM at rm ⊢
    rw [s8 2 (by omega), s8 27 (by omega), s8 28 (by omega), e17, e18, p0 29 (by omega) (by omega), p0 27 (by omega) (by omega), p0 26 (by omega) (by omega)]
    exact rm
theorem IG_start (hg0 : g0 < 3) (hi' : Gi s b 0 α z 0 0 (fun _ => True)) (h16 : α 0 16 = 0) (hp : PBg s α g0 α') (hs' : PSg s α g0 S S') (hr : RS s 0 α z S) : IG s b (g0 + 1) α' z S' 0 0 (KR s (g0 + 1) α' (α' 22) 0 0) α' (α' 22) 0 0 0 := by
  have gi := G_start hg0 hi' h16 hp
  have gr := RS_start hg0 hi'.1 hp hs' hr
  have hFU := fun f => @ps_FU s b α α' z g0 hi'.1 hi'.2.2.1 hp f
  have gx : EX s (g0 + 1) α' z S' α' (α' 22) := by
    obtain ⟨⟨p31, p32, p0⟩, p2, p3, p4, p5, pk⟩ := hp
    obtain ⟨⟨s1, s2, s3⟩, s4, s5, s6, s7, s8⟩ := hs'
    have hgr := hi'.2.2.2.2.2.2.2.2.1
    refine ⟨fun g hg hlt => ?_, fun r hr2 => ?_, ⟨rfl, rfl, rfl, rfl⟩, rfl, rfl, rfl, rfl, ?_, rfl, rfl⟩
    · by_cases e : g ≤ g0
      · obtain ⟨u1, u2, u3, u4, u5, u6⟩ := p2 g hg e
        omega
      · obtain ⟨u1, u2, u3⟩ := p3 g hg (by omega)
        omega
    · obtain ⟨q14, q12, q15⟩ := p5 r hr2
      have hrow := rrow_in (S 1 8) hr2
      have h1 := hr.2.2.1 r hr2
      rw [s2, (s7 r hr2).2, s8 (rrow (S 1 8) r + 10) (by omega), q14]
      refine ⟨row_le hi'.1 hi'.2.2.1 hgr hr2, h1.1, fun i hi => ?_⟩
      rw [q15 i hi]
      have h2 := hgr r hr2 i hi
      have h3 := U_lt hi'.1 (FU_in hi'.1 hi'.2.2.1 h2.1).1
      have h4 := hi'.1.1.2.1
      exact ⟨h1.2 i hi, by omega, fun h5 => (hFU _).mpr ⟨h2.1, by omega⟩⟩
    · rw [p0 16 (by omega) (by omega)]
      exact h16
  exact ⟨gi, fun f h => bd_of gi.1 gx h.1, gr, gx, ⟨fun i h => by omega, fun i h => by omega, fun i h => by omega, fun i h => by omega⟩⟩
end PT2
