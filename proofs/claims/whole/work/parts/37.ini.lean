/-! the memory that the constructors leave -/
def okI1 (σ : Mem) : Bool := (List.range 26).all (fun f => decide (f = 22) || decide (f = 23) || (List.range (lim f 12 0)).all (fun i => decide (σ (rlo 148 f) (rsl f i) = σ (clo 1 f i) (csl f i)))) && decide (σ 1 4 = 0) && decide (σ 1 5 = 0) && decide (σ 1 3 = 0) && decide (σ 141 3 = 0)
def okI2 (σ : Mem) : Bool := (List.range 4).all (fun b => decide (σ (oB 1 b) 2 = nI (3 + b)) && decide (σ (oB 1 b) 3 = 0) && decide (σ (oB 1 b) 4 = -1) && decide (σ (oB 1 b) 5 = -1) && decide (σ (oH 1 b) 0 = 0) && decide (σ (oH 1 b) 1 = 0) && decide (σ (oK 1 b) 0 = 0) && decide (σ (oK 1 b) 1 = 0)) && (List.range 12).all (fun r => decide (σ (oR 1 r) 2 = -1))
def okI3 (σ : Mem) : Bool := (List.range 21).all (fun t => (List.range 91).all (fun i => decide (σ 147 (91 * t + i) = σ (oY 1 t) i)))
theorem ini1 : (match MFin with | some M => okI1 (di M) | none => false) = true := by decide +kernel
theorem ini2 : (match MFin with | some M => okI2 (di M) | none => false) = true := by decide +kernel
theorem ini3 : (match MFin with | some M => okI3 (di M) | none => false) = true := by decide +kernel
theorem Inv_1 {σ : Mem} (h1 : okI1 σ = true) (h2 : okI2 σ = true) (h3 : okI3 σ = true) : Inv 0 σ := by
  unfold okI1 at h1
  unfold okI2 at h2
  unfold okI3 at h3
  simp only [Bool.and_eq_true, Bool.or_eq_true, List.all_eq_true, List.mem_range, decide_eq_true_eq] at h1 h2 h3
  obtain ⟨⟨⟨⟨a1, a2⟩, a3⟩, a4⟩, a5⟩ := h1
  obtain ⟨b1, b2⟩ := h2
  have hR : ∀ b, b < 4 → ∀ n, okR (fun f i => σ (clo 1 f i) (csl f i)) n b := fun b hb n => Or.inl (b1 b hb).1.1.1.1.1.2
  have hB : ∀ r, r < 12 → okBR (fun f i => σ (clo 1 f i) (csl f i)) r := by
    intro r hr
    have e22 : σ (oR 1 r) 2 = -1 := b2 r hr
    refine ⟨fun b hb => ?_, Or.inl e22⟩
    have e2 : σ (oB 1 b) 4 = -1 := (b1 b hb).1.1.1.1.1.2
    show σ (oB 1 b) 4 = nI r ↔ σ (oR 1 r) 2 = nI b
    rw [e2, e22]
    exact ⟨fun h => absurd h (m1_nI (by omega)), fun h => absurd h (m1_nI (by omega))⟩
  refine ⟨fun f i => σ (clo 1 f i) (csl f i), 0, 0, 0, fun f i _ => rfl, ?_, ⟨⟨a2, a3, a4⟩, ?_, ⟨fun b hb => hR b hb 0, fun r hr => absurd hr (Nat.not_lt_zero r)⟩, ?_, fun t ht => absurd ht (Nat.not_lt_zero t)⟩, ⟨fun b hb => hR b hb 12, hB⟩, by omega, by omega, a5, Nat.le_refl 0⟩
  · intro f i hv f1 f2
    rcases hv with ⟨c1, c2⟩ | ⟨c0, c1, c2, c3⟩
    · rcases a1 f c1 with h9 | h9
      · exact absurd h9 (by omega)
      · exact h9 i c2
    · obtain ⟨t, ht, rfl⟩ := y_ex c1 c2
      show σ (rlo 148 (t + 100)) (rsl (t + 100) i) = σ (clo 1 (t + 100) i) (csl (t + 100) i)
      rw [rlo_y, rsl_y, clo_y, csl_y]
      exact h3 t ht i c3
  · intro b hb
    obtain ⟨⟨⟨⟨⟨⟨⟨d1, d2⟩, d3⟩, d4⟩, d5⟩, d6⟩, d7⟩, d8⟩ := b1 b hb
    exact ⟨⟨3 + b, by omega, by omega, d1⟩, Or.inl d2, ⟨0, by omega, d5, fun _ => d6⟩, ⟨0, by omega, d7, fun _ => d8⟩⟩
  · intro b hb
    exact (b1 b hb).1.1.1.1.2
theorem Inv_0 {M : Me} (h : MFin = some M) : Inv 0 (di M) := by
  have h1 := ini1
  have h2 := ini2
  have h3 := ini3
  rw [h] at h1 h2 h3
  exact Inv_1 h1 h2 h3
