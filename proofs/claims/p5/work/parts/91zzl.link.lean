/-! X: a word's public is one -/
theorem hu_c {σ ρ : ZS} (hl : Alk σ ρ) (nt : NTc σ) : ∀ w m q m' q' : Int, PPc σ w m q → PPc σ w m' q' → m * 24 + zA σ m 15 q = m' * 24 + zA σ m' 15 q' := by
  intro w m q m' q' ⟨mb, mt, qb, qw⟩ ⟨mb', mt', qb', qw'⟩
  rcases (by omega : m = m' ∨ m < m' ∨ m' < m) with e | e | e
  · rw [← e] at qb' qw' ⊢
    obtain ⟨-, -, -, -, -, x, -⟩ := (hl.2.2 m mb.1 (by omega)).2 mt
    rw [x q q' qb.1 qb.2 qb'.1 qb'.2 (qw.trans qw'.symm)]
  · exact absurd ⟨m, q, ⟨mb.1, e⟩, mt, qb, qw.trans qw'.symm⟩ (nt m' q' (by omega) qb')
  · exact absurd ⟨m', q', ⟨mb'.1, e⟩, mt', qb', qw'.trans qw.symm⟩ (nt m q (by omega) qb)
theorem hu_r {σ ρ : ZS} (hl : Alk σ ρ) (nt : NTc σ) : ∀ w m k m' k' : Int, PPr ρ w m k → PPr ρ w m' k' → 24 * m + zA ρ 0 58 (80 * m + k) = 24 * m' + zA ρ 0 58 (80 * m' + k') := by
  intro w m k m' k' ⟨mb, mt, kb, kw⟩ ⟨mb', mt', kb', kw'⟩
  have t0 : zI σ m 0 ≠ 0 := by rw [hl.2.1 m mb.1 mb.2]; exact mt
  have t1 : zI σ m' 0 ≠ 0 := by rw [hl.2.1 m' mb'.1 mb'.2]; exact mt'
  obtain ⟨-, -, -, x, -⟩ := (hl.2.2 m mb.1 mb.2).2 t0
  obtain ⟨-, -, -, y, -⟩ := (hl.2.2 m' mb'.1 mb'.2).2 t1
  obtain ⟨q, qb, qw, q1, -⟩ := x k kb.1 kb.2
  obtain ⟨q', qb', qw', q1', -⟩ := y k' kb'.1 kb'.2
  have h := hu_c hl nt (zA σ m 14 q) m q m' q' ⟨by omega, t0, qb, rfl⟩ ⟨by omega, t1, qb', ((qw.iff qw').mp (kw.trans kw'.symm)).symm⟩
  rw [q1, q1']
  omega
