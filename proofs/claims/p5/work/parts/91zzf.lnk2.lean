/-! X: publics and externs are alike -/
theorem RW_main : RW 1835100526 230192366 := ⟨fun j => ([109, 97, 105, 110] : List Int).getD j.toNat 0, 0, 4, by decide, by decide, by decide⟩
theorem Pub_iff {σ ρ : ZS} (hl : Alk σ ρ) {w w' : Int} (hw : RW w' w) : Pub ρ w' ↔ PbC σ w 3 := by
  constructor
  · rintro ⟨m, k, mb, mt, kb, e⟩
    have t0 : zI σ m 0 ≠ 0 := by rw [hl.2.1 m mb.1 mb.2]; exact mt
    obtain ⟨-, -, -, x, -⟩ := (hl.2.2 m mb.1 mb.2).2 t0
    obtain ⟨q, qb, qw, -, -⟩ := x k kb.1 kb.2
    exact ⟨m, q, by omega, t0, qb, (qw.iff hw).mp e⟩
  · rintro ⟨m, q, mb, mt, qb, e⟩
    obtain ⟨-, -, -, -, x, -⟩ := (hl.2.2 m mb.1 (by omega)).2 mt
    obtain ⟨k, kb, kw, -, -⟩ := x q qb.1 qb.2
    exact ⟨m, k, by omega, by rw [← hl.2.1 m mb.1 (by omega)]; exact mt, kb, (kw.iff hw).mpr e⟩
theorem NT_iff {σ ρ : ZS} (hl : Alk σ ρ) : NTc σ ↔ NTr ρ := by
  constructor
  · intro h m k n j mb mt kb nb nt jb e
    have t0 : zI σ m 0 ≠ 0 := by rw [hl.2.1 m (by omega) mb.2]; exact mt
    have t1 : zI σ n 0 ≠ 0 := by rw [hl.2.1 n nb.1 (by omega)]; exact nt
    obtain ⟨-, -, -, x, -⟩ := (hl.2.2 m (by omega) mb.2).2 t0
    obtain ⟨-, -, -, y, -⟩ := (hl.2.2 n nb.1 (by omega)).2 t1
    obtain ⟨q, qb, qw, -, -⟩ := x k kb.1 kb.2
    obtain ⟨q', qb', qw', -, -⟩ := y j jb.1 jb.2
    exact h m q mb qb ⟨n, q', nb, t1, qb', (qw'.iff qw).mp e⟩
  · rintro h m i mb ib ⟨n, q, nb, nt, qb, e⟩
    have t0 : zI σ m 0 ≠ 0 := fun z => by have := ((hl.2.2 m (by omega) mb.2).1 z).2.2; omega
    obtain ⟨-, -, -, -, x, -⟩ := (hl.2.2 m (by omega) mb.2).2 t0
    obtain ⟨-, -, -, -, y, -⟩ := (hl.2.2 n nb.1 (by omega)).2 nt
    obtain ⟨k, kb, kw, -, -⟩ := x i ib.1 ib.2
    obtain ⟨j, jb, jw, -, -⟩ := y q qb.1 qb.2
    exact h m k n j mb (by rw [← hl.2.1 m (by omega) mb.2]; exact t0) kb nb (by rw [← hl.2.1 n nb.1 (by omega)]; exact nt) jb ((jw.iff kw).mpr e)
theorem NM_iff {σ ρ : ZS} (hl : Alk σ ρ) : NMc σ ↔ NoMiss ρ := by
  constructor
  · intro h m k m0 m2 mt k0 k1 neg
    have t0 : zI σ m 0 ≠ 0 := by rw [hl.2.1 m m0 m2]; exact mt
    obtain ⟨-, -, ⟨x1, x2⟩, -⟩ := (hl.2.2 m m0 m2).2 t0
    obtain ⟨-, -, -, y4, y5⟩ := x2 k k0 (by omega)
    exact (Pub_iff hl y5).mpr (h m k ⟨m0, m2⟩ ⟨k0, by omega⟩ (by rw [← y4]; exact neg))
  · intro h m k mb kb neg
    have t0 : zI σ m 0 ≠ 0 := fun z => by have := ((hl.2.2 m mb.1 mb.2).1 z).2.1; omega
    obtain ⟨-, -, ⟨x1, x2⟩, -⟩ := (hl.2.2 m mb.1 mb.2).2 t0
    obtain ⟨-, -, -, y4, y5⟩ := x2 k kb.1 kb.2
    exact (Pub_iff hl y5).mp (h m k mb.1 mb.2 (by rw [← hl.2.1 m mb.1 mb.2]; exact t0) kb.1 (by omega) (by rw [y4]; exact neg))
