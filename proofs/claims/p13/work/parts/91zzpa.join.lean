/-! M: the machine, as a value -/
/-- memory, registers (12 is where a step began), place, told, how many told -/
def MV : Type := (Int → Int) × (Int → Int) × Int × (Int → Int) × Int
def MV.m (P : MV) : Int → Int := P.1
def MV.r (P : MV) : Int → Int := P.2.1
def MV.ip (P : MV) : Int := P.2.2.1
def MV.t (P : MV) : Int → Int := P.2.2.2.1
def MV.n (P : MV) : Int := P.2.2.2.2
def mvB (P : MV) (i v : Int) : MV := (zu P.m i v, P.2)
def mvR (P : MV) (i v : Int) : MV := (P.1, zu P.r i v, P.2.2)
def mvI (P : MV) (v : Int) : MV := (P.1, P.2.1, v, P.2.2.2)
def mvT (P : MV) (v : Int) : MV := (P.1, P.2.1, P.2.2.1, (if P.n < 30 then zu P.t P.n v else P.t), P.n + 1)
def mvW (P : MV) (a : Int) : Int := P.m (a % 4096) + 256 * P.m ((a + 1) % 4096)
def mvP (P : MV) (a v : Int) : MV := mvB (mvB P (a % 4096) (v % 256)) ((a + 1) % 4096) (v / 256 % 256)
def mvFv (P : MV) : Int := P.m ((16 * P.r 9 + P.ip) % 4096)
def mvF (P : MV) : MV := mvI P ((P.ip + 1) % 65536)
def mvFw (P : MV) : Int := mvFv P + 256 * mvFv (mvF P)
def mvFs (P : MV) : Int := (mvFv P + 128) % 256 - 128
def mvPu (P : MV) (v : Int) : MV := mvP (mvR P 4 ((P.r 4 - 2) % 65536)) (16 * P.r 10 + (P.r 4 - 2) % 65536) v
def mvPv (P : MV) : Int := mvW P (16 * P.r 10 + P.r 4)
def mvPo (P : MV) : MV := mvR P 4 ((P.r 4 + 2) % 65536)
/-- ranges -/
def MVr (P : MV) (N : Int) : Prop := (∀ i : Int, 0 ≤ i → i < 4096 → 0 ≤ P.m i ∧ P.m i ≤ 255) ∧ (∀ i : Int, 0 ≤ i → i < 16 → 0 ≤ P.r i ∧ P.r i ≤ 65535) ∧ (0 ≤ P.r 13 ∧ P.r 13 ≤ 1) ∧ (0 ≤ P.r 14 ∧ P.r 14 ≤ 1) ∧ (0 ≤ P.r 15 ∧ P.r 15 ≤ 1) ∧ (0 ≤ P.ip ∧ P.ip ≤ 65535) ∧ (0 ≤ P.n ∧ P.n ≤ N) ∧ (∀ i : Int, 0 ≤ i → i < 30 → -2147483648 ≤ P.t i ∧ P.t i ≤ 2147483647)
theorem MVr.c {P : MV} {N : Int} (h : MVr P N) (i : Int) : 0 ≤ P.m (i % 4096) ∧ P.m (i % 4096) ≤ 255 := h.1 _ (by omega) (by omega)
theorem MVr.g {P : MV} {N i : Int} (h : MVr P N) (h0 : 0 ≤ i) (h1 : i < 16) : 0 ≤ P.r i ∧ P.r i ≤ 65535 := h.2.1 i h0 h1
theorem MVr.ip {P : MV} {N : Int} (h : MVr P N) : 0 ≤ P.ip ∧ P.ip ≤ 65535 := h.2.2.2.2.2.1
theorem MVr.mo {P : MV} {N M : Int} (h : MVr P N) (k : N ≤ M) : MVr P M := by
  obtain ⟨h0, h1, h2, h3, h4, h5, h6, h7⟩ := h
  exact ⟨h0, h1, h2, h3, h4, h5, ⟨h6.1, by omega⟩, h7⟩
theorem MVr.b {P : MV} {N i v : Int} (h : MVr P N) (hv : 0 ≤ v ∧ v ≤ 255) : MVr (mvB P i v) N := ⟨rng_zu h.1 hv, h.2⟩
theorem MVr.i {P : MV} {N v : Int} (h : MVr P N) (hv : 0 ≤ v ∧ v ≤ 65535) : MVr (mvI P v) N := by
  obtain ⟨h0, h1, h2, h3, h4, h5, h6⟩ := h
  exact ⟨h0, h1, h2, h3, h4, hv, h6⟩
theorem MVr.s {P : MV} {N i v : Int} (h : MVr P N) (hi : i < 13) (hv : 0 ≤ v ∧ v ≤ 65535) : MVr (mvR P i v) N := by
  obtain ⟨h0, h1, h2, h3, h4, h5, h6⟩ := h
  refine ⟨h0, rng_zu h1 hv, ?_, ?_, ?_, h5, h6⟩
  · show 0 ≤ zu P.r i v 13 ∧ zu P.r i v 13 ≤ 1
    rw [pu_ne (by omega)]; exact h2
  · show 0 ≤ zu P.r i v 14 ∧ zu P.r i v 14 ≤ 1
    rw [pu_ne (by omega)]; exact h3
  · show 0 ≤ zu P.r i v 15 ∧ zu P.r i v 15 ≤ 1
    rw [pu_ne (by omega)]; exact h4
theorem MVr.f {P : MV} {N i v : Int} (h : MVr P N) (hi : 13 ≤ i ∧ i ≤ 15) (hv : 0 ≤ v ∧ v ≤ 1) : MVr (mvR P i v) N := by
  obtain ⟨h0, h1, h2, h3, h4, h5, h6⟩ := h
  refine ⟨h0, rng_zu h1 (by omega), ?_, ?_, ?_, h5, h6⟩
  · show 0 ≤ zu P.r i v 13 ∧ zu P.r i v 13 ≤ 1
    by_cases e : 13 = i
    · rw [e, pu_eq]; exact hv
    · rw [pu_ne e]; exact h2
  · show 0 ≤ zu P.r i v 14 ∧ zu P.r i v 14 ≤ 1
    by_cases e : 14 = i
    · rw [e, pu_eq]; exact hv
    · rw [pu_ne e]; exact h3
  · show 0 ≤ zu P.r i v 15 ∧ zu P.r i v 15 ≤ 1
    by_cases e : 15 = i
    · rw [e, pu_eq]; exact hv
    · rw [pu_ne e]; exact h4
theorem MVr.t {P : MV} {N v : Int} (h : MVr P N) (hv : -2147483648 ≤ v ∧ v ≤ 2147483647) : MVr (mvT P v) (N + 1) := by
  obtain ⟨h0, h1, h2, h3, h4, h5, h6, h7⟩ := h
  refine ⟨h0, h1, h2, h3, h4, h5, by show 0 ≤ P.n + 1 ∧ P.n + 1 ≤ N + 1; omega, fun i i0 i1 => ?_⟩
  show -2147483648 ≤ (if P.n < 30 then zu P.t P.n v else P.t) i ∧ (if P.n < 30 then zu P.t P.n v else P.t) i ≤ 2147483647
  by_cases q : P.n < 30
  · rw [if_pos q]
    by_cases e : i = P.n
    · rw [e, pu_eq]; exact hv
    · rw [pu_ne e]; exact h7 i i0 i1
  · rw [if_neg q]; exact h7 i i0 i1
theorem MVr.w {P : MV} {N : Int} (h : MVr P N) (a : Int) : 0 ≤ mvW P a ∧ mvW P a ≤ 65535 := by
  have c1 := h.c a
  have c2 := h.c (a + 1)
  unfold mvW; omega
theorem MVr.p {P : MV} {N a v : Int} (h : MVr P N) : MVr (mvP P a v) N := (h.b (by omega)).b (by omega)
theorem MVr.fv {P : MV} {N : Int} (h : MVr P N) : 0 ≤ mvFv P ∧ mvFv P ≤ 255 := h.c _
theorem MVr.ft {P : MV} {N : Int} (h : MVr P N) : MVr (mvF P) N := h.i (by omega)
theorem MVr.fw {P : MV} {N : Int} (h : MVr P N) : 0 ≤ mvFw P ∧ mvFw P ≤ 65535 := by
  have c1 := h.fv
  have c2 := h.ft.fv
  unfold mvFw; omega
theorem MVr.pu {P : MV} {N v : Int} (h : MVr P N) : MVr (mvPu P v) N := (h.s (by decide) (by omega)).p
theorem MVr.po {P : MV} {N : Int} (h : MVr P N) : MVr (mvPo P) N := h.s (by decide) (by omega)
/-! the class holds it -/
def HC (σ : ZS) (P : MV) : Prop := (∀ j : Int, 0 ≤ j → j < 4096 → zA σ 18 0 j = P.m j) ∧ (∀ j : Int, 0 ≤ j → j < 8 → zA σ 18 1 j = P.r j) ∧ (∀ j : Int, 0 ≤ j → j < 4 → zA σ 18 2 j = P.r (8 + j)) ∧ zI σ 18 3 = P.ip ∧ zI σ 18 4 = P.r 13 ∧ zI σ 18 5 = P.r 14 ∧ zI σ 18 6 = P.r 15 ∧ zI σ 18 9 = P.n ∧ (∀ j : Int, 0 ≤ j → j < 30 → zA σ 18 10 j = P.t j)
theorem HC.i3 {σ : ZS} {P : MV} {v : Int} (h : HC σ P) : HC (zsI σ 18 3 v) (mvI P v) := by
  obtain ⟨h0, h1, h2, h3, h4, h5, h6, h7, h8⟩ := h
  exact ⟨h0, h1, h2, rfl, h4, h5, h6, h7, h8⟩
theorem HC.a0 {σ : ZS} {P : MV} {i v : Int} (h : HC σ P) : HC (zsA σ 18 0 i v) (mvB P i v) := by
  obtain ⟨h0, h1, h2, h3, h4, h5, h6, h7, h8⟩ := h
  refine ⟨fun j j0 j1 => ?_, h1, h2, h3, h4, h5, h6, h7, h8⟩
  show zu (zA σ 18 0) i v j = zu P.m i v j
  by_cases e : j = i
  · rw [e, pu_eq, pu_eq]
  · rw [pu_ne e, pu_ne e]; exact h0 j j0 j1
theorem HC.a1 {σ : ZS} {P : MV} {i v : Int} (h : HC σ P) (hi : 0 ≤ i ∧ i < 8) : HC (zsA σ 18 1 i v) (mvR P i v) := by
  obtain ⟨h0, h1, h2, h3, h4, h5, h6, h7, h8⟩ := h
  refine ⟨h0, fun j j0 j1 => ?_, fun j j0 j1 => ?_, h3, ?_, ?_, ?_, h7, h8⟩
  · show zu (zA σ 18 1) i v j = zu P.r i v j
    by_cases e : j = i
    · rw [e, pu_eq, pu_eq]
    · rw [pu_ne e, pu_ne e]; exact h1 j j0 j1
  · show zA σ 18 2 j = zu P.r i v (8 + j)
    rw [pu_ne (by omega)]; exact h2 j j0 j1
  · show zI σ 18 4 = zu P.r i v 13
    rw [pu_ne (by omega)]; exact h4
  · show zI σ 18 5 = zu P.r i v 14
    rw [pu_ne (by omega)]; exact h5
  · show zI σ 18 6 = zu P.r i v 15
    rw [pu_ne (by omega)]; exact h6
theorem HC.a2 {σ : ZS} {P : MV} {i v : Int} (h : HC σ P) (hi : 0 ≤ i ∧ i < 4) : HC (zsA σ 18 2 i v) (mvR P (8 + i) v) := by
  obtain ⟨h0, h1, h2, h3, h4, h5, h6, h7, h8⟩ := h
  refine ⟨h0, fun j j0 j1 => ?_, fun j j0 j1 => ?_, h3, ?_, ?_, ?_, h7, h8⟩
  · show zA σ 18 1 j = zu P.r (8 + i) v j
    rw [pu_ne (by omega)]; exact h1 j j0 j1
  · show zu (zA σ 18 2) i v j = zu P.r (8 + i) v (8 + j)
    by_cases e : j = i
    · rw [e, pu_eq, pu_eq]
    · rw [pu_ne e, pu_ne (by omega)]; exact h2 j j0 j1
  · show zI σ 18 4 = zu P.r (8 + i) v 13
    rw [pu_ne (by omega)]; exact h4
  · show zI σ 18 5 = zu P.r (8 + i) v 14
    rw [pu_ne (by omega)]; exact h5
  · show zI σ 18 6 = zu P.r (8 + i) v 15
    rw [pu_ne (by omega)]; exact h6
theorem HC.fl {σ : ZS} {P : MV} {i v : Int} {f : Nat} (h : HC σ P) (hi : (f = 4 ∧ i = 13) ∨ (f = 5 ∧ i = 14) ∨ (f = 6 ∧ i = 15)) : HC (zsI σ 18 f v) (mvR P i v) := by
  obtain ⟨h0, h1, h2, h3, h4, h5, h6, h7, h8⟩ := h
  have q1 : ∀ j : Int, 0 ≤ j → j < 8 → zA σ 18 1 j = zu P.r i v j := fun j j0 j1 => by rw [pu_ne (by omega)]; exact h1 j j0 j1
  have q2 : ∀ j : Int, 0 ≤ j → j < 4 → zA σ 18 2 j = zu P.r i v (8 + j) := fun j j0 j1 => by rw [pu_ne (by omega)]; exact h2 j j0 j1
  rcases hi with ⟨rfl, rfl⟩ | ⟨rfl, rfl⟩ | ⟨rfl, rfl⟩
  · refine ⟨h0, q1, q2, h3, ?_, ?_, ?_, h7, h8⟩
    · show v = zu P.r 13 v 13
      rw [pu_eq]
    · show zI σ 18 5 = zu P.r 13 v 14
      rw [pu_ne (by decide)]; exact h5
    · show zI σ 18 6 = zu P.r 13 v 15
      rw [pu_ne (by decide)]; exact h6
  · refine ⟨h0, q1, q2, h3, ?_, ?_, ?_, h7, h8⟩
    · show zI σ 18 4 = zu P.r 14 v 13
      rw [pu_ne (by decide)]; exact h4
    · show v = zu P.r 14 v 14
      rw [pu_eq]
    · show zI σ 18 6 = zu P.r 14 v 15
      rw [pu_ne (by decide)]; exact h6
  · refine ⟨h0, q1, q2, h3, ?_, ?_, ?_, h7, h8⟩
    · show zI σ 18 4 = zu P.r 15 v 13
      rw [pu_ne (by decide)]; exact h4
    · show zI σ 18 5 = zu P.r 15 v 14
      rw [pu_ne (by decide)]; exact h5
    · show v = zu P.r 15 v 15
      rw [pu_eq]
theorem HC.i4 {σ : ZS} {P : MV} {v : Int} (h : HC σ P) : HC (zsI σ 18 4 v) (mvR P 13 v) := h.fl (Or.inl ⟨rfl, rfl⟩)
theorem HC.i5 {σ : ZS} {P : MV} {v : Int} (h : HC σ P) : HC (zsI σ 18 5 v) (mvR P 14 v) := h.fl (Or.inr (Or.inl ⟨rfl, rfl⟩))
theorem HC.i6 {σ : ZS} {P : MV} {v : Int} (h : HC σ P) : HC (zsI σ 18 6 v) (mvR P 15 v) := h.fl (Or.inr (Or.inr ⟨rfl, rfl⟩))
theorem HC.i7 {σ : ZS} {P : MV} {v : Int} (h : HC σ P) : HC (zsI σ 18 7 v) P := h
theorem HC.i8 {σ : ZS} {P : MV} {v : Int} (h : HC σ P) : HC (zsI σ 18 8 v) P := h
theorem HC.i11 {σ : ZS} {P : MV} {v : Int} (h : HC σ P) : HC (zsI σ 18 11 v) P := h
theorem HC.i12 {σ : ZS} {P : MV} {v : Int} (h : HC σ P) : HC (zsI σ 18 12 v) P := h
theorem HC.i13 {σ : ZS} {P : MV} {v : Int} (h : HC σ P) : HC (zsI σ 18 13 v) P := h
/-! the reference holds it -/
def HR (ρ : ZS) (P : MV) : Prop := (∀ j : Int, 0 ≤ j → j < 4096 → zA ρ 0 74 j = P.m j) ∧ (∀ j : Int, 0 ≤ j → j < 16 → zA ρ 0 75 j = P.r j) ∧ zI ρ 0 80 = P.ip ∧ zI ρ 0 78 = P.n ∧ (∀ j : Int, 0 ≤ j → j < 30 → zA ρ 0 79 j = P.t j)
theorem HR.a74 {ρ : ZS} {P : MV} {i v : Int} (h : HR ρ P) : HR (zsA ρ 0 74 i v) (mvB P i v) := by
  obtain ⟨h0, h1, h2, h3, h4⟩ := h
  refine ⟨fun j j0 j1 => ?_, h1, h2, h3, h4⟩
  show zu (zA ρ 0 74) i v j = zu P.m i v j
  by_cases e : j = i
  · rw [e, pu_eq, pu_eq]
  · rw [pu_ne e, pu_ne e]; exact h0 j j0 j1
theorem HR.a75 {ρ : ZS} {P : MV} {i v : Int} (h : HR ρ P) : HR (zsA ρ 0 75 i v) (mvR P i v) := by
  obtain ⟨h0, h1, h2, h3, h4⟩ := h
  refine ⟨h0, fun j j0 j1 => ?_, h2, h3, h4⟩
  show zu (zA ρ 0 75) i v j = zu P.r i v j
  by_cases e : j = i
  · rw [e, pu_eq, pu_eq]
  · rw [pu_ne e, pu_ne e]; exact h1 j j0 j1
theorem HR.i80 {ρ : ZS} {P : MV} {v : Int} (h : HR ρ P) : HR (zsI ρ 0 80 v) (mvI P v) := by
  obtain ⟨h0, h1, h2, h3, h4⟩ := h
  exact ⟨h0, h1, rfl, h3, h4⟩
theorem HR.i81 {ρ : ZS} {P : MV} {v : Int} (h : HR ρ P) : HR (zsI ρ 0 81 v) P := h
theorem HR.i82 {ρ : ZS} {P : MV} {v : Int} (h : HR ρ P) : HR (zsI ρ 0 82 v) P := h
theorem HR.i83 {ρ : ZS} {P : MV} {v : Int} (h : HR ρ P) : HR (zsI ρ 0 83 v) P := h
theorem HR.i84 {ρ : ZS} {P : MV} {v : Int} (h : HR ρ P) : HR (zsI ρ 0 84 v) P := h
theorem HR.i77 {ρ : ZS} {P : MV} {v : Int} (h : HR ρ P) : HR (zsI ρ 0 77 v) P := h
/-! what else stays, on the class's side -/
def kq (σ τ : ZS) : Prop := kp [18] σ τ ∧ zI τ 18 7 = zI σ 18 7 ∧ zI τ 18 8 = zI σ 18 8 ∧ zI τ 18 11 = zI σ 18 11 ∧ zI τ 18 12 = zI σ 18 12 ∧ zI τ 18 13 = zI σ 18 13
theorem kq.rf {σ : ZS} : kq σ σ := ⟨kp.rf, rfl, rfl, rfl, rfl, rfl⟩
theorem kq.tr {σ τ υ : ZS} (h : kq σ τ) (k : kq τ υ) : kq σ υ := by
  obtain ⟨a1, a2, a3, a4, a5, a6⟩ := h
  obtain ⟨b1, b2, b3, b4, b5, b6⟩ := k
  exact ⟨a1.tr b1, b2.trans a2, b3.trans a3, b4.trans a4, b5.trans a5, b6.trans a6⟩
theorem kq.i3 {σ τ : ZS} {v : Int} (h : kq σ τ) : kq σ (zsI τ 18 3 v) := ⟨h.1.ti (by decide), h.2⟩
theorem kq.i4 {σ τ : ZS} {v : Int} (h : kq σ τ) : kq σ (zsI τ 18 4 v) := ⟨h.1.ti (by decide), h.2⟩
theorem kq.i5 {σ τ : ZS} {v : Int} (h : kq σ τ) : kq σ (zsI τ 18 5 v) := ⟨h.1.ti (by decide), h.2⟩
theorem kq.i6 {σ τ : ZS} {v : Int} (h : kq σ τ) : kq σ (zsI τ 18 6 v) := ⟨h.1.ti (by decide), h.2⟩
theorem kq.i9 {σ τ : ZS} {v : Int} (h : kq σ τ) : kq σ (zsI τ 18 9 v) := ⟨h.1.ti (by decide), h.2⟩
theorem kq.a {σ τ : ZS} {f : Nat} {i v : Int} (h : kq σ τ) : kq σ (zsA τ 18 f i v) := ⟨h.1.ta (by decide), h.2⟩
/-! the class's small methods -/
theorem x_word {σ : ZS} {P : MV} {a : Int} {Q : Int → ZS → Prop} (h : HC σ P) (hQ : Q (mvW P a) σ) : wpX4_word a σ Q := by
  unfold wpX4_word
  rw [h.1 (a % 4096) (by omega) (by omega), h.1 ((a + 1) % 4096) (by omega) (by omega)]
  exact hQ
theorem x_putw {σ : ZS} {P : MV} {a b : Int} {Q : ZS → Prop} (h : HC σ P) (hb : -2147483648 ≤ b ∧ b ≤ 2147483647) (hQ : ∀ τ : ZS, HC τ (mvP P a b) → kq σ τ → Q τ) : wpX4_putWord a b σ Q := ⟨hb, hQ _ h.a0.a0 kq.rf.a.a⟩
theorem x_fetch {σ : ZS} {P : MV} {Q : Int → ZS → Prop} (h : HC σ P) (hQ : ∀ τ : ZS, HC τ (mvF P) → kq σ τ → Q (mvFv P) τ) : wpX4_fetch σ Q := by
  have e1 : zA σ 18 2 1 = P.r 9 := h.2.2.1 1 (by decide) (by decide)
  have e3 := h.2.2.2.1
  unfold wpX4_fetch
  rw [e1, e3, h.1 ((16 * P.r 9 + P.ip) % 4096) (by omega) (by omega)]
  exact hQ _ h.i3 kq.rf.i3
theorem x_push {σ : ZS} {P : MV} {a : Int} {Q : ZS → Prop} (h : HC σ P) (ha : -2147483648 ≤ a ∧ a ≤ 2147483647) (hQ : ∀ τ : ZS, HC τ (mvPu P a) → kq σ τ → Q τ) : wpX4_push a σ Q := by
  have e2 : zA σ 18 2 2 = P.r 10 := h.2.2.1 2 (by decide) (by decide)
  have e4 : zA σ 18 1 4 = P.r 4 := h.2.1 4 (by decide) (by decide)
  have e : zA (zsA σ 18 1 4 ((zA σ 18 1 4 - 2) % 65536)) 18 1 4 = (P.r 4 - 2) % 65536 := by
    show zu (zA σ 18 1) 4 ((zA σ 18 1 4 - 2) % 65536) 4 = _
    rw [pu_eq, e4]
  unfold wpX4_push
  rw [e, e2, e4]
  exact x_putw (h.a1 (by decide)) ha (fun τ ht k => hQ τ ht (kq.rf.a.tr k))
theorem x_pop {σ : ZS} {P : MV} {Q : Int → ZS → Prop} (h : HC σ P) (hQ : ∀ τ : ZS, HC τ (mvPo P) → kq σ τ → Q (mvPv P) τ) : wpX4_pop σ Q := by
  have e2 : zA σ 18 2 2 = P.r 10 := h.2.2.1 2 (by decide) (by decide)
  have e4 : zA σ 18 1 4 = P.r 4 := h.2.1 4 (by decide) (by decide)
  unfold wpX4_pop
  rw [e2, e4]
  refine x_word h ?_
  show Q (mvPv P) (zsA σ 18 1 4 ((zA σ 18 1 4 + 2) % 65536))
  rw [e4]
  exact hQ _ (h.a1 (by decide)) kq.rf.a
theorem x_fetchWord {σ : ZS} {P : MV} {Q : Int → ZS → Prop} (h : HC σ P) (hQ : ∀ τ : ZS, HC τ (mvF (mvF P)) → kq σ τ → Q (mvFw P) τ) : wpX4_fetchWord σ Q := by
  unfold wpX4_fetchWord
  exact x_fetch h (fun τ h1 k1 => x_fetch h1 (fun υ h2 k2 => hQ υ h2 (k1.tr k2)))
theorem x_fetchSigned {σ : ZS} {P : MV} {Q : Int → ZS → Prop} (h : HC σ P) (hQ : ∀ τ : ZS, HC τ (mvF P) → kq σ τ → Q (mvFs P) τ) : wpX4_fetchSigned σ Q := by
  unfold wpX4_fetchSigned
  exact x_fetch h (fun τ h1 k1 => hQ τ h1 k1)
/-! the reference's small methods -/
theorem y_fetch {ρ : ZS} {P : MV} {N : Int} {Q : Int → ZS → Prop} (h : HR ρ P) (hp : MVr P N) (hQ : ∀ τ : ZS, HR τ (mvF P) → fr [78, 80] MR ρ τ → Q (mvFv P) τ) : wpX11_fetch ρ Q := by
  have e9 : zA ρ 0 75 9 = P.r 9 := h.2.1 9 (by decide) (by decide)
  have ei := h.2.2.1
  have ip := hp.ip
  unfold wpX11_fetch wpX11_where
  rw [e9, ei]
  have e : (16 * P.r 9 + P.ip % 65536) % 4096 = (16 * P.r 9 + P.ip) % 4096 := by rw [Int.emod_eq_of_lt ip.1 (by omega)]
  rw [e]
  refine ⟨by omega, ?_⟩
  rw [h.1 _ (by omega) (by omega), ei]
  exact hQ _ h.i80 (fr.i (by decide))
theorem y_fetchTwo {ρ : ZS} {P : MV} {N : Int} {Q : Int → ZS → Prop} (h : HR ρ P) (hp : MVr P N) (hQ : ∀ τ : ZS, HR τ (mvF (mvF P)) → fr [78, 80] MR ρ τ → Q (mvFw P) τ) : wpX11_fetchTwo ρ Q := by
  have c1 := hp.fv
  have c2 := hp.ft.fv
  unfold wpX11_fetchTwo
  refine y_fetch h hp (fun τ h1 k1 => y_fetch h1 hp.ft (fun υ h2 k2 => ?_))
  rw [zor_bytes (by omega) (by omega), Int.add_comm, Int.mul_comm]
  exact hQ υ h2 (k1.tr k2)
theorem y_fetchSigned {ρ : ZS} {P : MV} {N : Int} {Q : Int → ZS → Prop} (h : HR ρ P) (hp : MVr P N) (hQ : ∀ τ : ZS, HR τ (mvF P) → fr [78, 80] MR ρ τ → Q (mvFs P) τ) : wpX11_fetchSigned ρ Q := by
  unfold wpX11_fetchSigned
  exact y_fetch h hp (fun τ h1 k1 => hQ τ h1 k1)
theorem wr_1 {s x : Int} (hx : 0 ≤ x ∧ x ≤ 65535) : (16 * s + x % 65536) % 4096 = (16 * s + x) % 4096 := by omega
theorem wr_2 {s x : Int} (hx : 0 ≤ x ∧ x ≤ 65535) : (16 * s + (x + 1) % 65536) % 4096 = (16 * s + x + 1) % 4096 := by omega
theorem y_get {ρ : ZS} {P : MV} {N s x : Int} {Q : Int → ZS → Prop} (h : HR ρ P) (hp : MVr P N) (hx : 0 ≤ x ∧ x ≤ 65535) (hQ : Q (mvW P (16 * s + x)) ρ) : wpX11_get s x ρ Q := by
  have c1 := hp.c (16 * s + x)
  have c2 := hp.c (16 * s + x + 1)
  unfold wpX11_get wpX11_where
  rw [wr_1 hx]
  refine ⟨by omega, ?_⟩
  show (0 ≤ (16 * s + (x + 1) % 65536) % 4096 ∧ (16 * s + (x + 1) % 65536) % 4096 < 4096) ∧ Q (zor (zA ρ 0 74 ((16 * s + x) % 4096)) (zA ρ 0 74 ((16 * s + (x + 1) % 65536) % 4096) * 256)) ρ
  rw [wr_2 hx, h.1 ((16 * s + x) % 4096) (by omega) (by omega), h.1 ((16 * s + x + 1) % 4096) (by omega) (by omega), zor_bytes (by omega) (by omega), Int.add_comm (P.m ((16 * s + x + 1) % 4096) * 256), Int.mul_comm (P.m ((16 * s + x + 1) % 4096))]
  exact ⟨by omega, hQ⟩
theorem y_store {ρ : ZS} {P : MV} {s x v : Int} {Q : ZS → Prop} (h : HR ρ P) (hx : 0 ≤ x ∧ x ≤ 65535) (hv : -2147483648 ≤ v ∧ v ≤ 2147483647) (hQ : ∀ τ : ZS, HR τ (mvP P (16 * s + x) v) → fr [78, 80] MR ρ τ → Q τ) : wpX11_store s x v ρ Q := by
  unfold wpX11_store wpX11_where
  rw [wr_1 hx, wr_2 hx]
  exact ⟨by omega, hv, by omega, hQ _ h.a74.a74 ((fr.rf.ta (by decide)).ta (by decide))⟩
theorem y_push {ρ : ZS} {P : MV} {v : Int} {Q : ZS → Prop} (h : HR ρ P) (hv : -2147483648 ≤ v ∧ v ≤ 2147483647) (hQ : ∀ τ : ZS, HR τ (mvPu P v) → fr [78, 80] MR ρ τ → Q τ) : wpX11_push v ρ Q := by
  have e4 : zA ρ 0 75 4 = P.r 4 := h.2.1 4 (by decide) (by decide)
  have e10 : zA ρ 0 75 10 = P.r 10 := h.2.1 10 (by decide) (by decide)
  have e : zA (zsA ρ 0 75 4 ((zA ρ 0 75 4 - 2) % 65536)) 0 75 4 = (P.r 4 - 2) % 65536 := by
    show zu (zA ρ 0 75) 4 ((zA ρ 0 75 4 - 2) % 65536) 4 = _
    rw [pu_eq, e4]
  have f : zA (zsA ρ 0 75 4 ((zA ρ 0 75 4 - 2) % 65536)) 0 75 10 = P.r 10 := by
    show zu (zA ρ 0 75) 4 ((zA ρ 0 75 4 - 2) % 65536) 10 = _
    rw [pu_ne (by decide), e10]
  unfold wpX11_push
  rw [e, f, e4]
  exact y_store h.a75 (by omega) hv (fun τ ht k => hQ τ ht ((fr.a (by decide)).tr k))
theorem y_pop {ρ : ZS} {P : MV} {N : Int} {Q : Int → ZS → Prop} (h : HR ρ P) (hp : MVr P N) (hQ : ∀ τ : ZS, HR τ (mvPo P) → fr [78, 80] MR ρ τ → Q (mvPv P) τ) : wpX11_pop ρ Q := by
  have e4 : zA ρ 0 75 4 = P.r 4 := h.2.1 4 (by decide) (by decide)
  have e10 : zA ρ 0 75 10 = P.r 10 := h.2.1 10 (by decide) (by decide)
  unfold wpX11_pop
  rw [e10, e4]
  refine y_get h hp (hp.g (by decide) (by decide)) ?_
  show Q (mvPv P) (zsA ρ 0 75 4 ((zA ρ 0 75 4 + 2) % 65536))
  rw [e4]
  exact hQ _ h.a75 (fr.a (by decide))
/-! M: operands in memory -/
def mvRs (P : MV) (b : Int) : Int := if b = 6 then P.r 5 else if b = 7 then P.r 3 else if b < 4 then (if 2 ≤ b then P.r (6 + b % 2) + P.r 5 else P.r (6 + b % 2) + P.r 3) else P.r (6 + b % 2)
theorem x_registerSum {σ : ZS} {P : MV} {a : Int} {Q : Int → ZS → Prop} (h : HC σ P) (ha : 0 ≤ a ∧ a ≤ 7) (hQ : Q (mvRs P a) σ) : wpX4_registerSum a σ Q := by
  have e3 : zA σ 18 1 3 = P.r 3 := h.2.1 3 (by decide) (by decide)
  have e5 : zA σ 18 1 5 = P.r 5 := h.2.1 5 (by decide) (by decide)
  have e6 : zA σ 18 1 (6 + a % 2) = P.r (6 + a % 2) := h.2.1 _ (by omega) (by omega)
  unfold wpX4_registerSum wpX4_registerSum_76
  unfold mvRs at hQ
  refine ⟨by omega, fun q => ?_, fun q => ⟨fun q2 => ?_, fun q2 => ⟨fun q3 => ⟨fun q4 => ⟨by decide, ?_⟩, fun q4 => ⟨by decide, ?_⟩⟩, fun q3 => ?_⟩⟩⟩
  · rw [if_pos q] at hQ; rw [e5]; exact hQ
  · rw [if_neg q, if_pos q2] at hQ; rw [e3]; exact hQ
  · rw [if_neg q, if_neg q2, if_pos q3, if_pos q4] at hQ; rw [e6, e5]; exact hQ
  · rw [if_neg q, if_neg q2, if_pos q3, if_neg q4] at hQ; rw [e6, e3]; exact hQ
  · rw [if_neg q, if_neg q2, if_neg q3] at hQ; rw [e6]; exact hQ
theorem h2s {σ : ZS} {P : MV} {s : Int} (h : HC σ P) (hs : s = 2 ∨ s = 3) : zA σ 18 2 s = P.r (8 + s) := h.2.2.1 s (by omega) (by omega)
/-- v the byte, P behind it: the machine behind the operand; which segment register; the offset -/
def mvMq (P : MV) (v : Int) : MV := if v / 64 = 3 then P else if (v / 64 = 0 ∧ v % 8 = 6) ∨ v / 64 = 2 then mvF (mvF P) else if v / 64 = 1 then mvF P else P
def mvMs (v : Int) : Int := if v % 8 = 2 ∨ v % 8 = 3 ∨ (v % 8 = 6 ∧ ¬ v / 64 = 0) then 10 else 11
def mvMb (P : MV) (v : Int) : Int := if v / 64 = 0 ∧ v % 8 = 6 then 0 else mvRs P (v % 8)
def mvMd (P : MV) (v : Int) : Int := if (v / 64 = 0 ∧ v % 8 = 6) ∨ v / 64 = 2 then mvFw P else if v / 64 = 1 then mvFs P else 0
def mvMx (P : MV) (v : Int) : Int := (mvMb P v + mvMd P v) % 65536
def mvMP (P : MV) : MV := mvMq (mvF P) (mvFv P)
def mvMk (P : MV) : Int := mvFv P / 8 % 8
def mvMl (P : MV) : Int := if mvFv P / 64 = 3 then mvFv P % 8 else -1
def mvMa (P : MV) : Int := 16 * P.r (mvMs (mvFv P)) + mvMx (mvF P) (mvFv P)
theorem mvMs_or (v : Int) : mvMs v = 10 ∨ mvMs v = 11 := by
  unfold mvMs; split
  · exact Or.inl rfl
  · exact Or.inr rfl
theorem mvMq_r (P : MV) (v : Int) : (mvMq P v).r = P.r := by
  unfold mvMq; split
  · rfl
  · split
    · rfl
    · split <;> rfl
theorem mvMP_r (P : MV) : (mvMP P).r = P.r := mvMq_r _ _
theorem MVr.mq {P : MV} {N v : Int} (h : MVr P N) : MVr (mvMq P v) N := by
  unfold mvMq; split
  · exact h
  · split
    · exact h.ft.ft
    · split
      · exact h.ft
      · exact h
theorem MVr.mp {P : MV} {N : Int} (h : MVr P N) : MVr (mvMP P) N := h.ft.mq
theorem MVr.mk {P : MV} {N : Int} (h : MVr P N) : 0 ≤ mvMk P ∧ mvMk P ≤ 7 := by unfold mvMk; omega
theorem MVr.ml {P : MV} {N : Int} (h : MVr P N) : -1 ≤ mvMl P ∧ mvMl P ≤ 7 := by unfold mvMl; split <;> omega
/-- what else stays on the class's side, the operand left out -/
def kr (σ τ : ZS) : Prop := kp [18] σ τ ∧ zI τ 18 7 = zI σ 18 7 ∧ zI τ 18 8 = zI σ 18 8 ∧ (zI τ 18 11 = zI σ 18 11 ∨ (0 ≤ zI τ 18 11 ∧ zI τ 18 11 ≤ 7)) ∧ (zI τ 18 12 = zI σ 18 12 ∨ (-1 ≤ zI τ 18 12 ∧ zI τ 18 12 ≤ 7))
theorem kq.kr {σ τ : ZS} (h : kq σ τ) : kr σ τ := by
  obtain ⟨a1, a2, a3, a4, a5, -⟩ := h
  exact ⟨a1, a2, a3, Or.inl a4, Or.inl a5⟩
theorem kr.tr {σ τ υ : ZS} (h : kr σ τ) (k : kr τ υ) : kr σ υ := by
  obtain ⟨a1, a2, a3, a4, a5⟩ := h
  obtain ⟨b1, b2, b3, b4, b5⟩ := k
  refine ⟨a1.tr b1, b2.trans a2, b3.trans a3, ?_, ?_⟩
  · rcases b4 with b | b
    · rw [b]; exact a4
    · exact Or.inr b
  · rcases b5 with b | b
    · rw [b]; exact a5
    · exact Or.inr b
/-- the class knows an operand: a register, or an address -/
def HLc (σ : ZS) (k sl ad : Int) : Prop := zI σ 18 11 = k ∧ zI σ 18 12 = sl ∧ (sl < 0 → zI σ 18 13 = ad)
theorem HLc.k {σ τ : ZS} {k sl ad : Int} (h : HLc σ k sl ad) (e : kq σ τ) : HLc τ k sl ad := by
  obtain ⟨-, -, -, a4, a5, a6⟩ := e
  unfold HLc; rw [a4, a5, a6]; exact h
theorem x_fetchM {σ : ZS} {P : MV} {N : Int} {Q : ZS → Prop} (h : HC σ P) (hp : MVr P N) (hQ : ∀ τ : ZS, HC τ (mvMP P) → kr σ τ → HLc τ (mvMk P) (mvMl P) (mvMa P) → Q τ) : wpX4_fetchM σ Q := by
  have hv := hp.fv
  unfold wpX4_fetchM
  refine x_fetch h (fun τ0 h0 k0 => ?_)
  obtain ⟨v, ev⟩ : ∃ v, v = mvFv P := ⟨_, rfl⟩
  obtain ⟨P1, e1⟩ : ∃ P1, P1 = mvF P := ⟨_, rfl⟩
  have r1 : P1.r = P.r := by rw [e1]; rfl
  rw [← ev] at hv ⊢
  rw [← e1] at h0
  have hp1 : MVr P1 N := by rw [e1]; exact hp.ft
  have eM : mvMP P = mvMq P1 v := by rw [e1, ev]; rfl
  have eK : mvMk P = v / 8 % 8 := by rw [ev]; rfl
  have eL : mvMl P = if v / 64 = 3 then v % 8 else -1 := by rw [ev]; rfl
  have eA : mvMa P = 16 * P1.r (mvMs v) + mvMx P1 v := by rw [r1, e1, ev]; rfl
  rw [eM, eK, eL, eA] at hQ
  -- the address
  have f114 : ∀ (c x : Int) (τ : ZS) (P' : MV), HC τ P' → P' = mvMq P1 v → kr σ τ → zI τ 18 11 = v / 8 % 8 → zI τ 18 12 = -1 → ¬ v / 64 = 3 → (0 ≤ c ∧ c ≤ 1) → (c = 0 ↔ ¬ (v / 64 = 0 ∧ v % 8 = 6)) → x % 65536 = mvMx P1 v → wpX4_fetchM_114 (v % 8) c x τ Q := by
    intro c x τ P' ht eP kt t11 t12 n3 hc ic hx
    have er : P'.r = P1.r := by rw [eP]; exact mvMq_r _ _
    have fin : ∀ s : Int, (s = 2 ∨ s = 3) → 8 + s = mvMs v → wpX4_fetchM_159 x s 16 τ Q := by
      intro s hs es
      unfold wpX4_fetchM_159
      refine ⟨by omega, ?_⟩
      have e2 : zA τ 18 2 s = P1.r (mvMs v) := by rw [h2s ht hs, er, es]
      rw [e2, hx]
      refine hQ _ (by rw [← eP]; exact ht.i13) ⟨kt.1.ti (by decide), kt.2⟩ ⟨t11, ?_, fun _ => rfl⟩
      rw [if_neg n3]; exact t12
    have f10 : mvMs v = 10 → wpX4_fetchM_140 x 1 τ Q := by
      intro e
      unfold wpX4_fetchM_140
      exact ⟨by decide, fun q => absurd q (by decide), fun _ => fin 2 (Or.inl rfl) (by omega)⟩
    have f11 : mvMs v = 11 → wpX4_fetchM_140 x 0 τ Q := by
      intro e
      unfold wpX4_fetchM_140
      exact ⟨by decide, fun _ => fin 3 (Or.inr rfl) (by omega), fun q => absurd rfl q⟩
    unfold wpX4_fetchM_114 wpX4_fetchM_135 wpX4_fetchM_139
    refine ⟨by omega, fun q => f10 (if_pos (Or.inl q)), fun q1 => ⟨fun q => f10 (if_pos (Or.inr (Or.inl q))), fun q2 => ⟨fun q => f11 (if_neg (by omega)), fun q => ⟨by omega, fun q4 => f11 (if_neg ?_), fun q4 => f10 (if_pos (Or.inr (Or.inr ⟨q, ?_⟩)))⟩⟩⟩⟩
    · have : v / 64 = 0 ∧ v % 8 = 6 := Classical.byContradiction (fun n => q4 (ic.mpr n))
      omega
    · have := ic.mp q4
      omega
  -- with an offset of two bytes
  have f88 : ∀ (c x : Int) (τ : ZS), HC τ P1 → kr σ τ → zI τ 18 11 = v / 8 % 8 → zI τ 18 12 = -1 → ¬ v / 64 = 3 → ((v / 64 = 0 ∧ v % 8 = 6) ∨ v / 64 = 2) → (0 ≤ c ∧ c ≤ 1) → (c = 0 ↔ ¬ (v / 64 = 0 ∧ v % 8 = 6)) → x = mvMb P1 v → wpX4_fetchM_88 (v % 8) c x τ Q := by
    intro c x τ ht kt t11 t12 n3 hb hc ic hx
    unfold wpX4_fetchM_88
    refine x_fetchWord ht (fun υ hu ku => f114 c _ υ _ hu ?_ (kt.tr ku.kr) (by rw [ku.2.2.2.1]; exact t11) (by rw [ku.2.2.2.2.1]; exact t12) n3 hc ic ?_)
    · unfold mvMq; rw [if_neg n3, if_pos hb]
    · unfold mvMx mvMd; rw [if_pos hb, hx]
  have f76 : ∀ (c x : Int) (τ : ZS), HC τ P1 → kr σ τ → zI τ 18 11 = v / 8 % 8 → zI τ 18 12 = -1 → ¬ v / 64 = 3 → (0 ≤ c ∧ c ≤ 1) → (c = 0 ↔ ¬ (v / 64 = 0 ∧ v % 8 = 6)) → x = mvMb P1 v → wpX4_fetchM_76 (v / 64) (v % 8) c x τ Q := by
    intro c x τ ht kt t11 t12 n3 hc ic hx
    unfold wpX4_fetchM_76
    refine ⟨by omega, fun q => f88 c x τ ht kt t11 t12 n3 (Or.inl (Classical.byContradiction (fun n => q (ic.mpr n)))) hc ic hx, fun q => ⟨by omega, fun q2 => ⟨fun q1 => f114 c x τ _ ht ?_ kt t11 t12 n3 hc ic ?_, fun q1 => x_fetchSigned ht (fun υ hu ku => f114 c _ υ _ hu ?_ (kt.tr ku.kr) (by rw [ku.2.2.2.1]; exact t11) (by rw [ku.2.2.2.2.1]; exact t12) n3 hc ic ?_)⟩, fun q2 => f88 c x τ ht kt t11 t12 n3 (Or.inr q2) hc ic hx⟩⟩
    · have nb := ic.mp q
      unfold mvMq; rw [if_neg n3, if_neg (fun o => o.elim nb q2), if_neg q1]
    · have nb := ic.mp q
      unfold mvMx mvMd; rw [if_neg (fun o => o.elim nb q2), if_neg q1, hx, Int.add_zero]
    · have nb := ic.mp q
      unfold mvMq; rw [if_neg n3, if_neg (fun o => o.elim nb q2), if_pos q1]
    · have nb := ic.mp q
      unfold mvMx mvMd; rw [if_neg (fun o => o.elim nb q2), if_pos q1, hx]
  have f60 : ∀ (c : Int) (τ : ZS), HC τ P1 → kr σ τ → zI τ 18 11 = v / 8 % 8 → zI τ 18 12 = -1 → ¬ v / 64 = 3 → (0 ≤ c ∧ c ≤ 1) → (c = 0 ↔ ¬ (v / 64 = 0 ∧ v % 8 = 6)) → wpX4_fetchM_60 (v / 64) (v % 8) c τ Q := by
    intro c τ ht kt t11 t12 n3 hc ic
    unfold wpX4_fetchM_60
    refine ⟨by omega, fun q => x_registerSum ht (by omega) (f76 c _ τ ht kt t11 t12 n3 hc ic ?_), fun q => f76 c 0 τ ht kt t11 t12 n3 hc ic ?_⟩
    · unfold mvMb; rw [if_neg (ic.mp q)]
    · unfold mvMb; rw [if_pos (Classical.byContradiction (fun n => q (ic.mpr n)))]
  have k1 : kr σ (zsI τ0 18 11 (v / 8 % 8)) := by
    obtain ⟨a1, a2, a3, a4, a5, -⟩ := k0
    refine ⟨a1.ti (by decide), a2, a3, Or.inr ?_, Or.inl a5⟩
    show 0 ≤ v / 8 % 8 ∧ v / 8 % 8 ≤ 7
    omega
  have k2 : ∀ s : Int, (-1 ≤ s ∧ s ≤ 7) → kr σ (zsI (zsI τ0 18 11 (v / 8 % 8)) 18 12 s) := by
    intro s hs
    obtain ⟨a1, a2, a3, a4, a5⟩ := k1
    exact ⟨a1.ti (by decide), a2, a3, a4, Or.inr hs⟩
  unfold wpX4_fetchM_36 wpX4_fetchM_59
  refine ⟨by omega, fun n3 => ⟨by omega, fun _ => ⟨fun n0 => f60 0 _ h0.i11.i12 (k2 _ (by decide)) rfl rfl n3 (by decide) ⟨fun _ => by omega, fun _ => rfl⟩, fun e0 => ⟨by omega, fun n6 => f60 0 _ h0.i11.i12 (k2 _ (by decide)) rfl rfl n3 (by decide) ⟨fun _ => by omega, fun _ => rfl⟩, fun e6 => f60 1 _ h0.i11.i12 (k2 _ (by decide)) rfl rfl n3 (by decide) ⟨fun q => absurd q (by decide), fun q => absurd ⟨e0, e6⟩ q⟩⟩⟩, fun e3 => absurd e3 n3⟩, fun e3 => ⟨by omega, fun n3 => absurd e3 n3, fun _ => hQ _ ?_ (k2 _ (by omega)) ⟨rfl, ?_, fun q => ?_⟩⟩⟩
  · unfold mvMq; rw [if_pos e3]; exact h0.i11.i12
  · rw [if_pos e3]; rfl
  · rw [if_pos e3] at q; omega
/-! the reference's forms -/
def fs4 (ρ τ : ZS) : Prop := fr [78, 80, 81, 82, 83, 84] MR ρ τ ∧ (zI τ 0 81 = zI ρ 0 81 ∨ (0 ≤ zI τ 0 81 ∧ zI τ 0 81 ≤ 255)) ∧ (zI τ 0 82 = zI ρ 0 82 ∨ (0 ≤ zI τ 0 82 ∧ zI τ 0 82 ≤ 7)) ∧ (zI τ 0 83 = zI ρ 0 83 ∨ (0 ≤ zI τ 0 83 ∧ zI τ 0 83 ≤ 15)) ∧ (zI τ 0 84 = zI ρ 0 84 ∨ (0 ≤ zI τ 0 84 ∧ zI τ 0 84 ≤ 65535))
theorem fs4.of {ρ τ : ZS} (h : fr [78, 80] MR ρ τ) : fs4 ρ τ := ⟨h.up (by decide) (by decide), Or.inl (h.1 81 (by decide)), Or.inl (h.1 82 (by decide)), Or.inl (h.1 83 (by decide)), Or.inl (h.1 84 (by decide))⟩
theorem or_tr {a b c : Int} {lo hi : Int} (h : b = a ∨ (lo ≤ b ∧ b ≤ hi)) (k : c = b ∨ (lo ≤ c ∧ c ≤ hi)) : c = a ∨ (lo ≤ c ∧ c ≤ hi) := by
  rcases k with k | k
  · rw [k]; exact h
  · exact Or.inr k
theorem fs4.tr {ρ τ υ : ZS} (h : fs4 ρ τ) (k : fs4 τ υ) : fs4 ρ υ := ⟨h.1.tr k.1, or_tr h.2.1 k.2.1, or_tr h.2.2.1 k.2.2.1, or_tr h.2.2.2.1 k.2.2.2.1, or_tr h.2.2.2.2 k.2.2.2.2⟩
/-- the reference knows an operand -/
def HLr (ρ : ZS) (P : MV) (k sl ad : Int) : Prop := zI ρ 0 82 = k ∧ (0 ≤ zI ρ 0 81 ∧ zI ρ 0 81 ≤ 255) ∧ (zI ρ 0 81 / 64 = 3 → sl = zI ρ 0 81 % 8) ∧ (¬ zI ρ 0 81 / 64 = 3 → sl = -1 ∧ (zI ρ 0 83 = 10 ∨ zI ρ 0 83 = 11) ∧ (0 ≤ zI ρ 0 84 ∧ zI ρ 0 84 ≤ 65535) ∧ ad = 16 * P.r (zI ρ 0 83) + zI ρ 0 84)
theorem HLr.k {ρ τ : ZS} {P P' : MV} {k sl ad : Int} (h : HLr ρ P k sl ad) (e : fr [78, 80] MR ρ τ) (e10 : P'.r 10 = P.r 10) (e11 : P'.r 11 = P.r 11) : HLr τ P' k sl ad := by
  obtain ⟨h1, h2, h3, h4⟩ := h
  unfold HLr
  rw [e.1 81 (by decide), e.1 82 (by decide), e.1 83 (by decide), e.1 84 (by decide)]
  refine ⟨h1, h2, h3, fun n => ?_⟩
  obtain ⟨g1, g2, g3, g4⟩ := h4 n
  refine ⟨g1, g2, g3, ?_⟩
  rw [g4]
  rcases g2 with q | q
  · rw [q, e10]
  · rw [q, e11]
/-! M: the reference reads a form -/
def mvX1 (P : MV) (b : Int) : Int := if b = 0 ∨ b = 1 ∨ b = 7 then P.r 3 else 0
def mvX2 (P : MV) (a b : Int) : Int := if b = 2 ∨ b = 3 ∨ (b = 6 ∧ ¬ a = 0) then P.r 5 else mvX1 P b
def mvX3 (P : MV) (a b : Int) : Int := if b = 0 ∨ b = 2 ∨ b = 4 then mvX2 P a b + P.r 6 else mvX2 P a b
def mvX4 (P : MV) (a b : Int) : Int := if b = 1 ∨ b = 3 ∨ b = 5 then mvX3 P a b + P.r 7 else mvX3 P a b
theorem mvX4_eq {P : MV} {v : Int} (hv : 0 ≤ v ∧ v ≤ 255) : mvX4 P (v / 64) (v % 8) = mvMb P v := by
  obtain ⟨b, eb⟩ : ∃ b, b = v % 8 := ⟨_, rfl⟩
  obtain ⟨a, ea⟩ : ∃ a, a = v / 64 := ⟨_, rfl⟩
  unfold mvMb
  rw [← eb, ← ea]
  have e6 : ∀ x : Int, x = 0 → P.r (6 + x) = P.r 6 := fun x q => by rw [q]; rfl
  have e7 : ∀ x : Int, x = 1 → P.r (6 + x) = P.r 7 := fun x q => by rw [q]; rfl
  rcases (by omega : b = 0 ∨ b = 1 ∨ b = 2 ∨ b = 3 ∨ b = 4 ∨ b = 5 ∨ b = 6 ∨ b = 7) with q | q | q | q | q | q | q | q
  · have m := e6 (b % 2) (by omega)
    unfold mvX4 mvX3 mvX2 mvX1 mvRs
    rw [if_neg (by omega), if_pos (by omega), if_neg (by omega), if_pos (by omega), if_neg (by omega), if_neg (by omega), if_neg (by omega), if_pos (by omega), if_neg (by omega), m]
    omega
  · have m := e7 (b % 2) (by omega)
    unfold mvX4 mvX3 mvX2 mvX1 mvRs
    rw [if_pos (by omega), if_neg (by omega), if_neg (by omega), if_pos (by omega), if_neg (by omega), if_neg (by omega), if_neg (by omega), if_pos (by omega), if_neg (by omega), m]
    omega
  · have m := e6 (b % 2) (by omega)
    unfold mvX4 mvX3 mvX2 mvRs
    rw [if_neg (by omega), if_pos (by omega), if_pos (by omega), if_neg (by omega), if_neg (by omega), if_neg (by omega), if_pos (by omega), if_pos (by omega), m]
    omega
  · have m := e7 (b % 2) (by omega)
    unfold mvX4 mvX3 mvX2 mvRs
    rw [if_pos (by omega), if_neg (by omega), if_pos (by omega), if_neg (by omega), if_neg (by omega), if_neg (by omega), if_pos (by omega), if_pos (by omega), m]
    omega
  · have m := e6 (b % 2) (by omega)
    unfold mvX4 mvX3 mvX2 mvX1 mvRs
    rw [if_neg (by omega), if_pos (by omega), if_neg (by omega), if_neg (by omega), if_neg (by omega), if_neg (by omega), if_neg (by omega), if_neg (by omega), m]
    omega
  · have m := e7 (b % 2) (by omega)
    unfold mvX4 mvX3 mvX2 mvX1 mvRs
    rw [if_pos (by omega), if_neg (by omega), if_neg (by omega), if_neg (by omega), if_neg (by omega), if_neg (by omega), if_neg (by omega), if_neg (by omega), m]
    omega
  · unfold mvX4 mvX3 mvX2 mvX1 mvRs
    rw [if_neg (by omega), if_neg (by omega)]
    by_cases z : a = 0
    · rw [if_neg (by omega), if_neg (by omega), if_pos ⟨z, q⟩]
    · rw [if_pos (by omega), if_neg (by omega), if_pos q]
  · unfold mvX4 mvX3 mvX2 mvX1 mvRs
    rw [if_neg (by omega), if_neg (by omega), if_neg (by omega), if_pos (by omega), if_neg (by omega), if_neg (by omega), if_pos q]
theorem y_readForm {ρ : ZS} {P : MV} {N : Int} {Q : ZS → Prop} (h : HR ρ P) (hp : MVr P N) (hQ : ∀ τ : ZS, HR τ (mvMP P) → fs4 ρ τ → HLr τ (mvMP P) (mvMk P) (mvMl P) (mvMa P) → Q τ) : wpX11_readForm ρ Q := by
  have hv := hp.fv
  unfold wpX11_readForm
  refine y_fetch h hp (fun τ0 h0 k0 => ?_)
  obtain ⟨v, ev⟩ : ∃ v, v = mvFv P := ⟨_, rfl⟩
  obtain ⟨P1, e1⟩ : ∃ P1, P1 = mvF P := ⟨_, rfl⟩
  have r1 : P1.r = P.r := by rw [e1]; rfl
  rw [← ev] at hv ⊢
  rw [← e1] at h0
  have hp1 : MVr P1 N := by rw [e1]; exact hp.ft
  have eM : mvMP P = mvMq P1 v := by rw [e1, ev]; rfl
  have eK : mvMk P = v / 8 % 8 := by rw [ev]; rfl
  have eL : mvMl P = if v / 64 = 3 then v % 8 else -1 := by rw [ev]; rfl
  have eA : mvMa P = 16 * P1.r (mvMs v) + mvMx P1 v := by rw [r1, e1, ev]; rfl
  rw [eM, eK, eL, eA] at hQ
  obtain ⟨τ1, et1⟩ : ∃ τ1, τ1 = zsI (zsI τ0 0 81 v) 0 82 (v / 8 % 8) := ⟨_, rfl⟩
  rw [← et1]
  have h1 : HR τ1 P1 := by rw [et1]; exact h0.i81.i82
  have t81 : zI τ1 0 81 = v := by rw [et1]; rfl
  have t82 : zI τ1 0 82 = v / 8 % 8 := by rw [et1]; rfl
  have f1 : fr [78, 80, 81, 82, 83, 84] MR ρ τ1 := by rw [et1]; exact ((k0.up (by decide) (by decide)).ti (by decide)).ti (by decide)
  have t83 : zI τ1 0 83 = zI ρ 0 83 := by rw [et1]; exact k0.1 83 (by decide)
  have t84 : zI τ1 0 84 = zI ρ 0 84 := by rw [et1]; exact k0.1 84 (by decide)
  clear et1
  have f80 : ∀ (d : Int) (τ : ZS) (P' : MV), HR τ P' → P' = mvMq P1 v → fr [78, 80] MR τ1 τ → ¬ v / 64 = 3 → d = mvMd P1 v → wpX11_readForm_80 (v / 64) (v % 8) d τ Q := by
    intro d τ P' ht eP kt n3 ed
    have er : P'.r = P1.r := by rw [eP]; exact mvMq_r _ _
    have e3 : zA τ 0 75 3 = P1.r 3 := by rw [ht.2.1 3 (by decide) (by decide), er]
    have e5 : zA τ 0 75 5 = P1.r 5 := by rw [ht.2.1 5 (by decide) (by decide), er]
    have e6 : zA τ 0 75 6 = P1.r 6 := by rw [ht.2.1 6 (by decide) (by decide), er]
    have e7 : zA τ 0 75 7 = P1.r 7 := by rw [ht.2.1 7 (by decide) (by decide), er]
    have fin : ∀ (x s : Int), x = mvX4 P1 (v / 64) (v % 8) → s = mvMs v → Q (zsI (zsI τ 0 84 ((x + d) % 65536)) 0 83 s) := by
      intro x s hx hs
      have hor := mvMs_or v
      refine hQ _ (by rw [← eP]; exact ht.i84.i83) ⟨(f1.tr (kt.up (by decide) (by decide))).ti (by decide) |>.ti (by decide), Or.inr ?_, Or.inr ?_, Or.inr ?_, Or.inr ?_⟩ ⟨?_, ?_, fun q => ?_, fun _ => ⟨by rw [if_neg n3], ?_, ?_, ?_⟩⟩
      · show 0 ≤ zI τ 0 81 ∧ zI τ 0 81 ≤ 255
        rw [kt.1 81 (by decide), t81]; exact hv
      · show 0 ≤ zI τ 0 82 ∧ zI τ 0 82 ≤ 7
        rw [kt.1 82 (by decide), t82]; omega
      · show 0 ≤ s ∧ s ≤ 15
        omega
      · show 0 ≤ (x + d) % 65536 ∧ (x + d) % 65536 ≤ 65535
        omega
      · show zI τ 0 82 = v / 8 % 8
        rw [kt.1 82 (by decide), t82]
      · show 0 ≤ zI τ 0 81 ∧ zI τ 0 81 ≤ 255
        rw [kt.1 81 (by decide), t81]; exact hv
      · have q' : zI τ 0 81 / 64 = 3 := q
        rw [kt.1 81 (by decide), t81] at q'
        exact absurd q' n3
      · show s = 10 ∨ s = 11
        rw [hs]; exact hor
      · show 0 ≤ (x + d) % 65536 ∧ (x + d) % 65536 ≤ 65535
        omega
      · show 16 * P1.r (mvMs v) + mvMx P1 v = 16 * (mvMq P1 v).r s + (x + d) % 65536
        rw [mvMq_r, hs, hx, ed, mvX4_eq hv]; rfl
    have f188 : ∀ x : Int, x = mvX4 P1 (v / 64) (v % 8) → wpX11_readForm_188 (v / 64) (v % 8) d x τ Q := by
      intro x hx
      unfold wpX11_readForm_188 wpX11_readForm_221 wpX11_readForm_226 wpX11_readForm_228
      have s10 : v % 8 = 2 ∨ v % 8 = 3 ∨ (v % 8 = 6 ∧ ¬ v / 64 = 0) → (10 : Int) = mvMs v := fun q => (if_pos q).symm
      have s11 : ¬ (v % 8 = 2 ∨ v % 8 = 3 ∨ (v % 8 = 6 ∧ ¬ v / 64 = 0)) → (11 : Int) = mvMs v := fun q => (if_neg q).symm
      exact ⟨by omega, fun q => fin x 10 hx (s10 (Or.inl q)), fun q1 => ⟨fun q => fin x 10 hx (s10 (Or.inr (Or.inl q))), fun q2 => ⟨fun q => fin x 11 hx (s11 (by omega)), fun q => ⟨by omega, fun z => fin x 11 hx (s11 (by omega)), fun z => fin x 10 hx (s10 (Or.inr (Or.inr ⟨q, z⟩)))⟩⟩⟩⟩
    have f161 : ∀ x : Int, x = mvX3 P1 (v / 64) (v % 8) → wpX11_readForm_161 (v / 64) (v % 8) d x τ Q := by
      intro x hx
      have y : (v % 8 = 1 ∨ v % 8 = 3 ∨ v % 8 = 5) → wpX11_readForm_176 (v / 64) (v % 8) d x τ Q := fun q => by
        unfold wpX11_readForm_176
        exact f188 _ (by unfold mvX4; rw [if_pos q, hx, e7])
      unfold wpX11_readForm_161
      exact ⟨by omega, fun q => y (Or.inl q), fun q1 => ⟨fun q => y (Or.inr (Or.inl q)), fun q3 => ⟨fun q5 => f188 x (by unfold mvX4; rw [if_neg (by omega), hx]), fun q => y (Or.inr (Or.inr q))⟩⟩⟩
    have f135 : ∀ x : Int, x = mvX2 P1 (v / 64) (v % 8) → wpX11_readForm_135 (v / 64) (v % 8) d x τ Q := by
      intro x hx
      have y : (v % 8 = 0 ∨ v % 8 = 2 ∨ v % 8 = 4) → wpX11_readForm_149 (v / 64) (v % 8) d x τ Q := fun q => by
        unfold wpX11_readForm_149
        exact f161 _ (by unfold mvX3; rw [if_pos q, hx, e6])
      unfold wpX11_readForm_135
      exact ⟨by omega, fun q => y (Or.inl q), fun q1 => ⟨fun q => y (Or.inr (Or.inl q)), fun q3 => ⟨fun q5 => f161 x (by unfold mvX3; rw [if_neg (by omega), hx]), fun q => y (Or.inr (Or.inr q))⟩⟩⟩
    have f107 : ∀ x : Int, x = mvX1 P1 (v % 8) → wpX11_readForm_107 (v / 64) (v % 8) d x τ Q := by
      intro x hx
      have y : (v % 8 = 2 ∨ v % 8 = 3 ∨ (v % 8 = 6 ∧ ¬ v / 64 = 0)) → wpX11_readForm_127 (v / 64) (v % 8) d τ Q := fun q => by
        unfold wpX11_readForm_127
        exact f135 _ (by unfold mvX2; rw [if_pos q, e5])
      have n : ¬ (v % 8 = 2 ∨ v % 8 = 3 ∨ (v % 8 = 6 ∧ ¬ v / 64 = 0)) → wpX11_readForm_135 (v / 64) (v % 8) d x τ Q := fun q => f135 x (by unfold mvX2; rw [if_neg q, hx])
      unfold wpX11_readForm_107
      exact ⟨by omega, fun q => y (Or.inl q), fun q1 => ⟨fun q => y (Or.inr (Or.inl q)), fun q3 => ⟨fun q5 => n (by omega), fun q => ⟨by omega, fun z => n (by omega), fun z => y (Or.inr (Or.inr ⟨q, z⟩))⟩⟩⟩⟩
    have y : (v % 8 = 0 ∨ v % 8 = 1 ∨ v % 8 = 7) → wpX11_readForm_99 (v / 64) (v % 8) d τ Q := fun q => by
      unfold wpX11_readForm_99
      exact f107 _ (by unfold mvX1; rw [if_pos q, e3])
    unfold wpX11_readForm_80
    exact ⟨by omega, fun q => y (Or.inl q), fun q1 => ⟨fun q => y (Or.inr (Or.inl q)), fun q3 => ⟨fun q5 => f107 0 (by unfold mvX1; rw [if_neg (by omega)]), fun q => y (Or.inr (Or.inr q))⟩⟩⟩
  refine ⟨by omega, fun n3 => ⟨fun n0 => ⟨fun n1 => ?_, fun q1 => ?_⟩, fun e0 => ⟨fun n6 => ?_, fun e6 => ?_⟩⟩, fun e3 => ?_⟩
  · have q : (v / 64 = 0 ∧ v % 8 = 6) ∨ v / 64 = 2 := by omega
    exact y_fetchTwo h1 hp1 (fun υ hu ku => f80 _ υ _ hu (by unfold mvMq; rw [if_neg n3, if_pos q]) ku n3 (by unfold mvMd; rw [if_pos q]))
  · have q : ¬ ((v / 64 = 0 ∧ v % 8 = 6) ∨ v / 64 = 2) := by omega
    exact y_fetchSigned h1 hp1 (fun υ hu ku => f80 _ υ _ hu (by unfold mvMq; rw [if_neg n3, if_neg q, if_pos q1]) ku n3 (by unfold mvMd; rw [if_neg q, if_pos q1]))
  · have q : ¬ ((v / 64 = 0 ∧ v % 8 = 6) ∨ v / 64 = 2) := by omega
    exact f80 0 τ1 P1 h1 (by unfold mvMq; rw [if_neg n3, if_neg q, if_neg (by omega)]) fr.rf n3 (by unfold mvMd; rw [if_neg q, if_neg (by omega)])
  · have q : (v / 64 = 0 ∧ v % 8 = 6) ∨ v / 64 = 2 := Or.inl ⟨e0, e6⟩
    exact y_fetchTwo h1 hp1 (fun υ hu ku => f80 _ υ _ hu (by unfold mvMq; rw [if_neg n3, if_pos q]) ku n3 (by unfold mvMd; rw [if_pos q]))
  · refine hQ τ1 (by unfold mvMq; rw [if_pos e3]; exact h1) ⟨f1, Or.inr (by rw [t81]; exact hv), Or.inr (by rw [t82]; omega), Or.inl t83, Or.inl t84⟩ ⟨t82, by rw [t81]; exact hv, fun _ => by rw [if_pos e3, t81], fun q => ?_⟩
    rw [t81] at q
    exact absurd e3 q
/-! an operand is read, and written -/
def mvG (P : MV) (sl ad : Int) : Int := if sl < 0 then mvW P ad else P.r sl
def mvS (P : MV) (sl ad v : Int) : MV := if sl < 0 then mvP P ad v else mvR P sl (v % 65536)
theorem MVr.gg {P : MV} {N sl ad : Int} (h : MVr P N) (hs : -1 ≤ sl ∧ sl ≤ 7) : 0 ≤ mvG P sl ad ∧ mvG P sl ad ≤ 65535 := by
  unfold mvG; split
  · exact h.w _
  · exact h.g (by omega) (by omega)
theorem MVr.ss {P : MV} {N sl ad v : Int} (h : MVr P N) (hs : -1 ≤ sl ∧ sl ≤ 7) : MVr (mvS P sl ad v) N := by
  unfold mvS; split
  · exact h.p
  · exact h.s (by omega) (by omega)
theorem mvS_12 {P : MV} {sl ad v : Int} (hs : -1 ≤ sl ∧ sl ≤ 7) : (mvS P sl ad v).r 12 = P.r 12 := by
  unfold mvS; split
  · rfl
  · exact pu_ne (by omega)
theorem x_readM {σ : ZS} {P : MV} {k sl ad : Int} {Q : Int → ZS → Prop} (h : HC σ P) (hl : HLc σ k sl ad) (hs : -1 ≤ sl ∧ sl ≤ 7) (hQ : Q (mvG P sl ad) σ) : wpX4_readM σ Q := by
  obtain ⟨-, l2, l3⟩ := hl
  unfold wpX4_readM wpX4_readM_27
  unfold mvG at hQ
  rw [l2]
  refine ⟨by omega, fun q => ?_, fun q => ⟨by omega, ?_⟩⟩
  · rw [l3 q]; rw [if_pos q] at hQ; exact x_word h hQ
  · rw [if_neg q] at hQ; rw [h.2.1 sl (by omega) (by omega)]; exact hQ
theorem x_writeM {σ : ZS} {P : MV} {k sl ad v : Int} {Q : ZS → Prop} (h : HC σ P) (hl : HLc σ k sl ad) (hs : -1 ≤ sl ∧ sl ≤ 7) (hv : -2147483648 ≤ v ∧ v ≤ 2147483647) (hQ : ∀ τ : ZS, HC τ (mvS P sl ad v) → kq σ τ → Q τ) : wpX4_writeM v σ Q := by
  obtain ⟨-, l2, l3⟩ := hl
  unfold wpX4_writeM wpX4_writeM_32
  unfold mvS at hQ
  rw [l2]
  refine ⟨by omega, fun q => ?_, fun q => ⟨by omega, ?_⟩⟩
  · rw [l3 q]; rw [if_pos q] at hQ; exact x_putw h hv hQ
  · rw [if_neg q] at hQ; exact hQ _ (h.a1 (by omega)) kq.rf.a
theorem y_formGet {ρ : ZS} {P : MV} {N k sl ad : Int} {Q : Int → ZS → Prop} (h : HR ρ P) (hp : MVr P N) (hl : HLr ρ P k sl ad) (hQ : Q (mvG P sl ad) ρ) : wpX11_formGet ρ Q := by
  obtain ⟨-, l2, l3, l4⟩ := hl
  unfold wpX11_formGet wpX11_formGet_43
  unfold mvG at hQ
  refine ⟨by omega, fun q => ?_, fun q => ?_⟩
  · obtain ⟨g1, g2, g3, g4⟩ := l4 q
    rw [if_pos (by omega), g4] at hQ
    refine ⟨by omega, ?_⟩
    rw [h.2.1 (zI ρ 0 83) (by omega) (by omega)]
    exact y_get h hp g3 hQ
  · have e := l3 q
    rw [if_neg (by omega), e] at hQ
    rw [h.2.1 (zI ρ 0 81 % 8) (by omega) (by omega)]; exact hQ
theorem y_formSet {ρ : ZS} {P : MV} {k sl ad v : Int} {Q : ZS → Prop} (h : HR ρ P) (hl : HLr ρ P k sl ad) (hv : -2147483648 ≤ v ∧ v ≤ 2147483647) (hQ : ∀ τ : ZS, HR τ (mvS P sl ad v) → fr [78, 80] MR ρ τ → Q τ) : wpX11_formSet v ρ Q := by
  obtain ⟨-, l2, l3, l4⟩ := hl
  unfold wpX11_formSet wpX11_formSet_49
  unfold mvS at hQ
  refine ⟨by omega, fun q => ?_, fun q => ?_⟩
  · obtain ⟨g1, g2, g3, g4⟩ := l4 q
    rw [if_pos (by omega), g4] at hQ
    refine ⟨by omega, ?_⟩
    rw [h.2.1 (zI ρ 0 83) (by omega) (by omega)]
    exact y_store h g3 hv hQ
  · have e := l3 q
    rw [if_neg (by omega), e] at hQ
    exact hQ _ h.a75 (fr.a (by decide))
/-! M: reckoning -/
theorem mvR_ne {P : MV} {i v j : Int} (h : j ≠ i) : (mvR P i v).r j = P.r j := pu_ne h
theorem cd_1 : (0 : Int) ≤ 1 ∧ (1 : Int) ≤ 3 := by decide
theorem cd_2 : (0 : Int) ≤ 2 ∧ (2 : Int) ≤ 3 := by decide
theorem cd_3 : (0 : Int) ≤ 3 ∧ (3 : Int) ≤ 3 := by decide
def mvJ (P : MV) (v : Int) : MV := mvR (mvR P 14 (if v = 0 then 1 else 0)) 15 (v / 32768)
def mvAv (n a b : Int) : Int := if n = 0 then a + b else if n = 1 then zor a b else if n = 4 then zand a b else if n = 6 then zxor a b else a - b
def mvAl (P : MV) (v : Int) : MV := mvJ (mvR P 13 (v / 65536 % 2)) (v % 65536)
theorem MVr.j {P : MV} {N v : Int} (h : MVr P N) (hv : 0 ≤ v ∧ v ≤ 65535) : MVr (mvJ P v) N := (h.f (by decide) (by split <;> decide)).f (by decide) (by omega)
theorem MVr.al {P : MV} {N v : Int} (h : MVr P N) : MVr (mvAl P v) N := (h.f (i := 13) (by decide) (by omega)).j (by omega)
theorem mvJ_r {P : MV} {v i : Int} (hi : i < 13) : (mvJ P v).r i = P.r i := by
  show zu (zu P.r 14 (if v = 0 then 1 else 0)) 15 (v / 32768) i = P.r i
  rw [pu_ne (by omega), pu_ne (by omega)]
theorem mvAl_r {P : MV} {v i : Int} (hi : i < 13) : (mvAl P v).r i = P.r i := by
  unfold mvAl
  rw [mvJ_r hi]
  show zu P.r 13 (v / 65536 % 2) i = P.r i
  rw [pu_ne (by omega)]
theorem mvAv_bd {n a b : Int} (ha : 0 ≤ a ∧ a ≤ 65535) (hb : 0 ≤ b ∧ b ≤ 65535) : -2147483648 ≤ mvAv n a b ∧ mvAv n a b ≤ 2147483647 := by
  unfold mvAv; split
  · omega
  · split
    · exact zor_bd _ _
    · split
      · exact zand_bd _ _
      · split
        · exact zxor_bd _ _
        · omega
theorem x_mjudge {σ : ZS} {P : MV} {v : Int} {Q : ZS → Prop} (h : HC σ P) (hv : 0 ≤ v ∧ v ≤ 65535) (hQ : ∀ τ : ZS, HC τ (mvJ P v) → kq σ τ → Q τ) : wpX4_judge v σ Q := by
  unfold wpX4_judge wpX4_judge_10
  unfold mvJ at hQ
  refine ⟨by omega, fun q => ⟨by omega, ?_⟩, fun q => ⟨by omega, ?_⟩⟩
  · rw [if_neg q] at hQ; exact hQ _ h.i5.i6 kq.rf.i5.i6
  · rw [if_pos q] at hQ; exact hQ _ h.i5.i6 kq.rf.i5.i6
theorem y_flags {ρ : ZS} {P : MV} {v : Int} {Q : ZS → Prop} (h : HR ρ P) (hv : -2147483648 ≤ v ∧ v ≤ 2147483647) (hQ : ∀ τ : ZS, HR τ (mvJ P (v % 65536)) → fr [78, 80] MR ρ τ → Q τ) : wpX11_flags v ρ Q := by
  have e : v / 32768 % 2 = v % 65536 / 32768 := by omega
  unfold wpX11_flags wpX11_flags_19
  unfold mvJ at hQ
  rw [e]
  refine ⟨fun q => ⟨by decide, hv, ?_⟩, fun q => ⟨by decide, hv, ?_⟩⟩
  · rw [if_neg q] at hQ; exact hQ _ h.a75.a75 ((fr.rf.ta (by decide)).ta (by decide))
  · rw [if_pos q] at hQ; exact hQ _ h.a75.a75 ((fr.rf.ta (by decide)).ta (by decide))
theorem x_alu {σ : ZS} {P : MV} {n a b : Int} {Q : Int → ZS → Prop} (h : HC σ P) (hn : -2147483648 ≤ n ∧ n ≤ 2147483647) (ha : 0 ≤ a ∧ a ≤ 65535) (hb : 0 ≤ b ∧ b ≤ 65535) (hQ : ∀ τ : ZS, HC τ (mvAl P (mvAv n a b)) → kq σ τ → Q (mvAv n a b % 65536) τ) : wpX4_arithmetic n a b σ Q := by
  have f81 : ∀ v : Int, mvAv n a b = v → wpX4_arithmetic_81 v σ Q := by
    intro v e
    rw [← e]
    unfold wpX4_arithmetic_81
    exact ⟨mvAv_bd ha hb, x_mjudge h.i4 (by omega) (fun τ ht kt => hQ τ ht (kq.rf.i4.tr kt))⟩
  unfold wpX4_arithmetic wpX4_arithmetic_76
  exact ⟨hn, fun q => f81 _ (if_pos q), fun q0 => ⟨fun q => f81 _ (by unfold mvAv; rw [if_neg q0, if_pos q]), fun q1 => ⟨fun q => f81 _ (by unfold mvAv; rw [if_neg q0, if_neg q1, if_neg (by omega), if_neg (by omega)]), fun q2 => ⟨fun q => f81 _ (by unfold mvAv; rw [if_neg q0, if_neg q1, if_neg (by omega), if_neg (by omega)]), fun q3 => ⟨fun q => f81 _ (by unfold mvAv; rw [if_neg q0, if_neg q1, if_pos q]), fun q4 => ⟨fun q => f81 _ (by unfold mvAv; rw [if_neg q0, if_neg q1, if_neg q4, if_neg (by omega)]), fun q5 => ⟨fun q => f81 _ (by unfold mvAv; rw [if_neg q0, if_neg q1, if_neg q4, if_pos q]), fun q6 => f81 _ (by unfold mvAv; rw [if_neg q0, if_neg q1, if_neg q4, if_neg q6])⟩⟩⟩⟩⟩⟩⟩
theorem y_alu {ρ : ZS} {P : MV} {n a b : Int} {Q : Int → ZS → Prop} (h : HR ρ P) (hn : -2147483648 ≤ n ∧ n ≤ 2147483647) (ha : 0 ≤ a ∧ a ≤ 65535) (hb : 0 ≤ b ∧ b ≤ 65535) (hQ : ∀ τ : ZS, HR τ (mvAl P (mvAv n a b)) → fr [78, 80] MR ρ τ → Q (mvAv n a b % 65536) τ) : wpX11_reckoned n a b ρ Q := by
  have f81 : ∀ v : Int, mvAv n a b = v → wpX11_reckoned_81 v ρ Q := by
    intro v e
    rw [← e]
    unfold wpX11_reckoned_81
    exact ⟨mvAv_bd ha hb, y_flags h.a75 (mvAv_bd ha hb) (fun τ ht kt => hQ τ ht ((fr.a (by decide)).tr kt))⟩
  unfold wpX11_reckoned wpX11_reckoned_76
  exact ⟨hn, fun q => f81 _ (if_pos q), fun q0 => ⟨fun q => f81 _ (by unfold mvAv; rw [if_neg q0, if_pos q]), fun q1 => ⟨fun q => f81 _ (by unfold mvAv; rw [if_neg q0, if_neg q1, if_neg (by omega), if_neg (by omega)]), fun q2 => ⟨fun q => f81 _ (by unfold mvAv; rw [if_neg q0, if_neg q1, if_neg (by omega), if_neg (by omega)]), fun q3 => ⟨fun q => f81 _ (by unfold mvAv; rw [if_neg q0, if_neg q1, if_pos q]), fun q4 => ⟨fun q => f81 _ (by unfold mvAv; rw [if_neg q0, if_neg q1, if_neg q4, if_neg (by omega)]), fun q5 => ⟨fun q => f81 _ (by unfold mvAv; rw [if_neg q0, if_neg q1, if_neg q4, if_pos q]), fun q6 => f81 _ (by unfold mvAv; rw [if_neg q0, if_neg q1, if_neg q4, if_neg q6])⟩⟩⟩⟩⟩⟩⟩
/-- on an operand -/
def mvOn (P : MV) (sl ad n b : Int) : MV := if n = 7 then mvAl P (mvAv n (mvG P sl ad) b) else mvS (mvAl P (mvAv n (mvG P sl ad) b)) sl ad (mvAv n (mvG P sl ad) b % 65536)
theorem MVr.on {P : MV} {N sl ad n b : Int} (h : MVr P N) (hs : -1 ≤ sl ∧ sl ≤ 7) : MVr (mvOn P sl ad n b) N := by
  unfold mvOn; split
  · exact h.al
  · exact h.al.ss hs
theorem mvOn_12 {P : MV} {sl ad n b : Int} (hs : -1 ≤ sl ∧ sl ≤ 7) : (mvOn P sl ad n b).r 12 = P.r 12 := by
  unfold mvOn; split
  · exact mvAl_r (by decide)
  · rw [mvS_12 hs]; exact mvAl_r (by decide)
theorem x_onM {σ : ZS} {P : MV} {N k sl ad n b : Int} {Q : ZS → Prop} (h : HC σ P) (hp : MVr P N) (hl : HLc σ k sl ad) (hs : -1 ≤ sl ∧ sl ≤ 7) (hn : -2147483648 ≤ n ∧ n ≤ 2147483647) (hb : 0 ≤ b ∧ b ≤ 65535) (hQ : ∀ τ : ZS, HC τ (mvOn P sl ad n b) → kq σ τ → Q τ) : wpX4_arithmeticOnM n b σ Q := by
  unfold wpX4_arithmeticOnM wpX4_arithmeticOnM_22
  unfold mvOn at hQ
  refine x_readM h hl hs (x_alu h hn (hp.gg hs) hb (fun τ ht kt => ⟨hn, fun q => ?_, fun q => ?_⟩))
  · rw [if_pos q] at hQ; exact hQ τ ht kt
  · rw [if_neg q] at hQ; exact x_writeM ht (hl.k kt) hs (by omega) (fun υ hu ku => hQ υ hu (kt.tr ku))
/-- the reference's words for how a step ends -/
def rcW (c : Int) : Int := if c = 3 then 0 else if c = 0 then 3 else c
theorem mvP_mod {P : MV} {a v : Int} : mvP P a (v % 65536) = mvP P a v := by
  unfold mvP
  rw [show v % 65536 % 256 = v % 256 by omega, show v % 65536 / 256 % 256 = v / 256 % 256 by omega]
theorem mvS_mod {P : MV} {sl ad v : Int} : mvS P sl ad (v % 65536) = mvS P sl ad v := by
  unfold mvS
  rw [mvP_mod, show v % 65536 % 65536 = v % 65536 by omega]
/-! shifts -/
def mvSh (P : MV) (sl ad k : Int) : MV × Int := if k = 4 then (mvS (mvJ (mvR P 13 (mvG P sl ad / 32768)) (mvG P sl ad * 2 % 65536)) sl ad (mvG P sl ad * 2 % 65536), 3) else if k = 5 then (mvS (mvJ (mvR P 13 (mvG P sl ad % 2)) (mvG P sl ad / 2)) sl ad (mvG P sl ad / 2), 3) else (P, 2)
theorem x_shift {σ : ZS} {P : MV} {N k sl ad : Int} {Q : Int → ZS → Prop} (h : HC σ P) (hp : MVr P N) (hl : HLc σ k sl ad) (hk : 0 ≤ k ∧ k ≤ 7) (hs : -1 ≤ sl ∧ sl ≤ 7) (hQ : ∀ τ : ZS, HC τ (mvSh P sl ad k).1 → kq σ τ → Q (mvSh P sl ad k).2 τ) : wpX4_shift σ Q := by
  have hx := hp.gg (ad := ad) hs
  have f55 : ∀ (v : Int) (τ : ZS) (P' : MV), HC τ P' → kq σ τ → (0 ≤ v ∧ v ≤ 65535) → (∀ υ : ZS, HC υ (mvS (mvJ P' v) sl ad v) → kq σ υ → Q 3 υ) → wpX4_shift_55 v τ Q := by
    intro v τ P' ht kt hv hq
    unfold wpX4_shift_55
    exact x_mjudge ht hv (fun υ hu ku => x_writeM hu (hl.k (kt.tr ku)) hs (by omega) (fun ω hw kw => hq ω hw ((kt.tr ku).tr kw)))
  unfold wpX4_shift
  refine x_readM h hl hs ?_
  rw [hl.1]
  refine ⟨by omega, fun n4 => ⟨fun n5 => ?_, fun e5 => ⟨by omega, ?_⟩⟩, fun e4 => ⟨by omega, ?_⟩⟩
  · have e : mvSh P sl ad k = (P, 2) := by unfold mvSh; rw [if_neg n4, if_neg n5]
    rw [e] at hQ; exact hQ σ h kq.rf
  · have e : mvSh P sl ad k = (mvS (mvJ (mvR P 13 (mvG P sl ad % 2)) (mvG P sl ad / 2)) sl ad (mvG P sl ad / 2), 3) := by unfold mvSh; rw [if_neg n4, if_pos e5]
    rw [e] at hQ; exact f55 _ _ _ h.i4 kq.rf.i4 (by omega) hQ
  · have e : mvSh P sl ad k = (mvS (mvJ (mvR P 13 (mvG P sl ad / 32768)) (mvG P sl ad * 2 % 65536)) sl ad (mvG P sl ad * 2 % 65536), 3) := by unfold mvSh; rw [if_pos e4]
    rw [e] at hQ; exact f55 _ _ _ h.i4 kq.rf.i4 (by omega) hQ
theorem y_shift {ρ : ZS} {P : MV} {N k sl ad : Int} {Q : Int → ZS → Prop} (h : HR ρ P) (hp : MVr P N) (hl : HLr ρ P k sl ad) (hk : 0 ≤ k ∧ k ≤ 7) (hs : -1 ≤ sl ∧ sl ≤ 7) (hQ : ∀ τ : ZS, HR τ (mvSh P sl ad k).1 → fr [78, 80] MR ρ τ → Q (rcW (mvSh P sl ad k).2) τ) : wpX11_shift ρ Q := by
  have hx := hp.gg (ad := ad) hs
  have f65 : ∀ v b : Int, (0 ≤ v ∧ v ≤ 200000) → (∀ υ : ZS, HR υ (mvS (mvJ (mvR P 13 b) (v % 65536)) sl ad (v % 65536)) → fr [78, 80] MR ρ υ → Q 0 υ) → wpX11_shift_65 v b 13 ρ Q := by
    intro v b hv hq
    unfold wpX11_shift_65
    refine ⟨by decide, y_flags h.a75 (by omega) (fun τ ht kt => y_formSet ht (hl.k ((fr.a (by decide)).tr kt) ?_ ?_) (by omega) (fun υ hu ku => hq υ (by rw [mvS_mod]; exact hu) (((fr.a (by decide)).tr kt).tr ku)))⟩
    · rw [mvJ_r (by decide)]; exact mvR_ne (by decide)
    · rw [mvJ_r (by decide)]; exact mvR_ne (by decide)
  have f18 : k = 4 ∨ k = 5 → wpX11_shift_18 ρ Q := by
    intro hk45
    unfold wpX11_shift_18 wpX11_shift_40
    refine y_formGet h hp hl ?_
    rw [hl.1]
    refine ⟨by omega, fun n4 => ⟨by omega, by omega, fun _ => f65 _ _ (by omega) ?_, fun e4 => absurd e4 n4⟩, fun e4 => ⟨by omega, fun n4 => absurd e4 n4, fun _ => ⟨by omega, f65 _ _ (by omega) ?_⟩⟩⟩
    · have e : mvSh P sl ad k = (mvS (mvJ (mvR P 13 (mvG P sl ad % 2)) (mvG P sl ad / 2)) sl ad (mvG P sl ad / 2), 3) := by unfold mvSh; rw [if_neg n4, if_pos (by omega)]
      rw [e] at hQ
      rw [show mvG P sl ad / 2 % 65536 = mvG P sl ad / 2 by omega]
      exact hQ
    · have e : mvSh P sl ad k = (mvS (mvJ (mvR P 13 (mvG P sl ad / 32768)) (mvG P sl ad * 2 % 65536)) sl ad (mvG P sl ad * 2 % 65536), 3) := by unfold mvSh; rw [if_pos e4]
      rw [e] at hQ; exact hQ
  unfold wpX11_shift
  rw [hl.1]
  refine ⟨by omega, fun q => f18 (Or.inl q), fun n4 => ⟨fun q => f18 (Or.inr q), fun n5 => ?_⟩⟩
  have e : mvSh P sl ad k = (P, 2) := by unfold mvSh; rw [if_neg n4, if_neg n5]
  rw [e] at hQ; exact hQ ρ h fr.rf
theorem mvSh_ok {P : MV} {N sl ad k : Int} (hp : MVr P N) (hs : -1 ≤ sl ∧ sl ≤ 7) : MVr (mvSh P sl ad k).1 N ∧ (mvSh P sl ad k).1.r 12 = P.r 12 ∧ (0 ≤ (mvSh P sl ad k).2 ∧ (mvSh P sl ad k).2 ≤ 3) := by
  have hx := hp.gg (ad := ad) hs
  unfold mvSh
  split
  · refine ⟨((hp.f (by decide) (by omega)).j (by omega)).ss hs, ?_, cd_3⟩
    show (mvS _ sl ad _).r 12 = _
    rw [mvS_12 hs, mvJ_r (by decide)]; exact mvR_ne (by decide)
  · split
    · refine ⟨((hp.f (by decide) (by omega)).j (by omega)).ss hs, ?_, cd_3⟩
      show (mvS _ sl ad _).r 12 = _
      rw [mvS_12 hs, mvJ_r (by decide)]; exact mvR_ne (by decide)
    · exact ⟨hp, rfl, cd_2⟩
/-! neg, mul, div -/
def mvDv (P : MV) : Int := 65536 * P.r 2 + P.r 0
def mvMu (P : MV) (x : Int) : MV := mvR (mvR (mvR P 0 (P.r 0 * x % 65536)) 2 (zlshr (P.r 0 * x) 16 % 65536)) 13 (if zlshr (P.r 0 * x) 16 % 65536 = 0 then 0 else 1)
def mvDi (P : MV) (x : Int) : MV × Int := if x = 0 then (P, 1) else if mvDv P / x ≤ 65535 then (mvR (mvR P 0 (mvDv P / x)) 2 (mvDv P % x), 3) else (P, 1)
def mvGr (P : MV) (sl ad k : Int) : MV × Int := if k = 3 then (mvS (mvAl P (0 - mvG P sl ad)) sl ad ((0 - mvG P sl ad) % 65536), 3) else if k = 4 then (mvMu P (mvG P sl ad), 3) else if k = 6 then mvDi P (mvG P sl ad) else (P, 2)
theorem mvDv_bd {P : MV} {N x : Int} (hp : MVr P N) (hx : 0 ≤ x ∧ x ≤ 65535) (n0 : ¬ x = 0) : (0 ≤ mvDv P ∧ mvDv P ≤ 4294967295) ∧ (0 ≤ mvDv P / x ∧ mvDv P / x ≤ 4294967295) ∧ (0 ≤ mvDv P % x ∧ mvDv P % x ≤ 65535) := by
  have r2 := hp.g (i := 2) (by decide) (by decide)
  have r0 := hp.g (i := 0) (by decide) (by decide)
  have b : 0 ≤ mvDv P ∧ mvDv P ≤ 4294967295 := by unfold mvDv; omega
  have d0 : 0 ≤ mvDv P / x := Int.ediv_nonneg b.1 hx.1
  have d1 : mvDv P / x ≤ mvDv P := Int.ediv_le_self _ b.1
  have m0 : 0 ≤ mvDv P % x := Int.emod_nonneg _ n0
  have m1 : mvDv P % x < x := Int.emod_lt_of_pos _ (by omega)
  exact ⟨b, by omega, by omega⟩
theorem x_divide {σ : ZS} {P : MV} {N x : Int} {Q : Int → ZS → Prop} (h : HC σ P) (hp : MVr P N) (hx : 0 ≤ x ∧ x ≤ 65535) (hQ : ∀ τ : ZS, HC τ (mvDi P x).1 → kq σ τ → Q (mvDi P x).2 τ) : wpX4_divide x σ Q := by
  have r2 := hp.g (i := 2) (by decide) (by decide)
  have r0 := hp.g (i := 0) (by decide) (by decide)
  have e2 : zA σ 18 1 2 = P.r 2 := h.2.1 2 (by decide) (by decide)
  have e0 : zA σ 18 1 0 = P.r 0 := h.2.1 0 (by decide) (by decide)
  unfold wpX4_divide wpX4_divide_35
  rw [e2, e0]
  unfold mvDi at hQ
  refine ⟨by omega, by omega, by omega, fun z => ?_, fun n0 => ?_⟩
  · rw [if_pos z] at hQ; exact hQ σ h kq.rf
  · rw [if_neg n0] at hQ
    obtain ⟨b1, b2, b3⟩ := mvDv_bd hp hx n0
    have eD : 65536 * P.r 2 + P.r 0 = mvDv P := rfl
    rw [eD]
    refine ⟨by omega, by omega, by omega, fun q => ?_, fun q => ?_⟩
    · rw [if_pos q] at hQ; exact hQ _ ((h.a1 (by decide)).a1 (by decide)) kq.rf.a.a
    · rw [if_neg q] at hQ; exact hQ σ h kq.rf
theorem x_msingle {σ : ZS} {P : MV} {N k sl ad : Int} {Q : Int → ZS → Prop} (h : HC σ P) (hp : MVr P N) (hl : HLc σ k sl ad) (hk : 0 ≤ k ∧ k ≤ 7) (hs : -1 ≤ sl ∧ sl ≤ 7) (hQ : ∀ τ : ZS, HC τ (mvGr P sl ad k).1 → kq σ τ → Q (mvGr P sl ad k).2 τ) : wpX4_single σ Q := by
  have hx := hp.gg (ad := ad) hs
  have r0 := hp.g (i := 0) (by decide) (by decide)
  have e0 : zA σ 18 1 0 = P.r 0 := h.2.1 0 (by decide) (by decide)
  unfold wpX4_single wpX4_single_106 wpX4_single_120
  rw [hl.1, e0]
  have und : ¬ k = 3 → ¬ k = 4 → ¬ k = 6 → Q 2 σ := by
    intro a b c
    have e : mvGr P sl ad k = (P, 2) := by unfold mvGr; rw [if_neg a, if_neg b, if_neg c]
    rw [e] at hQ; exact hQ σ h kq.rf
  refine ⟨by omega, fun q3 => x_readM h hl hs (x_alu h (by decide) (by decide) hx (fun τ ht kt => x_writeM ht (hl.k kt) hs (by omega) (fun υ hu ku => ?_))), fun n3 => ⟨fun q4 => ⟨by omega, x_readM h hl hs ⟨by omega, ?_⟩⟩, fun n4 => ⟨fun q5 => und n3 n4 (by omega), fun n5 => ⟨fun q6 => x_readM h hl hs (x_divide h hp hx ?_), fun n6 => und n3 n4 n6⟩⟩⟩⟩
  · have e : mvGr P sl ad k = (mvS (mvAl P (0 - mvG P sl ad)) sl ad ((0 - mvG P sl ad) % 65536), 3) := by unfold mvGr; rw [if_pos q3]
    have ea : mvAv 5 0 (mvG P sl ad) = 0 - mvG P sl ad := by unfold mvAv; rw [if_neg (by decide), if_neg (by decide), if_neg (by decide), if_neg (by decide)]
    rw [e] at hQ
    rw [ea] at hu
    exact hQ υ hu (kt.tr ku)
  · have e : mvGr P sl ad k = (mvMu P (mvG P sl ad), 3) := by unfold mvGr; rw [if_neg n3, if_pos q4]
    rw [e] at hQ
    have ez : zA (zsA (zsA σ 18 1 0 (P.r 0 * mvG P sl ad % 65536)) 18 1 2 (zlshr (P.r 0 * mvG P sl ad) 16 % 65536)) 18 1 2 = zlshr (P.r 0 * mvG P sl ad) 16 % 65536 := by
      show zu (zA (zsA σ 18 1 0 (P.r 0 * mvG P sl ad % 65536)) 18 1) 2 (zlshr (P.r 0 * mvG P sl ad) 16 % 65536) 2 = _
      rw [pu_eq]
    rw [ez]
    unfold mvMu at hQ
    refine ⟨by omega, fun z => ?_, fun z => ?_⟩
    · rw [if_pos z] at hQ; exact hQ _ ((h.a1 (by decide)).a1 (by decide)).i4 kq.rf.a.a.i4
    · rw [if_neg z] at hQ; exact hQ _ ((h.a1 (by decide)).a1 (by decide)).i4 kq.rf.a.a.i4
  · have e : mvGr P sl ad k = mvDi P (mvG P sl ad) := by unfold mvGr; rw [if_neg n3, if_neg n4, if_pos q6]
    rw [e] at hQ; exact hQ
theorem y_group {ρ : ZS} {P : MV} {N k sl ad : Int} {Q : Int → ZS → Prop} (h : HR ρ P) (hp : MVr P N) (hl : HLr ρ P k sl ad) (hk : 0 ≤ k ∧ k ≤ 7) (hs : -1 ≤ sl ∧ sl ≤ 7) (hQ : ∀ τ : ZS, HR τ (mvGr P sl ad k).1 → fr [78, 80] MR ρ τ → Q (rcW (mvGr P sl ad k).2) τ) : wpX11_group ρ Q := by
  have hx := hp.gg (ad := ad) hs
  have r0 := hp.g (i := 0) (by decide) (by decide)
  have r2 := hp.g (i := 2) (by decide) (by decide)
  have e0 : zA ρ 0 75 0 = P.r 0 := h.2.1 0 (by decide) (by decide)
  have e2 : zA ρ 0 75 2 = P.r 2 := h.2.1 2 (by decide) (by decide)
  unfold wpX11_group wpX11_group_157
  refine y_formGet h hp hl ?_
  rw [hl.1, e0, e2]
  refine ⟨by omega, fun n3 => ⟨fun n4 => ⟨fun q6 => ⟨by omega, by omega, by omega, ?_⟩, fun n6 => ?_⟩, fun q4 => ⟨by omega, by omega, ?_⟩⟩, fun q3 => ⟨by omega, ?_⟩⟩
  · have e : mvGr P sl ad k = mvDi P (mvG P sl ad) := by unfold mvGr; rw [if_neg n3, if_neg n4, if_pos q6]
    rw [e] at hQ
    unfold mvDi at hQ
    refine ⟨fun z => ?_, fun n0 => ?_⟩
    · rw [if_pos z] at hQ; exact hQ ρ h fr.rf
    · rw [if_neg n0] at hQ
      obtain ⟨b1, b2, b3⟩ := mvDv_bd hp hx n0
      have eD : zlor (P.r 2 * 65536) (P.r 0) = mvDv P := by rw [zlor_wide r2 r0, Int.mul_comm]; rfl
      rw [eD]
      refine ⟨by omega, by omega, by omega, fun q => ?_, fun q => ?_⟩
      · rw [if_pos q] at hQ; exact hQ _ h.a75.a75 ((fr.rf.ta (by decide)).ta (by decide))
      · rw [if_neg q] at hQ; exact hQ ρ h fr.rf
  · have e : mvGr P sl ad k = (P, 2) := by unfold mvGr; rw [if_neg n3, if_neg n4, if_neg n6]
    rw [e] at hQ; exact hQ ρ h fr.rf
  · have e : mvGr P sl ad k = (mvMu P (mvG P sl ad), 3) := by unfold mvGr; rw [if_neg n3, if_pos q4]
    rw [e] at hQ
    have ez : zA (zsA (zsA ρ 0 75 0 (P.r 0 * mvG P sl ad % 65536)) 0 75 2 (zlshr (P.r 0 * mvG P sl ad) 16 % 65536)) 0 75 2 = zlshr (P.r 0 * mvG P sl ad) 16 % 65536 := by
      show zu (zA (zsA ρ 0 75 0 (P.r 0 * mvG P sl ad % 65536)) 0 75) 2 (zlshr (P.r 0 * mvG P sl ad) 16 % 65536) 2 = _
      rw [pu_eq]
    rw [ez]
    unfold mvMu at hQ
    unfold wpX11_group_109
    refine ⟨by omega, fun z => ⟨by decide, ?_⟩, fun z => ⟨by decide, ?_⟩⟩
    · rw [if_pos z] at hQ; exact hQ _ h.a75.a75.a75 (((fr.rf.ta (by decide)).ta (by decide)).ta (by decide))
    · rw [if_neg z] at hQ; exact hQ _ h.a75.a75.a75 (((fr.rf.ta (by decide)).ta (by decide)).ta (by decide))
  · have e : mvGr P sl ad k = (mvS (mvAl P (0 - mvG P sl ad)) sl ad ((0 - mvG P sl ad) % 65536), 3) := by unfold mvGr; rw [if_pos q3]
    rw [e] at hQ
    have f28 : ∀ b : Int, b = (0 - mvG P sl ad) / 65536 % 2 → wpX11_group_28 (mvG P sl ad) b 13 ρ Q := by
      intro b eb
      unfold wpX11_group_28
      refine ⟨by decide, y_flags h.a75 (by omega) (fun τ ht kt => y_formSet ht (hl.k ((fr.a (by decide)).tr kt) ?_ ?_) (by omega) (fun υ hu ku => hQ υ ?_ (((fr.a (by decide)).tr kt).tr ku)))⟩
      · rw [mvJ_r (by decide)]; exact mvR_ne (by decide)
      · rw [mvJ_r (by decide)]; exact mvR_ne (by decide)
      · rw [mvS_mod]
        unfold mvAl
        rw [← eb, show (0 : Int) - mvG P sl ad = -mvG P sl ad by omega]
        exact hu
    exact ⟨fun z => f28 0 (by omega), fun z => f28 1 (by omega)⟩
theorem mvGr_ok {P : MV} {N sl ad k : Int} (hp : MVr P N) (hs : -1 ≤ sl ∧ sl ≤ 7) : MVr (mvGr P sl ad k).1 N ∧ (mvGr P sl ad k).1.r 12 = P.r 12 ∧ (0 ≤ (mvGr P sl ad k).2 ∧ (mvGr P sl ad k).2 ≤ 3) := by
  have hx := hp.gg (ad := ad) hs
  unfold mvGr
  split
  · refine ⟨hp.al.ss hs, ?_, cd_3⟩
    show (mvS _ sl ad _).r 12 = _
    rw [mvS_12 hs]; exact mvAl_r (by decide)
  · split
    · refine ⟨((hp.s (by decide) (by omega)).s (by decide) (by omega)).f (by decide) (by split <;> decide), ?_, cd_3⟩
      exact (mvR_ne (P := mvR (mvR P 0 _) 2 _) (by decide)).trans ((mvR_ne (P := mvR P 0 _) (by decide)).trans (mvR_ne (by decide)))
    · split
      · unfold mvDi
        split
        · exact ⟨hp, rfl, cd_1⟩
        · rename_i n0
          obtain ⟨b1, b2, b3⟩ := mvDv_bd hp hx n0
          split
          · rename_i q
            refine ⟨(hp.s (by decide) ⟨b2.1, q⟩).s (by decide) b3, ?_, cd_3⟩
            exact (mvR_ne (P := mvR P 0 _) (by decide)).trans (mvR_ne (by decide))
          · exact ⟨hp, rfl, cd_1⟩
      · exact ⟨hp, rfl, cd_2⟩
/-! M: one instruction -/
theorem zor_told {b c : Int} (hb : 0 ≤ b ∧ b < 65536) (hc : 0 ≤ c ∧ c < 256) : zor (c * 65536) b = 65536 * c + b := by
  unfold zor
  have e1 : Int32.ofInt (c * 65536) = Int32.ofNat (c.toNat * 65536) := by
    apply Int32.toInt_inj.mp
    rw [z_ti (by omega), Int32.toInt_ofNat_of_lt (by omega)]
    omega
  have e2 : Int32.ofInt b = Int32.ofNat b.toNat := by
    apply Int32.toInt_inj.mp
    rw [z_ti (by omega), Int32.toInt_ofNat_of_lt (by omega)]
    omega
  have e3 : Int32.ofNat (c.toNat * 65536) ||| Int32.ofNat b.toNat = Int32.ofNat (c.toNat * 65536 + b.toNat) := by
    apply Int32.toBitVec_inj.mp
    apply BitVec.eq_of_toNat_eq
    rw [Int32.toBitVec_or, BitVec.toNat_or]
    show (BitVec.ofNat 32 _).toNat ||| (BitVec.ofNat 32 _).toNat = (BitVec.ofNat 32 _).toNat
    rw [BitVec.toNat_ofNat, BitVec.toNat_ofNat, BitVec.toNat_ofNat, Nat.mod_eq_of_lt (by omega), Nat.mod_eq_of_lt (by omega), Nat.mod_eq_of_lt (by omega)]
    have := Nat.shiftLeft_add_eq_or_of_lt (b := b.toNat) (i := 16) (by omega) c.toNat
    rw [Nat.shiftLeft_eq] at this
    exact this.symm
  rw [e1, e2, e3, Int32.toInt_ofNat_of_lt (by omega)]
  omega
/-- a step of the reference behind its first byte -/
def Bd (op : Int) (ρ : ZS) (Q : Int → ZS → Prop) : Prop := wpX11_hasForm op ρ (fun (x28 : Int) (σ29 : ZS) => (-2147483648 ≤ x28 ∧ x28 ≤ 2147483647) ∧ (x28 = 0 → (-2147483648 ≤ op ∧ op ≤ 2147483647) ∧ (op < 64 → wpX11_step_44 op σ29 Q) ∧ (¬ op < 64 → (op < 96 → wpX11_step_58 op σ29 Q) ∧ (¬ op < 96 → wpX11_step_44 op σ29 Q))) ∧ (¬ x28 = 0 → wpX11_formed op σ29 (fun (x35 : Int) (σ36 : ZS) => wpX11_step_151 x35 σ36 Q)))
/-- an instruction does the same on both sides -/
def BX (op : Int) (P : MV) (N : Int) : Prop := ∃ (P' : MV) (c : Int), (0 ≤ c ∧ c ≤ 3) ∧ MVr P' (N + 1) ∧ P'.r 12 = P.r 12 ∧ (∀ (σ : ZS) (Q : Int → ZS → Prop), HC σ P → (∀ τ : ZS, HC τ P' → kr σ τ → Q c τ) → wpX4_execute op σ Q) ∧ (∀ (ρ : ZS) (Q : Int → ZS → Prop), HR ρ P → (∀ τ : ZS, HR τ P' → fs4 ρ τ → wpX11_step_151 (rcW c) τ Q) → Bd op ρ Q)
def hF (op : Int) : Prop := (op < 64 ∧ (op % 8 = 1 ∨ op % 8 = 3) ∧ ¬ op / 8 = 2 ∧ ¬ op / 8 = 3) ∨ op = 129 ∨ op = 137 ∨ op = 139 ∨ op = 140 ∨ op = 142 ∨ op = 199 ∨ op = 209 ∨ op = 247
theorem y_operation {n : Int} {ρ : ZS} {Q : Int → ZS → Prop} (hn : 0 ≤ n ∧ n ≤ 7) (h1 : ¬ n = 2 → ¬ n = 3 → Q 1 ρ) (h0 : n = 2 ∨ n = 3 → Q 0 ρ) : wpX11_operation n ρ Q := by
  unfold wpX11_operation wpX11_operation_20 wpX11_operation_24 wpX11_operation_25
  exact ⟨by omega, fun q => ⟨by decide, h1 (by omega) (by omega)⟩, fun q0 => ⟨fun q => ⟨by decide, h1 (by omega) (by omega)⟩, fun q1 => ⟨fun q => ⟨by decide, h0 (by omega)⟩, fun q2 => ⟨fun q => absurd q (by omega), fun q => ⟨by decide, h1 (by omega) (by omega)⟩⟩⟩⟩⟩
theorem x_isArithmetic {n : Int} {σ : ZS} {Q : Int → ZS → Prop} (hn : 0 ≤ n ∧ n ≤ 7) (h1 : ¬ n = 2 → ¬ n = 3 → Q 1 σ) (h0 : n = 2 ∨ n = 3 → Q 0 σ) : wpX4_isArithmetic n σ Q := by
  unfold wpX4_isArithmetic wpX4_isArithmetic_14 wpX4_isArithmetic_15
  exact ⟨by omega, fun q => ⟨by decide, h0 (Or.inl q)⟩, fun q2 => ⟨fun q => ⟨by decide, h0 (Or.inr q)⟩, fun q3 => ⟨by decide, h1 q2 q3⟩⟩⟩
theorem y_hasForm {op : Int} {ρ : ZS} {Q : Int → ZS → Prop} (ho : 0 ≤ op ∧ op ≤ 255) (h1 : hF op → Q 1 ρ) (h0 : ¬ hF op → Q 0 ρ) : wpX11_hasForm op ρ Q := by
  have y : hF op → wpX11_hasForm_93 ρ Q := fun q => ⟨by decide, h1 q⟩
  have f22 : op < 64 → (op % 8 = 1 ∨ op % 8 = 3) → wpX11_hasForm_22 op ρ Q := by
    intro l m
    unfold wpX11_hasForm_22 wpX11_hasForm_35 wpX11_hasForm_36
    refine ⟨by omega, y_operation (by omega) (fun a b => ⟨by decide, fun q => absurd q (by decide), fun _ => ⟨by decide, h1 (Or.inl ⟨l, m, a, b⟩)⟩⟩) (fun a => ⟨by decide, fun _ => ⟨by decide, h0 (fun f => ?_)⟩, fun q => absurd rfl q⟩)⟩
    unfold hF at f; omega
  unfold wpX11_hasForm
  refine ⟨by omega, fun g => ⟨fun q => y (Or.inr (Or.inl q)), fun n1 => ⟨fun q => y (Or.inr (Or.inr (Or.inl q))), fun n2 => ⟨fun q => y (Or.inr (Or.inr (Or.inr (Or.inl q)))), fun n3 => ⟨fun q => y (Or.inr (Or.inr (Or.inr (Or.inr (Or.inl q))))), fun n4 => ⟨fun q => y (Or.inr (Or.inr (Or.inr (Or.inr (Or.inr (Or.inl q)))))), fun n5 => ⟨fun q => y (Or.inr (Or.inr (Or.inr (Or.inr (Or.inr (Or.inr (Or.inl q))))))), fun n6 => ⟨fun q => y (Or.inr (Or.inr (Or.inr (Or.inr (Or.inr (Or.inr (Or.inr (Or.inl q)))))))), fun n7 => ⟨fun n8 => ⟨by decide, h0 (fun f => ?_)⟩, fun q => y (Or.inr (Or.inr (Or.inr (Or.inr (Or.inr (Or.inr (Or.inr (Or.inr q))))))))⟩⟩⟩⟩⟩⟩⟩⟩, fun l => ⟨by omega, fun q => f22 (by omega) (Or.inl q), fun n1 => ⟨fun n3 => ⟨by decide, h0 (fun f => ?_)⟩, fun q => f22 (by omega) (Or.inr q)⟩⟩⟩
  · unfold hF at f; omega
  · unfold hF at f; omega
/-! roads of the reference -/
theorem b_form {op : Int} {ρ : ZS} {Q : Int → ZS → Prop} (ho : 0 ≤ op ∧ op ≤ 255) (hf : hF op) (h : wpX11_formed op ρ (fun (x35 : Int) (σ36 : ZS) => wpX11_step_151 x35 σ36 Q)) : Bd op ρ Q := by
  unfold Bd
  exact y_hasForm ho (fun _ => ⟨by decide, fun q => absurd q (by decide), fun _ => h⟩) (fun n => absurd hf n)
theorem b_58 {op : Int} {ρ : ZS} {Q : Int → ZS → Prop} (ho : (64 ≤ op ∧ op < 96) ∨ (184 ≤ op ∧ op < 192)) (h : wpX11_plain op ρ (fun (x21 : Int) (σ22 : ZS) => wpX11_step_151 x21 σ22 Q)) : Bd op ρ Q := by
  unfold Bd
  refine y_hasForm (by omega) (fun f => ?_) (fun _ => ⟨by decide, fun _ => ⟨by omega, fun q => absurd q (by omega), fun _ => ⟨fun _ => h, fun g => ?_⟩⟩, fun q => absurd rfl q⟩)
  · exfalso; unfold hF at f; omega
  · unfold wpX11_step_44
    exact ⟨by omega, fun q => absurd q (by omega), fun _ => ⟨fun q => absurd q (by omega), fun _ => h⟩⟩
theorem b_67 {op : Int} {ρ : ZS} {Q : Int → ZS → Prop} (ho : (0 ≤ op ∧ op < 64) ∨ (96 ≤ op ∧ op < 184) ∨ (192 ≤ op ∧ op ≤ 255)) (hf : ¬ hF op) (h : wpX11_step_67 op ρ Q) : Bd op ρ Q := by
  have f44 : wpX11_step_44 op ρ Q := by
    unfold wpX11_step_44
    exact ⟨by omega, fun _ => h, fun _ => ⟨fun _ => h, fun q => absurd q (by omega)⟩⟩
  unfold Bd
  exact y_hasForm (by omega) (fun f => absurd f hf) (fun _ => ⟨by decide, fun _ => ⟨by omega, fun _ => f44, fun _ => ⟨fun q => absurd q (by omega), fun _ => f44⟩⟩, fun q => absurd rfl q⟩)
theorem b_145 {op : Int} {ρ : ZS} {Q : Int → ZS → Prop} (ho : (0 ≤ op ∧ op < 64) ∨ (96 ≤ op ∧ op < 184) ∨ (192 ≤ op ∧ op ≤ 255)) (hf : ¬ hF op) (hl : op < 32 → ¬ op % 8 = 6 ∧ (op % 8 = 7 → op = 15)) (h : wpX11_control op ρ (fun (x4 : Int) (σ5 : ZS) => wpX11_step_151 x4 σ5 Q)) : Bd op ρ Q := by
  have f103 : wpX11_step_103 op ρ Q := by
    unfold wpX11_step_103
    exact ⟨by omega, fun _ => h, fun l => ⟨by omega, fun _ => h, fun q => ⟨fun _ => h, fun n => absurd ((hl (by omega)).2 q) n⟩⟩⟩
  refine b_67 ho hf ?_
  unfold wpX11_step_67
  exact ⟨by omega, fun _ => f103, fun l => ⟨by omega, fun _ => f103, fun q => absurd q (hl (by omega)).1⟩⟩
theorem y_noctl {op : Int} {ρ : ZS} {Q : Int → ZS → Prop} (ho : 0 ≤ op ∧ op ≤ 255) (hn : ¬ (op = 114 ∨ op = 115 ∨ op = 116 ∨ op = 117 ∨ op = 120 ∨ op = 121 ∨ op = 154 ∨ op = 195 ∨ op = 203 ∨ op = 205 ∨ op = 226 ∨ op = 232 ∨ op = 233 ∨ op = 235 ∨ op = 244)) (h : Q 2 ρ) : wpX11_control op ρ Q := by
  unfold wpX11_control
  exact ⟨by omega, fun q => absurd q (by omega), fun _ => ⟨fun q => absurd q (by omega), fun _ => ⟨fun q => absurd q (by omega), fun _ => ⟨fun q => absurd q (by omega), fun _ => ⟨fun q => absurd q (by omega), fun _ => ⟨fun q => absurd q (by omega), fun _ => ⟨fun q => absurd q (by omega), fun _ => ⟨fun q => absurd q (by omega), fun _ => ⟨fun q => absurd q (by omega), fun _ => ⟨fun q => absurd q (by omega), fun _ => ⟨fun q => absurd q (by omega), fun _ => ⟨fun q => absurd q (by omega), fun _ => ⟨fun q => absurd q (by omega), fun _ => ⟨fun q => absurd q (by omega), fun _ => ⟨fun _ => h, fun q => absurd q (by omega)⟩⟩⟩⟩⟩⟩⟩⟩⟩⟩⟩⟩⟩⟩⟩
/-! roads of the class -/
theorem a_54 {op : Int} {σ : ZS} {Q : Int → ZS → Prop} (ho : (96 ≤ op ∧ op < 114) ∨ (122 ≤ op ∧ op ≤ 255)) (h : wpX4_execute_54 op σ Q) : wpX4_execute op σ Q := by
  unfold wpX4_execute
  exact ⟨by omega, fun _ => ⟨fun _ => ⟨fun _ => h, fun _ => ⟨fun _ => h, fun q => absurd q (by omega)⟩⟩, fun q => absurd q (by omega)⟩, fun q => absurd q (by omega)⟩
theorem a_84 {op : Int} {σ : ZS} {Q : Int → ZS → Prop} (ho : (96 ≤ op ∧ op < 114) ∨ (122 ≤ op ∧ op < 184) ∨ (192 ≤ op ∧ op ≤ 255)) (h : wpX4_execute_84 op σ Q) : wpX4_execute op σ Q := by
  refine a_54 (by omega) ?_
  unfold wpX4_execute_54
  exact ⟨by omega, fun _ => h, fun _ => ⟨fun _ => h, fun q => absurd q (by omega)⟩⟩
theorem a_160 {op : Int} {σ : ZS} {Q : Int → ZS → Prop} (ho : op = 129 ∨ op = 137 ∨ op = 139 ∨ op = 140 ∨ op = 142 ∨ op = 199 ∨ op = 209 ∨ op = 247) (h : wpX4_execute_160 op σ Q) : wpX4_execute op σ Q := by
  refine a_84 (by omega) ?_
  unfold wpX4_execute_84
  exact ⟨by omega, fun _ => h, fun _ => ⟨fun _ => h, fun _ => ⟨fun _ => h, fun _ => ⟨fun _ => h, fun _ => ⟨fun _ => h, fun _ => ⟨fun _ => h, fun _ => ⟨fun _ => h, fun _ => ⟨fun _ => h, fun q => absurd ho (by omega)⟩⟩⟩⟩⟩⟩⟩⟩
theorem a_flow {op : Int} {σ : ZS} {Q : Int → ZS → Prop} (ho : (96 ≤ op ∧ op < 114) ∨ (122 ≤ op ∧ op < 184) ∨ (192 ≤ op ∧ op ≤ 255)) (hn : ¬ (op = 129 ∨ op = 137 ∨ op = 139 ∨ op = 140 ∨ op = 142 ∨ op = 199 ∨ op = 209 ∨ op = 247)) (h : wpX4_executeFlow op σ Q) : wpX4_execute op σ Q := by
  refine a_84 ho ?_
  unfold wpX4_execute_84
  exact ⟨by omega, fun q => absurd q (by omega), fun _ => ⟨fun q => absurd q (by omega), fun _ => ⟨fun q => absurd q (by omega), fun _ => ⟨fun q => absurd q (by omega), fun _ => ⟨fun q => absurd q (by omega), fun _ => ⟨fun q => absurd q (by omega), fun _ => ⟨fun q => absurd q (by omega), fun _ => ⟨fun q => absurd q (by omega), fun _ => h⟩⟩⟩⟩⟩⟩⟩⟩
/-! flow -/
theorem bx_undef {op : Int} {P : MV} {N : Int} (hp : MVr P N) (ho : 0 ≤ op ∧ op ≤ 255) (hn : ¬ (op = 114 ∨ op = 115 ∨ op = 116 ∨ op = 117 ∨ op = 120 ∨ op = 121 ∨ op = 154 ∨ op = 195 ∨ op = 203 ∨ op = 205 ∨ op = 226 ∨ op = 232 ∨ op = 233 ∨ op = 235 ∨ op = 244)) (hf : ¬ hF op) (h2 : ¬ (64 ≤ op ∧ op < 96)) (h3 : ¬ (184 ≤ op ∧ op < 192)) (hl : op < 32 → ¬ op % 8 = 6 ∧ (op % 8 = 7 → op = 15)) : BX op P N := by
  have nf : ¬ (op = 129 ∨ op = 137 ∨ op = 139 ∨ op = 140 ∨ op = 142 ∨ op = 199 ∨ op = 209 ∨ op = 247) := fun q => hf (Or.inr q)
  have nl : op < 64 → ¬ ((op % 8 = 1 ∨ op % 8 = 3) ∧ ¬ op / 8 = 2 ∧ ¬ op / 8 = 3) := fun l q => hf (Or.inl ⟨l, q⟩)
  refine ⟨P, 2, by decide, hp.mo (by omega), rfl, fun σ Q h hq => ?_, fun ρ Q h hq => b_145 (by omega) hf hl (y_noctl ho hn (hq ρ h (fs4.of fr.rf)))⟩
  have c2 : Q 2 σ := hq σ h kq.rf.kr
  by_cases l : op < 64
  · have nl' := nl l
    have f61 : (op % 8 = 1 ∨ op % 8 = 3) → wpX4_executeLow_61 (op / 8) (op % 8) σ Q := by
      intro q
      unfold wpX4_executeLow_61 wpX4_executeLow_68
      exact x_isArithmetic (by omega) (fun a b => absurd ⟨q, a, b⟩ nl') (fun _ => ⟨by decide, fun z => absurd rfl z, fun _ => c2⟩)
    have f51 : wpX4_executeLow_51 (op / 8) (op % 8) σ Q := by
      unfold wpX4_executeLow_51 wpX4_executeLow_68
      exact ⟨by omega, fun q => f61 (Or.inl q), fun _ => ⟨fun _ => c2, fun q => f61 (Or.inr q)⟩⟩
    have f23 : wpX4_executeLow_23 (op / 8) (op % 8) σ Q := by
      unfold wpX4_executeLow_23
      refine ⟨by omega, fun _ => f51, fun q => ⟨by omega, fun _ => f51, fun g => ⟨fun _ => f51, fun n => ?_⟩⟩⟩
      have := hl (by omega)
      omega
    unfold wpX4_execute wpX4_executeLow
    refine ⟨by omega, fun q => absurd q (by omega), fun _ => ⟨by omega, fun _ => f23, fun q => ⟨by omega, fun _ => f23, fun g => ?_⟩⟩⟩
    have := hl (by omega)
    omega
  by_cases b : 114 ≤ op ∧ op ≤ 121
  · unfold wpX4_execute wpX4_branch wpX4_branch_56
    exact ⟨by omega, fun _ => ⟨fun _ => ⟨fun q => absurd q (by omega), fun _ => ⟨fun q => absurd q (by omega), fun _ => ⟨by omega, fun q => absurd q (by omega), fun _ => ⟨fun q => absurd q (by omega), fun _ => ⟨fun _ => c2, fun _ => ⟨fun q => absurd q (by omega), fun _ => c2⟩⟩⟩⟩⟩⟩, fun q => absurd q (by omega)⟩, fun q => absurd q (by omega)⟩
  refine a_flow (by omega) nf ?_
  unfold wpX4_executeFlow
  exact ⟨by omega, fun q => absurd q (by omega), fun _ => ⟨fun q => absurd q (by omega), fun _ => ⟨fun q => absurd q (by omega), fun _ => ⟨fun q => absurd q (by omega), fun _ => ⟨fun q => absurd q (by omega), fun _ => ⟨fun q => absurd q (by omega), fun _ => ⟨fun q => absurd q (by omega), fun _ => ⟨fun q => absurd q (by omega), fun _ => ⟨fun q => absurd q (by omega), fun _ => c2⟩⟩⟩⟩⟩⟩⟩⟩⟩
theorem mvPo_12 {P : MV} : (mvPo P).r 12 = P.r 12 := mvR_ne (by decide)
theorem mvPu_12 {P : MV} {v : Int} : (mvPu P v).r 12 = P.r 12 := by
  show zu P.r 4 ((P.r 4 - 2) % 65536) 12 = P.r 12
  exact pu_ne (by decide)
theorem bx_244 {P : MV} {N : Int} (hp : MVr P N) : BX 244 P N := by
  refine ⟨P, 0, by decide, hp.mo (by omega), rfl, fun σ Q h hq => a_flow (by decide) (by decide) ?_, fun ρ Q h hq => b_145 (by decide) (by unfold hF; decide) (by decide) ?_⟩
  · unfold wpX4_executeFlow
    exact ⟨by decide, fun q => absurd q (by decide), fun _ => ⟨fun q => absurd q (by decide), fun _ => ⟨fun q => absurd q (by decide), fun _ => ⟨fun q => absurd q (by decide), fun _ => ⟨fun q => absurd q (by decide), fun _ => ⟨fun q => absurd q (by decide), fun _ => ⟨fun q => absurd q (by decide), fun _ => ⟨fun q => absurd q (by decide), fun _ => ⟨fun _ => hq σ h kq.rf.kr, fun q => absurd rfl q⟩⟩⟩⟩⟩⟩⟩⟩⟩
  · unfold wpX11_control wpX11_control_391
    exact ⟨by decide, fun q => absurd q (by decide), fun _ => ⟨fun q => absurd q (by decide), fun _ => ⟨fun q => absurd q (by decide), fun _ => ⟨fun q => absurd q (by decide), fun _ => ⟨fun q => absurd q (by decide), fun _ => ⟨fun q => absurd q (by decide), fun _ => ⟨fun q => absurd q (by decide), fun _ => ⟨fun q => absurd q (by decide), fun _ => ⟨fun q => absurd q (by decide), fun _ => ⟨fun q => absurd q (by decide), fun _ => ⟨fun q => absurd q (by decide), fun _ => ⟨fun q => absurd q (by decide), fun _ => ⟨fun q => absurd q (by decide), fun _ => ⟨fun q => absurd q (by decide), fun _ => ⟨fun q => absurd rfl q, fun _ => hq ρ h (fs4.of fr.rf)⟩⟩⟩⟩⟩⟩⟩⟩⟩⟩⟩⟩⟩⟩⟩
theorem bx_235 {P : MV} {N : Int} (hp : MVr P N) : BX 235 P N := by
  refine ⟨mvI (mvF P) (((mvF P).ip + mvFs P) % 65536), 3, by decide, (hp.ft.i (by omega)).mo (by omega), rfl, fun σ Q h hq => a_flow (by decide) (by decide) ?_, fun ρ Q h hq => b_145 (by decide) (by unfold hF; decide) (by decide) ?_⟩
  · unfold wpX4_executeFlow
    exact ⟨by decide, fun q => absurd q (by decide), fun _ => ⟨fun q => absurd q (by decide), fun _ => ⟨fun q => absurd q (by decide), fun _ => ⟨fun q => absurd q (by decide), fun _ => ⟨fun q => absurd q (by decide), fun _ => ⟨fun q => absurd q (by decide), fun _ => ⟨fun q => absurd q (by decide), fun _ => ⟨fun _ => x_fetchSigned h (fun τ ht kt => (by unfold wpX4_jump; rw [ht.2.2.2.1]; exact hq _ ht.i3 kt.i3.kr)), fun q => absurd rfl q⟩⟩⟩⟩⟩⟩⟩⟩
  · unfold wpX11_control
    exact ⟨by decide, fun q => absurd q (by decide), fun _ => ⟨fun q => absurd q (by decide), fun _ => ⟨fun q => absurd q (by decide), fun _ => ⟨fun q => absurd q (by decide), fun _ => ⟨fun q => absurd q (by decide), fun _ => ⟨fun q => absurd q (by decide), fun _ => ⟨fun q => absurd q (by decide), fun _ => ⟨fun q => absurd q (by decide), fun _ => ⟨fun q => absurd q (by decide), fun _ => ⟨fun q => absurd q (by decide), fun _ => ⟨fun q => absurd q (by decide), fun _ => ⟨fun q => absurd q (by decide), fun _ => ⟨fun q => absurd q (by decide), fun _ => ⟨fun _ => y_fetchSigned h hp (fun τ ht kt => (by rw [ht.2.2.1]; exact hq _ ht.i80 (fs4.of (kt.ti (by decide))))), fun q => absurd rfl q⟩⟩⟩⟩⟩⟩⟩⟩⟩⟩⟩⟩⟩⟩
theorem bx_233 {P : MV} {N : Int} (hp : MVr P N) : BX 233 P N := by
  refine ⟨mvI (mvF (mvF P)) (((mvF (mvF P)).ip + mvFw P) % 65536), 3, by decide, (hp.ft.ft.i (by omega)).mo (by omega), rfl, fun σ Q h hq => a_flow (by decide) (by decide) ?_, fun ρ Q h hq => b_145 (by decide) (by unfold hF; decide) (by decide) ?_⟩
  · unfold wpX4_executeFlow
    exact ⟨by decide, fun q => absurd q (by decide), fun _ => ⟨fun q => absurd q (by decide), fun _ => ⟨fun q => absurd q (by decide), fun _ => ⟨fun q => absurd q (by decide), fun _ => ⟨fun q => absurd q (by decide), fun _ => ⟨fun q => absurd q (by decide), fun _ => ⟨fun _ => x_fetchWord h (fun τ ht kt => (by unfold wpX4_jump; rw [ht.2.2.2.1]; exact hq _ ht.i3 kt.i3.kr)), fun q => absurd rfl q⟩⟩⟩⟩⟩⟩⟩
  · unfold wpX11_control
    exact ⟨by decide, fun q => absurd q (by decide), fun _ => ⟨fun q => absurd q (by decide), fun _ => ⟨fun q => absurd q (by decide), fun _ => ⟨fun q => absurd q (by decide), fun _ => ⟨fun q => absurd q (by decide), fun _ => ⟨fun q => absurd q (by decide), fun _ => ⟨fun q => absurd q (by decide), fun _ => ⟨fun q => absurd q (by decide), fun _ => ⟨fun q => absurd q (by decide), fun _ => ⟨fun q => absurd q (by decide), fun _ => ⟨fun q => absurd q (by decide), fun _ => ⟨fun q => absurd q (by decide), fun _ => ⟨fun _ => (by unfold wpX11_control_222 wpX11_control_242; exact y_fetchTwo h hp (fun τ ht kt => ⟨by decide, fun _ => (by rw [ht.2.2.1]; exact hq _ ht.i80 (fs4.of (kt.ti (by decide)))), fun q => absurd q (by decide)⟩)), fun q => absurd rfl q⟩⟩⟩⟩⟩⟩⟩⟩⟩⟩⟩⟩⟩
theorem bx_232 {P : MV} {N : Int} (hp : MVr P N) : BX 232 P N := by
  have ip := hp.ft.ft.ip
  refine ⟨mvI (mvPu (mvF (mvF P)) (mvF (mvF P)).ip) (((mvF (mvF P)).ip + mvFw P) % 65536), 3, by decide, ((hp.ft.ft.pu).i (by omega)).mo (by omega), mvPu_12 (P := mvF (mvF P)) (v := (mvF (mvF P)).ip), fun σ Q h hq => a_flow (by decide) (by decide) ?_, fun ρ Q h hq => b_145 (by decide) (by unfold hF; decide) (by decide) ?_⟩
  · unfold wpX4_executeFlow
    exact ⟨by decide, fun q => absurd q (by decide), fun _ => ⟨fun q => absurd q (by decide), fun _ => ⟨fun q => absurd q (by decide), fun _ => ⟨fun q => absurd q (by decide), fun _ => ⟨fun q => absurd q (by decide), fun _ => ⟨fun _ => x_fetchWord h (fun τ ht kt => (by rw [ht.2.2.2.1]; exact x_push ht (by omega) (fun υ hu ku => (by unfold wpX4_jump; rw [hu.2.2.2.1]; exact hq _ hu.i3 (kt.tr ku).i3.kr)))), fun q => absurd rfl q⟩⟩⟩⟩⟩⟩
  · unfold wpX11_control
    exact ⟨by decide, fun q => absurd q (by decide), fun _ => ⟨fun q => absurd q (by decide), fun _ => ⟨fun q => absurd q (by decide), fun _ => ⟨fun q => absurd q (by decide), fun _ => ⟨fun q => absurd q (by decide), fun _ => ⟨fun q => absurd q (by decide), fun _ => ⟨fun q => absurd q (by decide), fun _ => ⟨fun q => absurd q (by decide), fun _ => ⟨fun q => absurd q (by decide), fun _ => ⟨fun q => absurd q (by decide), fun _ => ⟨fun q => absurd q (by decide), fun _ => ⟨fun _ => (by unfold wpX11_control_222 wpX11_control_242; exact y_fetchTwo h hp (fun τ ht kt => ⟨by decide, fun q => absurd rfl q, fun _ => (by rw [ht.2.2.1]; exact y_push ht (by omega) (fun υ hu ku => (by rw [hu.2.2.1]; exact hq _ hu.i80 (fs4.of ((kt.tr ku).ti (by decide))))))⟩)), fun q => absurd rfl q⟩⟩⟩⟩⟩⟩⟩⟩⟩⟩⟩⟩
theorem bx_226 {P : MV} {N : Int} (hp : MVr P N) : BX 226 P N := by
  obtain ⟨v, ev⟩ : ∃ v, v = ((mvF P).r 1 - 1) % 65536 := ⟨_, rfl⟩
  have hv : 0 ≤ v ∧ v ≤ 65535 := by omega
  refine ⟨if v = 0 then mvR (mvF P) 1 v else mvI (mvR (mvF P) 1 v) (((mvF P).ip + mvFs P) % 65536), 3, by decide, ?_, ?_, fun σ Q h hq => a_flow (by decide) (by decide) ?_, fun ρ Q h hq => b_145 (by decide) (by unfold hF; decide) (by decide) ?_⟩
  · split
    · exact (hp.ft.s (by decide) hv).mo (by omega)
    · exact ((hp.ft.s (by decide) hv).i (by omega)).mo (by omega)
  · split
    · exact mvR_ne (P := mvF P) (by decide)
    · show (mvR (mvF P) 1 v).r 12 = (mvF P).r 12
      exact mvR_ne (by decide)
  · unfold wpX4_executeFlow wpX4_loop wpX4_loop_31 wpX4_jump
    refine ⟨by decide, fun q => absurd q (by decide), fun _ => ⟨fun q => absurd q (by decide), fun _ => ⟨fun q => absurd q (by decide), fun _ => ⟨fun q => absurd q (by decide), fun _ => ⟨fun _ => x_fetchSigned h (fun τ ht kt => ?_), fun q => absurd rfl q⟩⟩⟩⟩⟩
    have e1 : zA τ 18 1 1 = (mvF P).r 1 := ht.2.1 1 (by decide) (by decide)
    have ez : zA (zsA τ 18 1 1 v) 18 1 1 = v := by
      show zu (zA τ 18 1) 1 v 1 = v
      exact pu_eq
    rw [e1, ← ev, ez]
    refine ⟨by omega, fun z => ?_, fun z => ?_⟩
    · rw [if_pos z] at hq; exact hq _ (ht.a1 (by decide)) kt.a.kr
    · rw [if_neg z] at hq
      show Q 3 (zsI (zsA τ 18 1 1 v) 18 3 ((zI τ 18 3 + mvFs P) % 65536))
      rw [ht.2.2.2.1]
      exact hq _ (ht.a1 (by decide)).i3 kt.a.i3.kr
  · unfold wpX11_control wpX11_control_199
    refine ⟨by decide, fun q => absurd q (by decide), fun _ => ⟨fun q => absurd q (by decide), fun _ => ⟨fun q => absurd q (by decide), fun _ => ⟨fun q => absurd q (by decide), fun _ => ⟨fun q => absurd q (by decide), fun _ => ⟨fun q => absurd q (by decide), fun _ => ⟨fun q => absurd q (by decide), fun _ => ⟨fun q => absurd q (by decide), fun _ => ⟨fun q => absurd q (by decide), fun _ => ⟨fun q => absurd q (by decide), fun _ => ⟨fun _ => y_fetchSigned h hp (fun τ ht kt => ?_), fun q => absurd rfl q⟩⟩⟩⟩⟩⟩⟩⟩⟩⟩⟩
    have e1 : zA τ 0 75 1 = (mvF P).r 1 := ht.2.1 1 (by decide) (by decide)
    have ez : zA (zsA τ 0 75 1 v) 0 75 1 = v := by
      show zu (zA τ 0 75) 1 v 1 = v
      exact pu_eq
    rw [e1, ← ev, ez]
    refine ⟨by omega, fun z => ?_, fun z => ?_⟩
    · rw [if_pos z] at hq; exact hq _ ht.a75 (fs4.of (kt.ta (by decide)))
    · rw [if_neg z] at hq
      rw [ht.2.2.1]
      exact hq _ ht.a75.i80 (fs4.of ((kt.ta (by decide)).ti (by decide)))
theorem HC.tl {σ : ZS} {P : MV} {v : Int} (h : HC σ P) (hn : ¬ 30 ≤ P.n) : HC (zsI (zsA σ 18 10 P.n v) 18 9 (P.n + 1)) (mvT P v) := by
  obtain ⟨h0, h1, h2, h3, h4, h5, h6, h7, h8⟩ := h
  refine ⟨h0, h1, h2, h3, h4, h5, h6, rfl, fun j j0 j1 => ?_⟩
  show zu (zA σ 18 10) P.n v j = (if P.n < 30 then zu P.t P.n v else P.t) j
  rw [if_pos (by omega)]
  by_cases e : j = P.n
  · rw [e, pu_eq, pu_eq]
  · rw [pu_ne e, pu_ne e]; exact h8 j j0 j1
theorem HC.tn {σ : ZS} {P : MV} {v : Int} (h : HC σ P) (hn : 30 ≤ P.n) : HC (zsI σ 18 9 (P.n + 1)) (mvT P v) := by
  obtain ⟨h0, h1, h2, h3, h4, h5, h6, h7, h8⟩ := h
  refine ⟨h0, h1, h2, h3, h4, h5, h6, rfl, fun j j0 j1 => ?_⟩
  show zA σ 18 10 j = (if P.n < 30 then zu P.t P.n v else P.t) j
  rw [if_neg (by omega)]; exact h8 j j0 j1
theorem HR.tl {ρ : ZS} {P : MV} {v : Int} (h : HR ρ P) (hn : ¬ 30 ≤ P.n) : HR (zsI (zsA ρ 0 79 P.n v) 0 78 (P.n + 1)) (mvT P v) := by
  obtain ⟨h0, h1, h2, h3, h4⟩ := h
  refine ⟨h0, h1, h2, rfl, fun j j0 j1 => ?_⟩
  show zu (zA ρ 0 79) P.n v j = (if P.n < 30 then zu P.t P.n v else P.t) j
  rw [if_pos (by omega)]
  by_cases e : j = P.n
  · rw [e, pu_eq, pu_eq]
  · rw [pu_ne e, pu_ne e]; exact h4 j j0 j1
theorem HR.tn {ρ : ZS} {P : MV} {v : Int} (h : HR ρ P) (hn : 30 ≤ P.n) : HR (zsI ρ 0 78 (P.n + 1)) (mvT P v) := by
  obtain ⟨h0, h1, h2, h3, h4⟩ := h
  refine ⟨h0, h1, h2, rfl, fun j j0 j1 => ?_⟩
  show zA ρ 0 79 j = (if P.n < 30 then zu P.t P.n v else P.t) j
  rw [if_neg (by omega)]; exact h4 j j0 j1
theorem bx_205 {P : MV} {N : Int} (hp : MVr P N) (hN : N ≤ 1000000) : BX 205 P N := by
  have hv := hp.fv
  have r0 := hp.ft.g (i := 0) (by decide) (by decide)
  have pn := hp.ft.2.2.2.2.2.2.1
  refine ⟨mvT (mvF P) (65536 * mvFv P + (mvF P).r 0), 3, by decide, hp.ft.t (by omega), rfl, fun σ Q h hq => a_flow (by decide) (by decide) ?_, fun ρ Q h hq => b_145 (by decide) (by unfold hF; decide) (by decide) ?_⟩
  · unfold wpX4_executeFlow wpX4_tellInt wpX4_tellInt_29
    refine ⟨by decide, fun q => absurd q (by decide), fun _ => ⟨fun q => absurd q (by decide), fun _ => ⟨fun q => absurd q (by decide), fun _ => ⟨fun _ => x_fetch h (fun τ ht kt => ?_), fun q => absurd rfl q⟩⟩⟩⟩
    have e0 : zA τ 18 1 0 = (mvF P).r 0 := ht.2.1 0 (by decide) (by decide)
    have e9 := ht.2.2.2.2.2.2.2.1
    refine ⟨by omega, fun q => ?_, fun q => ⟨by omega, ?_⟩⟩
    · rw [e9] at q ⊢; exact hq _ (ht.tn q) kt.i9.kr
    · show Q 3 (zsI (zsA τ 18 10 (zI τ 18 9) (65536 * mvFv P + zA τ 18 1 0)) 18 9 (zI τ 18 9 + 1))
      rw [e9] at q ⊢
      rw [e0]; exact hq _ (ht.tl q) kt.a.i9.kr
  · unfold wpX11_control wpX11_control_367
    refine ⟨by decide, fun q => absurd q (by decide), fun _ => ⟨fun q => absurd q (by decide), fun _ => ⟨fun q => absurd q (by decide), fun _ => ⟨fun q => absurd q (by decide), fun _ => ⟨fun q => absurd q (by decide), fun _ => ⟨fun q => absurd q (by decide), fun _ => ⟨fun q => absurd q (by decide), fun _ => ⟨fun q => absurd q (by decide), fun _ => ⟨fun q => absurd q (by decide), fun _ => ⟨fun _ => y_fetch h hp (fun τ ht kt => ?_), fun q => absurd rfl q⟩⟩⟩⟩⟩⟩⟩⟩⟩⟩
    have e0 : zA τ 0 75 0 = (mvF P).r 0 := ht.2.1 0 (by decide) (by decide)
    have e9 := ht.2.2.2.1
    refine ⟨by omega, fun q => ?_, fun q => ⟨by omega, ?_⟩⟩
    · rw [e9] at q ⊢; exact hq _ (ht.tn q) (fs4.of (kt.ti (by decide)))
    · show wpX11_step_151 0 (zsI (zsA τ 0 79 (zI τ 0 78) (zor (mvFv P * 65536) (zA τ 0 75 0))) 0 78 (zI τ 0 78 + 1)) Q
      rw [e9] at q ⊢
      rw [e0, zor_told (by omega) (by omega)]; exact hq _ (ht.tl q) (fs4.of ((kt.ta (by decide)).ti (by decide)))
theorem bx_195 {P : MV} {N : Int} (hp : MVr P N) : BX 195 P N := by
  refine ⟨mvI (mvPo P) (mvPv P), 3, by decide, (hp.po.i (hp.w _)).mo (by omega), mvPo_12, fun σ Q h hq => a_flow (by decide) (by decide) ?_, fun ρ Q h hq => b_145 (by decide) (by unfold hF; decide) (by decide) ?_⟩
  · unfold wpX4_executeFlow
    exact ⟨by decide, fun q => absurd q (by decide), fun _ => ⟨fun _ => x_pop h (fun τ ht kt => hq _ ht.i3 kt.i3.kr), fun q => absurd rfl q⟩⟩
  · unfold wpX11_control
    exact ⟨by decide, fun q => absurd q (by decide), fun _ => ⟨fun q => absurd q (by decide), fun _ => ⟨fun q => absurd q (by decide), fun _ => ⟨fun q => absurd q (by decide), fun _ => ⟨fun q => absurd q (by decide), fun _ => ⟨fun q => absurd q (by decide), fun _ => ⟨fun q => absurd q (by decide), fun _ => ⟨fun _ => y_pop h hp (fun τ ht kt => hq _ ht.i80 (fs4.of (kt.ti (by decide)))), fun q => absurd rfl q⟩⟩⟩⟩⟩⟩⟩⟩
theorem bx_203 {P : MV} {N : Int} (hp : MVr P N) : BX 203 P N := by
  have h1 := hp.po.i (hp.w (16 * P.r 10 + P.r 4))
  refine ⟨mvR (mvPo (mvI (mvPo P) (mvPv P))) 9 (mvPv (mvI (mvPo P) (mvPv P))), 3, by decide, (h1.po.s (by decide) (h1.w _)).mo (by omega), (mvR_ne (P := mvPo (mvI (mvPo P) (mvPv P))) (by decide)).trans ((mvPo_12 (P := mvI (mvPo P) (mvPv P))).trans (mvPo_12 (P := P))), fun σ Q h hq => a_flow (by decide) (by decide) ?_, fun ρ Q h hq => b_145 (by decide) (by unfold hF; decide) (by decide) ?_⟩
  · unfold wpX4_executeFlow
    exact ⟨by decide, fun q => absurd q (by decide), fun _ => ⟨fun q => absurd q (by decide), fun _ => ⟨fun _ => x_pop h (fun τ ht kt => x_pop ht.i3 (fun υ hu ku => hq _ (hu.a2 (i := 1) (by decide)) (kt.i3.tr ku).a.kr)), fun q => absurd rfl q⟩⟩⟩
  · unfold wpX11_control
    exact ⟨by decide, fun q => absurd q (by decide), fun _ => ⟨fun q => absurd q (by decide), fun _ => ⟨fun q => absurd q (by decide), fun _ => ⟨fun q => absurd q (by decide), fun _ => ⟨fun q => absurd q (by decide), fun _ => ⟨fun q => absurd q (by decide), fun _ => ⟨fun q => absurd q (by decide), fun _ => ⟨fun q => absurd q (by decide), fun _ => ⟨fun _ => y_pop h hp (fun τ ht kt => y_pop ht.i80 h1 (fun υ hu ku => hq _ hu.a75 (fs4.of (((kt.ti (by decide)).tr ku).ta (by decide))))), fun q => absurd rfl q⟩⟩⟩⟩⟩⟩⟩⟩⟩
theorem bx_154 {P : MV} {N : Int} (hp : MVr P N) : BX 154 P N := by
  have r9 := hp.g (i := 9) (by decide) (by decide)
  refine ⟨mvR (mvI (mvPu (mvPu (mvF (mvF (mvF (mvF P)))) (P.r 9)) (mvF (mvF (mvF (mvF P)))).ip) (mvFw P)) 9 (mvFw (mvF (mvF P))), 3, by decide, (((hp.ft.ft.ft.ft.pu.pu).i hp.fw).s (by decide) hp.ft.ft.fw).mo (by omega), (mvR_ne (P := mvI (mvPu (mvPu (mvF (mvF (mvF (mvF P)))) (P.r 9)) (mvF (mvF (mvF (mvF P)))).ip) (mvFw P)) (by decide)).trans ((mvPu_12 (P := mvPu (mvF (mvF (mvF (mvF P)))) (P.r 9)) (v := (mvF (mvF (mvF (mvF P)))).ip)).trans (mvPu_12 (P := mvF (mvF (mvF (mvF P)))) (v := P.r 9))), fun σ Q h hq => a_flow (by decide) (by decide) ?_, fun ρ Q h hq => b_145 (by decide) (by unfold hF; decide) (by decide) ?_⟩
  · unfold wpX4_executeFlow
    refine ⟨by decide, fun _ => x_fetchWord h (fun τ ht kt => x_fetchWord ht (fun υ hu ku => ?_)), fun q => absurd rfl q⟩
    have e1 : zA υ 18 2 1 = P.r 9 := hu.2.2.1 1 (by decide) (by decide)
    unfold wpX4_callFar
    rw [e1]
    refine x_push hu (by omega) (fun ω hw kw => ?_)
    rw [hw.2.2.2.1]
    exact x_push hw (by have := hp.ft.ft.ft.ft.pu (v := P.r 9) |>.ip; omega) (fun ψ hy ky => hq _ (hy.i3.a2 (i := 1) (by decide)) ((((kt.tr ku).tr kw).tr ky).i3.a.kr))
  · unfold wpX11_control
    refine ⟨by decide, fun q => absurd q (by decide), fun _ => ⟨fun q => absurd q (by decide), fun _ => ⟨fun q => absurd q (by decide), fun _ => ⟨fun q => absurd q (by decide), fun _ => ⟨fun q => absurd q (by decide), fun _ => ⟨fun q => absurd q (by decide), fun _ => ⟨fun _ => y_fetchTwo h hp (fun τ ht kt => y_fetchTwo ht hp.ft.ft (fun υ hu ku => ?_)), fun q => absurd rfl q⟩⟩⟩⟩⟩⟩⟩
    have e1 : zA υ 0 75 9 = P.r 9 := hu.2.1 9 (by decide) (by decide)
    rw [e1]
    refine y_push hu (by omega) (fun ω hw kw => ?_)
    rw [hw.2.2.1]
    exact y_push hw (by have := hp.ft.ft.ft.ft.pu (v := P.r 9) |>.ip; omega) (fun ψ hy ky => hq _ hy.i80.a75 (fs4.of (((((kt.tr ku).tr kw).tr ky).ti (by decide)).ta (by decide))))
/-! M: instructions on registers and operands -/
theorem bx_plain {op : Int} {P : MV} {N : Int} (hp : MVr P N) (ho : 64 ≤ op ∧ op < 96) : BX op P N := by
  obtain ⟨b, eb⟩ : ∃ b, b = op % 8 := ⟨_, rfl⟩
  have hb : 0 ≤ b ∧ b < 8 := by omega
  have rb := hp.g (i := b) (by omega) (by omega)
  -- the class's road
  have ac : ∀ (σ : ZS) (Q : Int → ZS → Prop), wpX4_executeRegister (op / 8) b σ Q → wpX4_execute op σ Q := by
    intro σ Q h
    unfold wpX4_execute
    rw [← eb]
    exact ⟨by omega, fun _ => ⟨fun q => absurd q (by omega), fun _ => h⟩, fun q => absurd q (by omega)⟩
  by_cases c80 : op < 80
  · -- inc, dec
    have one : ∀ d : Int, (d = 1 ∨ d = -1) → (d = 1 ↔ op < 72) → BX op P N := by
      intro d hd id
      obtain ⟨v, ev⟩ : ∃ v, v = (P.r b + d) % 65536 := ⟨_, rfl⟩
      have hv : 0 ≤ v ∧ v ≤ 65535 := by omega
      refine ⟨mvJ (mvR P b v) v, 3, by decide, ((hp.s (by omega) hv).j hv).mo (by omega), ?_, fun σ Q h hq => ac σ Q ?_, fun ρ Q h hq => b_58 (Or.inl ho) ?_⟩
      · rw [mvJ_r (by decide)]; exact mvR_ne (by omega)
      · have e1 : zA σ 18 1 b = P.r b := h.2.1 b (by omega) (by omega)
        have ez : zA (zsA σ 18 1 b v) 18 1 b = v := by
          show zu (zA σ 18 1) b v b = v
          exact pu_eq
        have st : wpX4_judge (zA (zsA σ 18 1 b v) 18 1 b) (zsA σ 18 1 b v) (fun (σ6 : ZS) => Q 3 σ6) := by
          rw [ez]
          exact x_mjudge (h.a1 hb) hv (fun τ ht kt => hq τ ht (kq.rf.a.tr kt).kr)
        unfold wpX4_executeRegister wpX4_executeRegister_111
        rw [e1]
        refine ⟨by omega, fun q => ⟨hb, ?_⟩, fun n8 => ⟨fun q => ⟨hb, ?_⟩, fun n9 => ⟨fun q => absurd q (by omega), fun q => absurd (show op / 8 = 9 by omega) n9⟩⟩⟩
        · rw [show P.r b + 1 = P.r b + d by omega, ← ev]; exact st
        · rw [show P.r b - 1 = P.r b + d by omega, ← ev]; exact st
      · have e1 : zA ρ 0 75 b = P.r b := h.2.1 b (by omega) (by omega)
        have ez : zA (zsA ρ 0 75 b v) 0 75 b = v := by
          show zu (zA ρ 0 75) b v b = v
          exact pu_eq
        have st : wpX11_plain_52 b d (P.r b) b ρ (fun (x21 : Int) (σ22 : ZS) => wpX11_step_151 x21 σ22 Q) := by
          unfold wpX11_plain_52
          rw [← ev, ez]
          refine ⟨by omega, by omega, y_flags h.a75 (by omega) (fun τ ht kt => ?_)⟩
          rw [show v % 65536 = v by omega] at ht
          exact hq τ ht (fs4.of ((fr.a (by decide)).tr kt))
        unfold wpX11_plain
        rw [← eb, e1]
        refine ⟨by omega, fun _ => ⟨fun q => absurd q (by omega), fun _ => ⟨fun q => ?_, fun q => ?_⟩⟩, fun q => absurd q (by omega)⟩
        · rw [show (-1 : Int) = d by omega]; exact st
        · have e : d = 1 := id.mpr (by omega)
          rw [e] at st; exact st
    by_cases c72 : op < 72
    · exact one 1 (Or.inl rfl) ⟨fun _ => c72, fun _ => rfl⟩
    · exact one (-1) (Or.inr rfl) ⟨fun q => absurd q (by decide), fun q => absurd q c72⟩
  by_cases c88 : op < 88
  · refine ⟨mvPu P (P.r b), 3, by decide, hp.pu.mo (by omega), mvPu_12, fun σ Q h hq => ac σ Q ?_, fun ρ Q h hq => b_58 (Or.inl ho) ?_⟩
    · have e1 : zA σ 18 1 b = P.r b := h.2.1 b (by omega) (by omega)
      unfold wpX4_executeRegister wpX4_executeRegister_111
      rw [e1]
      exact ⟨by omega, fun q => absurd q (by omega), fun _ => ⟨fun q => absurd q (by omega), fun _ => ⟨fun _ => ⟨hb, x_push h (by omega) (fun τ ht kt => hq τ ht kt.kr)⟩, fun q => absurd (show op / 8 = 10 by omega) q⟩⟩⟩
    · have e1 : zA ρ 0 75 b = P.r b := h.2.1 b (by omega) (by omega)
      unfold wpX11_plain wpX11_plain_99
      rw [← eb, e1]
      exact ⟨by omega, fun _ => ⟨fun _ => ⟨fun q => absurd q (by omega), fun _ => y_push h (by omega) (fun τ ht kt => hq τ ht (fs4.of kt))⟩, fun q => absurd (show 80 ≤ op by omega) q⟩, fun q => absurd q (by omega)⟩
  · refine ⟨mvR (mvPo P) b (mvPv P), 3, by decide, (hp.po.s (by omega) (hp.w _)).mo (by omega), (mvR_ne (P := mvPo P) (by omega)).trans mvPo_12, fun σ Q h hq => ac σ Q ?_, fun ρ Q h hq => b_58 (Or.inl ho) ?_⟩
    · unfold wpX4_executeRegister wpX4_executeRegister_111
      exact ⟨by omega, fun q => absurd q (by omega), fun _ => ⟨fun q => absurd q (by omega), fun _ => ⟨fun q => absurd q (by omega), fun _ => x_pop h (fun τ ht kt => ⟨hb, hq _ (ht.a1 hb) kt.a.kr⟩)⟩⟩⟩
    · unfold wpX11_plain wpX11_plain_99
      rw [← eb]
      exact ⟨by omega, fun _ => ⟨fun _ => ⟨fun _ => y_pop h hp (fun τ ht kt => hq _ ht.a75 (fs4.of (kt.ta (by decide)))), fun q => absurd (show 88 ≤ op by omega) q⟩, fun q => absurd (show 80 ≤ op by omega) q⟩, fun q => absurd q (by omega)⟩
theorem bx_imm {op : Int} {P : MV} {N : Int} (hp : MVr P N) (ho : 184 ≤ op ∧ op < 192) : BX op P N := by
  refine ⟨mvR (mvF (mvF P)) (op - 184) (mvFw P), 3, by decide, (hp.ft.ft.s (by omega) hp.fw).mo (by omega), mvR_ne (P := mvF (mvF P)) (by omega), fun σ Q h hq => a_54 (by omega) ?_, fun ρ Q h hq => b_58 (Or.inr ho) ?_⟩
  · unfold wpX4_execute_54
    exact ⟨by omega, fun q => absurd q (by omega), fun _ => ⟨fun q => absurd q (by omega), fun _ => x_fetchWord h (fun τ ht kt => ⟨by omega, hq _ (ht.a1 (by omega)) kt.a.kr⟩)⟩⟩
  · unfold wpX11_plain
    rw [show op % 8 = op - 184 by omega]
    exact ⟨by omega, fun q => absurd q (by omega), fun _ => y_fetchTwo h hp (fun τ ht kt => hq _ ht.a75 (fs4.of (kt.ta (by decide))))⟩
theorem bx_pushS {op : Int} {P : MV} {N : Int} (hp : MVr P N) (ho : 0 ≤ op ∧ op < 32) (h6 : op % 8 = 6) : BX op P N := by
  have rs := hp.g (i := 8 + op / 8) (by omega) (by omega)
  refine ⟨mvPu P (P.r (8 + op / 8)), 3, by decide, hp.pu.mo (by omega), mvPu_12, fun σ Q h hq => ?_, fun ρ Q h hq => b_67 (by omega) (by unfold hF; omega) ?_⟩
  · have e1 : zA σ 18 2 (op / 8) = P.r (8 + op / 8) := h.2.2.1 _ (by omega) (by omega)
    unfold wpX4_execute wpX4_executeLow
    rw [e1]
    exact ⟨by omega, fun q => absurd q (by omega), fun _ => ⟨by omega, fun q => absurd h6 q, fun _ => ⟨by omega, fun q => absurd q (by omega), fun _ => ⟨by omega, x_push h (by omega) (fun τ ht kt => hq τ ht kt.kr)⟩⟩⟩⟩
  · have e1 : zA ρ 0 75 (8 + op / 8) = P.r (8 + op / 8) := h.2.1 _ (by omega) (by omega)
    unfold wpX11_step_67
    rw [e1]
    exact ⟨by omega, fun q => absurd q (by omega), fun _ => ⟨by omega, fun q => absurd h6 q, fun _ => ⟨by omega, y_push h (by omega) (fun τ ht kt => hq τ ht (fs4.of kt))⟩⟩⟩
theorem bx_popS {op : Int} {P : MV} {N : Int} (hp : MVr P N) (ho : 0 ≤ op ∧ op < 32) (h7 : op % 8 = 7) (n15 : ¬ op = 15) : BX op P N := by
  refine ⟨mvR (mvPo P) (8 + op / 8) (mvPv P), 3, by decide, (hp.po.s (by omega) (hp.w _)).mo (by omega), (mvR_ne (P := mvPo P) (by omega)).trans mvPo_12, fun σ Q h hq => ?_, fun ρ Q h hq => b_67 (by omega) (by unfold hF; omega) ?_⟩
  · unfold wpX4_execute wpX4_executeLow wpX4_executeLow_23
    exact ⟨by omega, fun q => absurd q (by omega), fun _ => ⟨by omega, fun _ => ⟨by omega, fun q => absurd h7 q, fun _ => ⟨by omega, fun q => absurd q (by omega), fun _ => ⟨fun q => absurd q (by omega), fun _ => x_pop h (fun τ ht kt => ⟨by omega, hq _ (ht.a2 (by omega)) kt.a.kr⟩)⟩⟩⟩, fun q => absurd q (by omega)⟩⟩
  · unfold wpX11_step_67 wpX11_step_103
    exact ⟨by omega, fun q => absurd q (by omega), fun _ => ⟨by omega, fun _ => ⟨by omega, fun q => absurd q (by omega), fun _ => ⟨by omega, fun q => absurd h7 q, fun _ => ⟨fun q => absurd q n15, fun _ => y_pop h hp (fun τ ht kt => ⟨by omega, hq _ ht.a75 (fs4.of (kt.ta (by decide)))⟩)⟩⟩⟩, fun q => absurd q (by omega)⟩⟩
/-! branches -/
theorem y_condition {op f : Int} {P : MV} {N : Int} {ρ : ZS} {Q : Int → ZS → Prop} (h : HR ρ P) (hp : MVr P N) (ho : (f = 13 ∧ op < 116) ∨ (f = 14 ∧ 116 ≤ op ∧ op < 118) ∨ (f = 15 ∧ 118 ≤ op)) (hb : 0 ≤ op ∧ op ≤ 255) (hQ : Q (if P.r f = op % 2 then 0 else 1) ρ) : wpX11_condition op ρ Q := by
  have rf : 0 ≤ P.r f ∧ P.r f ≤ 1 := by
    rcases ho with ⟨e, -⟩ | ⟨e, -⟩ | ⟨e, -⟩
    · rw [e]; exact hp.2.2.1
    · rw [e]; exact hp.2.2.2.1
    · rw [e]; exact hp.2.2.2.2.1
  have e : zA ρ 0 75 f = P.r f := h.2.1 f (by omega) (by omega)
  have f28 : wpX11_condition_28 op f ρ Q := by
    unfold wpX11_condition_28 wpX11_condition_37 wpX11_condition_57
    rw [e]
    refine ⟨by omega, by omega, fun z => ⟨fun m => ⟨by decide, fun q => absurd rfl q, fun _ => ⟨by decide, ?_⟩⟩, fun m => ⟨by decide, ?_⟩⟩, fun z => ⟨fun m => ⟨by decide, fun _ => ⟨by decide, ?_⟩, fun q => absurd q (by decide)⟩, fun m => ⟨by decide, ?_⟩⟩⟩
    · rw [if_neg (by omega)] at hQ; exact hQ
    · rw [if_pos (by omega)] at hQ; exact hQ
    · rw [if_pos (by omega)] at hQ; exact hQ
    · rw [if_neg (by omega)] at hQ; exact hQ
  unfold wpX11_condition
  refine ⟨by omega, fun q => ⟨fun q2 => ?_, fun q2 => ?_⟩, fun q => ?_⟩
  · rw [show (15 : Int) = f by omega]; exact f28
  · rw [show (14 : Int) = f by omega]; exact f28
  · rw [show (13 : Int) = f by omega]; exact f28
theorem bx_branch {op : Int} {P : MV} {N : Int} (hp : MVr P N) (ho : op = 114 ∨ op = 115 ∨ op = 116 ∨ op = 117 ∨ op = 120 ∨ op = 121) : BX op P N := by
  obtain ⟨f, hf⟩ : ∃ f : Int, (f = 13 ∧ op < 116) ∨ (f = 14 ∧ 116 ≤ op ∧ op < 118) ∨ (f = 15 ∧ 118 ≤ op) := by
    by_cases a : op < 116
    · exact ⟨13, Or.inl ⟨rfl, a⟩⟩
    · by_cases b : op < 118
      · exact ⟨14, Or.inr (Or.inl ⟨rfl, by omega, b⟩)⟩
      · exact ⟨15, Or.inr (Or.inr ⟨rfl, by omega⟩)⟩
  refine ⟨if P.r f = op % 2 then mvF P else mvI (mvF P) (((mvF P).ip + mvFs P) % 65536), 3, by decide, ?_, ?_, fun σ Q h hq => ?_, fun ρ Q h hq => b_145 (by omega) (by unfold hF; omega) (by omega) ?_⟩
  · split
    · exact hp.ft.mo (by omega)
    · exact (hp.ft.i (by omega)).mo (by omega)
  · split <;> rfl
  · have f58 : ∀ x : Int, x = P.r f → wpX4_branch_58 op x σ Q := by
      intro x ex
      have rf : 0 ≤ P.r f ∧ P.r f ≤ 65535 := hp.g (by omega) (by omega)
      unfold wpX4_branch_58 wpX4_branch_75 wpX4_jump
      refine x_fetchSigned h (fun τ ht kt => ⟨by omega, fun q => ?_, fun q => ?_⟩)
      · rw [if_pos (by omega)] at hq; exact hq τ ht kt.kr
      · rw [if_neg (by omega)] at hq; rw [ht.2.2.2.1]; exact hq _ ht.i3 kt.i3.kr
    have e13 := h.2.2.2.2.1
    have e14 := h.2.2.2.2.2.1
    have e15 := h.2.2.2.2.2.2.1
    unfold wpX4_execute wpX4_branch
    refine ⟨by omega, fun _ => ⟨fun _ => ⟨fun q => absurd q (by omega), fun _ => ⟨fun q => absurd q (by omega), fun _ => ⟨by omega, fun q => f58 _ ?_, fun _ => ⟨fun q => f58 _ ?_, fun _ => ⟨fun q => absurd q (by omega), fun _ => ⟨fun q => f58 _ ?_, fun q => absurd (show op / 2 = 60 by omega) q⟩⟩⟩⟩⟩⟩, fun q => absurd q (by omega)⟩, fun q => absurd q (by omega)⟩
    · rw [show f = 13 by omega]; exact e13
    · rw [show f = 14 by omega]; exact e14
    · rw [show f = 15 by omega]; exact e15
  · have f124 : wpX11_control_124 op ρ (fun (x4 : Int) (σ5 : ZS) => wpX11_step_151 x4 σ5 Q) := by
      unfold wpX11_control_124 wpX11_control_151
      refine y_fetchSigned h hp (fun τ ht kt => y_condition ht hp.ft hf (by omega) ?_)
      by_cases q : P.r f = op % 2
      · rw [if_pos q] at hq
        rw [if_pos (show (mvF P).r f = op % 2 from q)]
        exact ⟨by decide, fun _ => hq τ ht (fs4.of kt), fun z => absurd rfl z⟩
      · rw [if_neg q] at hq
        rw [if_neg (show ¬ (mvF P).r f = op % 2 from q)]
        refine ⟨by decide, fun z => absurd z (by decide), fun _ => ?_⟩
        rw [ht.2.2.1]; exact hq _ ht.i80 (fs4.of (kt.ti (by decide)))
    unfold wpX11_control
    exact ⟨by omega, fun _ => f124, fun _ => ⟨fun _ => f124, fun _ => ⟨fun _ => f124, fun _ => ⟨fun _ => f124, fun _ => ⟨fun _ => f124, fun _ => ⟨fun _ => f124, fun q => absurd ho (by omega)⟩⟩⟩⟩⟩⟩
/-! operands -/
theorem bx_low {op : Int} {P : MV} {N : Int} (hp : MVr P N) (ho : 0 ≤ op ∧ op < 64) (h13 : op % 8 = 1 ∨ op % 8 = 3) (n2 : ¬ op / 8 = 2) (n3 : ¬ op / 8 = 3) : BX op P N := by
  have hp1 := hp.mp
  have hk := hp.mk
  have hs := hp.ml
  obtain ⟨P1, e1⟩ : ∃ P1, P1 = mvMP P := ⟨_, rfl⟩
  obtain ⟨k, ek⟩ : ∃ k, k = mvMk P := ⟨_, rfl⟩
  obtain ⟨sl, es⟩ : ∃ sl, sl = mvMl P := ⟨_, rfl⟩
  obtain ⟨ad, ea⟩ : ∃ ad, ad = mvMa P := ⟨_, rfl⟩
  obtain ⟨n, en⟩ : ∃ n, n = op / 8 := ⟨_, rfl⟩
  rw [← e1] at hp1
  rw [← ek] at hk
  rw [← es] at hs
  rw [← en] at n2 n3
  have hn : 0 ≤ n ∧ n ≤ 7 := by omega
  have r12 : P1.r 12 = P.r 12 := by rw [e1, mvMP_r]
  have rk := hp1.g (i := k) (by omega) (by omega)
  have rg := hp1.gg (ad := ad) hs
  have hf : hF op := Or.inl ⟨ho.2, h13, by rw [← en]; exact n2, by rw [← en]; exact n3⟩
  -- the class's road
  have ac : ∀ (σ : ZS) (Q : Int → ZS → Prop), wpX4_executeLow_61 n (op % 8) σ Q → wpX4_execute op σ Q := by
    intro σ Q h
    unfold wpX4_execute wpX4_executeLow wpX4_executeLow_23 wpX4_executeLow_51
    rw [← en]
    exact ⟨by omega, fun q => absurd q (by omega), fun _ => ⟨by omega, fun _ => ⟨by omega, fun _ => ⟨by omega, fun _ => h, fun _ => ⟨fun q => absurd h13 (by omega), fun _ => h⟩⟩, fun q => absurd h13 (by omega)⟩, fun q => absurd h13 (by omega)⟩⟩
  by_cases c : op % 8 = 1
  · refine ⟨mvOn P1 sl ad n (P1.r k), 3, by decide, (hp1.on hs).mo (by omega), (mvOn_12 hs).trans r12, fun σ Q h hq => ac σ Q ?_, fun ρ Q h hq => b_form (by omega) hf ?_⟩
    · unfold wpX4_executeLow_61 wpX4_executeLow_131
      refine x_isArithmetic hn (fun _ _ => ⟨by decide, fun _ => x_fetchM h hp (fun τ ht kt hl => ?_), fun q => absurd q (by decide)⟩) (fun q => absurd q (by omega))
      rw [← e1] at ht
      rw [← ek, ← es, ← ea] at hl
      rw [hl.1, ht.2.1 k (by omega) (by omega)]
      exact ⟨by omega, fun q => absurd c q, fun _ => ⟨by omega, x_onM ht hp1 hl hs (by omega) rk (fun υ hu ku => hq υ hu (kt.tr ku.kr))⟩⟩
    · unfold wpX11_formed
      refine y_readForm h hp (fun τ ht kt hl => ?_)
      rw [← e1] at ht hl
      rw [← ek, ← es, ← ea] at hl
      refine ⟨by omega, fun q => absurd q (by omega), fun _ => ⟨by omega, fun _ => y_formGet ht hp1 hl ?_, fun q => absurd q (by omega)⟩⟩
      unfold wpX11_formed_38
      rw [hl.1, ht.2.1 k (by omega) (by omega), ← en]
      refine ⟨by omega, fun _ => ⟨by omega, ?_⟩, fun q => absurd q (by omega)⟩
      unfold wpX11_formed_63 wpX11_formed_111
      refine y_alu ht (by omega) rg rk (fun υ hu ku => ⟨by omega, fun n7 => ⟨by omega, fun _ => y_formSet hu (hl.k ku (mvAl_r (by decide)) (mvAl_r (by decide))) (by omega) (fun ω hw kw => hq ω ?_ (kt.tr (fs4.of (ku.tr kw)))), fun q => absurd q (by omega)⟩, fun q7 => hq υ ?_ (kt.tr (fs4.of ku))⟩)
      · unfold mvOn; rw [if_neg n7]; exact hw
      · unfold mvOn; rw [if_pos q7]; exact hu
  · have c3 : op % 8 = 3 := by omega
    obtain ⟨v, ev⟩ : ∃ v, v = mvAv n (P1.r k) (mvG P1 sl ad) := ⟨_, rfl⟩
    refine ⟨if n = 7 then mvAl P1 v else mvR (mvAl P1 v) k (v % 65536), 3, by decide, ?_, ?_, fun σ Q h hq => ac σ Q ?_, fun ρ Q h hq => b_form (by omega) hf ?_⟩
    · split
      · exact hp1.al.mo (by omega)
      · exact (hp1.al.s (by omega) (by omega)).mo (by omega)
    · split
      · exact (mvAl_r (by decide)).trans r12
      · exact (mvR_ne (P := mvAl P1 v) (by omega)).trans ((mvAl_r (by decide)).trans r12)
    · unfold wpX4_executeLow_61 wpX4_executeLow_131
      refine x_isArithmetic hn (fun _ _ => ⟨by decide, fun _ => x_fetchM h hp (fun τ ht kt hl => ?_), fun q => absurd q (by decide)⟩) (fun q => absurd q (by omega))
      rw [← e1] at ht
      rw [← ek, ← es, ← ea] at hl
      rw [hl.1, ht.2.1 k (by omega) (by omega)]
      refine ⟨by omega, fun _ => ⟨by omega, x_readM ht hl hs (x_alu ht (by omega) rk rg (fun υ hu ku => ?_))⟩, fun q => absurd q c⟩
      rw [← ev] at hu ⊢
      rw [(hl.k ku).1]
      refine ⟨by omega, fun q7 => ?_, fun n7 => ⟨by omega, ?_⟩⟩
      · rw [if_pos q7] at hq; exact hq υ hu (kt.tr ku.kr)
      · rw [if_neg n7] at hq; exact hq _ (hu.a1 (by omega)) (kt.tr ku.a.kr)
    · unfold wpX11_formed
      refine y_readForm h hp (fun τ ht kt hl => ?_)
      rw [← e1] at ht hl
      rw [← ek, ← es, ← ea] at hl
      rw [hl.1, ht.2.1 k (by omega) (by omega), ← en]
      refine ⟨by omega, fun q => absurd q (by omega), fun _ => ⟨by omega, fun q => absurd c3 q, fun _ => ⟨by omega, ?_⟩⟩⟩
      unfold wpX11_formed_38
      refine ⟨by omega, fun q => absurd c3 q, fun _ => y_formGet ht hp1 hl ?_⟩
      unfold wpX11_formed_63 wpX11_formed_111
      refine y_alu ht (by omega) rk rg (fun υ hu ku => ?_)
      rw [← ev] at hu ⊢
      have k82 : zI υ 0 82 = k := by rw [ku.1 82 (by decide)]; exact hl.1
      rw [k82]
      refine ⟨by omega, fun n7 => ⟨by omega, fun q => absurd c3 q, fun _ => ⟨by omega, ?_⟩⟩, fun q7 => ?_⟩
      · rw [if_neg n7] at hq; exact hq _ hu.a75 (kt.tr (fs4.of (ku.ta (by decide))))
      · rw [if_pos q7] at hq; exact hq υ hu (kt.tr (fs4.of ku))
/-! M: instructions with an operand -/
/-- the reference behind the operand -/
def FB (a1 : Int) (σ16 : ZS) (Q : Int → ZS → Prop) : Prop := (-2147483648 ≤ a1 ∧ a1 ≤ 2147483647) ∧ (64 ≤ a1 → (a1 = 129 → wpX11_operation (zI σ16 0 82) σ16 (fun (x21 : Int) (σ22 : ZS) => (-2147483648 ≤ x21 ∧ x21 ≤ 2147483647) ∧ (¬ x21 = 0 → wpX11_fetchTwo σ22 (fun (x25 : Int) (σ26 : ZS) => wpX11_formGet σ26 (fun (x27 : Int) (σ28 : ZS) => wpX11_reckoned (zI σ26 0 82) x27 x25 σ28 (fun (x29 : Int) (σ30 : ZS) => (-2147483648 ≤ (zI σ30 0 82) ∧ (zI σ30 0 82) ≤ 2147483647) ∧ ((zI σ30 0 82) = 7 → wpX11_formed_219 σ30 Q) ∧ (¬ (zI σ30 0 82) = 7 → wpX11_formSet x29 σ30 (fun (σ34 : ZS) => wpX11_formed_219 σ34 Q)))))) ∧ (x21 = 0 → Q 2 σ22))) ∧ (¬ a1 = 129 → (a1 = 137 → (0 ≤ (zI σ16 0 82) ∧ (zI σ16 0 82) < 16) ∧ wpX11_formSet (zA σ16 0 75 (zI σ16 0 82)) σ16 (fun (σ38 : ZS) => Q 0 σ38)) ∧ (¬ a1 = 137 → (a1 = 139 → wpX11_formGet σ16 (fun (x40 : Int) (σ41 : ZS) => (0 ≤ (zI σ16 0 82) ∧ (zI σ16 0 82) < 16) ∧ Q 0 (zsA σ41 0 75 (zI σ16 0 82) x40))) ∧ (¬ a1 = 139 → (a1 = 140 → (-2147483648 ≤ (zI σ16 0 82) ∧ (zI σ16 0 82) ≤ 2147483647) ∧ ((zI σ16 0 82) ≤ 3 → (0 ≤ (8 + (zI σ16 0 82)) ∧ (8 + (zI σ16 0 82)) < 16) ∧ wpX11_formSet (zA σ16 0 75 (8 + (zI σ16 0 82))) σ16 (fun (σ48 : ZS) => Q 0 σ48)) ∧ (¬ (zI σ16 0 82) ≤ 3 → Q 2 σ16)) ∧ (¬ a1 = 140 → (a1 = 142 → (-2147483648 ≤ (zI σ16 0 82) ∧ (zI σ16 0 82) ≤ 2147483647) ∧ (3 < (zI σ16 0 82) → wpX11_formed_295 σ16 Q) ∧ (¬ 3 < (zI σ16 0 82) → (¬ (zI σ16 0 82) = 1 → wpX11_formGet σ16 (fun (x53 : Int) (σ54 : ZS) => (0 ≤ (8 + (zI σ16 0 82)) ∧ (8 + (zI σ16 0 82)) < 16) ∧ Q 0 (zsA σ54 0 75 (8 + (zI σ16 0 82)) x53))) ∧ ((zI σ16 0 82) = 1 → wpX11_formed_295 σ16 Q))) ∧ (¬ a1 = 142 → (a1 = 199 → (-2147483648 ≤ (zI σ16 0 82) ∧ (zI σ16 0 82) ≤ 2147483647) ∧ ((zI σ16 0 82) = 0 → wpX11_fetchTwo σ16 (fun (x59 : Int) (σ60 : ZS) => wpX11_formSet x59 σ60 (fun (σ62 : ZS) => Q 0 σ62))) ∧ (¬ (zI σ16 0 82) = 0 → Q 2 σ16)) ∧ (¬ a1 = 199 → (¬ a1 = 209 → wpX11_group σ16 (fun (x64 : Int) (σ65 : ZS) => wpX11_formed_352 x64 σ65 Q)) ∧ (a1 = 209 → wpX11_shift σ16 (fun (x66 : Int) (σ67 : ZS) => wpX11_formed_352 x66 σ67 Q))))))))) ∧ (¬ 64 ≤ a1 → (0 ≤ a1 ∧ a1 ≤ 2147483647) ∧ (¬ (a1 % 8) = 3 → wpX11_formGet σ16 (fun (x70 : Int) (σ71 : ZS) => wpX11_formed_38 a1 (a1 / 8) x70 σ71 Q)) ∧ ((a1 % 8) = 3 → (0 ≤ (zI σ16 0 82) ∧ (zI σ16 0 82) < 16) ∧ wpX11_formed_38 a1 (a1 / 8) (zA σ16 0 75 (zI σ16 0 82)) σ16 Q))
theorem bx_M {op : Int} {P : MV} {N : Int} (hp : MVr P N) (ho : op = 129 ∨ op = 137 ∨ op = 139 ∨ op = 140 ∨ op = 142 ∨ op = 199 ∨ op = 209 ∨ op = 247) (P' : MV) (c : Int) (hc : 0 ≤ c ∧ c ≤ 3) (hr : MVr P' N) (h12 : P'.r 12 = (mvMP P).r 12) (hC : ∀ (τ : ZS) (Q : Int → ZS → Prop), HC τ (mvMP P) → HLc τ (mvMk P) (mvMl P) (mvMa P) → (∀ υ : ZS, HC υ P' → kq τ υ → Q c υ) → wpX4_executeM op τ Q) (hR : ∀ (τ : ZS) (Q : Int → ZS → Prop), HR τ (mvMP P) → HLr τ (mvMP P) (mvMk P) (mvMl P) (mvMa P) → (∀ υ : ZS, HR υ P' → fr [78, 80] MR τ υ → Q (rcW c) υ) → FB op τ Q) : BX op P N := by
  refine ⟨P', c, hc, hr.mo (by omega), h12.trans (by rw [mvMP_r]), fun σ Q h hq => a_160 ho ?_, fun ρ Q h hq => b_form (by omega) (Or.inr ho) ?_⟩
  · unfold wpX4_execute_160
    exact x_fetchM h hp (fun τ ht kt hl => hC τ _ ht hl (fun υ hu ku => hq υ hu (kt.tr ku.kr)))
  · unfold wpX11_formed
    exact y_readForm h hp (fun τ ht kt hl => hR τ _ ht hl (fun υ hu ku => hq υ hu (kt.tr (fs4.of ku))))
theorem bx_137 {P : MV} {N : Int} (hp : MVr P N) : BX 137 P N := by
  have hp1 := hp.mp
  have hk := hp.mk
  have hs := hp.ml
  have rk := hp1.g (i := mvMk P) (by omega) (by omega)
  have rg := hp1.gg (ad := mvMa P) hs
  have bm := fun (P' : MV) (c : Int) => bx_M (op := 137) hp (by decide) P' c
  generalize mvMP P = P1 at *
  generalize mvMk P = k at *
  generalize mvMl P = sl at *
  generalize mvMa P = ad at *
  refine bm (mvS P1 sl ad (P1.r k)) 3 (by decide) (hp1.ss hs) (mvS_12 hs) (fun τ Q h hl hq => ?_) (fun τ Q h hl hq => ?_)
  · unfold wpX4_executeM
    rw [hl.1, h.2.1 k (by omega) (by omega)]
    exact ⟨by decide, fun q => absurd q (by decide), fun _ => ⟨fun _ => ⟨by omega, x_writeM h hl hs (by omega) (fun υ hu ku => hq υ hu ku)⟩, fun q => absurd rfl q⟩⟩
  · unfold FB
    rw [hl.1, h.2.1 k (by omega) (by omega)]
    exact ⟨by decide, fun _ => ⟨fun q => absurd q (by decide), fun _ => ⟨fun _ => ⟨by omega, y_formSet h hl (by omega) (fun υ hu ku => hq υ hu ku)⟩, fun q => absurd rfl q⟩⟩, fun q => absurd (by decide) q⟩
theorem bx_139 {P : MV} {N : Int} (hp : MVr P N) : BX 139 P N := by
  have hp1 := hp.mp
  have hk := hp.mk
  have hs := hp.ml
  have rk := hp1.g (i := mvMk P) (by omega) (by omega)
  have rg := hp1.gg (ad := mvMa P) hs
  have bm := fun (P' : MV) (c : Int) => bx_M (op := 139) hp (by decide) P' c
  generalize mvMP P = P1 at *
  generalize mvMk P = k at *
  generalize mvMl P = sl at *
  generalize mvMa P = ad at *
  refine bm (mvR P1 k (mvG P1 sl ad)) 3 (by decide) (hp1.s (by omega) rg) (mvR_ne (by omega)) (fun τ Q h hl hq => ?_) (fun τ Q h hl hq => ?_)
  · unfold wpX4_executeM
    rw [hl.1]
    exact ⟨by decide, fun q => absurd q (by decide), fun _ => ⟨fun q => absurd q (by decide), fun _ => ⟨fun _ => x_readM h hl hs ⟨by omega, hq _ (h.a1 (by omega)) kq.rf.a⟩, fun q => absurd rfl q⟩⟩⟩
  · unfold FB
    rw [hl.1]
    exact ⟨by decide, fun _ => ⟨fun q => absurd q (by decide), fun _ => ⟨fun q => absurd q (by decide), fun _ => ⟨fun _ => y_formGet h hp1 hl ⟨by omega, hq _ h.a75 (fr.a (by decide))⟩, fun q => absurd rfl q⟩⟩⟩, fun q => absurd (by decide) q⟩
theorem bx_140 {P : MV} {N : Int} (hp : MVr P N) : BX 140 P N := by
  have hp1 := hp.mp
  have hk := hp.mk
  have hs := hp.ml
  have rk := hp1.g (i := mvMk P) (by omega) (by omega)
  have rg := hp1.gg (ad := mvMa P) hs
  have bm := fun (P' : MV) (c : Int) => bx_M (op := 140) hp (by decide) P' c
  generalize mvMP P = P1 at *
  generalize mvMk P = k at *
  generalize mvMl P = sl at *
  generalize mvMa P = ad at *
  by_cases c3 : k ≤ 3
  · have rs := hp1.g (i := 8 + k) (by omega) (by omega)
    refine bm (mvS P1 sl ad (P1.r (8 + k))) 3 (by decide) (hp1.ss hs) (mvS_12 hs) (fun τ Q h hl hq => ?_) (fun τ Q h hl hq => ?_)
    · unfold wpX4_executeM
      rw [hl.1, h.2.2.1 k (by omega) (by omega)]
      exact ⟨by decide, fun q => absurd q (by decide), fun _ => ⟨fun q => absurd q (by decide), fun _ => ⟨fun q => absurd q (by decide), fun _ => ⟨fun _ => ⟨by omega, fun _ => ⟨by omega, x_writeM h hl hs (by omega) (fun υ hu ku => hq υ hu ku)⟩, fun q => absurd c3 q⟩, fun q => absurd rfl q⟩⟩⟩⟩
    · unfold FB
      rw [hl.1, h.2.1 (8 + k) (by omega) (by omega)]
      exact ⟨by decide, fun _ => ⟨fun q => absurd q (by decide), fun _ => ⟨fun q => absurd q (by decide), fun _ => ⟨fun q => absurd q (by decide), fun _ => ⟨fun _ => ⟨by omega, fun _ => ⟨by omega, y_formSet h hl (by omega) (fun υ hu ku => hq υ hu ku)⟩, fun q => absurd c3 q⟩, fun q => absurd rfl q⟩⟩⟩⟩, fun q => absurd (by decide) q⟩
  · refine bm P1 2 (by decide) hp1 rfl (fun τ Q h hl hq => ?_) (fun τ Q h hl hq => ?_)
    · unfold wpX4_executeM
      rw [hl.1]
      exact ⟨by decide, fun q => absurd q (by decide), fun _ => ⟨fun q => absurd q (by decide), fun _ => ⟨fun q => absurd q (by decide), fun _ => ⟨fun _ => ⟨by omega, fun q => absurd q c3, fun _ => hq τ h kq.rf⟩, fun q => absurd rfl q⟩⟩⟩⟩
    · unfold FB
      rw [hl.1]
      exact ⟨by decide, fun _ => ⟨fun q => absurd q (by decide), fun _ => ⟨fun q => absurd q (by decide), fun _ => ⟨fun q => absurd q (by decide), fun _ => ⟨fun _ => ⟨by omega, fun q => absurd q c3, fun _ => hq τ h fr.rf⟩, fun q => absurd rfl q⟩⟩⟩⟩, fun q => absurd (by decide) q⟩
theorem bx_142 {P : MV} {N : Int} (hp : MVr P N) : BX 142 P N := by
  have hp1 := hp.mp
  have hk := hp.mk
  have hs := hp.ml
  have rk := hp1.g (i := mvMk P) (by omega) (by omega)
  have rg := hp1.gg (ad := mvMa P) hs
  have bm := fun (P' : MV) (c : Int) => bx_M (op := 142) hp (by decide) P' c
  generalize mvMP P = P1 at *
  generalize mvMk P = k at *
  generalize mvMl P = sl at *
  generalize mvMa P = ad at *
  by_cases c3 : 3 < k ∨ k = 1
  · refine bm P1 2 (by decide) hp1 rfl (fun τ Q h hl hq => ?_) (fun τ Q h hl hq => ?_)
    · unfold wpX4_executeM wpX4_executeM_165
      rw [hl.1]
      exact ⟨by decide, fun q => absurd q (by decide), fun _ => ⟨fun q => absurd q (by decide), fun _ => ⟨fun q => absurd q (by decide), fun _ => ⟨fun q => absurd q (by decide), fun _ => ⟨fun _ => ⟨by omega, fun _ => hq τ h kq.rf, fun _ => ⟨fun q => absurd c3 (by omega), fun _ => hq τ h kq.rf⟩⟩, fun q => absurd rfl q⟩⟩⟩⟩⟩
    · unfold FB wpX11_formed_295
      rw [hl.1]
      exact ⟨by decide, fun _ => ⟨fun q => absurd q (by decide), fun _ => ⟨fun q => absurd q (by decide), fun _ => ⟨fun q => absurd q (by decide), fun _ => ⟨fun q => absurd q (by decide), fun _ => ⟨fun _ => ⟨by omega, fun _ => hq τ h fr.rf, fun _ => ⟨fun q => absurd c3 (by omega), fun _ => hq τ h fr.rf⟩⟩, fun q => absurd rfl q⟩⟩⟩⟩⟩, fun q => absurd (by decide) q⟩
  · refine bm (mvR P1 (8 + k) (mvG P1 sl ad)) 3 (by decide) (hp1.s (by omega) rg) (mvR_ne (by omega)) (fun τ Q h hl hq => ?_) (fun τ Q h hl hq => ?_)
    · unfold wpX4_executeM
      rw [hl.1]
      exact ⟨by decide, fun q => absurd q (by decide), fun _ => ⟨fun q => absurd q (by decide), fun _ => ⟨fun q => absurd q (by decide), fun _ => ⟨fun q => absurd q (by decide), fun _ => ⟨fun _ => ⟨by omega, fun q => absurd (Or.inl q) c3, fun _ => ⟨fun _ => x_readM h hl hs ⟨by omega, hq _ (h.a2 (by omega)) kq.rf.a⟩, fun q => absurd (Or.inr q) c3⟩⟩, fun q => absurd rfl q⟩⟩⟩⟩⟩
    · unfold FB
      rw [hl.1]
      exact ⟨by decide, fun _ => ⟨fun q => absurd q (by decide), fun _ => ⟨fun q => absurd q (by decide), fun _ => ⟨fun q => absurd q (by decide), fun _ => ⟨fun q => absurd q (by decide), fun _ => ⟨fun _ => ⟨by omega, fun q => absurd (Or.inl q) c3, fun _ => ⟨fun _ => y_formGet h hp1 hl ⟨by omega, hq _ h.a75 (fr.a (by decide))⟩, fun q => absurd (Or.inr q) c3⟩⟩, fun q => absurd rfl q⟩⟩⟩⟩⟩, fun q => absurd (by decide) q⟩
theorem bx_199 {P : MV} {N : Int} (hp : MVr P N) : BX 199 P N := by
  have hp1 := hp.mp
  have hk := hp.mk
  have hs := hp.ml
  have rk := hp1.g (i := mvMk P) (by omega) (by omega)
  have rg := hp1.gg (ad := mvMa P) hs
  have bm := fun (P' : MV) (c : Int) => bx_M (op := 199) hp (by decide) P' c
  generalize mvMP P = P1 at *
  generalize mvMk P = k at *
  generalize mvMl P = sl at *
  generalize mvMa P = ad at *
  have hw := hp1.fw
  by_cases c0 : k = 0
  · refine bm (mvS (mvF (mvF P1)) sl ad (mvFw P1)) 3 (by decide) (hp1.ft.ft.ss hs) (mvS_12 hs) (fun τ Q h hl hq => ?_) (fun τ Q h hl hq => ?_)
    · unfold wpX4_executeM
      rw [hl.1]
      exact ⟨by decide, fun q => absurd q (by decide), fun _ => ⟨fun q => absurd q (by decide), fun _ => ⟨fun q => absurd q (by decide), fun _ => ⟨fun q => absurd q (by decide), fun _ => ⟨fun q => absurd q (by decide), fun _ => ⟨fun _ => ⟨by omega, fun _ => x_fetchWord h (fun υ hu ku => x_writeM hu (hl.k ku) hs (by omega) (fun ω hw kw => hq ω hw (ku.tr kw))), fun q => absurd c0 q⟩, fun q => absurd rfl q⟩⟩⟩⟩⟩⟩
    · unfold FB
      rw [hl.1]
      exact ⟨by decide, fun _ => ⟨fun q => absurd q (by decide), fun _ => ⟨fun q => absurd q (by decide), fun _ => ⟨fun q => absurd q (by decide), fun _ => ⟨fun q => absurd q (by decide), fun _ => ⟨fun q => absurd q (by decide), fun _ => ⟨fun _ => ⟨by omega, fun _ => y_fetchTwo h hp1 (fun υ hu ku => y_formSet hu (hl.k ku rfl rfl) (by omega) (fun ω hw kw => hq ω hw (ku.tr kw))), fun q => absurd c0 q⟩, fun q => absurd rfl q⟩⟩⟩⟩⟩⟩, fun q => absurd (by decide) q⟩
  · refine bm P1 2 (by decide) hp1 rfl (fun τ Q h hl hq => ?_) (fun τ Q h hl hq => ?_)
    · unfold wpX4_executeM
      rw [hl.1]
      exact ⟨by decide, fun q => absurd q (by decide), fun _ => ⟨fun q => absurd q (by decide), fun _ => ⟨fun q => absurd q (by decide), fun _ => ⟨fun q => absurd q (by decide), fun _ => ⟨fun q => absurd q (by decide), fun _ => ⟨fun _ => ⟨by omega, fun q => absurd q c0, fun _ => hq τ h kq.rf⟩, fun q => absurd rfl q⟩⟩⟩⟩⟩⟩
    · unfold FB
      rw [hl.1]
      exact ⟨by decide, fun _ => ⟨fun q => absurd q (by decide), fun _ => ⟨fun q => absurd q (by decide), fun _ => ⟨fun q => absurd q (by decide), fun _ => ⟨fun q => absurd q (by decide), fun _ => ⟨fun q => absurd q (by decide), fun _ => ⟨fun _ => ⟨by omega, fun q => absurd q c0, fun _ => hq τ h fr.rf⟩, fun q => absurd rfl q⟩⟩⟩⟩⟩⟩, fun q => absurd (by decide) q⟩
theorem bx_209 {P : MV} {N : Int} (hp : MVr P N) : BX 209 P N := by
  have hp1 := hp.mp
  have hk := hp.mk
  have hs := hp.ml
  have rk := hp1.g (i := mvMk P) (by omega) (by omega)
  have rg := hp1.gg (ad := mvMa P) hs
  have bm := fun (P' : MV) (c : Int) => bx_M (op := 209) hp (by decide) P' c
  generalize mvMP P = P1 at *
  generalize mvMk P = k at *
  generalize mvMl P = sl at *
  generalize mvMa P = ad at *
  obtain ⟨o1, o2, o3⟩ := mvSh_ok (ad := ad) (k := k) hp1 hs
  refine bm (mvSh P1 sl ad k).1 (mvSh P1 sl ad k).2 o3 o1 o2 (fun τ Q h hl hq => ?_) (fun τ Q h hl hq => ?_)
  · unfold wpX4_executeM
    rw [hl.1]
    exact ⟨by decide, fun q => absurd q (by decide), fun _ => ⟨fun q => absurd q (by decide), fun _ => ⟨fun q => absurd q (by decide), fun _ => ⟨fun q => absurd q (by decide), fun _ => ⟨fun q => absurd q (by decide), fun _ => ⟨fun q => absurd q (by decide), fun _ => ⟨fun _ => x_shift h hp1 hl hk hs (fun υ hu ku => hq υ hu ku), fun q => absurd rfl q⟩⟩⟩⟩⟩⟩⟩
  · unfold FB wpX11_formed_352
    rw [hl.1]
    exact ⟨by decide, fun _ => ⟨fun q => absurd q (by decide), fun _ => ⟨fun q => absurd q (by decide), fun _ => ⟨fun q => absurd q (by decide), fun _ => ⟨fun q => absurd q (by decide), fun _ => ⟨fun q => absurd q (by decide), fun _ => ⟨fun q => absurd q (by decide), fun _ => ⟨fun q => absurd rfl q, fun _ => y_shift h hp1 hl hk hs (fun υ hu ku => hq υ hu ku)⟩⟩⟩⟩⟩⟩⟩, fun q => absurd (by decide) q⟩
theorem bx_247 {P : MV} {N : Int} (hp : MVr P N) : BX 247 P N := by
  have hp1 := hp.mp
  have hk := hp.mk
  have hs := hp.ml
  have rk := hp1.g (i := mvMk P) (by omega) (by omega)
  have rg := hp1.gg (ad := mvMa P) hs
  have bm := fun (P' : MV) (c : Int) => bx_M (op := 247) hp (by decide) P' c
  generalize mvMP P = P1 at *
  generalize mvMk P = k at *
  generalize mvMl P = sl at *
  generalize mvMa P = ad at *
  obtain ⟨o1, o2, o3⟩ := mvGr_ok (ad := ad) (k := k) hp1 hs
  refine bm (mvGr P1 sl ad k).1 (mvGr P1 sl ad k).2 o3 o1 o2 (fun τ Q h hl hq => ?_) (fun τ Q h hl hq => ?_)
  · unfold wpX4_executeM
    rw [hl.1]
    exact ⟨by decide, fun q => absurd q (by decide), fun _ => ⟨fun q => absurd q (by decide), fun _ => ⟨fun q => absurd q (by decide), fun _ => ⟨fun q => absurd q (by decide), fun _ => ⟨fun q => absurd q (by decide), fun _ => ⟨fun q => absurd q (by decide), fun _ => ⟨fun q => absurd q (by decide), fun _ => x_msingle h hp1 hl hk hs (fun υ hu ku => hq υ hu ku)⟩⟩⟩⟩⟩⟩⟩
  · unfold FB wpX11_formed_352
    rw [hl.1]
    exact ⟨by decide, fun _ => ⟨fun q => absurd q (by decide), fun _ => ⟨fun q => absurd q (by decide), fun _ => ⟨fun q => absurd q (by decide), fun _ => ⟨fun q => absurd q (by decide), fun _ => ⟨fun q => absurd q (by decide), fun _ => ⟨fun q => absurd q (by decide), fun _ => ⟨fun _ => y_group h hp1 hl hk hs (fun υ hu ku => hq υ hu ku), fun q => absurd q (by decide)⟩⟩⟩⟩⟩⟩⟩, fun q => absurd (by decide) q⟩
theorem bx_129 {P : MV} {N : Int} (hp : MVr P N) : BX 129 P N := by
  have hp1 := hp.mp
  have hk := hp.mk
  have hs := hp.ml
  have rk := hp1.g (i := mvMk P) (by omega) (by omega)
  have rg := hp1.gg (ad := mvMa P) hs
  have bm := fun (P' : MV) (c : Int) => bx_M (op := 129) hp (by decide) P' c
  generalize mvMP P = P1 at *
  generalize mvMk P = k at *
  generalize mvMl P = sl at *
  generalize mvMa P = ad at *
  have hw := hp1.fw
  have rg2 := hp1.ft.ft.gg (ad := ad) hs
  by_cases c2 : k = 2 ∨ k = 3
  · refine bm P1 2 (by decide) hp1 rfl (fun τ Q h hl hq => ?_) (fun τ Q h hl hq => ?_)
    · unfold wpX4_executeM
      rw [hl.1]
      exact ⟨by decide, fun _ => x_isArithmetic hk (fun a b => absurd c2 (by omega)) (fun _ => ⟨by decide, fun q => absurd rfl q, fun _ => hq τ h kq.rf⟩), fun q => absurd rfl q⟩
    · unfold FB
      rw [hl.1]
      exact ⟨by decide, fun _ => ⟨fun _ => y_operation hk (fun a b => absurd c2 (by omega)) (fun _ => ⟨by decide, fun q => absurd rfl q, fun _ => hq τ h fr.rf⟩), fun q => absurd rfl q⟩, fun q => absurd (by decide) q⟩
  · refine bm (mvOn (mvF (mvF P1)) sl ad k (mvFw P1)) 3 (by decide) (hp1.ft.ft.on hs) (mvOn_12 hs) (fun τ Q h hl hq => ?_) (fun τ Q h hl hq => ?_)
    · unfold wpX4_executeM
      rw [hl.1]
      refine ⟨by decide, fun _ => x_isArithmetic hk (fun _ _ => ⟨by decide, fun _ => x_fetchWord h (fun υ hu ku => ?_), fun q => absurd q (by decide)⟩) (fun q => absurd q c2), fun q => absurd rfl q⟩
      rw [hl.1]
      exact x_onM hu hp1.ft.ft (hl.k ku) hs (by omega) hw (fun ω hw kw => hq ω hw (ku.tr kw))
    · unfold FB
      rw [hl.1]
      refine ⟨by decide, fun _ => ⟨fun _ => y_operation hk (fun _ _ => ⟨by decide, fun _ => y_fetchTwo h hp1 (fun υ hu ku => y_formGet hu hp1.ft.ft (hl.k ku rfl rfl) ?_), fun q => absurd q (by decide)⟩) (fun q => absurd q c2), fun q => absurd rfl q⟩, fun q => absurd (by decide) q⟩
      have k82 : zI υ 0 82 = k := by rw [ku.1 82 (by decide)]; exact hl.1
      rw [k82]
      refine y_alu hu (by omega) rg2 hw (fun ω hw' kw => ?_)
      have w82 : zI ω 0 82 = k := by rw [kw.1 82 (by decide)]; exact k82
      unfold wpX11_formed_219
      rw [w82]
      refine ⟨by omega, fun q7 => hq ω ?_ (ku.tr kw), fun n7 => y_formSet hw' ((hl.k ku rfl rfl).k kw (mvAl_r (by decide)) (mvAl_r (by decide))) (by omega) (fun ψ hy ky => hq ψ ?_ ((ku.tr kw).tr ky))⟩
      · unfold mvOn; rw [if_pos q7]; exact hw'
      · unfold mvOn; rw [if_neg n7]; exact hy
/-- every code -/
theorem bx_all {op : Int} {P : MV} {N : Int} (hp : MVr P N) (hN : N ≤ 1000000) (ho : 0 ≤ op ∧ op ≤ 255) : BX op P N := by
  by_cases f : hF op
  · rcases f with ⟨a, b, c, d⟩ | e | e | e | e | e | e | e | e
    · exact bx_low hp ⟨ho.1, a⟩ b c d
    · rw [e]; exact bx_129 hp
    · rw [e]; exact bx_137 hp
    · rw [e]; exact bx_139 hp
    · rw [e]; exact bx_140 hp
    · rw [e]; exact bx_142 hp
    · rw [e]; exact bx_199 hp
    · rw [e]; exact bx_209 hp
    · rw [e]; exact bx_247 hp
  by_cases a : 64 ≤ op ∧ op < 96
  · exact bx_plain hp a
  by_cases b : 184 ≤ op ∧ op < 192
  · exact bx_imm hp b
  by_cases c : op < 32 ∧ op % 8 = 6
  · exact bx_pushS hp ⟨ho.1, c.1⟩ c.2
  by_cases d : op < 32 ∧ op % 8 = 7 ∧ ¬ op = 15
  · exact bx_popS hp ⟨ho.1, d.1⟩ d.2.1 d.2.2
  by_cases e : op = 114 ∨ op = 115 ∨ op = 116 ∨ op = 117 ∨ op = 120 ∨ op = 121
  · exact bx_branch hp e
  by_cases g : op = 154 ∨ op = 195 ∨ op = 203 ∨ op = 205 ∨ op = 226 ∨ op = 232 ∨ op = 233 ∨ op = 235 ∨ op = 244
  · rcases g with e | e | e | e | e | e | e | e | e
    · rw [e]; exact bx_154 hp
    · rw [e]; exact bx_195 hp
    · rw [e]; exact bx_203 hp
    · rw [e]; exact bx_205 hp hN
    · rw [e]; exact bx_226 hp
    · rw [e]; exact bx_232 hp
    · rw [e]; exact bx_233 hp
    · rw [e]; exact bx_235 hp
    · rw [e]; exact bx_244 hp
  · exact bx_undef hp ho (by omega) f a b (by omega)
/-! M: many instructions -/
theorem HC.r12 {σ : ZS} {P : MV} {v : Int} (h : HC σ P) : HC σ (mvR P 12 v) := by
  obtain ⟨h0, h1, h2, h3, h4, h5, h6, h7, h8⟩ := h
  refine ⟨h0, fun j j0 j1 => ?_, fun j j0 j1 => ?_, h3, ?_, ?_, ?_, h7, h8⟩
  · show zA σ 18 1 j = zu P.r 12 v j
    rw [pu_ne (by omega)]; exact h1 j j0 j1
  · show zA σ 18 2 j = zu P.r 12 v (8 + j)
    rw [pu_ne (by omega)]; exact h2 j j0 j1
  · show zI σ 18 4 = zu P.r 12 v 13
    rw [pu_ne (by decide)]; exact h4
  · show zI σ 18 5 = zu P.r 12 v 14
    rw [pu_ne (by decide)]; exact h5
  · show zI σ 18 6 = zu P.r 12 v 15
    rw [pu_ne (by decide)]; exact h6
/-- between instructions the reference's place is register 12 -/
def HRb (ρ : ZS) (P : MV) : Prop := (∀ j : Int, 0 ≤ j → j < 4096 → zA ρ 0 74 j = P.m j) ∧ (∀ j : Int, 0 ≤ j → j < 16 → zA ρ 0 75 j = P.r j) ∧ zI ρ 0 78 = P.n ∧ (∀ j : Int, 0 ≤ j → j < 30 → zA ρ 0 79 j = P.t j)
theorem HRb.h {ρ : ZS} {P : MV} (h : HRb ρ P) (e : P.ip = P.r 12) : HR (zsI ρ 0 80 (zA ρ 0 75 12)) P := by
  obtain ⟨h0, h1, h2, h3⟩ := h
  refine ⟨h0, h1, ?_, h2, h3⟩
  show zA ρ 0 75 12 = P.ip
  rw [h1 12 (by decide) (by decide), e]
theorem HR.b {ρ : ZS} {P : MV} (h : HR ρ P) : HRb ρ P := ⟨h.1, h.2.1, h.2.2.2⟩
def kz (σ τ : ZS) : Prop := kp [18] σ τ ∧ (zI τ 18 11 = zI σ 18 11 ∨ (0 ≤ zI τ 18 11 ∧ zI τ 18 11 ≤ 7)) ∧ (zI τ 18 12 = zI σ 18 12 ∨ (-1 ≤ zI τ 18 12 ∧ zI τ 18 12 ≤ 7))
theorem kz.rf {σ : ZS} : kz σ σ := ⟨kp.rf, Or.inl rfl, Or.inl rfl⟩
theorem kz.tr {σ τ υ : ZS} (h : kz σ τ) (k : kz τ υ) : kz σ υ := ⟨h.1.tr k.1, or_tr h.2.1 k.2.1, or_tr h.2.2 k.2.2⟩
theorem kr.z {σ τ : ZS} (h : kr σ τ) : kz σ τ := ⟨h.1, h.2.2.2⟩
theorem kz.i3 {σ τ : ZS} {v : Int} (h : kz σ τ) : kz σ (zsI τ 18 3 v) := ⟨h.1.ti (by decide), h.2⟩
theorem kz.i7 {σ τ : ZS} {v : Int} (h : kz σ τ) : kz σ (zsI τ 18 7 v) := ⟨h.1.ti (by decide), h.2⟩
theorem kz.i8 {σ τ : ZS} {v : Int} (h : kz σ τ) : kz σ (zsI τ 18 8 v) := ⟨h.1.ti (by decide), h.2⟩
def fz (ρ τ : ZS) : Prop := fr [76, 77, 78, 80, 81, 82, 83, 84] MR ρ τ ∧ (zI τ 0 81 = zI ρ 0 81 ∨ (0 ≤ zI τ 0 81 ∧ zI τ 0 81 ≤ 255)) ∧ (zI τ 0 82 = zI ρ 0 82 ∨ (0 ≤ zI τ 0 82 ∧ zI τ 0 82 ≤ 7)) ∧ (zI τ 0 83 = zI ρ 0 83 ∨ (0 ≤ zI τ 0 83 ∧ zI τ 0 83 ≤ 15)) ∧ (zI τ 0 84 = zI ρ 0 84 ∨ (0 ≤ zI τ 0 84 ∧ zI τ 0 84 ≤ 65535))
theorem fz.rf {ρ : ZS} : fz ρ ρ := ⟨fr.rf, Or.inl rfl, Or.inl rfl, Or.inl rfl, Or.inl rfl⟩
theorem fz.tr {ρ τ υ : ZS} (h : fz ρ τ) (k : fz τ υ) : fz ρ υ := ⟨h.1.tr k.1, or_tr h.2.1 k.2.1, or_tr h.2.2.1 k.2.2.1, or_tr h.2.2.2.1 k.2.2.2.1, or_tr h.2.2.2.2 k.2.2.2.2⟩
theorem fs4.z {ρ τ : ZS} (h : fs4 ρ τ) : fz ρ τ := ⟨h.1.up (by decide) (by decide), h.2⟩
theorem fz.i {ρ τ : ZS} {f : Nat} {v : Int} (h : fz ρ τ) (hf : f = 76 ∨ f = 77 ∨ f = 80) : fz ρ (zsI τ 0 f v) := by
  rcases hf with rfl | rfl | rfl
  · exact ⟨h.1.ti (by decide), h.2⟩
  · exact ⟨h.1.ti (by decide), h.2⟩
  · exact ⟨h.1.ti (by decide), h.2⟩
theorem fz.a {ρ τ : ZS} {f : Nat} {i v : Int} (h : fz ρ τ) (hf : f ∈ MR) : fz ρ (zsA τ 0 f i v) := ⟨h.1.ta hf, h.2⟩
/-- a run does the same on both sides -/
def RXm (f v : Int) (P : MV) (M : Int) : Prop := ∃ (P' : MV) (c d : Int), MVr P' M ∧ P'.ip = P'.r 12 ∧ (0 ≤ c ∧ c ≤ 3) ∧ (∀ (σ : ZS) (Q : Int → ZS → Prop) (K : Int → ZS → Prop), (∀ (u : Int) (τ : ZS), wpbX4_go_2 K f u τ Q → K u τ) → HC σ P → (∀ τ : ZS, HC τ P' → kz σ τ → zI τ 18 8 = zI σ 18 8 + d → zI τ 18 7 = (if c = 3 then zI σ 18 7 else 1) → Q c τ) → K v σ) ∧ (∀ (ρ : ZS) (Q : Int → ZS → Prop) (K : Int → ZS → Prop), (∀ (u : Int) (τ : ZS), wpbX11_run_38 K f u τ Q → K u τ) → HRb ρ P → (∀ τ : ZS, HRb τ P' → fz ρ τ → zI τ 0 77 = zI ρ 0 77 + d → zI τ 0 76 = (if c = 3 then zI ρ 0 76 else 1) → (zI τ 0 80 = zI ρ 0 80 ∨ (0 ≤ zI τ 0 80 ∧ zI τ 0 80 ≤ 65535)) → Q c τ) → K v ρ)
theorem go_run {f : Int} (hf : 1 ≤ f ∧ f ≤ 400) : ∀ (n : Nat) (v N : Int) (P : MV), (f - v).toNat = n → (0 ≤ v ∧ v ≤ f) → MVr P N → N + n ≤ 900000 → P.ip = P.r 12 → RXm f v P (N + n)
  | 0, v, N, P, hn, hv, hp, hN, hi => by
    have ev : v = f := by omega
    refine ⟨P, 3, 0, hp.mo (by omega), hi, by decide, fun σ Q K hK h hq => hK v σ ?_, fun ρ Q K hK h hq => hK v ρ ?_⟩
    · unfold wpbX4_go_2
      exact ⟨by omega, by omega, fun _ => hq σ h kz.rf (by omega) (by rw [if_pos rfl]), fun q => absurd (by omega) q⟩
    · unfold wpbX11_run_38
      exact ⟨by omega, by omega, fun _ => hq ρ h fz.rf (by omega) (by rw [if_pos rfl]) (Or.inl rfl), fun q => absurd (by omega) q⟩
  | n + 1, v, N, P, hn, hv, hp, hN, hi => by
    have lt : v < f := by omega
    obtain ⟨P2, c, hc, hp2, h12, hX, hY⟩ := bx_all hp.ft (by omega) hp.fv
    -- both sides, up to the end of the instruction
    have cl : ∀ (σ : ZS) (Q : Int → ZS → Prop) (K : Int → ZS → Prop), (∀ (u : Int) (τ : ZS), wpbX4_go_2 K f u τ Q → K u τ) → HC σ P → (∀ υ : ZS, HC υ P2 → kz σ υ → zI υ 18 7 = zI σ 18 7 → zI υ 18 8 = zI σ 18 8 → (c = 1 ∨ c = 2 → Q c (zsI (zsI υ 18 3 P.ip) 18 7 1)) ∧ (c = 3 → K (v + 1) (zsI υ 18 8 (zI υ 18 8 + 1))) ∧ (c = 0 → Q 0 (zsI (zsI υ 18 8 (zI υ 18 8 + 1)) 18 7 1))) → K v σ := by
      intro σ Q K hK h hq
      refine hK v σ ?_
      unfold wpbX4_go_2
      refine ⟨by omega, by omega, fun q => absurd q (by omega), fun _ => x_fetch h (fun τ ht kt => hX τ _ ht (fun υ hu ku => ?_))⟩
      obtain ⟨q1, q2, q3⟩ := hq υ hu (kt.kr.z.tr ku.z) (ku.2.1.trans kt.2.1) (ku.2.2.1.trans kt.2.2.1)
      rw [h.2.2.2.1]
      unfold wpX4_go_34 wpX4_go_52
      refine ⟨by omega, fun e => ⟨by omega, fun q => absurd q (by omega), fun _ => q1 (Or.inl e)⟩, fun n1 => ⟨fun n2 => ⟨by omega, q2, fun n3 => ?_⟩, fun e => ⟨by omega, fun q => absurd q (by omega), fun _ => q1 (Or.inr e)⟩⟩⟩
      have e0 : c = 0 := by omega
      have := q3 e0
      rw [e0]; exact this
    have rl : ∀ (ρ : ZS) (Q : Int → ZS → Prop) (K : Int → ZS → Prop), (∀ (u : Int) (τ : ZS), wpbX11_run_38 K f u τ Q → K u τ) → HRb ρ P → (∀ υ : ZS, HR υ P2 → fz ρ υ → zI υ 0 76 = zI ρ 0 76 → zI υ 0 77 = zI ρ 0 77 → (c = 1 ∨ c = 2 → Q c (zsI υ 0 76 1)) ∧ (c = 3 → K (v + 1) (zsI (zsA υ 0 75 12 P2.ip) 0 77 (zI υ 0 77 + 1))) ∧ (c = 0 → Q 0 (zsI (zsI (zsA υ 0 75 12 P2.ip) 0 77 (zI υ 0 77 + 1)) 0 76 1))) → K v ρ := by
      intro ρ Q K hK h hq
      refine hK v ρ ?_
      unfold wpbX11_run_38 wpX11_step wpX11_run_70
      refine ⟨by omega, by omega, fun q => absurd q (by omega), fun _ => y_fetch (h.h hi) hp (fun τ ht kt => hY τ _ ht (fun υ hu ku => ?_))⟩
      have f1 : fr [78, 80] MR ρ τ := (fr.i (by decide)).tr kt
      obtain ⟨q1, q2, q3⟩ := hq υ hu ((fs4.of f1).z.tr ku.z) ((ku.1.1 76 (by decide)).trans (f1.1 76 (by decide))) ((ku.1.1 77 (by decide)).trans (f1.1 77 (by decide)))
      unfold wpX11_step_151 wpX11_step_161
      rw [hu.2.2.1]
      unfold rcW
      by_cases e3 : c = 3
      · rw [if_pos e3]
        exact ⟨by decide, fun q => absurd q (by decide), fun _ => ⟨fun _ => ⟨by decide, fun q => absurd rfl q, fun _ => q2 e3⟩, fun q => absurd q (by decide)⟩⟩
      rw [if_neg e3]
      by_cases e0 : c = 0
      · rw [if_pos e0]
        exact ⟨by decide, fun q => absurd q (by decide), fun _ => ⟨fun _ => ⟨by decide, fun _ => ⟨fun q => absurd rfl q, fun _ => q3 e0⟩, fun q => absurd q (by decide)⟩, fun q => absurd q (by decide)⟩⟩
      rw [if_neg e0]
      have tl : (-2147483648 ≤ c ∧ c ≤ 2147483647) ∧ (¬ c = 0 → (¬ c = 3 → Q c (zsI υ 0 76 1)) ∧ (c = 3 → Q 0 (zsI υ 0 76 1))) ∧ (c = 0 → K (v + 1) υ) := ⟨by omega, fun _ => ⟨fun _ => q1 (by omega), fun q => absurd q e3⟩, fun q => absurd q e0⟩
      exact ⟨by omega, fun _ => tl, fun _ => ⟨fun n2 => absurd hc (by omega), fun _ => tl⟩⟩
    by_cases c3 : c = 3
    · -- it goes on
      have hp3 : MVr (mvR P2 12 P2.ip) (N + 1) := hp2.s (by decide) hp2.ip
      have i3 : (mvR P2 12 P2.ip).ip = (mvR P2 12 P2.ip).r 12 := by
        show P2.ip = zu P2.r 12 P2.ip 12
        rw [pu_eq]
      obtain ⟨P', c', d, g1, g2, g3, g4, g5⟩ := go_run hf n (v + 1) (N + 1) (mvR P2 12 P2.ip) (by omega) (by omega) hp3 (by omega) i3
      refine ⟨P', c', d + 1, g1.mo (by omega), g2, g3, fun σ Q K hK h hq => cl σ Q K hK h (fun υ hu ku u7 u8 => ⟨fun q => by omega, fun _ => ?_, fun q => by omega⟩), fun ρ Q K hK h hq => rl ρ Q K hK h (fun υ hu ku u6 u7 => ⟨fun q => by omega, fun _ => ?_, fun q => by omega⟩)⟩
      · refine g4 _ Q K hK hu.r12.i8 (fun τ ht kt t8 t7 => hq τ ht (ku.i8.tr kt) ?_ ?_)
        · rw [t8]
          show zI υ 18 8 + 1 + d = _
          omega
        · rw [t7]
          show (if c' = 3 then zI υ 18 7 else 1) = _
          rw [u7]
      · refine g5 _ Q K hK hu.a75.i77.b (fun τ ht kt t7 t6 t80 => hq τ ht (((ku.a (by decide)).i (Or.inr (Or.inl rfl))).tr kt) ?_ ?_ ?_)
        · rw [t7]
          show zI υ 0 77 + 1 + d = _
          omega
        · rw [t6]
          show (if c' = 3 then zI υ 0 76 else 1) = _
          rw [u6]
        · have u80 : zI (zsI (zsA υ 0 75 12 P2.ip) 0 77 (zI υ 0 77 + 1)) 0 80 = P2.ip := hu.2.2.1
          have := hp2.ip
          rw [u80] at t80
          exact Or.inr (by omega)
    by_cases c0 : c = 0
    · have hp3 : MVr (mvR P2 12 P2.ip) (N + 1) := hp2.s (by decide) hp2.ip
      refine ⟨mvR P2 12 P2.ip, 0, 1, hp3.mo (by omega), ?_, by decide, fun σ Q K hK h hq => cl σ Q K hK h (fun υ hu ku u7 u8 => ⟨fun q => by omega, fun q => absurd q c3, fun _ => ?_⟩), fun ρ Q K hK h hq => rl ρ Q K hK h (fun υ hu ku u6 u7 => ⟨fun q => by omega, fun q => absurd q c3, fun _ => ?_⟩)⟩
      · show P2.ip = zu P2.r 12 P2.ip 12
        rw [pu_eq]
      · refine hq _ hu.r12.i8.i7 ku.i8.i7 ?_ ?_
        · show zI υ 18 8 + 1 = zI σ 18 8 + 1
          rw [u8]
        · rw [if_neg (by decide)]; rfl
      · have g : HR (zsA υ 0 75 12 P2.ip) (mvR P2 12 P2.ip) := hu.a75
        refine hq _ ⟨g.1, g.2.1, g.2.2.2.1, g.2.2.2.2⟩ (((ku.a (by decide)).i (Or.inr (Or.inl rfl))).i (Or.inl rfl)) ?_ ?_ ?_
        · show zI υ 0 77 + 1 = zI ρ 0 77 + 1
          rw [u7]
        · rw [if_neg (by decide)]; rfl
        · have u80 : zI υ 0 80 = P2.ip := hu.2.2.1
          have := hp2.ip
          refine Or.inr ?_
          show 0 ≤ zI υ 0 80 ∧ zI υ 0 80 ≤ 65535
          omega
    · refine ⟨mvI P2 P.ip, c, 0, (hp2.i hp.ip).mo (by omega), ?_, hc, fun σ Q K hK h hq => cl σ Q K hK h (fun υ hu ku u7 u8 => ⟨fun _ => ?_, fun q => absurd q c3, fun q => absurd q c0⟩), fun ρ Q K hK h hq => rl ρ Q K hK h (fun υ hu ku u6 u7 => ⟨fun _ => ?_, fun q => absurd q c3, fun q => absurd q c0⟩)⟩
      · show P.ip = P2.r 12
        rw [h12]; exact hi
      · refine hq _ hu.i3.i7 ku.i3.i7 ?_ ?_
        · show zI υ 18 8 = zI σ 18 8 + 0
          omega
        · rw [if_neg c3]; rfl
      · refine hq _ ⟨hu.1, hu.2.1, hu.2.2.2.1, hu.2.2.2.2⟩ (ku.i (Or.inl rfl)) ?_ ?_ ?_
        · show zI υ 0 77 = zI ρ 0 77 + 0
          omega
        · rw [if_neg c3]; rfl
        · have u80 : zI υ 0 80 = P2.ip := hu.2.2.1
          have := hp2.ip
          refine Or.inr ?_
          show 0 ≤ zI υ 0 80 ∧ zI υ 0 80 ≤ 65535
          omega
/-! M: an image is loaded -/
def wMm (h : Int → Int) (a p : Int) : Int → Int := zu (zu h (a % 4096) ((h (a % 4096) + 256 * h ((a + 1) % 4096) + p) % 256)) ((a + 1) % 4096) ((h (a % 4096) + 256 * h ((a + 1) % 4096) + p) / 256 % 256)
def lMm (g : Int → Int) (p : Int) : Nat → Int → Int
  | 0 => fun _ => 0
  | k + 1 => zu (lMm g p k) ((16 * p + k) % 4096) (g k)
def rMm (r : Int → Int) (p : Int) (h : Int → Int) : Nat → Int → Int
  | 0 => h
  | k + 1 => wMm (rMm r p h k) (16 * p + r k) p
theorem lMm_cg {g g' : Int → Int} {p : Int} : ∀ k : Nat, (∀ i : Int, 0 ≤ i → i < k → g i = g' i) → lMm g p k = lMm g' p k
  | 0, _ => rfl
  | k + 1, h => by
    show zu (lMm g p k) ((16 * p + k) % 4096) (g k) = zu (lMm g' p k) ((16 * p + k) % 4096) (g' k)
    rw [lMm_cg k (fun i i0 i1 => h i i0 (by omega)), h k (by omega) (by omega)]
theorem rMm_cg {r r' : Int → Int} {p : Int} {h : Int → Int} : ∀ k : Nat, (∀ i : Int, 0 ≤ i → i < k → r i = r' i) → rMm r p h k = rMm r' p h k
  | 0, _ => rfl
  | k + 1, q => by
    show wMm (rMm r p h k) (16 * p + r k) p = wMm (rMm r' p h k) (16 * p + r' k) p
    rw [rMm_cg k (fun i i0 i1 => q i i0 (by omega)), q k (by omega) (by omega)]
theorem wMm_at {h f : Int → Int} {a p : Int} (e : ∀ j : Int, 0 ≤ j → j < 4096 → f j = h j) : ∀ j : Int, 0 ≤ j → j < 4096 → zu (zu f (a % 4096) ((f (a % 4096) + 256 * f ((a + 1) % 4096) + p) % 256)) ((a + 1) % 4096) ((f (a % 4096) + 256 * f ((a + 1) % 4096) + p) / 256 % 256) j = wMm h a p j := by
  intro j j0 j1
  unfold wMm
  rw [e (a % 4096) (by omega) (by omega), e ((a + 1) % 4096) (by omega) (by omega)]
  by_cases q : j = (a + 1) % 4096
  · rw [q, pu_eq, pu_eq]
  · rw [pu_ne q, pu_ne q]
    by_cases q2 : j = a % 4096
    · rw [q2, pu_eq, pu_eq]
    · rw [pu_ne q2, pu_ne q2]; exact e j j0 j1
theorem c_word2 {σ : ZS} {N a : Int} {Q : Int → ZS → Prop} (h : CM σ N) (hQ : (0 ≤ zA σ 18 0 (a % 4096) + 256 * zA σ 18 0 ((a + 1) % 4096) ∧ zA σ 18 0 (a % 4096) + 256 * zA σ 18 0 ((a + 1) % 4096) ≤ 65535) → Q (zA σ 18 0 (a % 4096) + 256 * zA σ 18 0 ((a + 1) % 4096)) σ) : wpX4_word a σ Q := by
  have c1 := h.c a
  have c2 := h.c (a + 1)
  exact hQ (by omega)
theorem x_start {σ : ZS} {N p : Int} {Q : ZS → Prop} (h : CM σ N) (hN : 0 ≤ N) (hi : IMc σ) (hp : 0 ≤ p ∧ p ≤ 255) (hQ : ∀ τ : ZS, CG σ N τ → (∀ j : Int, 0 ≤ j → j < 4096 → zA τ 18 0 j = rMm (zA σ 17 4) p (lMm (zA σ 17 2) p (zI σ 17 1).toNat) (zI σ 17 3).toNat j) → (∀ j : Int, 0 ≤ j → j < 8 → zA τ 18 1 j = 0) → (∀ j : Int, 0 ≤ j → j < 4 → zA τ 18 2 j = if j = 1 then p + zI σ 17 5 else p) → zI τ 18 3 = zI σ 17 6 → (zI τ 18 4 = 0 ∧ zI τ 18 5 = 0 ∧ zI τ 18 6 = 0 ∧ zI τ 18 7 = 0 ∧ zI τ 18 8 = 0 ∧ zI τ 18 9 = 0 ∧ zA τ 18 10 = zA σ 18 10) → Q τ) : wpX4_start p σ Q := by
  unfold wpX4_start
  refine c_fill18_0 (fun k hk => ?_)
  have g0 : CG σ N (zsF σ 18 0 k) := by
    obtain ⟨h0, hr⟩ := h
    exact ⟨⟨fun i i0 i1 => by show 0 ≤ k i ∧ k i ≤ 255; rw [hk i i0 i1]; decide, hr⟩, kp.f (by decide)⟩
  have i17 : ∀ τ : ZS, CG σ N τ → ob τ 17 = ob σ 17 := fun τ g => g.2 17 (by decide)
  have i1 := hi.2.1
  have i3 := hi.2.2.2.1
  have i5 := hi.2.2.2.2.2.1
  have i6 := hi.2.2.2.2.2.2
  have f54 : ∀ τ : ZS, CG σ N τ → (∀ j : Int, 0 ≤ j → j < 4096 → zA τ 18 0 j = lMm (zA σ 17 2) p (zI σ 17 1).toNat j) → zA τ 18 10 = zA σ 18 10 → wpX4_start_54 p (16 * p) 0 τ Q := by
    intro τ g tm t10
    unfold wpX4_start_54
    refine lfp1_ind (fun v _ => (600 - v).toNat) (fun v υ => CG σ N υ ∧ (0 ≤ v ∧ v ≤ zI σ 17 3) ∧ (∀ j : Int, 0 ≤ j → j < 4096 → zA υ 18 0 j = rMm (zA σ 17 4) p (lMm (zA σ 17 2) p (zI σ 17 1).toNat) v.toNat j) ∧ zA υ 18 10 = zA σ 18 10) (fun K v υ hI ih => ?_) ⟨g, by omega, tm, t10⟩
    obtain ⟨gu, hv, um, u10⟩ := hI
    have eu := i17 υ gu
    unfold wpbX4_start_54
    rw [ob_I eu 3, ob_A eu 4]
    refine ⟨by omega, by omega, fun q => c_fill18_1 (fun k1 hk1 => c_fill18_2 (fun k2 hk2 => ?_)), fun q => ⟨by omega, c_word2 gu.1 (fun hx => ?_)⟩⟩
    · have e17 : ∀ f : Nat, zI (zsF (zsF υ 18 1 k1) 18 2 k2) 17 f = zI σ 17 f := fun f => ob_I eu f
      rw [e17 5, e17 6]
      have ev : v = zI σ 17 3 := by omega
      have g1 : CG σ N (zsF (zsF υ 18 1 k1) 18 2 k2) := by
        obtain ⟨⟨h0, h1, h2, hr⟩, kk⟩ := gu
        exact ⟨⟨h0, fun i i0 i1 => by show 0 ≤ k1 i ∧ k1 i ≤ 65535; rw [hk1 i i0 i1]; decide, fun i i0 i1 => by show 0 ≤ k2 i ∧ k2 i ≤ 300000; rw [hk2 i i0 i1]; omega, hr⟩, (kk.tf (by decide)).tf (by decide)⟩
      refine hQ _ ((((((((g1.u2 (show 0 ≤ p + zI σ 17 5 ∧ p + zI σ 17 5 ≤ 300000 by omega)).i3 (by omega)).i4 (by decide)).i5 (by decide)).i6 (by decide)).i7 (by decide)).i8).i9 (by omega)) (fun j j0 j1 => ?_) (fun j j0 j1 => ?_) (fun j j0 j1 => ?_) rfl ⟨rfl, rfl, rfl, rfl, rfl, rfl, u10⟩
      · rw [ev] at um; exact um j j0 j1
      · show k1 j = 0
        exact hk1 j j0 j1
      · show zu k2 1 (p + zI σ 17 5) j = _
        by_cases e : j = 1
        · rw [e, pu_eq, if_pos rfl]
        · rw [pu_ne e, if_neg e]; exact hk2 j j0 j1
    · unfold wpX4_putWord
      refine ⟨by omega, ih _ _ ⟨(gu.u0 (by omega)).u0 (by omega), by omega, fun j j0 j1 => ?_, u10⟩ (by omega)⟩
      rw [show (v + 1).toNat = v.toNat + 1 by omega]
      show zu (zu (zA υ 18 0) _ _) _ _ j = wMm (rMm (zA σ 17 4) p (lMm (zA σ 17 2) p (zI σ 17 1).toNat) v.toNat) (16 * p + zA σ 17 4 ((v.toNat : Nat) : Int)) p j
      rw [show ((v.toNat : Nat) : Int) = v by omega]
      exact wMm_at um j j0 j1
  unfold wpX4_start_16
  refine lfp1_ind (fun v _ => (1200 - v).toNat) (fun v υ => CG σ N υ ∧ (0 ≤ v ∧ v ≤ zI σ 17 1) ∧ (∀ j : Int, 0 ≤ j → j < 4096 → zA υ 18 0 j = lMm (zA σ 17 2) p v.toNat j) ∧ zA υ 18 10 = zA σ 18 10) (fun K v υ hI ih => ?_) ⟨g0, by omega, hk, rfl⟩
  obtain ⟨gu, hv, um, u10⟩ := hI
  have eu := i17 υ gu
  unfold wpbX4_start_16
  rw [ob_I eu 1, ob_A eu 2]
  refine ⟨by omega, by omega, fun q => f54 υ gu ?_ u10, fun q => ⟨by omega, ih _ _ ⟨gu.u0 (hi.2.2.1 v hv.1 (by omega)), by omega, fun j j0 j1 => ?_, u10⟩ (by omega)⟩⟩
  · rw [show zI σ 17 1 = v by omega]; exact um
  · rw [show (v + 1).toNat = v.toNat + 1 by omega]
    show zu (zA υ 18 0) ((16 * p + v) % 4096) (zA σ 17 2 v) j = zu (lMm (zA σ 17 2) p v.toNat) ((16 * p + ((v.toNat : Nat) : Int)) % 4096) (zA σ 17 2 ((v.toNat : Nat) : Int)) j
    rw [show ((v.toNat : Nat) : Int) = v by omega]
    by_cases e : j = (16 * p + v) % 4096
    · rw [e, pu_eq, pu_eq]
    · rw [pu_ne e, pu_ne e]; exact um j j0 j1
theorem y_load {σ : ZS} {N a : Int} {Q : Int → ZS → Prop} (hI : IG σ) (h : MM σ N) (hN : 0 ≤ N) (ha : -2147483648 ≤ a ∧ a ≤ 2147483647) (hB : ∀ r : Int, ((r = 1 ∧ ¬ (0 ≤ a ∧ a ≤ 255)) ∨ (r = 2 ∧ (0 ≤ a ∧ a ≤ 255) ∧ zI σ 0 60 = 0)) → ∀ τ : ZS, MM τ N → fr [0] [] σ τ → zI τ 0 0 = r → Q 0 τ) (hQ : (0 ≤ a ∧ a ≤ 255) → ¬ zI σ 0 60 = 0 → ∀ τ : ZS, MM τ N → fr LF LR σ τ → zI τ 0 0 = 0 → (∀ j : Int, 0 ≤ j → j < 4096 → zA τ 0 74 j = rMm (zA σ 0 63) a (lMm (zA σ 0 61) a (zI σ 0 62).toNat) (zI σ 0 64).toNat j) → (∀ j : Int, 0 ≤ j → j < 16 → zA τ 0 75 j = if j = 12 then zI σ 0 66 else if j = 9 then a + zI σ 0 65 else if j = 8 ∨ j = 10 ∨ j = 11 then a else 0) → (zI τ 0 76 = 0 ∧ zI τ 0 77 = 0 ∧ zI τ 0 78 = 0) → Q (zI σ 0 66) τ) : wpX11_load a σ Q := by
  have hf0 : fr LF LR σ (zsI σ 0 0 0) := fr.i (by decide)
  have bad : ∀ r : Int, ((r = 1 ∧ ¬ (0 ≤ a ∧ a ≤ 255)) ∨ (r = 2 ∧ (0 ≤ a ∧ a ≤ 255) ∧ zI σ 0 60 = 0)) → wpX11_raise r (zsI σ 0 0 0) (fun (x9 : Int) (σ10 : ZS) => Q x9 σ10) := by
    intro r hr
    have hm : MM (zsI (zsI σ 0 0 0) 0 0 r) N := h
    exact hB r hr _ hm ((fr.rf.ti (by decide)).ti (by decide)) zI_s
  obtain ⟨hIM, i62, i64, i60, i65, i66⟩ := hI
  unfold wpX11_load
  refine ⟨ha, fun q => bad 1 (Or.inl ⟨rfl, by omega⟩), fun na => ⟨fun la => ⟨by omega, fun n60 => ?_, fun z => bad 2 (Or.inr ⟨rfl, by omega, z⟩)⟩, fun q => bad 1 (Or.inl ⟨rfl, by omega⟩)⟩⟩
  have hA : 0 ≤ a ∧ a ≤ 255 := by omega
  have f191 : ∀ τ : ZS, MM τ N → fr LF LR σ τ → zI τ 0 0 = 0 → (∀ j : Int, 0 ≤ j → j < 4096 → zA τ 0 74 j = rMm (zA σ 0 63) a (lMm (zA σ 0 61) a (zI σ 0 62).toNat) (zI σ 0 64).toNat j) → wpX11_load_191 a 0 τ Q := by
    intro τ0 h0 k0 z0 m0
    unfold wpX11_load_191
    refine lfp1_ind (fun v _ => (16 - v).toNat) (fun v τ => (0 ≤ v ∧ v ≤ 16) ∧ MM τ N ∧ fr LF LR σ τ ∧ zI τ 0 0 = 0 ∧ zA τ 0 74 = zA τ0 0 74 ∧ (∀ j : Int, 0 ≤ j → j < v → zA τ 0 75 j = 0)) ?_ ⟨by omega, h0, k0, z0, rfl, fun j j0 j1 => absurd j1 (by omega)⟩
    intro P v τ ⟨hv, hm, hf, hz, hme, hj⟩ ih
    show wpbX11_load_191 P a v τ Q
    unfold wpbX11_load_191
    have j66 : zI τ 0 66 = zI σ 0 66 := hf.1 66 (by decide)
    have j65 : zI τ 0 65 = zI σ 0 65 := hf.1 65 (by decide)
    rw [j66, j65]
    refine ⟨by omega, fun q => hQ hA n60 _ ?_ ?_ hz (fun j j0 j1 => ?_) (fun j j0 j1 => ?_) ⟨rfl, rfl, rfl⟩, fun _ => ⟨by omega, ih _ _ ⟨by omega, hm.u75 (by decide), hf.ta (by decide), hz, hme, fun j j0 j1 => ?_⟩ (by show (16 - (v + 1)).toNat < (16 - v).toNat; omega)⟩⟩
    · have h1 := ((((hm.u75 (i := 8) (v := a) (by omega)).u75 (i := 10) (v := a) (by omega)).u75 (i := 11) (v := a) (by omega)).u75 (i := 9) (v := (a + zI σ 0 65) % 65536) (by omega)).u75 (i := 12) (v := zI σ 0 66) (by omega)
      exact ((h1.i76 (by decide)).i77).i78 ⟨by decide, hN⟩
    · exact (((((((hf.ta (by decide)).ta (by decide)).ta (by decide)).ta (by decide)).ta (by decide)).ti (by decide)).ti (by decide)).ti (by decide)
    · show zA τ 0 74 j = _
      rw [hme]; exact m0 j j0 j1
    · show zu (zu (zu (zu (zu (zA τ 0 75) 8 a) 10 a) 11 a) 9 ((a + zI σ 0 65) % 65536)) 12 (zI σ 0 66) j = _
      by_cases e12 : j = 12
      · rw [e12, pu_eq, if_pos rfl]
      rw [pu_ne e12, if_neg e12]
      by_cases e9 : j = 9
      · rw [e9, pu_eq, if_pos rfl]; omega
      rw [pu_ne e9, if_neg e9]
      by_cases e11 : j = 11
      · rw [e11, pu_eq, if_pos (by decide)]
      rw [pu_ne e11]
      by_cases e10 : j = 10
      · rw [e10, pu_eq, if_pos (by decide)]
      rw [pu_ne e10]
      by_cases e8 : j = 8
      · rw [e8, pu_eq, if_pos (by decide)]
      rw [pu_ne e8, if_neg (by omega)]
      exact hj j j0 (by omega)
    · show zu (zA τ 0 75) v 0 j = 0
      by_cases e : j = v
      · rw [e, pu_eq]
      · rw [pu_ne e]; exact hj j j0 (by omega)
  have f96 : ∀ τ : ZS, MM τ N → fr LF LR σ τ → zI τ 0 0 = 0 → (∀ j : Int, 0 ≤ j → j < 4096 → zA τ 0 74 j = lMm (zA σ 0 61) a (zI σ 0 62).toNat j) → wpX11_load_96 a 0 τ Q := by
    intro τ0 h0 k0 z0 m0
    unfold wpX11_load_96
    refine lfp1_ind (fun v _ => (600 - v).toNat) (fun v τ => (0 ≤ v ∧ v ≤ zI σ 0 64) ∧ MM τ N ∧ fr LF LR σ τ ∧ zI τ 0 0 = 0 ∧ (∀ j : Int, 0 ≤ j → j < 4096 → zA τ 0 74 j = rMm (zA σ 0 63) a (lMm (zA σ 0 61) a (zI σ 0 62).toNat) v.toNat j)) ?_ ⟨by omega, h0, k0, z0, m0⟩
    intro P v τ ⟨hv, hm, hf, hz, hme⟩ ih
    show wpbX11_load_96 P a v τ Q
    unfold wpbX11_load_96
    have j64 : zI τ 0 64 = zI σ 0 64 := hf.1 64 (by decide)
    rw [j64, hf.2 63 (by decide)]
    have b0 := hm.1 ((16 * a + zA σ 0 63 v) % 4096) (by omega) (by omega)
    have b1 := hm.1 ((16 * a + zA σ 0 63 v + 1) % 4096) (by omega) (by omega)
    rw [zor_bytes (by omega) (by omega), show zA τ 0 74 ((16 * a + zA σ 0 63 v + 1) % 4096) * 256 + zA τ 0 74 ((16 * a + zA σ 0 63 v) % 4096) + a = zA τ 0 74 ((16 * a + zA σ 0 63 v) % 4096) + 256 * zA τ 0 74 ((16 * a + zA σ 0 63 v + 1) % 4096) + a by omega]
    refine ⟨by omega, by omega, fun q => f191 τ hm hf hz ?_, fun _ => ⟨by omega, by omega, ih _ _ ⟨by omega, (hm.u74 (by omega)).u74 (by omega), (hf.ta (by decide)).ta (by decide), hz, fun j j0 j1 => ?_⟩ (by show (600 - (v + 1)).toNat < (600 - v).toNat; omega)⟩⟩
    · rw [show zI σ 0 64 = v by omega]; exact hme
    · rw [show (v + 1).toNat = v.toNat + 1 by omega]
      show zu (zu (zA τ 0 74) _ _) _ _ j = wMm (rMm (zA σ 0 63) a (lMm (zA σ 0 61) a (zI σ 0 62).toNat) v.toNat) (16 * a + zA σ 0 63 ((v.toNat : Nat) : Int)) a j
      rw [show ((v.toNat : Nat) : Int) = v by omega]
      exact wMm_at hme j j0 j1
  have f59 : ∀ τ : ZS, MM τ N → fr LF LR σ τ → zI τ 0 0 = 0 → (∀ j : Int, 0 ≤ j → j < 4096 → zA τ 0 74 j = 0) → wpX11_load_59 a 0 τ Q := by
    intro τ0 h0 k0 z0 m0
    unfold wpX11_load_59
    refine lfp1_ind (fun v _ => (1200 - v).toNat) (fun v τ => (0 ≤ v ∧ v ≤ zI σ 0 62) ∧ MM τ N ∧ fr LF LR σ τ ∧ zI τ 0 0 = 0 ∧ (∀ j : Int, 0 ≤ j → j < 4096 → zA τ 0 74 j = lMm (zA σ 0 61) a v.toNat j)) ?_ ⟨by omega, h0, k0, z0, m0⟩
    intro P v τ ⟨hv, hm, hf, hz, hme⟩ ih
    show wpbX11_load_59 P a v τ Q
    unfold wpbX11_load_59
    have j62 : zI τ 0 62 = zI σ 0 62 := hf.1 62 (by decide)
    rw [j62, hf.2 61 (by decide)]
    refine ⟨by omega, by omega, fun q => f96 τ hm hf hz ?_, fun nv => ⟨by omega, ih _ _ ⟨by omega, hm.u74 (hIM.1 v hv.1 (by omega)), hf.ta (by decide), hz, fun j j0 j1 => ?_⟩ (by show (1200 - (v + 1)).toNat < (1200 - v).toNat; omega)⟩⟩
    · rw [show zI σ 0 62 = v by omega]; exact hme
    · rw [show (v + 1).toNat = v.toNat + 1 by omega]
      show zu (zA τ 0 74) ((16 * a + v) % 4096) (zA σ 0 61 v) j = zu (lMm (zA σ 0 61) a v.toNat) ((16 * a + ((v.toNat : Nat) : Int)) % 4096) (zA σ 0 61 ((v.toNat : Nat) : Int)) j
      rw [show ((v.toNat : Nat) : Int) = v by omega]
      by_cases e : j = (16 * a + v) % 4096
      · rw [e, pu_eq, pu_eq]
      · rw [pu_ne e, pu_ne e]; exact hme j j0 j1
  unfold wpX11_load_37
  refine lfp1_ind (fun v _ => (4096 - v).toNat) (fun v τ => (0 ≤ v ∧ v ≤ 4096) ∧ MM τ N ∧ fr LF LR σ τ ∧ zI τ 0 0 = 0 ∧ (∀ j : Int, 0 ≤ j → j < v → zA τ 0 74 j = 0)) ?_ ⟨by omega, h, hf0, rfl, fun j j0 j1 => absurd j1 (by omega)⟩
  intro P v τ ⟨hv, hm, hf, hz, hj⟩ ih
  show wpbX11_load_37 P a v τ Q
  unfold wpbX11_load_37
  refine ⟨by omega, fun q => f59 τ hm hf hz (fun j j0 j1 => hj j j0 (by omega)), fun _ => ⟨by omega, ih _ _ ⟨by omega, hm.u74 (by decide), hf.ta (by decide), hz, fun j j0 j1 => ?_⟩ (by show (4096 - (v + 1)).toNat < (4096 - v).toNat; omega)⟩⟩
  show zu (zA τ 0 74) v 0 j = 0
  by_cases e : j = v
  · rw [e, pu_eq]
  · rw [pu_ne e]; exact hj j j0 (by omega)
