/-! L: link answers alike -/
theorem AP_iff {σ ρ : ZS} (hm : M3 σ) (hA : MA ρ) (hl : Alk σ ρ) {t t' : CbS} (ew : t.wh = t'.wh) : APv σ t ↔ APw ρ t' := by
  constructor
  · intro h m k m' k' mb mt kb y ⟨pb, pt, pk, pw⟩
    have t0 : zI σ m 0 ≠ 0 := by rw [hl.2.1 m mb.1 mb.2]; exact mt
    have t1 : zI σ m' 0 ≠ 0 := by rw [hl.2.1 m' pb.1 pb.2]; exact pt
    obtain ⟨-, -, ⟨x1, x2⟩, -⟩ := (hl.2.2 m mb.1 mb.2).2 t0
    obtain ⟨-, -, -, x, -⟩ := (hl.2.2 m' pb.1 pb.2).2 t1
    obtain ⟨y1, y2, y3, y4, y5⟩ := x2 k kb.1 (by omega)
    obtain ⟨q, qb, qw, q1, -⟩ := x k' pk.1 pk.2
    have := h m k m' q mb ⟨kb.1, by omega⟩ (by rw [← y1]; exact y) ⟨by omega, t1, qb, ((qw.iff y5).mp pw)⟩
    rw [y2, q1, ← ew]; exact this
  · intro h m k m' q mb kb y ⟨pb, pt, pk, pw⟩
    have t0 : zI σ m 0 ≠ 0 := fun z => by have := ((hl.2.2 m mb.1 mb.2).1 z).2.1; omega
    obtain ⟨-, -, ⟨x1, x2⟩, -⟩ := (hl.2.2 m mb.1 mb.2).2 t0
    obtain ⟨-, -, -, -, x, -⟩ := (hl.2.2 m' pb.1 (by omega)).2 pt
    obtain ⟨y1, y2, y3, y4, y5⟩ := x2 k kb.1 kb.2
    obtain ⟨k', kb', kw, k1, -⟩ := x q pk.1 pk.2
    have := h m k m' k' mb (by rw [← hl.2.1 m mb.1 mb.2]; exact t0) ⟨kb.1, by omega⟩ (by rw [y1]; exact y) ⟨by omega, by rw [← hl.2.1 m' pb.1 (by omega)]; exact pt, kb', (kw.iff y5).mpr pw⟩
    rw [ew, ← y2, ← k1]; exact this
theorem LQ_LO {σ ρ : ZS} (hm : M3 σ) (hA : MA ρ) (hl : Alk σ ρ) {t t' : CbS} (ew : t.wh = t'.wh) (es : LE t = LE t') {cq rq cd r : Int} (h : LQ σ t cq rq) (k : LO ρ t' cd r) : cd = cq ∧ (cq = 0 → r = rq) := by
  have th : (∀ m : Int, 0 ≤ m → m ≤ 2 → zI σ m 0 = 0) ↔ (∀ m : Int, 0 ≤ m → m ≤ 2 → zA ρ 0 43 m = 0) := ⟨fun q m m0 m2 => by rw [← hl.2.1 m m0 m2]; exact q m m0 m2, fun q m m0 m2 => by rw [hl.2.1 m m0 m2]; exact q m m0 m2⟩
  have nt := NT_iff hl
  have nm := NM_iff hl
  have pm := Pub_iff hl RW_main
  have ap := AP_iff hm hA hl ew
  unfold LQ at h
  unfold LO at k
  rw [es, nt, nm, ← pm, ap, th] at h
  rcases h with ⟨h1, h2⟩ | ⟨⟨a, ab, at'⟩, h⟩
  · rcases k with ⟨k1, -⟩ | ⟨⟨b, bb, bt⟩, -⟩
    · exact ⟨by omega, fun q => by omega⟩
    · exact absurd (h2 b bb.1 bb.2) bt
  · rcases k with ⟨-, k2⟩ | ⟨-, k⟩
    · exact absurd (by rw [hl.2.1 a ab.1 ab.2]; exact k2 a ab.1 ab.2) at'
    rcases h with ⟨h1, h2⟩ | ⟨h2, h⟩
    · rcases k with ⟨k1, -⟩ | ⟨k2, -⟩
      · exact ⟨by omega, fun q => by omega⟩
      · exact absurd k2 h2
    · rcases k with ⟨-, k2⟩ | ⟨-, k⟩
      · exact absurd h2 k2
      rcases h with ⟨h1, h3⟩ | ⟨h3, h⟩
      · rcases k with ⟨k1, -⟩ | ⟨k2, -⟩
        · exact ⟨by omega, fun q => by omega⟩
        · exact absurd k2 h3
      · rcases k with ⟨-, k2⟩ | ⟨-, k⟩
        · exact absurd h3 k2
        rcases h with ⟨h1, h4⟩ | ⟨h4, h⟩
        · rcases k with ⟨k1, -⟩ | ⟨k2, -⟩
          · exact ⟨by omega, fun q => by omega⟩
          · exact absurd k2 h4
        · rcases k with ⟨-, k2⟩ | ⟨-, k⟩
          · exact absurd h4 k2
          rcases h with ⟨h1, h5⟩ | ⟨h5, h⟩
          · rcases k with ⟨k1, -⟩ | ⟨k2, -⟩
            · exact ⟨by omega, fun q => by omega⟩
            · omega
          · rcases k with ⟨-, k2⟩ | ⟨-, k⟩
            · omega
            rcases h with ⟨h1, h6⟩ | ⟨h1, h6, h7⟩
            · rcases k with ⟨k1, -⟩ | ⟨k1, k2, -⟩
              · exact ⟨by omega, fun q => by omega⟩
              · exact absurd k2 h6
            · rcases k with ⟨-, k2⟩ | ⟨k1, -, k3⟩
              · exact absurd h6 k2
              · exact ⟨by omega, fun _ => by rw [k3, h7]⟩
theorem k5_link {σ ρ : ZS} {N : Int} (h : CI σ N) (hr : RI ρ N) (hl : Alk σ ρ) (hN : 0 ≤ N ∧ N ≤ 100000) : wpX10_link σ (fun x τ => CI τ (N + 400) ∧ OO (wpX11_link ρ) τ 0 x (N + 400) True) (fun E τ => ((E = xISE ∧ OO (wpX11_link ρ) τ 1 0 (N + 400) True) ∨ (E = xUOE ∧ OO (wpX11_link ρ) τ 2 0 (N + 400) True) ∨ (E = xNSE ∧ OO (wpX11_link ρ) τ 3 0 (N + 400) True) ∨ (E = xIOB ∧ OO (wpX11_link ρ) τ 4 0 (N + 400) True) ∨ (E = xARI ∧ OO (wpX11_link ρ) τ 5 0 (N + 400) True)) ∧ CI τ (N + 400)) := by
  obtain ⟨h1, h2, h3, h4, h5⟩ := id hr
  have hm : M3 σ := h.2.2.2.1
  obtain ⟨V, sim⟩ := comb_sim hm hl
  have es : LE (cAl (wC σ) (aC σ) (sC σ) (fun m => zI σ m 1) 3) = LE (cAl (zA ρ 0 45) (zA ρ 0 46) (zA ρ 0 48) (cR ρ) 3) := by
    unfold LE; rw [sim.1.1, sim.2.1]
  have th : ∀ m : Int, 0 ≤ m → m ≤ 2 → ∀ n : Int, 0 ≤ n → (n < zI σ m 7 ∨ n < zI σ m 13) → zI σ m 0 ≠ 0 := fun m m0 m2 n n0 q z => by have := (hl.2.2 m m0 m2).1 z; omega
  have ref : ∀ (cq rq : Int) (τ : ZS), KC σ τ → LQ σ (cAl (wC σ) (aC σ) (sC σ) (fun m => zI σ m 1) 3) cq rq → OO (wpX11_link ρ) τ cq rq (N + 400) True := by
    intro cq rq τ kc lq Qr hq
    refine y_link h3 h4 (fun m k mb mt kb y => ?_) (fun nt => hu_r hl ((NT_iff hl).mpr nt)) (fun cd r υ ig f _ z lo => ?_)
    · have t0 : zI σ m 0 ≠ 0 := by rw [hl.2.1 m mb.1 mb.2]; exact mt
      obtain ⟨-, -, ⟨x1, x2⟩, -, -, -, x3⟩ := (hl.2.2 m mb.1 mb.2).2 t0
      obtain ⟨y1, -, -, y4, -⟩ := x2 k kb.1 (by omega)
      rw [y4]; exact x3 k kb.1 (by omega) (by rw [← y1]; exact y)
    · have e := LQ_LO hm h3 hl sim.2.2.1 es lq lo
      exact hq r υ (RI.mo (N := N) ⟨h1.same (f.in (by decide)) (f.an (by decide)), h2.up (f.2 16 (by decide)), h3.up (f.an (by decide)), ig, h5.same (f.in (by decide)) (f.an (by decide))⟩ (by omega)) (hl.k kc f (by decide) (by decide) (by decide)) (fun _ => ⟨z.trans e.1, e.2⟩)
  refine x_link h (fun nm m k mb kb y => ?_) (hu_c hl) (fun m k mb kb => ?_) (fun m q mb qb => ?_) (fun x τ ci kc lq => ⟨ci.mo (by omega), ref 0 x τ kc lq⟩) (fun s τ hs ci kc => ⟨?_, ci.mo (by omega)⟩)
  · have t0 := th m mb.1 mb.2 k kb.1 (Or.inl kb.2)
    obtain ⟨-, -, -, -, -, -, x3⟩ := (hl.2.2 m mb.1 mb.2).2 t0
    exact nm m k mb kb (x3 k kb.1 kb.2 y)
  · have t0 := th m mb.1 mb.2 k kb.1 (Or.inl kb.2)
    obtain ⟨⟨z1, -⟩, -, ⟨x1, x2⟩, -⟩ := (hl.2.2 m mb.1 mb.2).2 t0
    obtain ⟨-, y2, -⟩ := x2 k kb.1 kb.2
    have f := ((h3.2 m mb.1 mb.2).2.2.1 k kb.1 (by omega)).2.1
    omega
  · have t0 := th m mb.1 mb.2 q qb.1 (Or.inr qb.2)
    obtain ⟨⟨z1, -⟩, -, -, -, x, -⟩ := (hl.2.2 m mb.1 mb.2).2 t0
    obtain ⟨k, kb, -, k1, -⟩ := x q qb.1 qb.2
    have f := ((h3.2 m mb.1 mb.2).2.2.2 k kb.1 kb.2).1
    omega
  · rcases hs with ⟨e, q⟩ | ⟨e, q⟩ | ⟨e, q⟩ | ⟨e, q⟩ | ⟨e, q⟩
    · exact Or.inl ⟨e, ref 1 0 τ kc q⟩
    · exact Or.inr (Or.inl ⟨e, ref 2 0 τ kc q⟩)
    · exact Or.inr (Or.inr (Or.inl ⟨e, ref 3 0 τ kc q⟩))
    · exact Or.inr (Or.inr (Or.inr (Or.inl ⟨e, ref 4 0 τ kc q⟩)))
    · exact Or.inr (Or.inr (Or.inr (Or.inr ⟨e, ref 5 0 τ kc q⟩)))
