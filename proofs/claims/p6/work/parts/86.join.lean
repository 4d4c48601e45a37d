/-! C: a module is written -/
def MSg (σ : ZS) (g : Int) : Prop := ∀ s : Int, 0 ≤ s → s < zI σ g 1 → (0 ≤ zA σ g 2 s ∧ zA σ g 2 s ≤ 4398046511103) ∧ al (zA σ g 3 s) ∧ 0 ≤ zA σ g 4 s ∧ 0 ≤ zA σ g 5 s ∧ zA σ g 5 s + zA σ g 4 s ≤ 400
def MBy (σ : ZS) (g : Int) : Prop := ∀ i : Int, 0 ≤ i → i < 400 → 0 ≤ zA σ g 6 i ∧ zA σ g 6 i ≤ 255
def MFx (σ : ZS) (g : Int) : Prop := ∀ k : Int, 0 ≤ k → k < zI σ g 7 → (0 ≤ zA σ g 8 k ∧ zA σ g 8 k ≤ 2) ∧ (0 ≤ zA σ g 9 k ∧ zA σ g 9 k < 24) ∧ (0 ≤ zA σ g 10 k ∧ zA σ g 10 k ≤ 20010) ∧ (-1 ≤ zA σ g 11 k ∧ zA σ g 11 k < 24) ∧ (0 ≤ zA σ g 12 k ∧ zA σ g 12 k ≤ 4398046511103)
def MPb (σ : ZS) (g : Int) : Prop := ∀ q : Int, 0 ≤ q → q < zI σ g 13 → (0 ≤ zA σ g 14 q ∧ zA σ g 14 q ≤ 4398046511103) ∧ (0 ≤ zA σ g 15 q ∧ zA σ g 15 q < 24) ∧ (0 ≤ zA σ g 16 q ∧ zA σ g 16 q ≤ 20000)
def MO (σ : ZS) (g : Int) : Prop := (0 ≤ zI σ g 0 ∧ zI σ g 0 ≤ 1) ∧ (0 ≤ zI σ g 1 ∧ zI σ g 1 ≤ 24) ∧ (0 ≤ zI σ g 7 ∧ zI σ g 7 ≤ 200) ∧ (0 ≤ zI σ g 13 ∧ zI σ g 13 ≤ 24) ∧ MSg σ g ∧ MBy σ g ∧ MFx σ g ∧ MPb σ g
theorem MO.k {σ τ : ZS} {g : Int} (h : MO σ g) (e : ob τ g = ob σ g) : MO τ g := by
  have e1 := ob_I e; have e2 := ob_A e
  unfold MO MSg MBy MFx MPb; simp only [e1, e2]; exact h
theorem m_1 {g : Int} : g ∈ [g] := List.mem_cons_self
theorem n_1 {g a : Int} (h : a ≠ g) : a ∉ [g] := fun q => h (List.mem_singleton.mp q)
theorem c_mclear {g : Int} {σ : ZS} {Q : ZS → Prop} (hg : 0 ≤ g ∧ g ≤ 2) (hQ : ∀ τ : ZS, MO τ g → kp [g] σ τ → zI τ g 0 = 0 → zI τ g 1 = 0 → zI τ g 7 = 0 → zI τ g 13 = 0 → Q τ) : wpX6_clear g σ Q := by
  unfold wpX6_clear
  refine ⟨hg, c_fillM hg (fun h hh => ?_)⟩
  have key : ∀ τ : ZS, kp [g] σ τ → zI τ g 0 = 0 → zI τ g 1 = 0 → zI τ g 7 = 0 → zI τ g 13 = 0 → zA τ g 6 = h → Q τ := by
    intro τ k e0 e1 e7 e13 e6
    refine hQ τ ⟨by omega, by omega, by omega, by omega, fun s s0 s1 => absurd s0 (by omega), fun i i0 i1 => ?_, fun s s0 s1 => absurd s0 (by omega), fun s s0 s1 => absurd s0 (by omega)⟩ k e0 e1 e7 e13
    rw [e6, hh i i0 i1]; decide
  have kk : kp [g] σ (zsF (zsI (zsI (zsI (zsI σ g 0 0) g 1 0) g 7 0) g 13 0) g 6 h) := ((((kp.rf.ti m_1).ti m_1).ti m_1).ti m_1).tf m_1
  obtain rfl | rfl | rfl : g = 0 ∨ g = 1 ∨ g = 2 := by omega
  · exact key _ kk rfl rfl rfl rfl rfl
  · exact key _ kk rfl rfl rfl rfl rfl
  · exact key _ kk rfl rfl rfl rfl rfl
theorem c_addSegment {g w a z st : Int} {σ : ZS} {Q : ZS → Prop} (hg : 0 ≤ g ∧ g ≤ 2) (h : MO σ g) (hlt : zI σ g 1 < 24) (hw : 0 ≤ w ∧ w ≤ 4398046511103) (ha : al a) (hz : 0 ≤ z) (hs0 : zI σ g 1 = 0 → st = 0) (hs1 : 0 < zI σ g 1 → zA σ g 5 (zI σ g 1 - 1) + zA σ g 4 (zI σ g 1 - 1) = st) (h4 : 0 ≤ st ∧ st + z ≤ 400) (hQ : ∀ τ : ZS, MO τ g → kp [g] σ τ → zI τ g 1 = zI σ g 1 + 1 → zA τ g 5 (zI σ g 1) + zA τ g 4 (zI σ g 1) = st + z → Q τ) : wpX6_addSegment g w a z σ Q := by
  obtain ⟨a0, a1, a7, a13, b1, b2, b3, b4⟩ := h
  have key : ∀ τ : ZS, kp [g] σ τ → zI τ g 0 = zI σ g 0 → zI τ g 1 = zI σ g 1 + 1 → zI τ g 7 = zI σ g 7 → zI τ g 13 = zI σ g 13 → zA τ g 2 = zu (zA σ g 2) (zI σ g 1) w → zA τ g 3 = zu (zA σ g 3) (zI σ g 1) a → zA τ g 4 = zu (zA σ g 4) (zI σ g 1) z → zA τ g 5 = zu (zA σ g 5) (zI σ g 1) st → (zA τ g 6 = zA σ g 6 ∧ zA τ g 8 = zA σ g 8 ∧ zA τ g 9 = zA σ g 9 ∧ zA τ g 10 = zA σ g 10 ∧ zA τ g 11 = zA σ g 11 ∧ zA τ g 12 = zA σ g 12 ∧ zA τ g 14 = zA σ g 14 ∧ zA τ g 15 = zA σ g 15 ∧ zA τ g 16 = zA σ g 16) → Q τ := by
    intro τ k e0 e1 e7 e13 f2 f3 f4 f5 ⟨f6, f8, f9, f10, f11, f12, f14, f15, f16⟩
    refine hQ τ ⟨by rw [e0]; exact a0, by omega, by rw [e7]; exact a7, by rw [e13]; exact a13, fun s s0 s1 => ?_, ?_, ?_, ?_⟩ k e1 ?_
    · rw [f2, f3, f4, f5]
      by_cases e : s = zI σ g 1
      · rw [e, pu_eq, pu_eq, pu_eq, pu_eq]; exact ⟨hw, ha, hz, h4.1, h4.2⟩
      · rw [pu_ne e, pu_ne e, pu_ne e, pu_ne e]; exact b1 s s0 (by omega)
    · unfold MBy; rw [f6]; exact b2
    · unfold MFx; rw [e7, f8, f9, f10, f11, f12]; exact b3
    · unfold MPb; rw [e13, f14, f15, f16]; exact b4
    · rw [f4, f5, pu_eq, pu_eq]
  have f44 : ∀ x : Int, x = st → wpX6_addSegment_44 g w a z x σ Q := by
    intro x hx
    rw [hx]
    unfold wpX6_addSegment_44 wpX6_addSegment_96
    refine ⟨hg, by omega, ?_⟩
    have kk : kp [g] σ (zsI (zsA (zsA (zsA (zsA σ g 2 (zI σ g 1) w) g 3 (zI σ g 1) a) g 4 (zI σ g 1) z) g 5 (zI σ g 1) st) g 1 ((zI σ g 1) + 1)) := ((((kp.rf.ta m_1).ta m_1).ta m_1).ta m_1).ti m_1
    clear hQ b1 b2 b3 b4 hs0 hs1
    obtain rfl | rfl | rfl : g = 0 ∨ g = 1 ∨ g = 2 := by omega
    · exact key _ kk rfl rfl rfl rfl rfl rfl rfl rfl ⟨rfl, rfl, rfl, rfl, rfl, rfl, rfl, rfl, rfl⟩
    · exact key _ kk rfl rfl rfl rfl rfl rfl rfl rfl ⟨rfl, rfl, rfl, rfl, rfl, rfl, rfl, rfl, rfl⟩
    · exact key _ kk rfl rfl rfl rfl rfl rfl rfl rfl ⟨rfl, rfl, rfl, rfl, rfl, rfl, rfl, rfl, rfl⟩
  unfold wpX6_addSegment
  exact ⟨hg, by omega, fun q => absurd q (by omega), fun _ => ⟨fun q => f44 0 (hs0 (by omega)).symm, fun q => ⟨by omega, f44 _ (hs1 (by omega))⟩⟩⟩
theorem c_publicNumber {g w : Int} {σ : ZS} {Q : Int → ZS → Prop} (hg : 0 ≤ g ∧ g ≤ 2) (h : MO σ g) (hw : 0 ≤ w ∧ w ≤ 4398046511103) (h1 : ∀ x : Int, 0 ≤ x → x < zI σ g 13 → zA σ g 14 x = w → (∀ q : Int, 0 ≤ q → q < x → zA σ g 14 q ≠ w) → Q x σ) (h0 : (∀ q : Int, 0 ≤ q → q < zI σ g 13 → zA σ g 14 q ≠ w) → Q (-1) σ) : wpX6_publicNumber g w σ Q := by
  obtain ⟨a0, a1, a7, a13, b1, b2, b3, b4⟩ := h
  unfold wpX6_publicNumber wpX6_publicNumber_2
  refine lfp1_ind (fun v _ => (24 - v).toNat) (fun v τ => τ = σ ∧ (0 ≤ v ∧ v ≤ 24) ∧ ∀ q : Int, 0 ≤ q → q < v → zA σ g 14 q ≠ w) (fun K v τ hI ih => ?_) ⟨rfl, by decide, fun q q0 q1 => absurd q0 (by omega)⟩
  obtain ⟨e, hv, hq⟩ := hI
  rw [e]
  unfold wpbX6_publicNumber_2
  refine ⟨hg, by omega, by omega, fun _ => h0 (fun q q0 q1 => hq q q0 (by omega)), fun q => ⟨by omega, ?_, by omega, fun ne => ih _ _ ⟨rfl, by omega, fun j j0 j1 => ?_⟩ (by omega), fun e' => h1 v hv.1 (by omega) e' hq⟩⟩
  · have := (b4 v hv.1 (by omega)).1
    omega
  · by_cases ej : j = v
    · rw [ej]; exact ne
    · exact hq j j0 (by omega)
theorem c_addPublic {g w s o : Int} {σ : ZS} {Q : ZS → Prop} (hg : 0 ≤ g ∧ g ≤ 2) (h : MO σ g) (hw : 0 ≤ w ∧ w ≤ 4398046511103) (hs : 0 ≤ s ∧ s < 24) (ho : 0 ≤ o ∧ o ≤ 20000) (hQ : ∀ τ : ZS, MO τ g → kp [g] σ τ → zI τ g 1 = zI σ g 1 → Q τ) : wpX6_addPublic g w s o σ Q := by
  have h' := h
  obtain ⟨a0, a1, a7, a13, b1, b2, b3, b4⟩ := h'
  have key : ∀ τ : ZS, zI σ g 13 < 24 → kp [g] σ τ → zI τ g 0 = zI σ g 0 → zI τ g 1 = zI σ g 1 → zI τ g 7 = zI σ g 7 → zI τ g 13 = zI σ g 13 + 1 → zA τ g 14 = zu (zA σ g 14) (zI σ g 13) w → zA τ g 15 = zu (zA σ g 15) (zI σ g 13) s → zA τ g 16 = zu (zA σ g 16) (zI σ g 13) o → (zA τ g 6 = zA σ g 6 ∧ zA τ g 8 = zA σ g 8 ∧ zA τ g 9 = zA σ g 9 ∧ zA τ g 10 = zA σ g 10 ∧ zA τ g 11 = zA σ g 11 ∧ zA τ g 12 = zA σ g 12 ∧ zA τ g 2 = zA σ g 2 ∧ zA τ g 3 = zA σ g 3 ∧ zA τ g 4 = zA σ g 4 ∧ zA τ g 5 = zA σ g 5) → Q τ := by
    intro τ lt k e0 e1 e7 e13 f14 f15 f16 ⟨f6, f8, f9, f10, f11, f12, f2, f3, f4, f5⟩
    refine hQ τ ⟨by rw [e0]; exact a0, by rw [e1]; exact a1, by rw [e7]; exact a7, by omega, ?_, ?_, ?_, fun q q0 q1 => ?_⟩ k e1
    · unfold MSg; rw [e1, f2, f3, f4, f5]; exact b1
    · unfold MBy; rw [f6]; exact b2
    · unfold MFx; rw [e7, f8, f9, f10, f11, f12]; exact b3
    · rw [f14, f15, f16]
      by_cases e : q = zI σ g 13
      · rw [e, pu_eq, pu_eq, pu_eq]; exact ⟨hw, hs, ho⟩
      · rw [pu_ne e, pu_ne e, pu_ne e]; exact b4 q q0 (by omega)
  unfold wpX6_addPublic wpX6_addPublic_58
  refine ⟨hg, c_publicNumber hg h hw (fun x x0 x1 _ _ => ⟨by omega, fun _ => hQ σ h kp.rf rfl, fun q => absurd x0 q⟩) (fun _ => ⟨by decide, fun q => absurd q (by decide), fun _ => ⟨by omega, fun _ => hQ σ h kp.rf rfl, fun q => ⟨by omega, ?_⟩⟩⟩)⟩
  have kk : kp [g] σ (zsI (zsA (zsA (zsA σ g 14 (zI σ g 13) w) g 15 (zI σ g 13) s) g 16 (zI σ g 13) o) g 13 ((zI σ g 13) + 1)) := (((kp.rf.ta m_1).ta m_1).ta m_1).ti m_1
  have lt : zI σ g 13 < 24 := by omega
  clear hQ b1 b2 b3 b4 h
  obtain rfl | rfl | rfl : g = 0 ∨ g = 1 ∨ g = 2 := by omega
  · exact key _ lt kk rfl rfl rfl rfl rfl rfl rfl ⟨rfl, rfl, rfl, rfl, rfl, rfl, rfl, rfl, rfl, rfl⟩
  · exact key _ lt kk rfl rfl rfl rfl rfl rfl rfl ⟨rfl, rfl, rfl, rfl, rfl, rfl, rfl, rfl, rfl, rfl⟩
  · exact key _ lt kk rfl rfl rfl rfl rfl rfl rfl ⟨rfl, rfl, rfl, rfl, rfl, rfl, rfl, rfl, rfl, rfl⟩
theorem c_addFixup {g t s p a w : Int} {σ : ZS} {Q : ZS → Prop} (hg : 0 ≤ g ∧ g ≤ 2) (h : MO σ g) (ht : 0 ≤ t ∧ t ≤ 2) (hs : 0 ≤ s ∧ s < 24) (hp : 0 ≤ p ∧ p ≤ 20010) (ha : -1 ≤ a ∧ a < 24) (hw : 0 ≤ w ∧ w ≤ 4398046511103) (hQ : ∀ τ : ZS, MO τ g → kp [g] σ τ → zI τ g 1 = zI σ g 1 → Q τ) : wpX6_addFixup g t s p a w σ Q := by
  have h' := h
  obtain ⟨a0, a1, a7, a13, b1, b2, b3, b4⟩ := h'
  have key : ∀ τ : ZS, zI σ g 7 < 200 → kp [g] σ τ → zI τ g 0 = zI σ g 0 → zI τ g 1 = zI σ g 1 → zI τ g 7 = zI σ g 7 + 1 → zI τ g 13 = zI σ g 13 → zA τ g 8 = zu (zA σ g 8) (zI σ g 7) t → zA τ g 9 = zu (zA σ g 9) (zI σ g 7) s → zA τ g 10 = zu (zA σ g 10) (zI σ g 7) p → zA τ g 11 = zu (zA σ g 11) (zI σ g 7) a → zA τ g 12 = zu (zA σ g 12) (zI σ g 7) w → (zA τ g 6 = zA σ g 6 ∧ zA τ g 14 = zA σ g 14 ∧ zA τ g 15 = zA σ g 15 ∧ zA τ g 16 = zA σ g 16 ∧ zA τ g 2 = zA σ g 2 ∧ zA τ g 3 = zA σ g 3 ∧ zA τ g 4 = zA σ g 4 ∧ zA τ g 5 = zA σ g 5) → Q τ := by
    intro τ lt k e0 e1 e7 e13 f8 f9 f10 f11 f12 ⟨f6, f14, f15, f16, f2, f3, f4, f5⟩
    refine hQ τ ⟨by rw [e0]; exact a0, by rw [e1]; exact a1, by omega, by rw [e13]; exact a13, ?_, ?_, fun q q0 q1 => ?_, ?_⟩ k e1
    · unfold MSg; rw [e1, f2, f3, f4, f5]; exact b1
    · unfold MBy; rw [f6]; exact b2
    · rw [f8, f9, f10, f11, f12]
      by_cases e : q = zI σ g 7
      · rw [e, pu_eq, pu_eq, pu_eq, pu_eq, pu_eq]; exact ⟨ht, hs, hp, ha, hw⟩
      · rw [pu_ne e, pu_ne e, pu_ne e, pu_ne e, pu_ne e]; exact b3 q q0 (by omega)
    · unfold MPb; rw [e13, f14, f15, f16]; exact b4
  unfold wpX6_addFixup wpX6_addFixup_72
  refine ⟨hg, by omega, fun _ => hQ σ h kp.rf rfl, fun q => ⟨by omega, ?_⟩⟩
  have kk : kp [g] σ (zsI (zsA (zsA (zsA (zsA (zsA σ g 8 (zI σ g 7) t) g 9 (zI σ g 7) s) g 10 (zI σ g 7) p) g 11 (zI σ g 7) a) g 12 (zI σ g 7) w) g 7 ((zI σ g 7) + 1)) := (((((kp.rf.ta m_1).ta m_1).ta m_1).ta m_1).ta m_1).ti m_1
  have lt : zI σ g 7 < 200 := by omega
  clear hQ b1 b2 b3 b4 h
  obtain rfl | rfl | rfl : g = 0 ∨ g = 1 ∨ g = 2 := by omega
  · exact key _ lt kk rfl rfl rfl rfl rfl rfl rfl rfl rfl ⟨rfl, rfl, rfl, rfl, rfl, rfl, rfl, rfl⟩
  · exact key _ lt kk rfl rfl rfl rfl rfl rfl rfl rfl rfl ⟨rfl, rfl, rfl, rfl, rfl, rfl, rfl, rfl⟩
  · exact key _ lt kk rfl rfl rfl rfl rfl rfl rfl rfl rfl ⟨rfl, rfl, rfl, rfl, rfl, rfl, rfl, rfl⟩
theorem c_putByte {g s o b : Int} {σ : ZS} {Q : ZS → Prop} (hg : 0 ≤ g ∧ g ≤ 2) (h : MO σ g) (hs : 0 ≤ s ∧ s < 24) (ho : 0 ≤ o ∧ o ≤ 21000) (hQ : ∀ τ : ZS, MO τ g → kp [g] σ τ → zI τ g 1 = zI σ g 1 → Q τ) : wpX6_putByte g s o b σ Q := by
  have h' := h
  obtain ⟨a0, a1, a7, a13, b1, b2, b3, b4⟩ := h'
  have fin : ∀ i : Int, Q (zsA σ g 6 i (b % 256)) := by
    intro i
    refine hQ _ ?_ (kp.a m_1) rfl
    refine ⟨a0, a1, a7, a13, ?_, ?_, ?_, ?_⟩
    · unfold MSg; rw [zA_f (by decide), zA_f (by decide), zA_f (by decide), zA_f (by decide)]; exact b1
    · unfold MBy; rw [zA_s]; exact rng_zu b2 (by omega)
    · unfold MFx; rw [zA_f (by decide), zA_f (by decide), zA_f (by decide), zA_f (by decide), zA_f (by decide)]; exact b3
    · unfold MPb; rw [zA_f (by decide), zA_f (by decide), zA_f (by decide)]; exact b4
  unfold wpX6_putByte wpX6_putByte_40
  refine ⟨hg, by omega, by omega, fun _ => hQ σ h kp.rf rfl, fun q => ?_⟩
  have := b1 s hs.1 (by omega)
  exact ⟨by omega, by omega, fun _ => hQ σ h kp.rf rfl, fun _ => ⟨by omega, fin _⟩⟩
theorem c_putWord {g s o b : Int} {σ : ZS} {Q : ZS → Prop} (hg : 0 ≤ g ∧ g ≤ 2) (h : MO σ g) (hs : 0 ≤ s ∧ s < 24) (ho : 0 ≤ o ∧ o ≤ 20500) (hb : -2147483648 ≤ b ∧ b ≤ 2147483647) (hQ : ∀ τ : ZS, MO τ g → kp [g] σ τ → zI τ g 1 = zI σ g 1 → Q τ) : wpX6_putWord g s o b σ Q := by
  unfold wpX6_putWord
  exact ⟨hg, c_putByte hg h hs (by omega) (fun τ m k e => ⟨hb, c_putByte hg m hs (by omega) (fun υ m2 k2 e2 => hQ υ m2 (k.tr k2) (e2.trans e))⟩)⟩
theorem LZ.k {σ τ : ZS} (h : LZ σ) (e11 : ob τ 11 = ob σ 11) (e13 : ob τ 13 = ob σ 13) (e15 : ob τ 15 = ob σ 15) : LZ τ := by
  have x1 := ob_I e11; have x2 := ob_A e11; have y1 := ob_I e13; have y2 := ob_A e13; have z1 := ob_I e15; have z2 := ob_A e15
  unfold LZ LY NR NS DJ DIw LRg RO SN DS UR
  simp only [x1, x2, y1, y2, z1, z2]
  exact h
theorem LZ.kg {σ τ : ZS} {g : Int} (h : LZ σ) (hg : 0 ≤ g ∧ g ≤ 2) (k : kp [g] σ τ) : LZ τ := h.k (k 11 (n_1 (by omega))) (k 13 (n_1 (by omega))) (k 15 (n_1 (by omega)))
theorem LZ.few {σ : ZS} (h : LZ σ) : zI σ 15 4 ≤ 24 := by
  obtain ⟨⟨a1, a2, a3, a4, a5, a6, a7, a8, a9⟩, hd, hu, hw⟩ := h
  have := pigeon (f := zA σ 15 2) (g := zA σ 11 2) (n := zI σ 15 4) (k := zI σ 11 5) a4.1 a2.1.1 (fun s s0 s1 => ⟨(a9 s s0 s1).1, (a9 s s0 s1).2.2⟩)
  have h25 : ¬ 25 ≤ zI σ 11 5 := fun q => by have := a6 (a2.2.2 q); omega
  omega
/-- names' segments -/
theorem LZ.sg {σ : ZS} {n : Int} (h : LZ σ) (n0 : 0 ≤ n) (n1 : n < zI σ 11 5) : -1 ≤ zA σ 11 2 n ∧ zA σ 11 2 n < 24 := by
  have hf := h.few
  have hs := h.1.2.2.2.1
  obtain ⟨b0, b1, b2, b3⟩ := h.1.2.2.2.2.2.2.2.1 n n0 n1
  have hr := (h.1.1 n n0 (by have := h.1.2.1.1; omega)).2.1
  rcases (by omega : zA σ 11 1 n = 0 ∨ zA σ 11 1 n = 1 ∨ zA σ 11 1 n = 2 ∨ zA σ 11 1 n = 3) with e | e | e | e
  · have := b0 e; omega
  · have := b1 e; omega
  · have := b2 e; omega
  · have := b3 e; omega
/-- one item of a draft -/
theorem c_writeFixup {g i o t : Int} {σ : ZS} {Q : ZS → Prop} (hg : 0 ≤ g ∧ g ≤ 2) (h : LZ σ) (m : MO σ g) (hi : 0 ≤ i ∧ i < zI σ 13 7) (hn : 0 ≤ zA σ 13 2 i) (hs : 0 ≤ zA σ 13 5 i) (ho : 0 ≤ o ∧ o ≤ 20010) (ht : 0 ≤ t ∧ t ≤ 2) (hQ : ∀ τ : ZS, MO τ g → kp [g] σ τ → zI τ g 1 = zI σ g 1 → Q τ) : wpX2_writeFixup g i o t σ Q := by
  have hz := h.1.sz
  have hN := h.1.2.1.1
  have hf := h.few
  have hd := h.2.1 i hi.1 hi.2
  obtain ⟨i1, i2, i3, i4, i5, i6, i7, i8, i9, i10⟩ := h.1.it hi.1 hi.2
  unfold wpX2_writeFixup
  exact ⟨by omega, by omega, hg, c_addFixup hg m ht (by omega) ho (h.sg hn i3.2) (h.1.1 _ hn (by omega)).1 hQ⟩
theorem c_writeOffset {g i o : Int} {σ : ZS} {Q : ZS → Prop} (hg : 0 ≤ g ∧ g ≤ 2) (h : LZ σ) (m : MO σ g) (hi : 0 ≤ i ∧ i < zI σ 13 7) (hn : 0 ≤ zA σ 13 2 i) (hs : 0 ≤ zA σ 13 5 i) (ho : 0 ≤ o ∧ o ≤ 20010) (hQ : ∀ τ : ZS, MO τ g → kp [g] σ τ → zI τ g 1 = zI σ g 1 → Q τ) : wpX2_writeOffset g i o σ Q := by
  have hz := h.1.sz
  have hN := h.1.2.1.1
  have hf := h.few
  have hd := h.2.1 i hi.1 hi.2
  obtain ⟨i1, i2, i3, i4, i5, i6, i7, i8, i9, i10⟩ := h.1.it hi.1 hi.2
  have hr := h.1.1 _ hn (show zA σ 13 2 i < 240 by omega)
  have f39 : ∀ x : Int, (0 ≤ x ∧ x ≤ 20000) → wpX2_writeOffset_39 g i o x σ Q := by
    intro x hx
    unfold wpX2_writeOffset_39
    refine ⟨by omega, hg, c_putWord hg m (by omega) (by omega) (by omega) (fun τ tm tk te => ?_)⟩
    have e13 := tk 13 (n_1 (by omega))
    exact c_writeFixup hg (h.kg hg tk) tm (by rw [ob_I e13 7]; exact hi) (by rw [ob_A e13 2]; exact hn) (by rw [ob_A e13 5]; exact hs) ho (by decide) (fun υ um uk ue => hQ υ um (tk.tr uk) (ue.trans te))
  unfold wpX2_writeOffset
  exact ⟨by omega, by omega, by omega, fun _ => f39 0 (by decide), fun _ => f39 _ hr.2.2.2.2⟩
theorem c_writeNear {g i : Int} {σ : ZS} {Q : ZS → Prop} (hg : 0 ≤ g ∧ g ≤ 2) (h : LZ σ) (m : MO σ g) (hi : 0 ≤ i ∧ i < zI σ 13 7) (hn : 0 ≤ zA σ 13 2 i) (hs : 0 ≤ zA σ 13 5 i) (hQ : ∀ τ : ZS, MO τ g → kp [g] σ τ → zI τ g 1 = zI σ g 1 → Q τ) : wpX2_writeNear g i σ Q := by
  have hz := h.1.sz
  have hf := h.few
  have hd := h.2.1 i hi.1 hi.2
  have h6 := h.1.2.2.1.1.2.2 i hi.1 hi.2
  unfold wpX2_writeNear wpX2_writeNear_50
  exact ⟨by omega, c_isExtern h.1 hi hn (fun x hx => ⟨by omega, fun _ => c_distance h.1 hi hn (fun y hy => ⟨hg, c_putWord hg m (by omega) (by omega) (by omega) hQ⟩), fun _ => c_writeFixup hg h m hi hn hs (by omega) (by decide) hQ⟩)⟩
theorem c_writeItem {g i : Int} {σ : ZS} {Q : ZS → Prop} (hg : 0 ≤ g ∧ g ≤ 2) (h : LZ σ) (m : MO σ g) (hi : 0 ≤ i ∧ i < zI σ 13 7) (hs : 0 ≤ zA σ 13 5 i) (hQ : ∀ τ : ZS, MO τ g → kp [g] σ τ → zI τ g 1 = zI σ g 1 → Q τ) : wpX2_writeItem g i σ Q := by
  have hz := h.1.sz
  have hf := h.few
  have hd := h.2.1 i hi.1 hi.2
  have h6 := h.1.2.2.1.1.2.2 i hi.1 hi.2
  obtain ⟨i1, i2, i3, i4, i5, i6, i7, i8, i9, i10⟩ := h.1.it hi.1 hi.2
  have nx : zA σ 13 0 i ≠ 4 → zA σ 13 0 i ≠ 5 → zA σ 13 0 i ≠ 6 → ∀ τ : ZS, MO τ g → kp [g] σ τ → (LZ τ ∧ (0 ≤ i ∧ i < zI τ 13 7) ∧ 0 ≤ zA τ 13 2 i ∧ 0 ≤ zA τ 13 5 i) := by
    intro q1 q2 q3 τ tm tk
    have e13 := tk 13 (n_1 (by omega))
    exact ⟨h.kg hg tk, by rw [ob_I e13 7]; exact hi, by rw [ob_A e13 2]; exact i6 q1 q2 q3, by rw [ob_A e13 5]; exact hs⟩
  have fj : zA σ 13 0 i = 9 → wpX2_writeJump g i σ Q := by
    intro e
    unfold wpX2_writeJump wpX2_writeJump_77
    refine ⟨by omega, by omega, fun _ => ⟨hg, c_putByte hg m (by omega) (by omega) (fun τ tm tk te => ?_)⟩, fun _ => ⟨hg, c_putByte hg m (by omega) (by omega) (fun τ tm tk te => ?_)⟩⟩
    · obtain ⟨tz, ti, tn, ts⟩ := nx (by omega) (by omega) (by omega) τ tm tk
      exact c_distance tz.1 ti tn (fun y hy => c_putByte hg tm (by omega) (by omega) (fun υ um uk ue => hQ υ um (tk.tr uk) (ue.trans te)))
    · obtain ⟨tz, ti, tn, ts⟩ := nx (by omega) (by omega) (by omega) τ tm tk
      exact c_writeNear hg tz tm ti tn ts (fun υ um uk ue => hQ υ um (tk.tr uk) (ue.trans te))
  unfold wpX2_writeItem wpX2_writeItem_227
  refine ⟨by omega, by omega, fun _ => ⟨hg, c_putByte hg m (by omega) (by omega) hQ⟩, fun n4 => ⟨fun _ => hQ σ m kp.rf rfl, fun n5 => ⟨fun _ => ⟨hg, c_putWord hg m (by omega) (by omega) (by omega) hQ⟩, fun n6 => ?_⟩⟩⟩
  have hn := i6 n4 n5 n6
  refine ⟨fun _ => c_writeOffset hg h m hi hn hs (by omega) hQ, fun _ => ⟨fun _ => c_writeFixup hg h m hi hn hs (by omega) (by decide) hQ, fun _ => ⟨fun e => fj e, fun _ => ⟨fun e => ⟨hg, c_putByte hg m (by omega) (by omega) (fun τ tm tk te => ?_)⟩, fun _ => ⟨fun e => ⟨hg, c_putByte hg m (by omega) (by omega) (fun τ tm tk te => ?_)⟩, fun _ => ⟨fun e => ⟨hg, c_putByte hg m (by omega) (by omega) (fun τ tm tk te => ?_)⟩, fun _ => hQ σ m kp.rf rfl⟩⟩⟩⟩⟩⟩
  · obtain ⟨tz, ti, tn, ts⟩ := nx n4 n5 n6 τ tm tk
    exact c_distance tz.1 ti tn (fun y hy => c_putByte hg tm (by omega) (by omega) (fun υ um uk ue => hQ υ um (tk.tr uk) (ue.trans te)))
  · obtain ⟨tz, ti, tn, ts⟩ := nx n4 n5 n6 τ tm tk
    exact c_writeNear hg tz tm ti tn ts (fun υ um uk ue => hQ υ um (tk.tr uk) (ue.trans te))
  · obtain ⟨tz, ti, tn, ts⟩ := nx n4 n5 n6 τ tm tk
    refine c_writeOffset hg tz tm ti tn ts (by omega) (fun υ um uk ue => ?_)
    obtain ⟨uz, ui, un, us⟩ := nx n4 n5 n6 υ um (tk.tr uk)
    exact c_writeFixup hg uz um ui un us (by omega) (by decide) (fun ω wm wk we => hQ ω wm ((tk.tr uk).tr wk) (we.trans (ue.trans te)))
theorem c_write {g : Int} {σ : ZS} {Q : ZS → Prop} (hg : 0 ≤ g ∧ g ≤ 2) (h : LZ σ) (h4 : psum (zA σ 15 3) (zI σ 15 4).toNat ≤ 400) (hQ : ∀ τ : ZS, MO τ g → kp [g] σ τ → Q τ) : wpX2_write g σ Q := by
  have hf := h.few
  obtain ⟨⟨a1, a2, a3, a4, a5, a6, a7, a8, a9⟩, hd, hu, hw⟩ := h
  have h : LZ σ := ⟨⟨a1, a2, a3, a4, a5, a6, a7, a8, a9⟩, hd, hu, hw⟩
  have nn : ∀ j : Int, 0 ≤ j → j < ((zI σ 15 4).toNat : Int) → 0 ≤ zA σ 15 3 j := fun j j0 j1 => (a7 j j0 (by omega)).2.1
  have pm : ∀ n : Int, 0 ≤ n → n ≤ zI σ 15 4 → 0 ≤ psum (zA σ 15 3) n.toNat ∧ psum (zA σ 15 3) n.toNat ≤ 400 := by
    intro n n0 n1
    have q1 := psum_nn (f := zA σ 15 3) n.toNat (fun j j0 j1 => nn j j0 (by omega))
    have q2 := psum_mono (f := zA σ 15 3) (m := n.toNat) (zI σ 15 4).toNat (by omega) nn
    omega
  have ps : ∀ n : Int, 0 ≤ n → psum (zA σ 15 3) (n + 1).toNat = psum (zA σ 15 3) n.toNat + zA σ 15 3 n := by
    intro n n0
    rw [show (n + 1).toNat = n.toNat + 1 by omega]
    show psum (zA σ 15 3) n.toNat + zA σ 15 3 ((n.toNat : Nat) : Int) = _
    rw [show ((n.toNat : Nat) : Int) = n by omega]
  unfold wpX2_write
  refine ⟨hg, c_mclear hg (fun τ0 m0 k0 e0 e1 e7 e13 => ?_)⟩
  have m1 : MO (zsI τ0 g 0 1) g := by
    obtain ⟨b0, b1, b7, b13, b⟩ := m0
    unfold MO MSg MBy MFx MPb
    rw [zI_s, zI_f (by decide), zI_f (by decide), zI_f (by decide)]
    exact ⟨by decide, b1, b7, b13, b⟩
  have k1 : kp [g] σ (zsI τ0 g 0 1) := k0.ti m_1
  have g1 : zI (zsI τ0 g 0 1) g 1 = 0 := (zI_f (by decide)).trans e1
  -- items
  have f62 : ∀ τ : ZS, MO τ g → kp [g] σ τ → wpX2_write_62 g 0 τ Q := by
    intro τ tm tk
    unfold wpX2_write_62
    refine lfp1_ind (fun v _ => (248 - v).toNat) (fun v υ => MO υ g ∧ kp [g] σ υ ∧ (0 ≤ v ∧ v ≤ zI σ 13 7)) (fun K v υ hI ih => ?_) ⟨tm, tk, by decide, h.1.sz.1⟩
    obtain ⟨um, uk, v0, v1⟩ := hI
    have uz := h.kg hg uk
    have e13 := uk 13 (n_1 (by omega))
    have s7 := ob_I e13 7
    have hz := uz.1.sz
    have hN := uz.1.2.1.1
    unfold wpbX2_write_62 wpX2_write_148
    refine ⟨by omega, by omega, fun _ => hQ υ um uk, fun lt => ?_⟩
    obtain ⟨i1, i2, i3, i4, i5, i6, i7, i8, i9, i10⟩ := uz.1.it v0 (show v < zI υ 13 7 by omega)
    have ud := uz.2.1 v v0 (by omega)
    have us := uz.1.2.2.2.1
    have on : ∀ ω : ZS, MO ω g → kp [g] υ ω → K (v + 1) ω := fun ω wm wk => ih _ _ ⟨wm, uk.tr wk, by omega, by omega⟩ (by omega)
    refine ⟨by omega, by omega, fun _ => ⟨by omega, fun _ => on υ um kp.rf, fun nn => c_writeItem hg uz um ⟨v0, by omega⟩ (by omega) (fun ω wm wk _ => on ω wm wk)⟩, fun e2 => ?_⟩
    have hn := i6 (by omega) (by omega) (by omega)
    have r2 := uz.2.2.1 v v0 (by omega) e2
    have sg := (uz.1.2.2.2.2.2.2.2.1 _ hn i3.2).2.2.1 r2
    have fw := uz.few
    have hr := uz.1.1 _ hn (show zA υ 13 2 v < 240 by omega)
    have ww := uz.2.2.2
    exact ⟨by omega, hg, c_addPublic hg um hr.1 ⟨sg.2.2 ww, by omega⟩ hr.2.2.2.2 (fun ω wm wk _ => on ω wm wk)⟩
  unfold wpX2_write_11
  refine lfp1_ind (fun v _ => (60 - v).toNat) (fun v υ => MO υ g ∧ kp [g] σ υ ∧ zI υ g 1 = v ∧ (0 < v → zA υ g 5 (v - 1) + zA υ g 4 (v - 1) = psum (zA σ 15 3) v.toNat) ∧ (0 ≤ v ∧ v ≤ zI σ 15 4)) (fun K v υ hI ih => ?_) ⟨m1, k1, g1, fun q => absurd q (by decide), by decide, a4.1⟩
  obtain ⟨um, uk, uc, us, v0, v1⟩ := hI
  have e15 := uk 15 (n_1 (by omega))
  have e11 := uk 11 (n_1 (by omega))
  have s4 := ob_I e15 4
  unfold wpbX2_write_11
  refine ⟨by omega, by omega, fun _ => f62 υ um uk, fun lt => ?_⟩
  rw [ob_A e15 2, ob_A e15 3, ob_A e11 0, ob_A e11 3]
  obtain ⟨z1, z2, z3⟩ := a9 v v0 (by omega)
  have hN := a2.1
  have hr := a1 _ z1.1 (show zA σ 15 2 v < 240 by omega)
  have al1 := ((a8 _ z1.1 z1.2).2.1 z2).2.2
  have p1 := pm v v0 (by omega)
  have p2 := pm (v + 1) (by omega) (by omega)
  have p3 := ps v v0
  refine ⟨by omega, by omega, hg, c_addSegment (st := psum (zA σ 15 3) v.toNat) hg um (by omega) hr.1 al1 (a7 v v0 (by omega)).2.1 (fun q => ?_) (fun q => ?_) (by omega) (fun ω wm wk w1 w2 => ih _ _ ⟨wm, uk.tr wk, by omega, fun _ => ?_, by omega, by omega⟩ (by omega))⟩
  · rw [show v = 0 by omega]; rfl
  · rw [uc]; exact us (by omega)
  · rw [uc] at w2
    rw [show v + 1 - 1 = v by omega, p3]; exact w2
/-! C: the linker -/
theorem z_bn {a : Int} (h : 0 ≤ a ∧ a ≤ 1073741824) : (Int32.ofInt a).toBitVec.toNat = a.toNat := by
  have e : ((Int32.ofInt a).toBitVec.toNat : Int) = a % 4294967296 := by
    show ((BitVec.ofInt 32 a).toNat : Int) = _
    rw [BitVec.toNat_ofInt, Int.toNat_of_nonneg (Int.emod_nonneg _ (by decide))]
    rfl
  omega
theorem z_hi {x y : Int} (k M : Nat) (hk : k ≤ 4) (ht : ∀ i : Nat, i < 32 → M.testBit i = decide (k ≤ i)) (hy : (Int32.ofInt y).toBitVec.toNat = M) (hx : 0 ≤ x ∧ x ≤ 1073741824) : zand x y = ((x.toNat / 2 ^ k * 2 ^ k : Nat) : Int) := by
  have hle : x.toNat / 2 ^ k * 2 ^ k ≤ x.toNat := Nat.div_mul_le_self _ _
  have key : Int32.ofInt x &&& Int32.ofInt y = Int32.ofInt ((x.toNat / 2 ^ k * 2 ^ k : Nat) : Int) := by
    apply Int32.toBitVec_inj.mp
    apply BitVec.eq_of_toNat_eq
    rw [Int32.toBitVec_and, BitVec.toNat_and, hy, z_bn hx, z_bn (by omega), Int.toNat_natCast]
    apply Nat.eq_of_testBit_eq
    intro i
    rw [Nat.testBit_and, ← Nat.shiftLeft_eq, ← Nat.shiftRight_eq_div_pow, Nat.testBit_shiftLeft, Nat.testBit_shiftRight]
    by_cases hi : i < 32
    · rw [ht i hi]
      by_cases hki : k ≤ i
      · rw [show k + (i - k) = i by omega]; simp [hki]
      · simp [hki]
    · have q : x.toNat.testBit i = false := Nat.testBit_lt_two_pow (Nat.lt_of_lt_of_le (show x.toNat < 2 ^ 32 by omega) (Nat.pow_le_pow_right (by decide) (by omega)))
      rw [q, show k + (i - k) = i by omega, q]; simp
  unfold zand
  rw [key, z_ti (by omega)]
theorem z_up {v a : Int} (ha : al a) (hv : 0 ≤ v ∧ v ≤ 1000000000) : zand (v + a - 1) (-a) = (v + a - 1) / a * a := by
  unfold al at ha
  rcases ha with rfl | rfl | rfl | rfl | rfl
  · rw [z_hi 0 4294967295 (by decide) (by decide) (by decide) (by omega)]
    show (((v + 1 - 1).toNat / 1 * 1 : Nat) : Int) = _
    omega
  · rw [z_hi 1 4294967294 (by decide) (by decide) (by decide) (by omega)]
    show (((v + 2 - 1).toNat / 2 * 2 : Nat) : Int) = _
    omega
  · rw [z_hi 2 4294967292 (by decide) (by decide) (by decide) (by omega)]
    show (((v + 4 - 1).toNat / 4 * 4 : Nat) : Int) = _
    omega
  · rw [z_hi 3 4294967288 (by decide) (by decide) (by decide) (by omega)]
    show (((v + 8 - 1).toNat / 8 * 8 : Nat) : Int) = _
    omega
  · rw [z_hi 4 4294967280 (by decide) (by decide) (by decide) (by omega)]
    show (((v + 16 - 1).toNat / 16 * 16 : Nat) : Int) = _
    omega
theorem up_bd {v a : Int} (ha : al a) (hv : 0 ≤ v) : v ≤ (v + a - 1) / a * a ∧ (v + a - 1) / a * a ≤ v + 15 := by
  unfold al at ha
  rcases ha with rfl | rfl | rfl | rfl | rfl <;> omega
def M3 (σ : ZS) : Prop := ∀ m : Int, 0 ≤ m → m ≤ 2 → MO σ m
theorem M3.k {σ τ : ZS} {G : List Int} (h : M3 σ) (k : kp G σ τ) (h0 : (0 : Int) ∉ G) (h1 : (1 : Int) ∉ G) (h2 : (2 : Int) ∉ G) : M3 τ := by
  intro m m0 m2
  obtain rfl | rfl | rfl : m = 0 ∨ m = 1 ∨ m = 2 := by omega
  · exact (h 0 m0 m2).k (k 0 h0)
  · exact (h 1 m0 m2).k (k 1 h1)
  · exact (h 2 m0 m2).k (k 2 h2)
theorem c_hasModules {σ : ZS} {Q : Int → ZS → Prop} (h : M3 σ) (hQ : ∀ x : Int, (0 ≤ x ∧ x ≤ 1) → Q x σ) : wpX3_hasModules σ Q := by
  unfold wpX3_hasModules wpX3_hasModules_2
  refine lfp1_ind (fun v _ => (3 - v).toNat) (fun v τ => τ = σ ∧ (0 ≤ v ∧ v ≤ 3)) (fun K v τ hI ih => ?_) ⟨rfl, by decide⟩
  obtain ⟨e, hv⟩ := hI
  rw [e]
  unfold wpbX3_hasModules_2
  refine ⟨by omega, fun _ => hQ 0 (by decide), fun q => ?_⟩
  have := (h v hv.1 (by omega)).1
  exact ⟨by omega, by omega, fun _ => ih _ _ ⟨rfl, by omega⟩ (by omega), fun _ => hQ 1 (by decide)⟩
theorem c_publicModule {σ : ZS} {w L : Int} {Q : Int → ZS → Prop} (h : M3 σ) (hL : 0 ≤ L ∧ L ≤ 3) (hw : 0 ≤ w ∧ w ≤ 4398046511103) (h1 : ∀ m : Int, 0 ≤ m → m < L → (∃ q : Int, 0 ≤ q ∧ q < zI σ m 13 ∧ zA σ m 14 q = w) → Q m σ) (h0 : Q (-1) σ) : wpX3_publicModule w L σ Q := by
  unfold wpX3_publicModule wpX3_publicModule_3
  refine lfp1_ind (fun v _ => (3 - v).toNat) (fun v τ => τ = σ ∧ (0 ≤ v ∧ v ≤ 3)) (fun K v τ hI ih => ?_) ⟨rfl, by decide⟩
  obtain ⟨e, hv⟩ := hI
  rw [e]
  unfold wpbX3_publicModule_3 wpX3_publicModule_39
  refine ⟨by omega, by omega, fun _ => h0, fun q => ?_⟩
  have on : K (v + 1) σ := ih _ _ ⟨rfl, by omega⟩ (by omega)
  have hm := h v hv.1 (by omega)
  have h13 := hm.2.2.2.1
  exact ⟨by omega, by have := hm.1; omega, fun _ => on, fun _ => c_publicNumber (by omega) hm hw (fun x x0 x1 xe _ => ⟨by omega, fun _ => on, fun _ => h1 v hv.1 (by omega) ⟨x, x0, x1, xe⟩⟩) (fun _ => ⟨by decide, fun _ => on, fun q => absurd (by decide) q⟩)⟩
theorem c_firstPublicTwice {σ : ZS} {Q : Int → ZS → Prop} (h : M3 σ) (hQ : ∀ x : Int, (-1 ≤ x ∧ x ≤ 2) → Q x σ) : wpX3_firstPublicTwice σ Q := by
  unfold wpX3_firstPublicTwice wpX3_firstPublicTwice_2
  refine lfp1_ind (fun v _ => (3 - v).toNat) (fun v τ => τ = σ ∧ (1 ≤ v ∧ v ≤ 3)) (fun K v τ hI ih => ?_) ⟨rfl, by decide⟩
  obtain ⟨e, hv⟩ := hI
  rw [e]
  unfold wpbX3_firstPublicTwice_2 wpX3_firstPublicTwice_16
  refine ⟨by omega, fun _ => hQ _ (by decide), fun q => ⟨by omega, ?_⟩⟩
  have hm := h v (by omega) (by omega)
  have h13 := hm.2.2.2.1
  refine lfp1_ind (fun u _ => (24 - u).toNat) (fun u τ => τ = σ ∧ (0 ≤ u ∧ u ≤ 24)) (fun K' u τ' hI' ih' => ?_) ⟨rfl, by decide⟩
  obtain ⟨e', hu⟩ := hI'
  rw [e']
  unfold wpbX3_firstPublicTwice_16
  refine ⟨by omega, by omega, by omega, fun _ => ih _ _ ⟨rfl, by omega⟩ (by omega), fun q' => ⟨by omega, ?_⟩⟩
  have hp := (hm.2.2.2.2.2.2.2 u hu.1 (by omega)).1
  exact c_publicModule h (by omega) hp (fun m m0 m1 _ => ⟨by omega, fun q => absurd m0 (by omega), fun _ => hQ _ (by omega)⟩) ⟨by decide, fun _ => ih' _ _ ⟨rfl, by omega⟩ (by omega), fun q => absurd (by decide) q⟩
theorem c_firstUnsolved {σ : ZS} {Q : Int → ZS → Prop} (h : M3 σ) (hQ : ∀ x : Int, (-1 ≤ x ∧ x ≤ 2) → Q x σ) : wpX3_firstUnsolved σ Q := by
  unfold wpX3_firstUnsolved wpX3_firstUnsolved_2
  refine lfp1_ind (fun v _ => (3 - v).toNat) (fun v τ => τ = σ ∧ (0 ≤ v ∧ v ≤ 3)) (fun K v τ hI ih => ?_) ⟨rfl, by decide⟩
  obtain ⟨e, hv⟩ := hI
  rw [e]
  unfold wpbX3_firstUnsolved_2 wpX3_firstUnsolved_16
  refine ⟨by omega, fun _ => hQ _ (by decide), fun q => ⟨by omega, ?_⟩⟩
  have hm := h v (by omega) (by omega)
  have h7 := hm.2.2.1
  refine lfp1_ind (fun u _ => (200 - u).toNat) (fun u τ => τ = σ ∧ (0 ≤ u ∧ u ≤ 200)) (fun K' u τ' hI' ih' => ?_) ⟨rfl, by decide⟩
  obtain ⟨e', hu⟩ := hI'
  rw [e']
  unfold wpbX3_firstUnsolved_16 wpX3_firstUnsolved_49
  refine ⟨by omega, by omega, by omega, fun _ => ih _ _ ⟨rfl, by omega⟩ (by omega), fun q' => ?_⟩
  have hp := hm.2.2.2.2.2.2.1 u hu.1 (by omega)
  have on : K' (u + 1) σ := ih' _ _ ⟨rfl, by omega⟩ (by omega)
  exact ⟨by omega, by omega, fun _ => on, fun _ => c_publicModule h (by decide) hp.2.2.2.2 (fun m m0 m1 _ => ⟨by omega, fun _ => on, fun _ => hQ _ (by omega)⟩) ⟨by decide, fun _ => on, fun _ => hQ _ (by omega)⟩⟩
theorem c_hasMain {σ : ZS} {Q : Int → ZS → Prop} (h : M3 σ) (hQ : ∀ x : Int, (0 ≤ x ∧ x ≤ 1) → Q x σ) : wpX3_hasMain σ Q := by
  unfold wpX3_hasMain wpX3_hasMain_16
  exact c_publicModule h (by decide) (by decide) (fun m m0 m1 _ => ⟨by omega, fun _ => ⟨by decide, hQ 0 (by decide)⟩, fun _ => ⟨by decide, hQ 1 (by decide)⟩⟩) ⟨by decide, fun _ => ⟨by decide, hQ 0 (by decide)⟩, fun _ => ⟨by decide, hQ 1 (by decide)⟩⟩
/-! combining -/
def LKc (σ : ZS) : Prop := (0 ≤ zI σ 16 4 ∧ zI σ 16 4 ≤ 72) ∧ (∀ i : Int, 0 ≤ i → i < 72 → 0 ≤ zA σ 16 1 i ∧ zA σ 16 1 i ≤ 4398046511103) ∧ (∀ i : Int, 0 ≤ i → i < 72 → 0 ≤ zA σ 16 2 i ∧ zA σ 16 2 i ≤ 30000) ∧ (∀ i : Int, 0 ≤ i → i < 72 → 0 ≤ zA σ 16 3 i ∧ zA σ 16 3 i ≤ 3000000) ∧ (∀ i : Int, 0 ≤ i → i < 72 → 0 ≤ zA σ 16 5 i ∧ zA σ 16 5 i ≤ 71) ∧ (∀ i : Int, 0 ≤ i → i < 72 → 0 ≤ zA σ 16 6 i ∧ zA σ 16 6 i ≤ 30000)
theorem LKc.k {σ τ : ZS} (h : LKc σ) (e : ob τ 16 = ob σ 16) : LKc τ := by
  have e1 := ob_I e; have e2 := ob_A e
  unfold LKc; simp only [e1, e2]; exact h
def CBp (σ τ : ZS) (a b : Int) : Prop := ∀ m s : Int, 0 ≤ m → m ≤ 2 → 0 ≤ s → s < zI σ m 1 → (m < a ∨ (m = a ∧ s < b)) → (0 ≤ zA τ 16 5 (m * 24 + s) ∧ zA τ 16 5 (m * 24 + s) < zI τ 16 4) ∧ zA τ 16 6 (m * 24 + s) + zA σ m 4 s ≤ zA τ 16 2 (zA τ 16 5 (m * 24 + s))
def CV (σ τ : ZS) (a b n : Int) : Prop := LKc τ ∧ kp [16] σ τ ∧ zI τ 16 4 ≤ n ∧ CBp σ τ a b ∧ (∀ c : Int, 0 ≤ c → c < zI τ 16 4 → zA τ 16 2 c ≤ 416 * (a * 24 + b))
theorem c_combinedNumber {σ τ : ZS} {a b w : Int} {Q : Int → ZS → Prop} (ha : 0 ≤ a ∧ a ≤ 2) (hb : 0 ≤ b ∧ b < 24) (hc : CV σ τ a b (a * 24 + b)) (hw : 0 ≤ w ∧ w ≤ 4398046511103) (hQ : ∀ (x : Int) (υ : ZS), CV σ υ a b (a * 24 + b + 1) → (0 ≤ x ∧ x < zI υ 16 4) → Q x υ) : wpX3_combinedNumber w τ Q := by
  obtain ⟨⟨k1, k2, k3, k4, k5, k6⟩, kk, kn, kc, ks⟩ := hc
  unfold wpX3_combinedNumber wpX3_combinedNumber_2
  refine lfp1_ind (fun v _ => (72 - v).toNat) (fun v υ => υ = τ ∧ (0 ≤ v ∧ v ≤ 72)) (fun K v υ hI ih => ?_) ⟨rfl, by decide⟩
  obtain ⟨e, hv⟩ := hI
  rw [e]
  unfold wpbX3_combinedNumber_2
  refine ⟨by omega, by omega, fun q => ⟨fun lt => ⟨by omega, ?_⟩, fun ge => absurd (show zI τ 16 4 < 72 by omega) ge⟩, fun q => ⟨by omega, ?_, by omega, fun _ => ih _ _ ⟨rfl, by omega⟩ (by omega), fun _ => hQ v τ ⟨⟨k1, k2, k3, k4, k5, k6⟩, kk, by omega, kc, ks⟩ (by omega)⟩⟩
  · refine hQ _ _ ⟨⟨?_, rng_zu k2 hw, rng_zu k3 (by decide), k4, k5, k6⟩, ((kk.ta (by decide)).ta (by decide)).ti (by decide), ?_, fun m s m0 m2 s0 s1 q' => ?_, fun c c0 c1 => ?_⟩ ?_
    · show 0 ≤ zI τ 16 4 + 1 ∧ zI τ 16 4 + 1 ≤ 72
      omega
    · show zI τ 16 4 + 1 ≤ a * 24 + b + 1
      omega
    · obtain ⟨x1, x2⟩ := kc m s m0 m2 s0 s1 q'
      show (0 ≤ zA τ 16 5 (m * 24 + s) ∧ zA τ 16 5 (m * 24 + s) < zI τ 16 4 + 1) ∧ zA τ 16 6 (m * 24 + s) + zA σ m 4 s ≤ zu (zA τ 16 2) (zI τ 16 4) 0 (zA τ 16 5 (m * 24 + s))
      rw [pu_ne (by omega)]
      exact ⟨by omega, x2⟩
    · show zu (zA τ 16 2) (zI τ 16 4) 0 c ≤ 416 * (a * 24 + b)
      have c1' : c < zI τ 16 4 + 1 := c1
      by_cases e' : c = zI τ 16 4
      · rw [e', pu_eq]; omega
      · rw [pu_ne e']; exact ks c c0 (by omega)
    · show 0 ≤ zI τ 16 4 + 1 - 1 ∧ zI τ 16 4 + 1 - 1 < zI τ 16 4 + 1
      omega
  · have := k2 v hv.1 (by omega)
    omega
theorem c_addPart {σ τ : ZS} {a b : Int} {Q : ZS → Prop} (hm : M3 σ) (ha : 0 ≤ a ∧ a ≤ 2) (hb : 0 ≤ b ∧ b < zI σ a 1) (hc : CV σ τ a b (a * 24 + b)) (hQ : ∀ υ : ZS, CV σ υ a (b + 1) (a * 24 + b + 1) → Q υ) : wpX3_addPart a b τ Q := by
  have mo := hm a ha.1 ha.2
  have h1 := mo.2.1
  have sg := mo.2.2.2.2.1 b hb.1 hb.2
  have na : a ∉ [(16 : Int)] := n_1 (by omega)
  have ea := hc.2.1 a na
  unfold wpX3_addPart wpX10_roundUp wpX3_part
  refine ⟨by omega, by omega, c_combinedNumber ha (by omega) hc (by rw [ob_A ea 2]; exact sg.1) (fun x υ uc ux => ?_)⟩
  obtain ⟨⟨k1, k2, k3, k4, k5, k6⟩, kk, kn, kc, ks⟩ := uc
  have eu := kk a na
  have zx := ks x ux.1 ux.2
  have zn := (k3 x ux.1 (by omega)).1
  rw [ob_A eu 3, z_up sg.2.1 (by omega)]
  have ub := up_bd sg.2.1 zn
  refine ⟨by omega, by omega, by omega, hQ _ ?_⟩
  have e4 : zA (zsA υ 16 5 (a * 24 + b) x) a 4 = zA σ a 4 := (zA_g (by omega)).trans (ob_A eu 4)
  rw [e4]
  have gx : ∀ c : Int, zA υ 16 2 c ≤ zu (zA υ 16 2) x ((zA υ 16 2 x + zA σ a 3 b - 1) / zA σ a 3 b * zA σ a 3 b + zA σ a 4 b) c := by
    intro c
    by_cases e : c = x
    · rw [e, pu_eq]; omega
    · rw [pu_ne e]; exact Int.le_refl _
  refine ⟨⟨k1, k2, rng_zu k3 (by omega), k4, rng_zu k5 (by omega), rng_zu k6 (by omega)⟩, ((kk.ta (by decide)).ta (by decide)).ta (by decide), by show zI υ 16 4 ≤ a * 24 + b + 1; omega, fun m s m0 m2 s0 s1 q => ?_, fun c c0 c1 => ?_⟩
  · show (0 ≤ zu (zA υ 16 5) (a * 24 + b) x (m * 24 + s) ∧ zu (zA υ 16 5) (a * 24 + b) x (m * 24 + s) < zI υ 16 4) ∧ zu (zA υ 16 6) (a * 24 + b) ((zA υ 16 2 x + zA σ a 3 b - 1) / zA σ a 3 b * zA σ a 3 b) (m * 24 + s) + zA σ m 4 s ≤ zu (zA υ 16 2) x ((zA υ 16 2 x + zA σ a 3 b - 1) / zA σ a 3 b * zA σ a 3 b + zA σ a 4 b) (zu (zA υ 16 5) (a * 24 + b) x (m * 24 + s))
    have hm24 := (hm m m0 m2).2.1
    by_cases e : m = a ∧ s = b
    · obtain ⟨rfl, rfl⟩ := e
      rw [pu_eq, pu_eq, pu_eq]
      exact ⟨ux, Int.le_refl _⟩
    · have ne : m * 24 + s ≠ a * 24 + b := by omega
      rw [pu_ne ne, pu_ne ne]
      obtain ⟨x1, x2⟩ := kc m s m0 m2 s0 s1 (by omega)
      exact ⟨x1, Int.le_trans x2 (gx _)⟩
  · show zu (zA υ 16 2) x ((zA υ 16 2 x + zA σ a 3 b - 1) / zA σ a 3 b * zA σ a 3 b + zA σ a 4 b) c ≤ 416 * (a * 24 + (b + 1))
    by_cases e : c = x
    · rw [e, pu_eq]; omega
    · rw [pu_ne e]
      have := ks c c0 c1
      omega
/-- where all parts lie -/
def PLC (τ : ZS) (x : Int) : Prop := ∀ m s : Int, 0 ≤ m → m ≤ 2 → 0 ≤ s → s < zI τ m 1 → zA τ 16 3 (zA τ 16 5 (m * 24 + s)) + zA τ 16 6 (m * 24 + s) + zA τ m 4 s ≤ x
theorem c_combine {σ : ZS} {Q : Int → ZS → Prop} (hm : M3 σ) (hl : LKc σ) (hQ : ∀ (x : Int) (τ : ZS), LKc τ → kp [16] σ τ → (0 ≤ x ∧ x ≤ 3000000) → PLC τ x → Q x τ) : wpX3_combine σ Q := by
  have f49 : ∀ τ : ZS, CV σ τ 3 0 72 → wpX3_combine_49 0 0 τ Q := by
    intro τ hc
    unfold wpX3_combine_49
    refine lfp2_ind (fun _ v _ => (72 - v).toNat) (fun e v υ => CV σ υ 3 0 72 ∧ (0 ≤ v ∧ v ≤ zI υ 16 4) ∧ (0 ≤ e ∧ e ≤ 30000 * v) ∧ ∀ c : Int, 0 ≤ c → c < v → zA υ 16 3 c + zA υ 16 2 c ≤ e) (fun K e v υ hI ih => ?_) ⟨hc, ⟨by decide, hc.1.1.1⟩, by decide, fun c c0 c1 => absurd c0 (by omega)⟩
    obtain ⟨⟨⟨k1, k2, k3, k4, k5, k6⟩, kk, kn, kc, ks⟩, hv, he, hp⟩ := hI
    unfold wpbX3_combine_49 wpX10_roundUp
    rw [z_up (a := 16) (by unfold al; decide) (by omega)]
    have ub := up_bd (a := 16) (v := e) (by unfold al; decide) he.1
    refine ⟨by omega, by omega, fun q => ?_, fun q => ⟨by omega, ih _ _ _ ⟨⟨⟨k1, k2, k3, rng_zu k4 (by omega), k5, k6⟩, kk.ta (by decide), kn, kc, ks⟩, ?_, ?_, fun c c0 c1 => ?_⟩ (by omega)⟩⟩
    · refine hQ e υ ⟨k1, k2, k3, k4, k5, k6⟩ kk (by omega) (fun m s m0 m2 s0 s1 => ?_)
      have em : ob υ m = ob σ m := kk m (n_1 (by omega))
      rw [ob_I em 1] at s1
      obtain ⟨x1, x2⟩ := kc m s m0 m2 s0 s1 (by omega)
      have := hp _ x1.1 (show zA υ 16 5 (m * 24 + s) < v by omega)
      rw [ob_A em 4]
      omega
    · show 0 ≤ v + 1 ∧ v + 1 ≤ zI υ 16 4
      omega
    · show 0 ≤ zu (zA υ 16 3) v ((e + 16 - 1) / 16 * 16) v + zA υ 16 2 v ∧ zu (zA υ 16 3) v ((e + 16 - 1) / 16 * 16) v + zA υ 16 2 v ≤ 30000 * (v + 1)
      rw [pu_eq]
      have := k3 v hv.1 (by omega)
      have := ks v hv.1 (by omega)
      omega
    · show zu (zA υ 16 3) v ((e + 16 - 1) / 16 * 16) c + zA υ 16 2 c ≤ zu (zA υ 16 3) v ((e + 16 - 1) / 16 * 16) v + zA υ 16 2 v
      rw [pu_eq]
      by_cases ec : c = v
      · rw [ec, pu_eq]; exact Int.le_refl _
      · rw [pu_ne ec]
        have := hp c c0 (by omega)
        have := (k3 v hv.1 (by omega)).1
        omega
  unfold wpX3_combine wpX3_combine_7
  refine lfp1_ind (fun v _ => (3 - v).toNat) (fun v τ => CV σ τ v 0 (v * 24) ∧ (0 ≤ v ∧ v ≤ 3)) (fun K v τ hI ih => ?_) ⟨⟨⟨(show (0 : Int) ≤ 0 ∧ (0 : Int) ≤ 72 by decide), hl.2⟩, kp.i (by decide), (show (0 : Int) ≤ 0 * 24 by decide), fun m s m0 m2 s0 s1 q => absurd s0 (by omega), fun c c0 c1 => absurd (show c < 0 from c1) (by omega)⟩, by decide⟩
  obtain ⟨cv, hv⟩ := hI
  unfold wpbX3_combine_7 wpX3_combine_14
  refine ⟨by omega, fun q => f49 τ (by rw [show v = 3 by omega] at cv; exact cv), fun q => ?_⟩
  have mo := (hm v hv.1 (by omega)).2.1
  refine lfp1_ind (fun u _ => (24 - u).toNat) (fun u υ => CV σ υ v u (v * 24 + u) ∧ (0 ≤ u ∧ u ≤ zI σ v 1)) (fun K' u υ hI' ih' => ?_) ⟨by rw [Int.add_zero]; exact cv, by decide, mo.1⟩
  obtain ⟨uv, u0, u1⟩ := hI'
  have eu := uv.2.1 v (n_1 (by omega))
  have e1 := ob_I eu 1
  unfold wpbX3_combine_14
  refine ⟨by omega, by omega, by omega, fun q' => ih _ _ ⟨?_, by omega⟩ (by omega), fun q' => c_addPart hm (by omega) ⟨u0, by omega⟩ uv (fun ω wv => ih' _ _ ⟨by rw [← Int.add_assoc]; exact wv, by omega, by omega⟩ (by omega))⟩
  obtain ⟨l1, l2, l3, l4, l5⟩ := uv
  refine ⟨l1, l2, by omega, fun m s m0 m2 s0 s1 q2 => l4 m s m0 m2 s0 s1 ?_, fun c c0 c1 => by have := l5 c c0 c1; omega⟩
  rcases q2 with q2 | q2
  · by_cases em : m = v
    · refine Or.inr ⟨em, ?_⟩
      rw [em] at s1
      omega
    · exact Or.inl (by omega)
  · exact absurd s0 (by omega)
/-! C: the image -/
def IMc (σ : ZS) : Prop := (0 ≤ zI σ 17 0 ∧ zI σ 17 0 ≤ 1) ∧ (0 ≤ zI σ 17 1 ∧ zI σ 17 1 ≤ 1200) ∧ (∀ i : Int, 0 ≤ i → i < 1200 → 0 ≤ zA σ 17 2 i ∧ zA σ 17 2 i ≤ 255) ∧ (0 ≤ zI σ 17 3 ∧ zI σ 17 3 ≤ 600) ∧ (∀ i : Int, 0 ≤ i → i < 600 → 0 ≤ zA σ 17 4 i ∧ zA σ 17 4 i ≤ 4000000) ∧ (0 ≤ zI σ 17 5 ∧ zI σ 17 5 ≤ 200000) ∧ (0 ≤ zI σ 17 6 ∧ zI σ 17 6 ≤ 100000)
theorem IMc.k {σ τ : ZS} (h : IMc σ) (e : ob τ 17 = ob σ 17) : IMc τ := by
  have e1 := ob_I e; have e2 := ob_A e
  unfold IMc; simp only [e1, e2]; exact h
theorem c_publicPart {σ : ZS} {w : Int} {Q : Int → ZS → Prop} (h : M3 σ) (hw : 0 ≤ w ∧ w ≤ 4398046511103) (hQ : ∀ x : Int, (0 ≤ x ∧ x < 72) → Q x σ) : wpX3_publicPart w σ Q := by
  unfold wpX3_publicPart wpX3_part
  refine c_publicModule h (by decide) hw (fun m m0 m1 ⟨q, q0, q1, q2⟩ => ⟨by omega, fun _ => ⟨by omega, ?_⟩, fun q => absurd m0 q⟩) ⟨by decide, fun q => absurd q (by decide), fun _ => hQ 0 (by decide)⟩
  have mo := h m m0 (by omega)
  have h13 := mo.2.2.2.1
  refine c_publicNumber (by omega) mo hw (fun x x0 x1 _ _ => ⟨by omega, hQ _ ?_⟩) (fun no => absurd q2 (no q q0 q1))
  have := (mo.2.2.2.2.2.2.2 x x0 x1).2.1
  omega
theorem c_publicOffset {σ : ZS} {w : Int} {Q : Int → ZS → Prop} (h : M3 σ) (hl : LKc σ) (hw : 0 ≤ w ∧ w ≤ 4398046511103) (hQ : ∀ x : Int, (0 ≤ x ∧ x ≤ 50000) → Q x σ) : wpX3_publicOffset w σ Q := by
  unfold wpX3_publicOffset
  refine c_publicModule h (by decide) hw (fun m m0 m1 ⟨q, q0, q1, q2⟩ => ⟨by omega, fun _ => c_publicPart h hw (fun p hp => ⟨hp, by omega, ?_⟩), fun q => absurd m0 q⟩) ⟨by decide, fun q => absurd q (by decide), fun _ => hQ 0 (by decide)⟩
  have mo := h m m0 (by omega)
  have h13 := mo.2.2.2.1
  refine c_publicNumber (by omega) mo hw (fun x x0 x1 _ _ => ⟨by omega, hQ _ ?_⟩) (fun no => absurd q2 (no q q0 q1))
  have := (mo.2.2.2.2.2.2.2 x x0 x1).2.2
  have := hl.2.2.2.2.2 p hp.1 hp.2
  omega
theorem c_firstApart {σ : ZS} {Q : Int → ZS → Prop} (h : M3 σ) (hl : LKc σ) (hQ : ∀ x : Int, (-1 ≤ x ∧ x ≤ 2) → Q x σ) : wpX3_firstApart σ Q := by
  unfold wpX3_firstApart wpX3_firstApart_2
  refine lfp1_ind (fun v _ => (3 - v).toNat) (fun v τ => τ = σ ∧ (0 ≤ v ∧ v ≤ 3)) (fun K v τ hI ih => ?_) ⟨rfl, by decide⟩
  obtain ⟨e, hv⟩ := hI
  rw [e]
  unfold wpbX3_firstApart_2 wpX3_firstApart_16
  refine ⟨by omega, fun _ => hQ _ (by decide), fun q => ⟨by omega, ?_⟩⟩
  have hm := h v (by omega) (by omega)
  have h7 := hm.2.2.1
  refine lfp1_ind (fun u _ => (200 - u).toNat) (fun u τ => τ = σ ∧ (0 ≤ u ∧ u ≤ 200)) (fun K' u τ' hI' ih' => ?_) ⟨rfl, by decide⟩
  obtain ⟨e', hu⟩ := hI'
  rw [e']
  unfold wpbX3_firstApart_16 wpX3_firstApart_69 wpX3_part
  refine ⟨by omega, by omega, by omega, fun _ => ih _ _ ⟨rfl, by omega⟩ (by omega), fun q' => ?_⟩
  obtain ⟨p1, p2, p3, p4, p5⟩ := hm.2.2.2.2.2.2.1 u hu.1 (by omega)
  have on : K' (u + 1) σ := ih' _ _ ⟨rfl, by omega⟩ (by omega)
  refine ⟨by omega, by omega, fun _ => on, fun _ => ⟨by omega, c_publicPart h p5 (fun x hx => ⟨hx, ?_, ?_, fun _ => on, fun _ => hQ _ (by omega)⟩)⟩⟩
  · have := hl.2.2.2.2.1 (v * 24 + zA σ v 9 u) (by omega) (by omega)
    omega
  · have := hl.2.2.2.2.1 x hx.1 hx.2
    omega
theorem c_addWord {σ : ZS} {a b : Int} {Q : ZS → Prop} (h : IMc σ) (ha : 0 ≤ a ∧ a ≤ 4000000) (hb : -1000000 ≤ b ∧ b ≤ 1000000) (hQ : ∀ τ : ZS, IMc τ → kp [17] σ τ → Q τ) : wpX1_addWord a b σ Q := by
  obtain ⟨i0, i1, i2, i3, i4, i5, i6⟩ := h
  have h : IMc σ := ⟨i0, i1, i2, i3, i4, i5, i6⟩
  unfold wpX1_addWord wpX1_addWord_62
  refine ⟨by omega, fun q => absurd q (by omega), fun _ => ⟨by omega, fun _ => hQ σ h kp.rf, fun q => ?_⟩⟩
  have b1 := i2 a (by omega) (by omega)
  have b2 := i2 (a + 1) (by omega) (by omega)
  exact ⟨by omega, by omega, by omega, hQ _ ⟨i0, i1, rng_zu (rng_zu i2 (by omega)) (by omega), i3, i4, i5, i6⟩ ((kp.rf.ta (by decide)).ta (by decide))⟩
theorem c_addRelocation {σ : ZS} {a : Int} {Q : ZS → Prop} (h : IMc σ) (ha : 0 ≤ a ∧ a ≤ 4000000) (hQ : ∀ τ : ZS, IMc τ → kp [17] σ τ → Q τ) : wpX1_addRelocation a σ Q := by
  obtain ⟨i0, i1, i2, i3, i4, i5, i6⟩ := h
  have h : IMc σ := ⟨i0, i1, i2, i3, i4, i5, i6⟩
  unfold wpX1_addRelocation wpX1_addRelocation_30
  refine ⟨by omega, fun _ => hQ σ h kp.rf, fun q => ⟨by omega, hQ _ ⟨i0, i1, i2, ?_, rng_zu i4 ha, i5, i6⟩ ((kp.rf.ta (by decide)).ti (by decide))⟩⟩
  show 0 ≤ zI σ 17 3 + 1 ∧ zI σ 17 3 + 1 ≤ 600
  omega
theorem c_solve {σ : ZS} {m k : Int} {Q : ZS → Prop} (h : M3 σ) (hl : LKc σ) (hi : IMc σ) (hm : 0 ≤ m ∧ m ≤ 2) (hk : 0 ≤ k ∧ k < zI σ m 7) (hQ : ∀ τ : ZS, IMc τ → kp [17] σ τ → Q τ) : wpX3_solve m k σ Q := by
  have mo := h m hm.1 hm.2
  have h7 := mo.2.2.1
  obtain ⟨p1, p2, p3, p4, p5⟩ := mo.2.2.2.2.2.2.1 k hk.1 hk.2
  obtain ⟨l1, l2, l3, l4, l5, l6⟩ := hl
  have hl : LKc σ := ⟨l1, l2, l3, l4, l5, l6⟩
  have w1 := l5 (m * 24 + zA σ m 9 k) (by omega) (by omega)
  have w2 := l4 _ w1.1 (show zA σ 16 5 (m * 24 + zA σ m 9 k) < 72 by omega)
  have w3 := l6 (m * 24 + zA σ m 9 k) (by omega) (by omega)
  have f72 : ∀ s x : Int, (0 ≤ s ∧ s ≤ 1) → (0 ≤ x ∧ x < 72) → wpX3_solve_72 k m s (zA σ m 12 k) (m * 24 + zA σ m 9 k) x σ Q := by
    intro s x hs hx
    have x5 := l5 x hx.1 hx.2
    have x3 := l4 _ x5.1 (show zA σ 16 5 x < 72 by omega)
    have x6 := l6 x hx.1 hx.2
    unfold wpX3_solve_72 wpX3_placeOf wpX3_solve_199 wpX3_solve_202
    refine ⟨by omega, by omega, by omega, by omega, by omega, fun _ => ⟨fun _ => ⟨by omega, fun _ => ⟨hx, c_addWord hi (by omega) (by omega) hQ⟩, fun _ => c_publicOffset h hl p5 (fun y hy => c_addWord hi (by omega) (by omega) hQ)⟩, fun _ => c_publicOffset h hl p5 (fun y hy => ⟨by omega, c_addWord hi (by omega) (by omega) hQ⟩)⟩, fun _ => ⟨hx, by omega, by omega, c_addWord hi (by omega) (by omega) (fun τ ti tk => c_addRelocation ti (by omega) (fun υ ui uk => hQ υ ui (tk.tr uk)))⟩⟩
  have f23 : ∀ s : Int, (0 ≤ s ∧ s ≤ 1) → (s = 0 → 0 ≤ zA σ m 11 k) → wpX3_solve_23 m k m s σ Q := by
    intro s hs h0
    unfold wpX3_solve_23 wpX3_part
    exact ⟨hm, by omega, by omega, fun e => f72 s _ hs (by have := h0 e; omega), fun _ => c_publicPart h p5 (fun x hx => f72 s x hs hx)⟩
  unfold wpX3_solve
  exact ⟨by omega, by omega, by omega, fun q => f23 0 (by decide) (fun _ => q), fun _ => f23 1 (by decide) (fun q => absurd q (by decide))⟩
theorem zcpy_bd {f h : Int → Int} {sp dp n : Int} (hf : ∀ i : Int, 0 ≤ i → i < 400 → 0 ≤ f i ∧ f i ≤ 255) (hh : ∀ i : Int, 0 ≤ i → i < 1200 → 0 ≤ h i ∧ h i ≤ 255) (hs : 0 ≤ sp ∧ sp + n ≤ 400) : ∀ i : Int, 0 ≤ i → i < 1200 → 0 ≤ zcpy f h sp dp n i ∧ zcpy f h sp dp n i ≤ 255 := by
  intro i i0 i1
  unfold zcpy
  by_cases e : dp ≤ i ∧ i < dp + n
  · rw [if_pos e]; exact hf _ (by omega) (by omega)
  · rw [if_neg e]; exact hh i i0 i1
theorem c_lwrite {σ : ZS} {a : Int} {Q : ZS → Prop} (h : M3 σ) (hl : LKc σ) (hi : IMc σ) (ha : 0 ≤ a ∧ a ≤ 1200) (hp : PLC σ a) (hQ : ∀ τ : ZS, IMc τ → kp [17] σ τ → Q τ) : wpX3_write a σ Q := by
  obtain ⟨l1, l2, l3, l4, l5, l6⟩ := hl
  have hl : LKc σ := ⟨l1, l2, l3, l4, l5, l6⟩
  have m3 : ∀ τ : ZS, kp [17] σ τ → M3 τ := fun τ k => h.k k (by decide) (by decide) (by decide)
  have lk : ∀ τ : ZS, kp [17] σ τ → LKc τ := fun τ k => hl.k (k 16 (by decide))
  have f89 : ∀ τ : ZS, IMc τ → kp [17] σ τ → wpX3_write_89 0 τ Q := by
    intro τ ti tk
    unfold wpX3_write_89
    refine lfp1_ind (fun v _ => (3 - v).toNat) (fun v υ => IMc υ ∧ kp [17] σ υ ∧ (0 ≤ v ∧ v ≤ 3)) (fun K v υ hI ih => ?_) ⟨ti, tk, by decide⟩
    obtain ⟨ui, uk, hv⟩ := hI
    have um := m3 υ uk
    have ul := lk υ uk
    unfold wpbX3_write_89 wpX3_write_97
    refine ⟨by omega, fun _ => c_publicPart um (by decide) (fun x hx => ?_), fun q => ?_⟩
    · have x5 := ul.2.2.2.2.1 x hx.1 hx.2
      have x3 := ul.2.2.2.1 _ x5.1 (show zA υ 16 5 x < 72 by omega)
      have k5 : kp [17] σ (zsI υ 17 5 (zA υ 16 3 (zA υ 16 5 x) / 16)) := uk.ti (by decide)
      refine ⟨hx, by omega, by omega, c_publicOffset (m3 _ k5) (lk _ k5) (by decide) (fun y hy => hQ _ ?_ (k5.ti (by decide)))⟩
      obtain ⟨i0, i1, i2, i3, i4, i5, i6⟩ := ui
      refine ⟨i0, i1, i2, i3, i4, ?_, ?_⟩
      · show 0 ≤ zA υ 16 3 (zA υ 16 5 x) / 16 ∧ zA υ 16 3 (zA υ 16 5 x) / 16 ≤ 200000
        omega
      · show 0 ≤ y ∧ y ≤ 100000
        omega
    · have h7 := (um v hv.1 (by omega)).2.2.1
      refine lfp1_ind (fun u _ => (200 - u).toNat) (fun u ω => IMc ω ∧ kp [17] σ ω ∧ (0 ≤ u ∧ u ≤ 200)) (fun K' u ω hI' ih' => ?_) ⟨ui, uk, by decide⟩
      obtain ⟨wi, wk, hu⟩ := hI'
      have wm := m3 ω wk
      have w7 := (wm v hv.1 (by omega)).2.2.1
      unfold wpbX3_write_97
      exact ⟨by omega, by omega, by omega, fun _ => ih _ _ ⟨wi, wk, by omega⟩ (by omega), fun q' => c_solve wm (lk ω wk) wi (by omega) ⟨hu.1, by omega⟩ (fun ψ pi pk => ih' _ _ ⟨pi, wk.tr pk, by omega⟩ (by omega))⟩
  unfold wpX3_write wpX1_begin
  refine c_fill17_2 (fun k hk => ?_)
  have k0 : kp [17] σ (zsF (zsI (zsI (zsI σ 17 0 1) 17 1 a) 17 3 0) 17 2 k) := (((kp.rf.ti (by decide)).ti (by decide)).ti (by decide)).tf (by decide)
  have im0 : IMc (zsF (zsI (zsI (zsI σ 17 0 1) 17 1 a) 17 3 0) 17 2 k) := by
    obtain ⟨i0, i1, i2, i3, i4, i5, i6⟩ := hi
    refine ⟨?_, ha, fun i i0 i1 => ?_, ?_, i4, i5, i6⟩
    · show (0 : Int) ≤ 1 ∧ (1 : Int) ≤ 1
      decide
    · show 0 ≤ k i ∧ k i ≤ 255
      rw [hk i i0 i1]; decide
    · show (0 : Int) ≤ 0 ∧ (0 : Int) ≤ 600
      decide
  unfold wpX3_write_7
  refine lfp1_ind (fun v _ => (3 - v).toNat) (fun v υ => IMc υ ∧ kp [17] σ υ ∧ (0 ≤ v ∧ v ≤ 3)) (fun K v υ hI ih => ?_) ⟨im0, k0, by decide⟩
  obtain ⟨ui, uk, hv⟩ := hI
  unfold wpbX3_write_7 wpX3_write_15
  refine ⟨by omega, fun _ => f89 υ ui uk, fun q => ?_⟩
  have m1 := h v hv.1 (by omega)
  refine lfp1_ind (fun u _ => (24 - u).toNat) (fun u ω => IMc ω ∧ kp [17] σ ω ∧ (0 ≤ u ∧ u ≤ 24)) (fun K' u ω hI' ih' => ?_) ⟨ui, uk, by decide⟩
  obtain ⟨wi, wk, hu⟩ := hI'
  have wv := wk v (n_1 (by omega))
  have w16 := wk 16 (by decide)
  have s1 := m1.2.1
  unfold wpbX3_write_15 wpX3_part wpX3_placeOf
  dsimp only
  rw [ob_I wv 1, ob_A wv 5, ob_A wv 4, ob_A wv 6, ob_A w16 5, ob_A w16 3, ob_A w16 6]
  refine ⟨by omega, by omega, by omega, fun _ => ih _ _ ⟨wi, wk, by omega⟩ (by omega), fun q' => ?_⟩
  obtain ⟨g1, g2, g3, g4, g5⟩ := m1.2.2.2.2.1 u hu.1 (by omega)
  have pl := hp v u hv.1 (by omega) hu.1 (by omega)
  have y5 := l5 (v * 24 + u) (by omega) (by omega)
  have y3 := l4 _ y5.1 (show zA σ 16 5 (v * 24 + u) < 72 by omega)
  have y6 := l6 (v * 24 + u) (by omega) (by omega)
  refine ⟨by omega, by omega, by omega, ⟨g4, by omega, g3, g5, by omega⟩, ih' _ _ ⟨?_, wk.tf (by decide), by omega⟩ (by omega)⟩
  obtain ⟨i0, i1, i2, i3, i4, i5, i6⟩ := wi
  exact ⟨i0, i1, zcpy_bd m1.2.2.2.2.2.1 i2 ⟨g4, g5⟩, i3, i4, i5, i6⟩
/-! C: the machine -/
def CM (σ : ZS) (N : Int) : Prop := (∀ i : Int, 0 ≤ i → i < 4096 → 0 ≤ zA σ 18 0 i ∧ zA σ 18 0 i ≤ 255) ∧ (∀ i : Int, 0 ≤ i → i < 8 → 0 ≤ zA σ 18 1 i ∧ zA σ 18 1 i ≤ 65535) ∧ (∀ i : Int, 0 ≤ i → i < 4 → 0 ≤ zA σ 18 2 i ∧ zA σ 18 2 i ≤ 300000) ∧ (0 ≤ zI σ 18 3 ∧ zI σ 18 3 ≤ 100000) ∧ (0 ≤ zI σ 18 4 ∧ zI σ 18 4 ≤ 1) ∧ (0 ≤ zI σ 18 5 ∧ zI σ 18 5 ≤ 1) ∧ (0 ≤ zI σ 18 6 ∧ zI σ 18 6 ≤ 1) ∧ (0 ≤ zI σ 18 7 ∧ zI σ 18 7 ≤ 1) ∧ (0 ≤ zI σ 18 9 ∧ zI σ 18 9 ≤ N) ∧ (0 ≤ zI σ 18 11 ∧ zI σ 18 11 ≤ 7) ∧ (-1 ≤ zI σ 18 12 ∧ zI σ 18 12 ≤ 7)
theorem CM.k {σ τ : ZS} {N : Int} (h : CM σ N) (e : ob τ 18 = ob σ 18) : CM τ N := by
  have e1 := ob_I e; have e2 := ob_A e
  unfold CM; simp only [e1, e2]; exact h
def CG (σ : ZS) (N : Int) (τ : ZS) : Prop := CM τ N ∧ kp [18] σ τ
theorem CG.rf {σ : ZS} {N : Int} (h : CM σ N) : CG σ N σ := ⟨h, kp.rf⟩
theorem CG.tr {σ τ υ : ZS} {N : Int} (h : CG σ N τ) (k : CG τ N υ) : CG σ N υ := ⟨k.1, h.2.tr k.2⟩
theorem CG.u0 {σ τ : ZS} {N i v : Int} (h : CG σ N τ) (hv : 0 ≤ v ∧ v ≤ 255) : CG σ N (zsA τ 18 0 i v) := by
  obtain ⟨⟨h0, h1, h2, h3, h4, h5, h6, h7, h8, h9, h10⟩, k⟩ := h
  exact ⟨⟨rng_zu h0 hv, h1, h2, h3, h4, h5, h6, h7, h8, h9, h10⟩, k.ta (by decide)⟩
theorem CG.u1 {σ τ : ZS} {N i v : Int} (h : CG σ N τ) (hv : 0 ≤ v ∧ v ≤ 65535) : CG σ N (zsA τ 18 1 i v) := by
  obtain ⟨⟨h0, h1, h2, h3, h4, h5, h6, h7, h8, h9, h10⟩, k⟩ := h
  exact ⟨⟨h0, rng_zu h1 hv, h2, h3, h4, h5, h6, h7, h8, h9, h10⟩, k.ta (by decide)⟩
theorem CG.u2 {σ τ : ZS} {N i v : Int} (h : CG σ N τ) (hv : 0 ≤ v ∧ v ≤ 300000) : CG σ N (zsA τ 18 2 i v) := by
  obtain ⟨⟨h0, h1, h2, h3, h4, h5, h6, h7, h8, h9, h10⟩, k⟩ := h
  exact ⟨⟨h0, h1, rng_zu h2 hv, h3, h4, h5, h6, h7, h8, h9, h10⟩, k.ta (by decide)⟩
theorem CG.i3 {σ τ : ZS} {N v : Int} (h : CG σ N τ) (hv : 0 ≤ v ∧ v ≤ 100000) : CG σ N (zsI τ 18 3 v) := by
  obtain ⟨⟨h0, h1, h2, h3, h4, h5, h6, h7, h8, h9, h10⟩, k⟩ := h
  exact ⟨⟨h0, h1, h2, hv, h4, h5, h6, h7, h8, h9, h10⟩, k.ti (by decide)⟩
theorem CG.i4 {σ τ : ZS} {N v : Int} (h : CG σ N τ) (hv : 0 ≤ v ∧ v ≤ 1) : CG σ N (zsI τ 18 4 v) := by
  obtain ⟨⟨h0, h1, h2, h3, h4, h5, h6, h7, h8, h9, h10⟩, k⟩ := h
  exact ⟨⟨h0, h1, h2, h3, hv, h5, h6, h7, h8, h9, h10⟩, k.ti (by decide)⟩
theorem CG.i5 {σ τ : ZS} {N v : Int} (h : CG σ N τ) (hv : 0 ≤ v ∧ v ≤ 1) : CG σ N (zsI τ 18 5 v) := by
  obtain ⟨⟨h0, h1, h2, h3, h4, h5, h6, h7, h8, h9, h10⟩, k⟩ := h
  exact ⟨⟨h0, h1, h2, h3, h4, hv, h6, h7, h8, h9, h10⟩, k.ti (by decide)⟩
theorem CG.i6 {σ τ : ZS} {N v : Int} (h : CG σ N τ) (hv : 0 ≤ v ∧ v ≤ 1) : CG σ N (zsI τ 18 6 v) := by
  obtain ⟨⟨h0, h1, h2, h3, h4, h5, h6, h7, h8, h9, h10⟩, k⟩ := h
  exact ⟨⟨h0, h1, h2, h3, h4, h5, hv, h7, h8, h9, h10⟩, k.ti (by decide)⟩
theorem CG.i7 {σ τ : ZS} {N v : Int} (h : CG σ N τ) (hv : 0 ≤ v ∧ v ≤ 1) : CG σ N (zsI τ 18 7 v) := by
  obtain ⟨⟨h0, h1, h2, h3, h4, h5, h6, h7, h8, h9, h10⟩, k⟩ := h
  exact ⟨⟨h0, h1, h2, h3, h4, h5, h6, hv, h8, h9, h10⟩, k.ti (by decide)⟩
theorem CG.i9 {σ τ : ZS} {N v : Int} (h : CG σ N τ) (hv : 0 ≤ v ∧ v ≤ N) : CG σ N (zsI τ 18 9 v) := by
  obtain ⟨⟨h0, h1, h2, h3, h4, h5, h6, h7, h8, h9, h10⟩, k⟩ := h
  exact ⟨⟨h0, h1, h2, h3, h4, h5, h6, h7, hv, h9, h10⟩, k.ti (by decide)⟩
theorem CG.i11 {σ τ : ZS} {N v : Int} (h : CG σ N τ) (hv : 0 ≤ v ∧ v ≤ 7) : CG σ N (zsI τ 18 11 v) := by
  obtain ⟨⟨h0, h1, h2, h3, h4, h5, h6, h7, h8, h9, h10⟩, k⟩ := h
  exact ⟨⟨h0, h1, h2, h3, h4, h5, h6, h7, h8, hv, h10⟩, k.ti (by decide)⟩
theorem CG.i12 {σ τ : ZS} {N v : Int} (h : CG σ N τ) (hv : -1 ≤ v ∧ v ≤ 7) : CG σ N (zsI τ 18 12 v) := by
  obtain ⟨⟨h0, h1, h2, h3, h4, h5, h6, h7, h8, h9, h10⟩, k⟩ := h
  exact ⟨⟨h0, h1, h2, h3, h4, h5, h6, h7, h8, h9, hv⟩, k.ti (by decide)⟩
theorem CG.u10 {σ τ : ZS} {N i v : Int} (h : CG σ N τ) : CG σ N (zsA τ 18 10 i v) := ⟨h.1, h.2.ta (by decide)⟩
theorem CG.i8 {σ τ : ZS} {N v : Int} (h : CG σ N τ) : CG σ N (zsI τ 18 8 v) := ⟨h.1, h.2.ti (by decide)⟩
theorem CG.i13 {σ τ : ZS} {N v : Int} (h : CG σ N τ) : CG σ N (zsI τ 18 13 v) := ⟨h.1, h.2.ti (by decide)⟩
theorem CM.mo {σ : ZS} {N M : Int} (h : CM σ N) (hM : N ≤ M) : CM σ M := by
  obtain ⟨h0, h1, h2, h3, h4, h5, h6, h7, h8, h9, h10⟩ := h
  exact ⟨h0, h1, h2, h3, h4, h5, h6, h7, ⟨h8.1, Int.le_trans h8.2 hM⟩, h9, h10⟩
theorem CG.mo {σ τ : ZS} {N M : Int} (h : CG σ N τ) (hM : N ≤ M) : CG σ M τ := ⟨h.1.mo hM, h.2⟩
theorem CM.c {σ : ZS} {N : Int} (h : CM σ N) (i : Int) : 0 ≤ zA σ 18 0 (i % 4096) ∧ zA σ 18 0 (i % 4096) ≤ 255 := h.1 _ (by omega) (by omega)
theorem CM.g {σ : ZS} {N i : Int} (h : CM σ N) (h0 : 0 ≤ i) (h1 : i < 8) : 0 ≤ zA σ 18 1 i ∧ zA σ 18 1 i ≤ 65535 := h.2.1 i h0 h1
theorem CM.s {σ : ZS} {N i : Int} (h : CM σ N) (h0 : 0 ≤ i) (h1 : i < 4) : 0 ≤ zA σ 18 2 i ∧ zA σ 18 2 i ≤ 300000 := h.2.2.1 i h0 h1
theorem CM.ip {σ : ZS} {N : Int} (h : CM σ N) : 0 ≤ zI σ 18 3 ∧ zI σ 18 3 ≤ 100000 := h.2.2.2.1
theorem CM.kk {σ : ZS} {N : Int} (h : CM σ N) : 0 ≤ zI σ 18 11 ∧ zI σ 18 11 ≤ 7 := h.2.2.2.2.2.2.2.2.2.1
theorem CM.sl {σ : ZS} {N : Int} (h : CM σ N) : -1 ≤ zI σ 18 12 ∧ zI σ 18 12 ≤ 7 := h.2.2.2.2.2.2.2.2.2.2
theorem c_word {σ : ZS} {N a : Int} {Q : Int → ZS → Prop} (h : CM σ N) (hQ : ∀ x : Int, (0 ≤ x ∧ x ≤ 65535) → Q x σ) : wpX4_word a σ Q := by
  have c1 := h.c a
  have c2 := h.c (a + 1)
  exact hQ _ (by omega)
theorem c_putw {σ : ZS} {N a b : Int} {Q : ZS → Prop} (h : CM σ N) (hb : -2147483648 ≤ b ∧ b ≤ 2147483647) (hQ : ∀ τ : ZS, CG σ N τ → Q τ) : wpX4_putWord a b σ Q := ⟨hb, hQ _ (((CG.rf h).u0 (by omega)).u0 (by omega))⟩
theorem c_fetch {σ : ZS} {N : Int} {Q : Int → ZS → Prop} (h : CM σ N) (hQ : ∀ (x : Int) (τ : ZS), CG σ N τ → (0 ≤ x ∧ x ≤ 255) → Q x τ) : wpX4_fetch σ Q := hQ _ _ ((CG.rf h).i3 (by omega)) (h.c _)
theorem c_push {σ : ZS} {N a : Int} {Q : ZS → Prop} (h : CM σ N) (ha : -2147483648 ≤ a ∧ a ≤ 2147483647) (hQ : ∀ τ : ZS, CG σ N τ → Q τ) : wpX4_push a σ Q := by
  unfold wpX4_push
  have g : CG σ N (zsA σ 18 1 4 ((zA σ 18 1 4 - 2) % 65536)) := (CG.rf h).u1 (by omega)
  exact c_putw g.1 ha (fun τ k => hQ τ (g.tr k))
theorem c_pop {σ : ZS} {N : Int} {Q : Int → ZS → Prop} (h : CM σ N) (hQ : ∀ (x : Int) (τ : ZS), CG σ N τ → (0 ≤ x ∧ x ≤ 65535) → Q x τ) : wpX4_pop σ Q := by
  unfold wpX4_pop
  exact c_word h (fun x hx => hQ x _ ((CG.rf h).u1 (by omega)) hx)
theorem c_isArithmetic {σ : ZS} {a : Int} {Q : Int → ZS → Prop} (ha : -2147483648 ≤ a ∧ a ≤ 2147483647) (hQ : ∀ x : Int, (0 ≤ x ∧ x ≤ 1) → Q x σ) : wpX4_isArithmetic a σ Q := by
  unfold wpX4_isArithmetic wpX4_isArithmetic_14 wpX4_isArithmetic_15
  exact ⟨ha, fun _ => ⟨by decide, hQ 0 (by decide)⟩, fun _ => ⟨fun _ => ⟨by decide, hQ 0 (by decide)⟩, fun _ => ⟨by decide, hQ 1 (by decide)⟩⟩⟩
theorem c_fetchWord {σ : ZS} {N : Int} {Q : Int → ZS → Prop} (h : CM σ N) (hQ : ∀ (x : Int) (τ : ZS), CG σ N τ → (0 ≤ x ∧ x ≤ 65535) → Q x τ) : wpX4_fetchWord σ Q := by
  unfold wpX4_fetchWord
  exact c_fetch h (fun x τ g hx => c_fetch g.1 (fun y υ k hy => hQ _ υ (g.tr k) (by omega)))
theorem c_fetchSigned {σ : ZS} {N : Int} {Q : Int → ZS → Prop} (h : CM σ N) (hQ : ∀ (x : Int) (τ : ZS), CG σ N τ → (-128 ≤ x ∧ x ≤ 127) → Q x τ) : wpX4_fetchSigned σ Q := by
  unfold wpX4_fetchSigned
  exact c_fetch h (fun x τ g hx => hQ _ τ g (by omega))
theorem c_registerSum {σ : ZS} {a : Int} {Q : Int → ZS → Prop} (ha : 0 ≤ a ∧ a ≤ 7) (hQ : ∀ x : Int, Q x σ) : wpX4_registerSum a σ Q := by
  unfold wpX4_registerSum wpX4_registerSum_76
  exact ⟨by omega, fun _ => hQ _, fun _ => ⟨fun _ => hQ _, fun _ => ⟨fun _ => ⟨fun _ => ⟨by decide, hQ _⟩, fun _ => ⟨by decide, hQ _⟩⟩, fun _ => hQ _⟩⟩⟩
theorem c_fetchM {σ : ZS} {N : Int} {Q : ZS → Prop} (h : CM σ N) (hQ : ∀ τ : ZS, CG σ N τ → Q τ) : wpX4_fetchM σ Q := by
  have f140 : ∀ (v s : Int) (τ : ZS), CG σ N τ → (0 ≤ s ∧ s ≤ 1) → wpX4_fetchM_140 v s τ Q := by
    intro v s τ g hs
    unfold wpX4_fetchM_140 wpX4_fetchM_159
    exact ⟨by omega, fun _ => ⟨by decide, hQ _ g.i13⟩, fun _ => ⟨by decide, hQ _ g.i13⟩⟩
  have f114 : ∀ (b c v : Int) (τ : ZS), CG σ N τ → (0 ≤ b ∧ b ≤ 7) → (0 ≤ c ∧ c ≤ 1) → wpX4_fetchM_114 b c v τ Q := by
    intro b c v τ g hb hc
    unfold wpX4_fetchM_114 wpX4_fetchM_135 wpX4_fetchM_139
    exact ⟨by omega, fun _ => f140 _ _ τ g (by decide), fun _ => ⟨fun _ => f140 _ _ τ g (by decide), fun _ => ⟨fun _ => f140 _ _ τ g (by decide), fun _ => ⟨by omega, fun _ => f140 _ _ τ g (by decide), fun _ => f140 _ _ τ g (by decide)⟩⟩⟩⟩
  have f88 : ∀ (b c v : Int) (τ : ZS), CG σ N τ → (0 ≤ b ∧ b ≤ 7) → (0 ≤ c ∧ c ≤ 1) → wpX4_fetchM_88 b c v τ Q := by
    intro b c v τ g hb hc
    unfold wpX4_fetchM_88
    exact c_fetchWord g.1 (fun x υ k _ => f114 b c _ υ (g.tr k) hb hc)
  have f76 : ∀ (a b c v : Int) (τ : ZS), CG σ N τ → (0 ≤ a ∧ a ≤ 3) → (0 ≤ b ∧ b ≤ 7) → (0 ≤ c ∧ c ≤ 1) → wpX4_fetchM_76 a b c v τ Q := by
    intro a b c v τ g ha hb hc
    unfold wpX4_fetchM_76
    exact ⟨by omega, fun _ => f88 b c v τ g hb hc, fun _ => ⟨by omega, fun _ => ⟨fun _ => f114 b c v τ g hb hc, fun _ => c_fetchSigned g.1 (fun x υ k _ => f114 b c _ υ (g.tr k) hb hc)⟩, fun _ => f88 b c v τ g hb hc⟩⟩
  have f60 : ∀ (a b s : Int) (τ : ZS), CG σ N τ → (0 ≤ a ∧ a ≤ 3) → (0 ≤ b ∧ b ≤ 7) → (0 ≤ s ∧ s ≤ 1) → wpX4_fetchM_60 a b s τ Q := by
    intro a b s τ g ha hb hs
    unfold wpX4_fetchM_60
    exact ⟨by omega, fun _ => c_registerSum hb (fun x => f76 a b s x τ g ha hb hs), fun _ => f76 a b s 0 τ g ha hb hs⟩
  have f36 : ∀ (a b s : Int) (τ : ZS), CG σ N τ → (0 ≤ a ∧ a ≤ 3) → (0 ≤ b ∧ b ≤ 7) → (-1 ≤ s ∧ s ≤ 7) → wpX4_fetchM_36 a b s τ Q := by
    intro a b s τ g ha hb hs
    unfold wpX4_fetchM_36 wpX4_fetchM_59
    exact ⟨by omega, fun _ => ⟨fun _ => f60 a b 0 _ (g.i12 hs) ha hb (by decide), fun _ => ⟨by omega, fun _ => f60 a b 0 _ (g.i12 hs) ha hb (by decide), fun _ => f60 a b 1 _ (g.i12 hs) ha hb (by decide)⟩⟩, fun _ => hQ _ (g.i12 hs)⟩
  unfold wpX4_fetchM
  exact c_fetch h (fun x τ g hx => ⟨by omega, fun _ => f36 _ _ _ _ (g.i11 (by omega)) (by omega) (by omega) (by decide), fun _ => f36 _ _ _ _ (g.i11 (by omega)) (by omega) (by omega) (by omega)⟩)
theorem c_readM {σ : ZS} {N : Int} {Q : Int → ZS → Prop} (h : CM σ N) (hQ : ∀ x : Int, (0 ≤ x ∧ x ≤ 65535) → Q x σ) : wpX4_readM σ Q := by
  have s := h.sl
  unfold wpX4_readM wpX4_readM_27
  exact ⟨by omega, fun _ => c_word h hQ, fun _ => ⟨by omega, hQ _ (h.g (by omega) (by omega))⟩⟩
theorem c_judge {σ : ZS} {N a : Int} {Q : ZS → Prop} (h : CM σ N) (ha : 0 ≤ a ∧ a ≤ 65535) (hQ : ∀ τ : ZS, CG σ N τ → Q τ) : wpX4_judge a σ Q := by
  unfold wpX4_judge wpX4_judge_10
  exact ⟨by omega, fun _ => ⟨by omega, hQ _ (((CG.rf h).i5 (by decide)).i6 (by omega))⟩, fun _ => ⟨by omega, hQ _ (((CG.rf h).i5 (by decide)).i6 (by omega))⟩⟩
theorem c_alu {σ : ZS} {N n a b : Int} {Q : Int → ZS → Prop} (h : CM σ N) (hn : -2147483648 ≤ n ∧ n ≤ 2147483647) (ha : 0 ≤ a ∧ a ≤ 65535) (hb : 0 ≤ b ∧ b ≤ 65535) (hQ : ∀ (x : Int) (τ : ZS), CG σ N τ → (0 ≤ x ∧ x ≤ 65535) → Q x τ) : wpX4_arithmetic n a b σ Q := by
  have f81 : ∀ v : Int, (-2147483648 ≤ v ∧ v ≤ 2147483647) → wpX4_arithmetic_81 v σ Q := by
    intro v hv
    unfold wpX4_arithmetic_81
    have g : CG σ N (zsI σ 18 4 (v / 65536 % 2)) := (CG.rf h).i4 (by omega)
    exact ⟨hv, c_judge g.1 (by omega) (fun τ k => hQ _ τ (g.tr k) (by omega))⟩
  unfold wpX4_arithmetic wpX4_arithmetic_76
  exact ⟨hn, fun _ => f81 _ (by omega), fun _ => ⟨fun _ => f81 _ (zor_bd _ _), fun _ => ⟨fun _ => f81 _ (by omega), fun _ => ⟨fun _ => f81 _ (by omega), fun _ => ⟨fun _ => f81 _ (zand_bd _ _), fun _ => ⟨fun _ => f81 _ (by omega), fun _ => ⟨fun _ => f81 _ (zxor_bd _ _), fun _ => f81 _ (by omega)⟩⟩⟩⟩⟩⟩⟩
theorem c_writeM {σ : ZS} {N a : Int} {Q : ZS → Prop} (h : CM σ N) (ha : -2147483648 ≤ a ∧ a ≤ 2147483647) (hQ : ∀ τ : ZS, CG σ N τ → Q τ) : wpX4_writeM a σ Q := by
  have s := h.sl
  unfold wpX4_writeM wpX4_writeM_32
  exact ⟨by omega, fun _ => c_putw h ha hQ, fun _ => ⟨by omega, hQ _ ((CG.rf h).u1 (by omega))⟩⟩
theorem c_onM {σ : ZS} {N n b : Int} {Q : ZS → Prop} (h : CM σ N) (hn : -2147483648 ≤ n ∧ n ≤ 2147483647) (hb : 0 ≤ b ∧ b ≤ 65535) (hQ : ∀ τ : ZS, CG σ N τ → Q τ) : wpX4_arithmeticOnM n b σ Q := by
  unfold wpX4_arithmeticOnM wpX4_arithmeticOnM_22
  exact c_readM h (fun x hx => c_alu h hn hx hb (fun y τ g hy => ⟨hn, fun _ => hQ τ g, fun _ => c_writeM g.1 (by omega) (fun υ k => hQ υ (g.tr k))⟩))
theorem c_executeLow {σ : ZS} {N a b : Int} {Q : Int → ZS → Prop} (h : CM σ N) (ha : 0 ≤ a ∧ a ≤ 7) (hb : 0 ≤ b ∧ b ≤ 7) (hQ : ∀ (x : Int) (τ : ZS), CG σ N τ → (0 ≤ x ∧ x ≤ 3) → Q x τ) : wpX4_executeLow a b σ Q := by
  have f61 : wpX4_executeLow_61 a b σ Q := by
    unfold wpX4_executeLow_61 wpX4_executeLow_131 wpX4_executeLow_68
    refine c_isArithmetic (by omega) (fun x hx => ⟨by omega, fun _ => c_fetchM h (fun τ g => ?_), fun _ => hQ 2 σ (CG.rf h) (by decide)⟩)
    have k := g.1.kk
    have r := g.1.g k.1 (by omega)
    exact ⟨by omega, fun _ => ⟨by omega, c_readM g.1 (fun y hy => c_alu g.1 (by omega) r hy (fun z υ g2 hz => ⟨by omega, fun _ => hQ 3 υ (g.tr g2) (by decide), fun _ => ⟨by have := g2.1.kk; omega, hQ 3 _ ((g.tr g2).u1 hz) (by decide)⟩⟩))⟩, fun _ => ⟨by omega, c_onM g.1 (by omega) r (fun υ g2 => hQ 3 υ (g.tr g2) (by decide))⟩⟩
  have f51 : wpX4_executeLow_51 a b σ Q := by
    unfold wpX4_executeLow_51 wpX4_executeLow_68
    exact ⟨by omega, fun _ => f61, fun _ => ⟨fun _ => hQ 2 σ (CG.rf h) (by decide), fun _ => f61⟩⟩
  have f23 : wpX4_executeLow_23 a b σ Q := by
    unfold wpX4_executeLow_23
    exact ⟨by omega, fun _ => f51, fun _ => ⟨by omega, fun _ => f51, fun _ => ⟨fun _ => f51, fun _ => c_pop h (fun x τ g hx => ⟨by omega, hQ 3 _ (g.u2 (by omega)) (by decide)⟩)⟩⟩⟩
  unfold wpX4_executeLow
  refine ⟨by omega, fun _ => f23, fun _ => ⟨by omega, fun _ => f23, fun _ => ⟨by omega, ?_⟩⟩⟩
  have s := h.s ha.1 (show a < 4 by omega)
  exact c_push h (by omega) (fun τ g => hQ 3 τ g (by decide))
theorem c_executeRegister {σ : ZS} {N a b : Int} {Q : Int → ZS → Prop} (h : CM σ N) (ha : 0 ≤ a ∧ a ≤ 100) (hb : 0 ≤ b ∧ b ≤ 7) (hQ : ∀ (x : Int) (τ : ZS), CG σ N τ → (0 ≤ x ∧ x ≤ 3) → Q x τ) : wpX4_executeRegister a b σ Q := by
  have st : ∀ v : Int, (0 ≤ v ∧ v ≤ 65535) → wpX4_judge (zA (zsA σ 18 1 b v) 18 1 b) (zsA σ 18 1 b v) (fun (σ6 : ZS) => Q 3 σ6) := by
    intro v hv
    have g : CG σ N (zsA σ 18 1 b v) := (CG.rf h).u1 hv
    exact c_judge g.1 (g.1.g hb.1 (by omega)) (fun τ k => hQ 3 τ (g.tr k) (by decide))
  have r := h.g hb.1 (show b < 8 by omega)
  unfold wpX4_executeRegister wpX4_executeRegister_111
  exact ⟨by omega, fun _ => ⟨by omega, st _ (by omega)⟩, fun _ => ⟨fun _ => ⟨by omega, st _ (by omega)⟩, fun _ => ⟨fun _ => ⟨by omega, c_push h (by omega) (fun τ g => hQ 3 τ g (by decide))⟩, fun _ => c_pop h (fun x τ g hx => ⟨by omega, hQ 3 _ (g.u1 hx) (by decide)⟩)⟩⟩⟩
theorem c_branch {σ : ZS} {N a : Int} {Q : Int → ZS → Prop} (h : CM σ N) (ha : 0 ≤ a ∧ a ≤ 255) (hQ : ∀ (x : Int) (τ : ZS), CG σ N τ → (0 ≤ x ∧ x ≤ 3) → Q x τ) : wpX4_branch a σ Q := by
  have f58 : ∀ v : Int, (0 ≤ v ∧ v ≤ 1) → wpX4_branch_58 a v σ Q := by
    intro v hv
    unfold wpX4_branch_58 wpX4_branch_75 wpX4_jump
    exact c_fetchSigned h (fun x τ g hx => ⟨by omega, fun _ => hQ 3 τ g (by decide), fun _ => hQ 3 _ (g.i3 (by omega)) (by decide)⟩)
  obtain ⟨h0, h1, h2, h3, h4, h5, h6, hr⟩ := h
  unfold wpX4_branch wpX4_branch_56
  exact ⟨by omega, fun _ => f58 _ h4, fun _ => ⟨fun _ => f58 _ h5, fun _ => ⟨fun _ => hQ 2 σ (CG.rf ⟨h0, h1, h2, h3, h4, h5, h6, hr⟩) (by decide), fun _ => ⟨fun _ => f58 _ h6, fun _ => hQ 2 σ (CG.rf ⟨h0, h1, h2, h3, h4, h5, h6, hr⟩) (by decide)⟩⟩⟩⟩
theorem c_shift {σ : ZS} {N : Int} {Q : Int → ZS → Prop} (h : CM σ N) (hQ : ∀ (x : Int) (τ : ZS), CG σ N τ → (0 ≤ x ∧ x ≤ 3) → Q x τ) : wpX4_shift σ Q := by
  have f55 : ∀ (v : Int) (τ : ZS), (0 ≤ v ∧ v ≤ 65535) → CG σ N τ → wpX4_shift_55 v τ Q := by
    intro v τ hv g
    unfold wpX4_shift_55
    exact c_judge g.1 hv (fun υ k => c_writeM k.1 (by omega) (fun ω k2 => hQ 3 ω ((g.tr k).tr k2) (by decide)))
  have k := h.kk
  unfold wpX4_shift
  exact c_readM h (fun x hx => ⟨by omega, fun _ => ⟨fun _ => hQ 2 σ (CG.rf h) (by decide), fun _ => ⟨by omega, f55 _ _ (by omega) ((CG.rf h).i4 (by omega))⟩⟩, fun _ => ⟨by omega, f55 _ _ (by omega) ((CG.rf h).i4 (by omega))⟩⟩)
theorem c_divide {σ : ZS} {N a : Int} {Q : Int → ZS → Prop} (h : CM σ N) (ha : 0 ≤ a ∧ a ≤ 65535) (hQ : ∀ (x : Int) (τ : ZS), CG σ N τ → (0 ≤ x ∧ x ≤ 3) → Q x τ) : wpX4_divide a σ Q := by
  have r2 := h.g (i := 2) (by decide) (by decide)
  have r0 := h.g (i := 0) (by decide) (by decide)
  unfold wpX4_divide wpX4_divide_35
  refine ⟨by omega, by omega, by omega, fun _ => hQ 1 σ (CG.rf h) (by decide), fun n0 => ?_⟩
  have d0 : 0 ≤ (65536 * zA σ 18 1 2 + zA σ 18 1 0) / a := Int.ediv_nonneg (by omega) (by omega)
  have d1 : (65536 * zA σ 18 1 2 + zA σ 18 1 0) / a ≤ 65536 * zA σ 18 1 2 + zA σ 18 1 0 := Int.ediv_le_self _ (by omega)
  have m0 : 0 ≤ (65536 * zA σ 18 1 2 + zA σ 18 1 0) % a := Int.emod_nonneg _ n0
  have m1 : (65536 * zA σ 18 1 2 + zA σ 18 1 0) % a < a := Int.emod_lt_of_pos _ (by omega)
  exact ⟨by omega, by omega, by omega, fun q => hQ 3 _ (((CG.rf h).u1 ⟨d0, q⟩).u1 ⟨m0, by omega⟩) (by decide), fun _ => hQ 1 σ (CG.rf h) (by decide)⟩
theorem c_msingle {σ : ZS} {N : Int} {Q : Int → ZS → Prop} (h : CM σ N) (hQ : ∀ (x : Int) (τ : ZS), CG σ N τ → (0 ≤ x ∧ x ≤ 3) → Q x τ) : wpX4_single σ Q := by
  have k := h.kk
  have r0 := h.g (i := 0) (by decide) (by decide)
  unfold wpX4_single wpX4_single_106 wpX4_single_120
  refine ⟨by omega, fun _ => c_readM h (fun x hx => c_alu h (by decide) (by decide) hx (fun y τ g hy => c_writeM g.1 (by omega) (fun υ k2 => hQ 3 υ (g.tr k2) (by decide)))), fun _ => ⟨fun _ => ⟨by omega, c_readM h (fun x hx => ?_)⟩, fun _ => ⟨fun _ => hQ 2 σ (CG.rf h) (by decide), fun _ => ⟨fun _ => c_readM h (fun x hx => c_divide h hx hQ), fun _ => hQ 2 σ (CG.rf h) (by decide)⟩⟩⟩⟩
  have g : CG σ N (zsA (zsA σ 18 1 0 (zA σ 18 1 0 * x % 65536)) 18 1 2 (zlshr (zA σ 18 1 0 * x) 16 % 65536)) := ((CG.rf h).u1 (by omega)).u1 (by omega)
  have r2 := g.1.g (i := 2) (by decide) (by decide)
  exact ⟨by omega, by omega, fun _ => hQ 3 _ (g.i4 (by decide)) (by decide), fun _ => hQ 3 _ (g.i4 (by decide)) (by decide)⟩
theorem c_executeM {σ : ZS} {N a : Int} {Q : Int → ZS → Prop} (h : CM σ N) (ha : 0 ≤ a ∧ a ≤ 255) (hQ : ∀ (x : Int) (τ : ZS), CG σ N τ → (0 ≤ x ∧ x ≤ 3) → Q x τ) : wpX4_executeM a σ Q := by
  have k := h.kk
  have rk := h.g k.1 (show zI σ 18 11 < 8 by omega)
  have c2 : Q 2 σ := hQ 2 σ (CG.rf h) (by decide)
  unfold wpX4_executeM wpX4_executeM_165
  refine ⟨by omega, fun _ => c_isArithmetic (by omega) (fun x hx => ⟨by omega, fun _ => c_fetchWord h (fun y τ g hy => c_onM g.1 (by omega) hy (fun υ k2 => hQ 3 υ (g.tr k2) (by decide))), fun _ => c2⟩), fun _ => ⟨fun _ => ⟨by omega, c_writeM h (by omega) (fun τ g => hQ 3 τ g (by decide))⟩, fun _ => ⟨fun _ => c_readM h (fun x hx => ⟨by omega, hQ 3 _ ((CG.rf h).u1 hx) (by decide)⟩), fun _ => ⟨fun _ => ⟨by omega, fun q => ⟨by omega, ?_⟩, fun _ => c2⟩, fun _ => ⟨fun _ => ⟨by omega, fun _ => c2, fun q => ⟨fun _ => c_readM h (fun x hx => ⟨by omega, hQ 3 _ ((CG.rf h).u2 (by omega)) (by decide)⟩), fun _ => c2⟩⟩, fun _ => ⟨fun _ => ⟨by omega, fun _ => c_fetchWord h (fun y τ g hy => c_writeM g.1 (by omega) (fun υ k2 => hQ 3 υ (g.tr k2) (by decide))), fun _ => c2⟩, fun _ => ⟨fun _ => c_shift h hQ, fun _ => c_msingle h hQ⟩⟩⟩⟩⟩⟩⟩
  have s := h.s k.1 (show zI σ 18 11 < 4 by omega)
  exact c_writeM h (by omega) (fun τ g => hQ 3 τ g (by decide))
theorem c_executeFlow {σ : ZS} {N a : Int} {Q : Int → ZS → Prop} (h : CM σ N) (hN : 0 ≤ N ∧ N ≤ 1000000) (ha : 0 ≤ a ∧ a ≤ 255) (hQ : ∀ (x : Int) (τ : ZS), CG σ (N + 1) τ → (0 ≤ x ∧ x ≤ 3) → Q x τ) : wpX4_executeFlow a σ Q := by
  have q3 : ∀ τ : ZS, CG σ N τ → Q 3 τ := fun τ g => hQ 3 τ (g.mo (by omega)) (by decide)
  have i9 : ∀ τ : ZS, CM τ N → 0 ≤ zI τ 18 9 ∧ zI τ 18 9 ≤ N := fun τ g => g.2.2.2.2.2.2.2.2.1
  unfold wpX4_executeFlow wpX4_jump wpX4_callFar wpX4_loop wpX4_loop_31 wpX4_tellInt wpX4_tellInt_29
  refine ⟨by omega, fun _ => c_fetchWord h (fun x τ g hx => c_fetchWord g.1 (fun y υ k hy => ?_)), fun _ => ⟨fun _ => c_pop h (fun x τ g hx => q3 _ (g.i3 (by omega))), fun _ => ⟨fun _ => c_pop h (fun x τ g hx => ?_), fun _ => ⟨fun _ => c_fetch h (fun x τ g hx => ?_), fun _ => ⟨fun _ => c_fetchSigned h (fun x τ g hx => ?_), fun _ => ⟨fun _ => c_fetchWord h (fun x τ g hx => ?_), fun _ => ⟨fun _ => c_fetchWord h (fun x τ g hx => q3 _ (g.i3 (by omega))), fun _ => ⟨fun _ => c_fetchSigned h (fun x τ g hx => q3 _ (g.i3 (by omega))), fun _ => ⟨fun _ => hQ 0 σ ((CG.rf h).mo (by omega)) (by decide), fun _ => hQ 2 σ ((CG.rf h).mo (by omega)) (by decide)⟩⟩⟩⟩⟩⟩⟩⟩⟩
  · have gk := g.tr k
    have s := gk.1.s (i := 1) (by decide) (by decide)
    refine c_push gk.1 (by omega) (fun ω k2 => ?_)
    have i := k2.1.ip
    exact c_push k2.1 (by omega) (fun ψ k3 => q3 _ ((((gk.tr k2).tr k3).i3 (by omega)).u2 (by omega)))
  · have g3 : CG σ N (zsI τ 18 3 x) := g.i3 (by omega)
    exact c_pop g3.1 (fun y υ k hy => q3 _ ((g3.tr k).u2 (by omega)))
  · have j := i9 τ g.1
    exact ⟨by omega, fun _ => hQ 3 _ ((g.mo (by omega)).i9 (by omega)) (by decide), fun _ => ⟨by omega, hQ 3 _ ((g.u10.mo (by omega)).i9 (show 0 ≤ zI τ 18 9 + 1 ∧ zI τ 18 9 + 1 ≤ N + 1 by omega)) (by decide)⟩⟩
  · have g1 : CG σ N (zsA τ 18 1 1 ((zA τ 18 1 1 - 1) % 65536)) := g.u1 (by omega)
    have r := g1.1.g (i := 1) (by decide) (by decide)
    exact ⟨by omega, fun _ => q3 _ g1, fun _ => q3 _ (g1.i3 (by omega))⟩
  · have i := g.1.ip
    exact c_push g.1 (by omega) (fun υ k => q3 _ ((g.tr k).i3 (by omega)))
theorem c_execute {σ : ZS} {N a : Int} {Q : Int → ZS → Prop} (h : CM σ N) (hN : 0 ≤ N ∧ N ≤ 1000000) (ha : 0 ≤ a ∧ a ≤ 255) (hQ : ∀ (x : Int) (τ : ZS), CG σ (N + 1) τ → (0 ≤ x ∧ x ≤ 3) → Q x τ) : wpX4_execute a σ Q := by
  have q : ∀ (x : Int) (τ : ZS), CG σ N τ → (0 ≤ x ∧ x ≤ 3) → Q x τ := fun x τ g hx => hQ x τ (g.mo (by omega)) hx
  have f160 : wpX4_execute_160 a σ Q := by
    unfold wpX4_execute_160
    exact c_fetchM h (fun τ g => c_executeM g.1 ha (fun x υ k hx => q x υ (g.tr k) hx))
  have f84 : wpX4_execute_84 a σ Q := by
    unfold wpX4_execute_84
    exact ⟨by omega, fun _ => f160, fun _ => ⟨fun _ => f160, fun _ => ⟨fun _ => f160, fun _ => ⟨fun _ => f160, fun _ => ⟨fun _ => f160, fun _ => ⟨fun _ => f160, fun _ => ⟨fun _ => f160, fun _ => ⟨fun _ => f160, fun _ => c_executeFlow h hN ha hQ⟩⟩⟩⟩⟩⟩⟩⟩
  have f54 : wpX4_execute_54 a σ Q := by
    unfold wpX4_execute_54
    exact ⟨by omega, fun _ => f84, fun _ => ⟨fun _ => f84, fun _ => c_fetchWord h (fun x τ g hx => ⟨by omega, q 3 _ (g.u1 hx) (by decide)⟩)⟩⟩
  unfold wpX4_execute
  exact ⟨by omega, fun _ => ⟨fun _ => ⟨fun _ => f54, fun _ => ⟨fun _ => f54, fun _ => c_branch h ha q⟩⟩, fun _ => c_executeRegister h (by omega) (by omega) q⟩, fun _ => c_executeLow h (by omega) (by omega) q⟩
theorem c_go {σ : ZS} {N f : Int} {Q : Int → ZS → Prop} (h : CM σ N) (hN : 0 ≤ N ∧ N ≤ 100000) (hf : 1 ≤ f ∧ f ≤ 400) (hQ : ∀ (x : Int) (τ : ZS), CG σ (N + 400) τ → (0 ≤ x ∧ x ≤ 3) → Q x τ) : wpX4_go f σ Q := by
  unfold wpX4_go wpX4_go_2
  refine lfp1_ind (fun v _ => (400 - v).toNat) (fun v τ => CG σ (N + v) τ ∧ (0 ≤ v ∧ v ≤ f)) (fun K v τ hI ih => ?_) ⟨(CG.rf h).mo (by omega), by omega⟩
  obtain ⟨g, hv⟩ := hI
  unfold wpbX4_go_2 wpX4_go_34 wpX4_go_52
  refine ⟨by omega, by omega, fun _ => hQ 3 τ (g.mo (by omega)) (by decide), fun q => c_fetch g.1 (fun x υ k hx => c_execute k.1 (by omega) hx (fun y ω k2 hy => ?_))⟩
  have gw : CG σ (N + v + 1) ω := ⟨k2.1, (g.2.tr k.2).tr k2.2⟩
  have ip := g.1.ip
  have st : ∀ ψ : ZS, CG σ (N + v + 1) ψ → (-2147483648 ≤ y ∧ y ≤ 2147483647) ∧ (y = 3 → K (v + 1) ψ) ∧ (¬ y = 3 → Q y (zsI ψ 18 7 1)) := fun ψ gp => ⟨by omega, fun _ => ih _ _ ⟨gp.mo (by omega), by omega⟩ (by omega), fun _ => hQ y _ ((gp.mo (by omega)).i7 (by decide)) hy⟩
  exact ⟨by omega, fun _ => st _ (gw.i3 ip), fun _ => ⟨fun _ => st _ gw.i8, fun _ => st _ (gw.i3 ip)⟩⟩
theorem c_start {σ : ZS} {N p : Int} {Q : ZS → Prop} (h : CM σ N) (hN : 0 ≤ N) (hi : IMc σ) (hp : 0 ≤ p ∧ p ≤ 255) (hQ : ∀ τ : ZS, CG σ N τ → Q τ) : wpX4_start p σ Q := by
  unfold wpX4_start
  refine c_fill18_0 (fun k hk => ?_)
  have g0 : CG σ N (zsF σ 18 0 k) := by
    obtain ⟨h0, hr⟩ := h
    exact ⟨⟨fun i i0 i1 => by show 0 ≤ k i ∧ k i ≤ 255; rw [hk i i0 i1]; decide, hr⟩, kp.f (by decide)⟩
  have im : ∀ τ : ZS, CG σ N τ → IMc τ := fun τ g => hi.k (g.2 17 (by decide))
  have f54 : ∀ τ : ZS, CG σ N τ → wpX4_start_54 p (16 * p) 0 τ Q := by
    intro τ g
    unfold wpX4_start_54
    refine lfp1_ind (fun v _ => (600 - v).toNat) (fun v υ => CG σ N υ ∧ (0 ≤ v ∧ v ≤ 600)) (fun K v υ hI ih => ?_) ⟨g, by decide⟩
    obtain ⟨gu, hv⟩ := hI
    have iu := im υ gu
    have i3 := iu.2.2.2.1
    unfold wpbX4_start_54
    refine ⟨by omega, by omega, fun _ => c_fill18_1 (fun k1 hk1 => c_fill18_2 (fun k2 hk2 => hQ _ ?_)), fun q => ⟨by omega, c_word gu.1 (fun x hx => c_putw gu.1 (by omega) (fun ω k => ih _ _ ⟨gu.tr k, by omega⟩ (by omega)))⟩⟩
    have g1 : CG σ N (zsF (zsF υ 18 1 k1) 18 2 k2) := by
      obtain ⟨⟨h0, h1, h2, hr⟩, kk⟩ := gu
      exact ⟨⟨h0, fun i i0 i1 => by show 0 ≤ k1 i ∧ k1 i ≤ 65535; rw [hk1 i i0 i1]; decide, fun i i0 i1 => by show 0 ≤ k2 i ∧ k2 i ≤ 300000; rw [hk2 i i0 i1]; omega, hr⟩, (kk.tf (by decide)).tf (by decide)⟩
    have i5 := iu.2.2.2.2.2.1
    have i6 := iu.2.2.2.2.2.2
    exact (((((((g1.u2 (show 0 ≤ p + zI υ 17 5 ∧ p + zI υ 17 5 ≤ 300000 by omega)).i3 i6).i4 (by decide)).i5 (by decide)).i6 (by decide)).i7 (by decide)).i8).i9 (by omega)
  unfold wpX4_start_16
  refine lfp1_ind (fun v _ => (1200 - v).toNat) (fun v υ => CG σ N υ ∧ (0 ≤ v ∧ v ≤ 1200)) (fun K v υ hI ih => ?_) ⟨g0, by decide⟩
  obtain ⟨gu, hv⟩ := hI
  have iu := im υ gu
  have i1 := iu.2.1
  unfold wpbX4_start_16
  exact ⟨by omega, by omega, fun _ => f54 υ gu, fun q => ⟨by omega, ih _ _ ⟨gu.u0 (iu.2.2.1 v hv.1 (by omega)), by omega⟩ (by omega)⟩⟩
/-! C: the class's face -/
def CI (σ : ZS) (N : Int) : Prop := TX σ ∧ NR σ ∧ LRg σ ∧ M3 σ ∧ LKc σ ∧ IMc σ ∧ CM σ N
theorem LRg.k {σ τ : ZS} (h : LRg σ) (e : ob τ 15 = ob σ 15) : LRg τ := by
  have e2 := ob_A e
  unfold LRg; simp only [e2]; exact h
theorem c_isModule {a : Int} {σ : ZS} {Q : Int → ZS → Prop} (ha : -2147483648 ≤ a ∧ a ≤ 2147483647) (h1 : 0 ≤ a → a ≤ 2 → Q 1 σ) (h0 : ¬ (0 ≤ a ∧ a ≤ 2) → Q 0 σ) : wpX10_isModule a σ Q := by
  unfold wpX10_isModule wpX10_isModule_13 wpX10_isModule_14
  exact ⟨ha, fun _ => ⟨by decide, h0 (by omega)⟩, fun _ => ⟨fun _ => ⟨by decide, h0 (by omega)⟩, fun _ => ⟨by decide, h1 (by omega) (by omega)⟩⟩⟩
/-- a throw's kind among those that a wrapper knows -/
theorem c_assemble {σ : ZS} {N a : Int} {Q : Int → ZS → Prop} {X : String → ZS → Prop} (h : CI σ N) (ha : -2147483648 ≤ a ∧ a ≤ 2147483647) (hQ : ∀ (x : Int) (τ : ZS), CI τ N → zI τ 10 1 = (if 0 ≤ a ∧ a ≤ 2 then 0 else zI σ 10 1) → (0 ≤ x ∧ x ≤ 400) → Q x τ) (hX : ∀ (s : String) (τ : ZS), s = xIAE ∨ s = xUOE ∨ s = xNSE ∨ s = xIOB ∨ s = xARI → CI τ N → zI τ 10 1 = (if 0 ≤ a ∧ a ≤ 2 then 0 else zI σ 10 1) → X s τ) : wpX10_assemble a σ Q X := by
  obtain ⟨hT, hN, hL, hM, hK, hI, hC⟩ := h
  unfold wpX10_assemble
  refine c_isModule ha (fun a0 a2 => ⟨by decide, fun _ => ?_, fun q => absurd q (by decide)⟩) (fun no => ⟨by decide, fun q => absurd rfl q, fun _ => hX _ σ (Or.inl rfl) ⟨hT, hN, hL, hM, hK, hI, hC⟩ (by rw [if_neg no])⟩)
  rw [if_pos ⟨a0, a2⟩] at hQ hX
  refine c_read hT hN rfl (fun τ rd k he => ?_)
  obtain ⟨rS, rR, rF, rT⟩ := rd
  have o1 : ∀ g : Int, g ≠ 10 → ob (zsI τ 10 1 0) g = ob τ g := fun g hg => ob_i hg
  -- what is kept all along
  have fin : ∀ (υ : ZS) (w1 w2 : Int), kp [5, 6, 11, 12, 13, 14, 15] (zsI τ 10 1 0) υ → NR υ → LRg υ → M3 υ → (CI (zsI (zsI υ 10 2 w1) 10 3 w2) N ∧ zI (zsI (zsI υ 10 2 w1) 10 3 w2) 10 1 = 0) := by
    intro υ w1 w2 uk uN uL uM
    have e10 := uk 10 (by decide)
    have t1 : zI υ 10 1 = 0 := ob_I e10 1
    have t0 : zA υ 10 0 = zA τ 10 0 := ob_A e10 0
    have kk : ∀ g : Int, g ≠ 10 → ob (zsI (zsI υ 10 2 w1) 10 3 w2) g = ob υ g := fun g hg => (ob_i hg).trans (ob_i hg)
    have c1 : ∀ g : Int, g ∉ [(5 : Int), 6, 11, 12, 13, 14, 15] → g ≠ 10 → g ∉ [(11 : Int), 12] → ob (zsI (zsI υ 10 2 w1) 10 3 w2) g = ob σ g := fun g h1 h2 h3 => ((kk g h2).trans (uk g h1)).trans ((o1 g h2).trans (k g h3))
    refine ⟨⟨⟨?_, ?_, ?_⟩, uN.k (kk 11 (by decide)), uL.k (kk 15 (by decide)), ?_, hK.k (c1 16 (by decide) (by decide) (by decide)), hI.k (c1 17 (by decide) (by decide) (by decide)), hC.k (c1 18 (by decide) (by decide) (by decide))⟩, t1⟩
    · show 0 ≤ zI υ 10 1 ∧ zI υ 10 1 ≤ 480
      rw [t1]; decide
    · show ∀ i : Int, 0 ≤ i → i < 480 → 0 ≤ zA υ 10 0 i ∧ zA υ 10 0 i ≤ 126
      rw [t0, ob_A (k 10 (by decide)) 0]; exact hT.2.1
    · intro i i0 i1
      have i1' : i < zI υ 10 1 := i1
      omega
    · intro m m0 m2
      exact (uM m m0 m2).k (kk m (by omega))
  have lr0 : LRg (zsI τ 10 1 0) := hL.k ((o1 15 (by decide)).trans (k 15 (by decide)))
  have m30 : M3 (zsI τ 10 1 0) := hM.k (k.up (G' := [10, 11, 12]) (by decide) |>.ti (by decide)) (by decide) (by decide) (by decide)
  refine c_parse ⟨rS.k (o1 11 (by decide)), rR.k (o1 11 (by decide)), rF.k (o1 11 (by decide)), rT.k (o1 11 (by decide)) (o1 12 (by decide))⟩ he (fun x υ up uk hx => ?_)
  have u11 := uk 11 (by decide)
  have uN : NR υ := (rR.k (o1 11 (by decide))).k u11
  have uL : LRg υ := lr0.k (uk 15 (by decide))
  have uM : M3 υ := m30.k uk (by decide) (by decide) (by decide)
  unfold wpX10_tell
  refine ⟨by omega, fun _ => ?_, fun _ => hX _ _ (Or.inr (Or.inl rfl)) (fin υ _ _ (uk.up (by decide)) uN uL uM).1 (fin υ _ _ (uk.up (by decide)) uN uL uM).2⟩
  refine c_firstWrong uN ((rS.k (o1 11 (by decide))).k u11) ((rF.k (o1 11 (by decide))).k u11) ⟨up.2.2.2.2.1.w, up.2.2.2.2.2.1.1⟩ uL (fun y ω wy wd we wu wk => ?_)
  have k2 : kp [5, 6, 11, 12, 13, 14, 15] (zsI τ 10 1 0) ω := (uk.up (by decide)).tr (wk.up (by decide))
  have wM : M3 ω := uM.k wk (by decide) (by decide) (by decide)
  have w5 := wy.2.2.2.2.1
  refine ⟨by omega, fun neg => ?_, fun _ => hX _ _ (Or.inr (Or.inr (Or.inl rfl))) (fin ω _ _ k2 wy.1 wy.2.2.2.2.2.2.1 wM).1 (fin ω _ _ k2 wy.1 wy.2.2.2.2.2.2.1 wM).2⟩
  refine c_sizeJumps ⟨wy, wd, wu neg, by omega⟩ (fun z ψ pz pk pe ph => ?_)
  have k3 : kp [5, 6, 11, 12, 13, 14, 15] (zsI τ 10 1 0) ψ := k2.tr (pk.up (by decide))
  have pM : M3 ψ := wM.k pk (by decide) (by decide) (by decide)
  refine ⟨by omega, fun le => ?_, fun _ => hX _ _ (Or.inr (Or.inr (Or.inr (Or.inl rfl)))) (fin ψ _ _ k3 pz.1.1 pz.1.2.2.2.2.2.2.1 pM).1 (fin ψ _ _ k3 pz.1.1 pz.1.2.2.2.2.2.2.1 pM).2⟩
  refine c_firstTooFar pz (fun f hf => ⟨by omega, fun _ => ⟨by omega, c_write ⟨a0, a2⟩ pz (by rw [← pe]; exact le) (fun χ xm xk => ?_)⟩, fun _ => hX _ _ (Or.inr (Or.inr (Or.inr (Or.inr rfl)))) (fin ψ _ _ k3 pz.1.1 pz.1.2.2.2.2.2.2.1 pM).1 (fin ψ _ _ k3 pz.1.1 pz.1.2.2.2.2.2.2.1 pM).2⟩)
  -- written
  have na : ∀ g : Int, 3 ≤ g → g ∉ [a] := fun g hg => n_1 (by omega)
  have kk : ∀ g : Int, g ≠ 10 → ob (zsI (zsI χ 10 2 (-1)) 10 3 (-1)) g = ob χ g := fun g hg => (ob_i hg).trans (ob_i hg)
  have f1 := fin ψ (-1) (-1) k3 pz.1.1 pz.1.2.2.2.2.2.2.1 pM
  have same : ∀ g : Int, 3 ≤ g → ob (zsI (zsI χ 10 2 (-1)) 10 3 (-1)) g = ob (zsI (zsI ψ 10 2 (-1)) 10 3 (-1)) g := by
    intro g hg
    by_cases e : g = 10
    · have e10 := xk 10 (na 10 (by decide))
      rw [e]
      unfold ob at e10 ⊢
      have e1 := congrArg Prod.fst e10
      have e2 := congrArg Prod.snd e10
      refine Prod.ext (funext fun f => ?_) e2
      have q := congrFun e1 f
      show (if (10 : Int) = 10 then (if f = 3 then (-1 : Int) else (if (10 : Int) = 10 then (if f = 2 then (-1 : Int) else χ.1 10 f) else χ.1 10 f)) else (if (10 : Int) = 10 then (if f = 2 then (-1 : Int) else χ.1 10 f) else χ.1 10 f)) = (if (10 : Int) = 10 then (if f = 3 then (-1 : Int) else (if (10 : Int) = 10 then (if f = 2 then (-1 : Int) else ψ.1 10 f) else ψ.1 10 f)) else (if (10 : Int) = 10 then (if f = 2 then (-1 : Int) else ψ.1 10 f) else ψ.1 10 f))
      rw [show χ.1 10 f = ψ.1 10 f from q]
    · rw [(ob_i e).trans (ob_i e), (ob_i e).trans (ob_i e)]; exact xk g (na g hg)
  obtain ⟨⟨c1, c2, c3, c4, c5, c6, c7⟩, c8⟩ := f1
  refine hQ z _ ⟨c1.k (same 10 (by decide)), c2.k (same 11 (by decide)), c3.k (same 15 (by decide)), fun m m0 m2 => ?_, c5.k (same 16 (by decide)), c6.k (same 17 (by decide)), c7.k (same 18 (by decide))⟩ ((ob_I (same 10 (by decide)) 1).trans c8) ⟨ph.1, le⟩
  by_cases e : m = a
  · rw [e]; exact xm.k (kk a (by omega))
  · exact (pM m m0 m2).k ((kk m (by omega)).trans (xk m (n_1 e)))
/-! the two sides' append, in full -/
theorem z_b8 (b : BitVec 64) (s : Nat) (hs : s ≤ 56) : (b >>> s).toInt % 256 = (b.sshiftRight s).toInt % 256 := by
  have m : ∀ c : BitVec 64, c.toInt % 256 = ((c.toNat % 256 : Nat) : Int) := by
    intro c
    have := c.isLt
    rw [BitVec.toInt_eq_toNat_cond]
    split <;> omega
  rw [m, m]
  have e : ∀ c : BitVec 64, c.toNat % 256 = (c.setWidth 8).toNat := fun c => by rw [BitVec.toNat_setWidth]
  rw [e, e]
  have q : (b >>> s).setWidth 8 = (b.sshiftRight s).setWidth 8 := by
    apply BitVec.eq_of_getLsbD_eq
    intro i hi
    rw [BitVec.getLsbD_setWidth, BitVec.getLsbD_setWidth, BitVec.getLsbD_sshiftRight, BitVec.getLsbD_ushiftRight, if_pos (show s + i < 64 by omega)]
    have : ¬ 64 ≤ i := by omega
    simp [hi, this]
  rw [q]
theorem z_lb {v j : Int} (h : 0 ≤ j ∧ j ≤ 7) : zlushr v (8 * j) % 256 = zlshr v (8 * j) % 256 := by
  have key : ∀ (s : Nat), s ≤ 56 → (((Int32.ofInt (8 * j)).toInt64 &&& 63).toBitVec.smod 64).toNat = s → (((Int32.ofInt (8 * j)).toInt64.toUInt64 &&& Int64.toUInt64 63).toBitVec % 64).toNat = s → zlushr v (8 * j) % 256 = zlshr v (8 * j) % 256 := by
    intro s hs e1 e2
    have r := z_b8 (Int64.ofInt v).toBitVec s hs
    show ((Int64.ofInt v).toBitVec >>> (((Int32.ofInt (8 * j)).toInt64.toUInt64 &&& Int64.toUInt64 63).toBitVec % 64).toNat).toInt % 256 = ((Int64.ofInt v).toBitVec.sshiftRight (((Int32.ofInt (8 * j)).toInt64 &&& 63).toBitVec.smod 64).toNat).toInt % 256
    rw [e1, e2]; exact r
  obtain rfl | rfl | rfl | rfl | rfl | rfl | rfl | rfl : j = 0 ∨ j = 1 ∨ j = 2 ∨ j = 3 ∨ j = 4 ∨ j = 5 ∨ j = 6 ∨ j = 7 := by omega
  · exact key 0 (by decide) (by decide) (by decide)
  · exact key 8 (by decide) (by decide) (by decide)
  · exact key 16 (by decide) (by decide) (by decide)
  · exact key 24 (by decide) (by decide) (by decide)
  · exact key 32 (by decide) (by decide) (by decide)
  · exact key 40 (by decide) (by decide) (by decide)
  · exact key 48 (by decide) (by decide) (by decide)
  · exact key 56 (by decide) (by decide) (by decide)
def apok (v n : Int) : Prop := (1 ≤ n ∧ n ≤ 8) ∧ ∀ j : Int, 0 ≤ j → j < n → 32 ≤ zlshr v (8 * j) % 256 ∧ zlshr v (8 * j) % 256 ≤ 126
def apT (h : Int → Int) (l v n m : Int) : Int → Int := fun j => if l ≤ j ∧ j < l + m then zlshr v (8 * (n - 1 - (j - l))) % 256 else h j
theorem apT_0 {h : Int → Int} {l v n : Int} : apT h l v n 0 = h := by
  funext j
  exact if_neg (by omega)
theorem apT_s {h : Int → Int} {l v n m : Int} (hm : 0 ≤ m) : zu (apT h l v n m) (l + m) (zlshr v (8 * (n - 1 - m)) % 256) = apT h l v n (m + 1) := by
  funext j
  show (if j = l + m then _ else (if l ≤ j ∧ j < l + m then _ else h j)) = (if l ≤ j ∧ j < l + (m + 1) then _ else h j)
  by_cases e : j = l + m
  · rw [if_pos e, if_pos (by omega), e, show l + m - l = m by omega]
  · rw [if_neg e]
    by_cases e' : l ≤ j ∧ j < l + m
    · rw [if_pos e', if_pos (by omega)]
    · rw [if_neg e', if_neg (by omega)]
theorem e_append {σ : ZS} {N v n : Int} {Q : Int → ZS → Prop} (h : RI σ N) (hn : -2147483648 ≤ n ∧ n ≤ 2147483647) (hB : ¬ apok v n → ∀ τ : ZS, RI τ N → zI τ 0 0 = 1 → zI τ 0 2 = zI σ 0 2 → zA τ 0 1 = zA σ 0 1 → Q 0 τ) (hF : apok v n → 480 < zI σ 0 2 + n → ∀ τ : ZS, RI τ N → zI τ 0 0 = 2 → zI τ 0 2 = zI σ 0 2 → zA τ 0 1 = zA σ 0 1 → Q 0 τ) (hO : apok v n → zI σ 0 2 + n ≤ 480 → ∀ τ : ZS, RI τ N → zI τ 0 0 = 0 → zI τ 0 2 = zI σ 0 2 + n → zA τ 0 1 = apT (zA σ 0 1) (zI σ 0 2) v n n → Q (zI σ 0 2 + n) τ) : wpX11_append v n σ Q := by
  have hf0 : fr [0] [] σ (zsI σ 0 0 0) := fr.i (by decide)
  have bad : ¬ apok v n → wpX11_raise 1 (zsI σ 0 0 0) (fun (x9 : Int) (σ10 : ZS) => Q x9 σ10) := fun q => hB q _ (h.read (hf0.ti (by decide))) rfl rfl rfl
  have h2 := h.1.1.1
  unfold wpX11_append wpX11_append_16
  refine ⟨hn, fun q => bad (fun a => by have := a.1; omega), fun g1 => ⟨fun g8 => ?_, fun q => bad (fun a => by have := a.1; omega)⟩⟩
  unfold wpX11_append_25
  refine lfp1_ind (fun w _ => (n - w).toNat) (fun w τ => (0 ≤ w ∧ w ≤ n) ∧ τ = zsI σ 0 0 0 ∧ (∀ j : Int, 0 ≤ j → j < w → 32 ≤ zlshr v (8 * j) % 256 ∧ zlshr v (8 * j) % 256 ≤ 126)) ?_ ⟨by omega, rfl, fun j x y => absurd y (by omega)⟩
  intro P w τ ⟨hw, he, hb⟩ ih
  rw [he]
  show wpbX11_append_25 P v n w (zsI σ 0 0 0) Q
  unfold wpbX11_append_25 wpX11_append_59
  have e2 : zI (zsI σ 0 0 0) 0 2 = zI σ 0 2 := rfl
  rw [e2]
  refine ⟨by omega, by omega, fun q => ?_, fun nv => ⟨fun q => bad (fun a => by have := a.2 w hw.1 (by omega); omega), fun g1 => ⟨fun g2 => ih _ _ ⟨by omega, rfl, fun j x y => ?_⟩ (by omega), fun q => bad (fun a => by have := a.2 w hw.1 (by omega); omega)⟩⟩⟩
  · have ok : apok v n := ⟨by omega, fun j j0 j1 => hb j j0 (by omega)⟩
    refine ⟨by omega, fun le => ?_, fun nle => hF ok (by omega) _ (h.read (hf0.ti (by decide))) rfl rfl rfl⟩
    unfold wpX11_append_94
    refine lfp1_ind (fun u _ => (u + 1).toNat) (fun u τ => (-1 ≤ u ∧ u < n) ∧ Tx τ ∧ fr [0, 2] [1] σ τ ∧ zI τ 0 0 = 0 ∧ zI τ 0 2 = zI σ 0 2 + (n - 1 - u) ∧ zA τ 0 1 = apT (zA σ 0 1) (zI σ 0 2) v n (n - 1 - u)) ?_ ⟨by omega, h.1.1, (hf0.up (by decide) (by decide)), rfl, ?_, ?_⟩
    · intro P2 u υ ⟨hu, hTu, hf, h0, hl, ht⟩ ih2
      show wpbX11_append_94 P2 v u υ Q
      unfold wpbX11_append_94
      have hu1 := hTu.1
      refine ⟨by omega, fun q => ?_, fun nq => ⟨by omega, ih2 _ _ ⟨by omega, ⟨?_, fun j j0 j1 => ?_, hTu.2.2⟩, (hf.ta (by decide)).ti (by decide), h0, ?_, ?_⟩ (by omega)⟩⟩
      · have eu : u = -1 := by omega
        rw [hl, eu, show n - 1 - (-1 : Int) = n by omega]
        refine hO ok le υ ⟨⟨hTu, ?_⟩, h.2.1.up (hf.2 16 (by decide)), h.2.2.1.up (hf.an (by decide)), h.2.2.2.1.same (hf.in (by decide)) (hf.an (by decide)), h.2.2.2.2.same (hf.in (by decide)) (hf.an (by decide))⟩ h0 (by rw [hl, eu]; omega) (by rw [ht, eu, show n - 1 - (-1 : Int) = n by omega])
        have g := h.1.2
        unfold G1 G2 G3 at g ⊢
        rw [hf.1 8 (by decide), hf.1 9 (by decide), hf.1 10 (by decide), hf.1 37 (by decide), hf.1 38 (by decide), hf.1 39 (by decide), hf.1 41 (by decide), hf.1 42 (by decide), hf.2 12 (by decide), hf.2 13 (by decide), hf.2 14 (by decide), hf.2 15 (by decide), hf.2 19 (by decide), hf.2 20 (by decide), hf.2 21 (by decide), hf.2 22 (by decide), hf.2 24 (by decide), hf.2 25 (by decide), hf.2 26 (by decide), hf.2 27 (by decide), hf.2 28 (by decide), hf.2 30 (by decide), hf.2 35 (by decide)]
        exact g
      · show 0 ≤ zI υ 0 2 + 1 ∧ zI υ 0 2 + 1 ≤ 480
        omega
      · have j1' : j < zI υ 0 2 + 1 := j1
        show 32 ≤ zu (zA υ 0 1) (zI υ 0 2) (zlshr v (8 * u) % 256) j ∧ zu (zA υ 0 1) (zI υ 0 2) (zlshr v (8 * u) % 256) j ≤ 126
        by_cases e : j = zI υ 0 2
        · rw [e, pu_eq]; exact ok.2 u (by omega) (by omega)
        · rw [pu_ne e]; exact hTu.2.1 j j0 (by omega)
      · show zI υ 0 2 + 1 = zI σ 0 2 + (n - 1 - (u + -1))
        omega
      · show zu (zA υ 0 1) (zI υ 0 2) (zlshr v (8 * u) % 256) = _
        rw [ht, hl]
        have r := apT_s (h := zA σ 0 1) (l := zI σ 0 2) (v := v) (n := n) (m := n - 1 - u) (by omega)
        rw [show n - 1 - (n - 1 - u) = u by omega] at r
        rw [r, show n - 1 - u + 1 = n - 1 - (u + -1) by omega]
    · show zI σ 0 2 = zI σ 0 2 + (n - 1 - (n - 1))
      omega
    · show zA σ 0 1 = _
      rw [show n - 1 - (n - 1) = 0 by omega, apT_0]
  · by_cases e : j = w
    · rw [e]; omega
    · exact hb j x (by omega)
theorem c_append {σ : ZS} {N v n : Int} {Q : Int → ZS → Prop} {X : String → ZS → Prop} (h : CI σ N) (hn : -2147483648 ≤ n ∧ n ≤ 2147483647) (hB : ¬ apok v n → X xIAE σ) (hF : apok v n → 480 < zI σ 10 1 + n → X xIOB σ) (hO : apok v n → zI σ 10 1 + n ≤ 480 → ∀ τ : ZS, CI τ N → zI τ 10 1 = zI σ 10 1 + n → zA τ 10 0 = apT (zA σ 10 0) (zI σ 10 1) v n n → Q (zI σ 10 1 + n) τ) : wpX10_append v n σ Q X := by
  obtain ⟨hT, hr⟩ := h
  have h2 := hT.1
  unfold wpX10_append wpX10_append_11
  refine ⟨hn, fun q => hB (fun a => by have := a.1; omega), fun g1 => ⟨fun g8 => ?_, fun q => hB (fun a => by have := a.1; omega)⟩⟩
  unfold wpX10_append_24
  refine lfp1_ind (fun w _ => (n - w).toNat) (fun w τ => (0 ≤ w ∧ w ≤ n) ∧ τ = σ ∧ (∀ j : Int, 0 ≤ j → j < w → 32 ≤ zlshr v (8 * j) % 256 ∧ zlshr v (8 * j) % 256 ≤ 126)) ?_ ⟨by omega, rfl, fun j x y => absurd y (by omega)⟩
  intro P w τ ⟨hw, he, hb⟩ ih
  rw [he]
  show wpbX10_append_24 P v n w σ Q X
  unfold wpbX10_append_24 wpX10_append_52 wpX10_byteOf
  refine ⟨by omega, by omega, fun q => ?_, fun nv => ?_⟩
  · have ok : apok v n := ⟨by omega, fun j j0 j1 => hb j j0 (by omega)⟩
    refine ⟨by omega, fun le => ?_, fun nle => hF ok (by omega)⟩
    unfold wpX10_append_95
    refine lfp1_ind (fun u _ => (u + 1).toNat) (fun u τ => (-1 ≤ u ∧ u < n) ∧ TX τ ∧ kp [10] σ τ ∧ zI τ 10 1 = zI σ 10 1 + (n - 1 - u) ∧ zA τ 10 0 = apT (zA σ 10 0) (zI σ 10 1) v n (n - 1 - u)) ?_ ⟨by omega, hT, kp.rf, by omega, by rw [show n - 1 - (n - 1) = 0 by omega, apT_0]⟩
    intro P2 u υ ⟨hu, hTu, hk, hl, ht⟩ ih2
    show wpbX10_append_95 P2 v u υ Q X
    unfold wpbX10_append_95 wpX10_byteOf
    have hu1 := hTu.1
    refine ⟨by omega, fun q => ?_, fun nq => ?_⟩
    · have eu : u = -1 := by omega
      rw [hl, eu, show n - 1 - (-1 : Int) = n by omega]
      obtain ⟨r1, r2, r3, r4, r5, r6⟩ := hr
      refine hO ok le υ ⟨hTu, r1.k (hk 11 (by decide)), r2.k (hk 15 (by decide)), r3.k hk (by decide) (by decide) (by decide), r4.k (hk 16 (by decide)), r5.k (hk 17 (by decide)), r6.k (hk 18 (by decide))⟩ (by rw [hl, eu]; omega) (by rw [ht, eu, show n - 1 - (-1 : Int) = n by omega])
    · have oku := ok.2 u (by omega) (by omega)
      rw [z_lb (by omega)]
      dsimp only
      rw [show zlshr v (8 * u) % 256 % 65536 = zlshr v (8 * u) % 256 by omega]
      refine ⟨by omega, ih2 _ _ ⟨by omega, ⟨?_, rng_zu hTu.2.1 (by omega), fun j j0 j1 => ?_⟩, (hk.ta (by decide)).ti (by decide), ?_, ?_⟩ (by omega)⟩
      · show 0 ≤ zI υ 10 1 + 1 ∧ zI υ 10 1 + 1 ≤ 480
        omega
      · have j1' : j < zI υ 10 1 + 1 := j1
        show 32 ≤ zu (zA υ 10 0) (zI υ 10 1) (zlshr v (8 * u) % 256) j
        by_cases e : j = zI υ 10 1
        · rw [e, pu_eq]; exact oku.1
        · rw [pu_ne e]; exact hTu.2.2 j j0 (by omega)
      · show zI υ 10 1 + 1 = zI σ 10 1 + (n - 1 - (u + -1))
        omega
      · show zu (zA υ 10 0) (zI υ 10 1) (zlshr v (8 * u) % 256) = _
        rw [ht, hl]
        have r := apT_s (h := zA σ 10 0) (l := zI σ 10 1) (v := v) (n := n) (m := n - 1 - u) (by omega)
        rw [show n - 1 - (n - 1 - u) = u by omega] at r
        rw [r, show n - 1 - u + 1 = n - 1 - (u + -1) by omega]
  · rw [z_lb (by omega)]
    refine ⟨by omega, fun q => hB (fun a => by have := a.2 w hw.1 (by omega); omega), fun g1 => ⟨fun g2 => ih _ _ ⟨by omega, rfl, fun j x y => ?_⟩ (by omega), fun q => hB (fun a => by have := a.2 w hw.1 (by omega); omega)⟩⟩
    by_cases e : j = w
    · rw [e]; omega
    · exact hb j x (by omega)
theorem i_drop {σ : ZS} {N a : Int} {Q : Int → ZS → Prop} (h : RI σ N) (ha : -2147483648 ≤ a ∧ a ≤ 2147483647) (hQ : ∀ (r : Int) (τ : ZS), RI τ N → (zI τ 0 2 = zI σ 0 2 ∧ zA τ 0 1 = zA σ 0 1) → (0 ≤ r ∧ r ≤ 1) → Q r τ) : wpX11_drop a σ Q := by
  obtain ⟨h1, h2, h3, h4, h5⟩ := h
  refine s_drop h3.1 ha (fun x τ g f hx => hQ x τ ⟨h1.same (f.in (by decide)) (f.an (by decide)), h2.up (f.2 16 (by decide)), ⟨g, fun m m0 m2 => ?_⟩, h4.same (f.in (by decide)) (f.an (by decide)), h5.same (f.in (by decide)) (f.an (by decide))⟩ ⟨f.1 2 (by decide), f.2 1 (by decide)⟩ hx)
  have hm := h3.2 m m0 m2
  unfold MI
  rw [f.2 44 (by decide), f.2 50 (by decide), f.2 56 (by decide), f.2 46 (by decide), f.2 47 (by decide), f.2 48 (by decide), f.2 51 (by decide), f.2 52 (by decide), f.2 53 (by decide), f.2 54 (by decide), f.2 58 (by decide), f.2 59 (by decide)]
  exact hm
/-! the class's other methods -/
theorem CI.mo {σ : ZS} {N M : Int} (h : CI σ N) (hM : N ≤ M) : CI σ M := ⟨h.1, h.2.1, h.2.2.1, h.2.2.2.1, h.2.2.2.2.1, h.2.2.2.2.2.1, h.2.2.2.2.2.2.mo hM⟩
theorem c_drop {σ : ZS} {N a : Int} {Q : Int → ZS → Prop} {X : String → ZS → Prop} (h : CI σ N) (ha : -2147483648 ≤ a ∧ a ≤ 2147483647) (hQ : ∀ (x : Int) (τ : ZS), CI τ N → (zI τ 10 1 = zI σ 10 1 ∧ zA τ 10 0 = zA σ 10 0) → (0 ≤ x ∧ x ≤ 1) → Q x τ) (hX : X xIAE σ) : wpX10_drop a σ Q X := by
  obtain ⟨r0, r1, r2, r3, r4, r5, r6⟩ := h
  unfold wpX10_drop
  refine c_isModule ha (fun a0 a2 => ⟨by decide, fun _ => ⟨by omega, c_mclear ⟨a0, a2⟩ (fun τ tm tk _ _ _ _ => ?_)⟩, fun q => absurd q (by decide)⟩) (fun no => ⟨by decide, fun q => absurd rfl q, fun _ => hX⟩)
  have na : ∀ g : Int, 3 ≤ g → g ∉ [a] := fun g hg => n_1 (by omega)
  have hr := (r3 a a0 a2).1
  refine ⟨hr, hQ _ τ ⟨r0.k (tk 10 (na 10 (by decide))), r1.k (tk 11 (na 11 (by decide))), r2.k (tk 15 (na 15 (by decide))), fun m m0 m2 => ?_, r4.k (tk 16 (na 16 (by decide))), r5.k (tk 17 (na 17 (by decide))), r6.k (tk 18 (na 18 (by decide)))⟩ ⟨tk.I (na 10 (by decide)) 1, tk.A (na 10 (by decide)) 0⟩ hr⟩
  by_cases e : m = a
  · rw [e]; exact tm
  · exact (r3 m m0 m2).k (tk m (n_1 e))
theorem c_link {σ : ZS} {N : Int} {Q : Int → ZS → Prop} {X : String → ZS → Prop} (h : CI σ N) (hQ : ∀ (x : Int) (τ : ZS), CI τ N → (zI τ 10 1 = zI σ 10 1 ∧ zA τ 10 0 = zA σ 10 0) → (0 ≤ x ∧ x ≤ 1200) → Q x τ) (hX : ∀ (s : String) (τ : ZS), s = xISE ∨ s = xUOE ∨ s = xNSE ∨ s = xIOB ∨ s = xARI → CI τ N → (zI τ 10 1 = zI σ 10 1 ∧ zA τ 10 0 = zA σ 10 0) → X s τ) : wpX10_link σ Q X := by
  obtain ⟨r0, r1, r2, r3, r4, r5, r6⟩ := h
  have h : CI σ N := ⟨r0, r1, r2, r3, r4, r5, r6⟩
  have fin : ∀ (τ : ZS) (v w : Int), kp [16, 17] σ τ → LKc τ → IMc τ → CI (zsI (zsI τ 10 2 v) 10 3 w) N ∧ (zI (zsI (zsI τ 10 2 v) 10 3 w) 10 1 = zI σ 10 1 ∧ zA (zsI (zsI τ 10 2 v) 10 3 w) 10 0 = zA σ 10 0) := by
    intro τ v w tk tl ti
    have kk : ∀ g : Int, g ≠ 10 → ob (zsI (zsI τ 10 2 v) 10 3 w) g = ob τ g := fun g hg => (ob_i hg).trans (ob_i hg)
    have c1 : ∀ g : Int, g ∉ [(16 : Int), 17] → g ≠ 10 → ob (zsI (zsI τ 10 2 v) 10 3 w) g = ob σ g := fun g h1 h2 => (kk g h2).trans (tk g h1)
    have tX : TX τ := r0.k (tk 10 (by decide))
    exact ⟨⟨tX, r1.k (c1 11 (by decide) (by decide)), r2.k (c1 15 (by decide) (by decide)), fun m m0 m2 => (r3 m m0 m2).k (c1 m (m_no (by omega) (by omega)) (by omega)), tl.k (kk 16 (by decide)), ti.k (kk 17 (by decide)), r6.k (c1 18 (by decide) (by decide))⟩, tk.I (by decide) 1, tk.A (by decide) 0⟩
  have bad : ∀ (s : String) (v w : Int) (τ : ZS), s = xISE ∨ s = xUOE ∨ s = xNSE ∨ s = xIOB ∨ s = xARI → kp [16, 17] σ τ → LKc τ → IMc τ → X s (zsI (zsI τ 10 2 v) 10 3 w) := fun s v w τ hs tk tl ti => hX s _ hs (fin τ v w tk tl ti).1 (fin τ v w tk tl ti).2
  unfold wpX10_link wpX10_tell
  refine c_hasModules r3 (fun x hx => ⟨by omega, fun _ => ?_, fun _ => hX _ σ (Or.inl rfl) h ⟨rfl, rfl⟩⟩)
  refine c_firstPublicTwice r3 (fun y hy => ⟨by omega, fun _ => ?_, fun _ => bad _ _ _ σ (Or.inr (Or.inl rfl)) kp.rf r4 r5⟩)
  refine c_firstUnsolved r3 (fun z hz => ⟨by omega, fun _ => ?_, fun _ => bad _ _ _ σ (Or.inr (Or.inr (Or.inl rfl))) kp.rf r4 r5⟩)
  refine c_hasMain r3 (fun u hu => ⟨by omega, fun _ => ?_, fun _ => bad _ _ _ σ (Or.inr (Or.inr (Or.inl rfl))) kp.rf r4 r5⟩)
  refine c_combine r3 r4 (fun e τ tl tk he hp => ?_)
  have t5 : IMc τ := r5.k (tk 17 (by decide))
  have tM : M3 τ := r3.k tk (by decide) (by decide) (by decide)
  refine ⟨by omega, fun le => ?_, fun _ => bad _ _ _ τ (Or.inr (Or.inr (Or.inr (Or.inl rfl)))) (tk.up (by decide)) tl t5⟩
  refine c_firstApart tM tl (fun f hf => ⟨by omega, fun _ => ?_, fun _ => bad _ _ _ τ (Or.inr (Or.inr (Or.inr (Or.inr rfl)))) (tk.up (by decide)) tl t5⟩)
  refine c_lwrite tM tl t5 ⟨he.1, le⟩ hp (fun υ ui uk => ?_)
  have f1 := fin υ (-1) (-1) ((tk.up (by decide)).tr (uk.up (by decide))) (tl.k (uk 16 (by decide))) ui
  exact hQ e _ f1.1 f1.2 ⟨he.1, le⟩
theorem CI.m {σ τ : ZS} {N M : Int} (h : CI σ N) (g : CG σ M τ) : CI τ M ∧ (zI τ 10 1 = zI σ 10 1 ∧ zA τ 10 0 = zA σ 10 0) := by
  obtain ⟨r0, r1, r2, r3, r4, r5, r6⟩ := h
  have k := g.2
  exact ⟨⟨r0.k (k 10 (by decide)), r1.k (k 11 (by decide)), r2.k (k 15 (by decide)), r3.k k (by decide) (by decide) (by decide), r4.k (k 16 (by decide)), r5.k (k 17 (by decide)), g.1⟩, k.I (by decide) 1, k.A (by decide) 0⟩
theorem c_load {σ : ZS} {N a : Int} {Q : Int → ZS → Prop} {X : String → ZS → Prop} (h : CI σ N) (hN : 0 ≤ N) (ha : -2147483648 ≤ a ∧ a ≤ 2147483647) (hQ : ∀ (x : Int) (τ : ZS), CI τ N → (zI τ 10 1 = zI σ 10 1 ∧ zA τ 10 0 = zA σ 10 0) → (0 ≤ x ∧ x ≤ 100000) → Q x τ) (hX : ∀ s : String, s = xIAE ∨ s = xISE → X s σ) : wpX10_load a σ Q X := by
  have i0 := h.2.2.2.2.2.1.1
  unfold wpX10_load wpX10_load_11
  exact ⟨ha, fun _ => hX _ (Or.inl rfl), fun _ => ⟨fun _ => ⟨by omega, fun _ => c_start h.2.2.2.2.2.2 hN h.2.2.2.2.2.1 (by omega) (fun τ g => hQ _ τ (h.m g).1 (h.m g).2 g.1.ip), fun _ => hX _ (Or.inr rfl)⟩, fun _ => hX _ (Or.inl rfl)⟩⟩
theorem c_run {σ : ZS} {N a : Int} {Q : Int → ZS → Prop} {X : String → ZS → Prop} (h : CI σ N) (hN : 0 ≤ N ∧ N ≤ 100000) (ha : -2147483648 ≤ a ∧ a ≤ 2147483647) (hQ : ∀ (x : Int) (τ : ZS), CI τ (N + 400) → (zI τ 10 1 = zI σ 10 1 ∧ zA τ 10 0 = zA σ 10 0) → (0 ≤ x ∧ x ≤ 3) → Q x τ) (hX : ∀ s : String, s = xIAE ∨ s = xISE → X s σ) : wpX10_run a σ Q X := by
  have c7 := h.2.2.2.2.2.2.2.2.2.2.2.2.2.1
  unfold wpX10_run wpX10_run_12
  exact ⟨ha, fun _ => hX _ (Or.inl rfl), fun _ => ⟨fun _ => ⟨by omega, fun _ => c_go h.2.2.2.2.2.2 hN (by omega) (fun x τ g hx => hQ x τ (h.m g).1 (h.m g).2 hx), fun _ => hX _ (Or.inr rfl)⟩, fun _ => hX _ (Or.inl rfl)⟩⟩
theorem c_code {σ : ZS} {N a b c : Int} {Q : Int → ZS → Prop} {X : String → ZS → Prop} (h : CI σ N) (ha : -2147483648 ≤ a ∧ a ≤ 2147483647) (hb : -2147483648 ≤ b ∧ b ≤ 2147483647) (hc : -2147483648 ≤ c ∧ c ≤ 2147483647) (hQ : ∀ x : Int, Q x σ) (hX : X xIOB σ) : wpX10_code a b c σ Q X := by
  unfold wpX10_code wpX10_code_38 wpX10_code_63
  refine c_isModule ha (fun a0 a2 => ⟨by decide, fun _ => ?_, fun q => absurd q (by decide)⟩) (fun no => ⟨by decide, fun q => absurd rfl q, fun _ => hX⟩)
  have m := h.2.2.2.1 a a0 a2
  have m1 := m.2.1
  refine ⟨by omega, hb, fun _ => hX, fun _ => ⟨by omega, fun lt => ⟨hc, fun _ => hX, fun _ => ?_⟩, fun _ => hX⟩⟩
  have s := m.2.2.2.2.1 b (by omega) lt
  exact ⟨by omega, by omega, fun _ => ⟨by omega, hQ _⟩, fun _ => hX⟩
theorem c_fixup {σ : ZS} {N a b c : Int} {Q : Int → ZS → Prop} {X : String → ZS → Prop} (h : CI σ N) (ha : -2147483648 ≤ a ∧ a ≤ 2147483647) (hb : -2147483648 ≤ b ∧ b ≤ 2147483647) (hc : -2147483648 ≤ c ∧ c ≤ 2147483647) (hQ : ∀ x : Int, Q x σ) (hX : ∀ s : String, s = xIAE ∨ s = xIOB → X s σ) : wpX10_fixup a b c σ Q X := by
  unfold wpX10_fixup wpX10_fixup_57 wpX10_fixup_9
  refine ⟨hc, fun _ => hX _ (Or.inl rfl), fun _ => ⟨fun _ => c_isModule ha (fun a0 a2 => ⟨by decide, fun _ => ?_, fun q => absurd q (by decide)⟩) (fun no => ⟨by decide, fun q => absurd rfl q, fun _ => hX _ (Or.inr rfl)⟩), fun _ => hX _ (Or.inl rfl)⟩⟩
  have m := h.2.2.2.1 a a0 a2
  have m7 := m.2.2.1
  exact ⟨by omega, hb, fun _ => hX _ (Or.inr rfl), fun _ => ⟨by omega, fun lt => ⟨fun _ => ⟨by omega, hQ _⟩, fun _ => ⟨fun _ => ⟨by omega, hQ _⟩, fun _ => ⟨fun _ => ⟨by omega, hQ _⟩, fun _ => ⟨by omega, hQ _⟩⟩⟩⟩, fun _ => hX _ (Or.inr rfl)⟩⟩
theorem c_image {σ : ZS} {N a : Int} {Q : Int → ZS → Prop} {X : String → ZS → Prop} (h : CI σ N) (ha : -2147483648 ≤ a ∧ a ≤ 2147483647) (hQ : ∀ x : Int, Q x σ) (hX : X xIOB σ) : wpX10_image a σ Q X := by
  have i := h.2.2.2.2.2.1.2.1
  unfold wpX10_image wpX10_image_15
  exact ⟨ha, fun _ => hX, fun _ => ⟨by omega, fun _ => ⟨by omega, hQ _⟩, fun _ => hX⟩⟩
theorem c_memory {σ : ZS} {a : Int} {Q : Int → ZS → Prop} {X : String → ZS → Prop} (ha : -2147483648 ≤ a ∧ a ≤ 2147483647) (hQ : ∀ x : Int, Q x σ) (hX : X xIAE σ) : wpX10_memory a σ Q X := by
  unfold wpX10_memory wpX10_memory_11
  exact ⟨ha, fun _ => hX, fun _ => ⟨fun _ => ⟨by omega, hQ _⟩, fun _ => hX⟩⟩
theorem c_register {σ : ZS} {a : Int} {Q : Int → ZS → Prop} {X : String → ZS → Prop} (ha : -2147483648 ≤ a ∧ a ≤ 2147483647) (hQ : ∀ x : Int, Q x σ) (hX : X xIAE σ) : wpX10_register a σ Q X := by
  unfold wpX10_register wpX10_register_10
  exact ⟨ha, fun _ => hX, fun _ => ⟨fun _ => ⟨fun _ => ⟨fun _ => ⟨fun _ => hQ _, fun _ => ⟨fun _ => hQ _, fun _ => ⟨fun _ => hQ _, fun _ => hQ _⟩⟩⟩, fun _ => ⟨by omega, hQ _⟩⟩, fun _ => ⟨by omega, hQ _⟩⟩, fun _ => hX⟩⟩
theorem c_trace {σ : ZS} {N a : Int} {Q : Int → ZS → Prop} {X : String → ZS → Prop} (h : CI σ N) (hN : N ≤ 1000000) (ha : -2147483648 ≤ a ∧ a ≤ 2147483647) (hQ : ∀ x : Int, Q x σ) (hX : X xIOB σ) : wpX10_trace a σ Q X := by
  have c9 := h.2.2.2.2.2.2.2.2.2.2.2.2.2.2.1
  unfold wpX10_trace wpX10_trace_21
  exact ⟨ha, fun _ => hX, fun _ => ⟨fun _ => hX, fun _ => ⟨by omega, fun _ => ⟨by omega, hQ _⟩, fun _ => hX⟩⟩⟩
theorem c_count {σ : ZS} {N a : Int} {Q : Int → ZS → Prop} {X : String → ZS → Prop} (h : CI σ N) (ha : -2147483648 ≤ a ∧ a ≤ 2147483647) (hQ : ∀ x : Int, Q x σ) (hX : X xIAE σ) : wpX10_count a σ Q X := by
  have c7 := h.2.2.2.2.2.2.2.2.2.2.2.2.2.1
  unfold wpX10_count wpX10_count_10 wpX10_count_166
  exact ⟨ha, fun _ => hX, fun _ => ⟨fun _ => ⟨fun _ => ⟨fun _ => ⟨fun _ => hQ _, fun _ => ⟨fun _ => hQ _, fun _ => ⟨fun _ => hQ _, fun _ => ⟨fun _ => hQ _, fun _ => ⟨fun _ => hQ _, fun _ => ⟨fun _ => hQ _, fun _ => ⟨fun _ => hQ _, fun _ => ⟨by omega, fun _ => hQ _, fun _ => hQ _⟩⟩⟩⟩⟩⟩⟩⟩, fun _ => ⟨by omega, hQ _⟩⟩, fun _ => ⟨by omega, hQ _⟩⟩, fun _ => hX⟩⟩
