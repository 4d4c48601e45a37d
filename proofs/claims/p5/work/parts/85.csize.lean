/-! C: fills -/
theorem zsF_zsF {σ : ZS} {g : Int} {f : Nat} {h k : Int → Int} : zsF (zsF σ g f h) g f k = zsF σ g f k := by
  unfold zsF
  refine Prod.ext rfl (funext fun g' => funext fun f' => ?_)
  show (if g' = g then (if f' = f then k else (if g' = g then (if f' = f then h else σ.2 g' f') else σ.2 g' f')) else (if g' = g then (if f' = f then h else σ.2 g' f') else σ.2 g' f')) = (if g' = g then (if f' = f then k else σ.2 g' f') else σ.2 g' f')
  by_cases e : g' = g
  · rw [if_pos e, if_pos e, if_pos e]
    by_cases e' : f' = f
    · rw [if_pos e', if_pos e']
    · rw [if_neg e', if_neg e', if_neg e']
  · rw [if_neg e, if_neg e, if_neg e]
theorem zsF_self {σ : ZS} {g : Int} {f : Nat} : zsF σ g f (zA σ g f) = σ := by
  unfold zsF
  refine Prod.ext rfl (funext fun g' => funext fun f' => ?_)
  show (if g' = g then (if f' = f then zA σ g f else σ.2 g' f') else σ.2 g' f') = σ.2 g' f'
  by_cases e : g' = g
  · rw [if_pos e]
    by_cases e' : f' = f
    · rw [if_pos e', e, e']; rfl
    · rw [if_neg e']
  · rw [if_neg e]
theorem zA_F {σ : ZS} {g : Int} {f : Nat} {h : Int → Int} : zA (zsF σ g f h) g f = h := by
  show (if g = g then (if f = f then h else σ.2 g f) else σ.2 g f) = h
  rw [if_pos rfl, if_pos rfl]
theorem zA_Ff {σ : ZS} {g : Int} {f f' : Nat} {h : Int → Int} (e : f' ≠ f) : zA (zsF σ g f h) g f' = zA σ g f' := by
  show (if g = g then (if f' = f then h else σ.2 g f') else σ.2 g f') = _
  rw [if_pos rfl, if_neg e]; rfl
theorem zsA_F {σ : ZS} {g i v : Int} {f : Nat} {h : Int → Int} : zsA (zsF σ g f h) g f i v = zsF σ g f (zu h i v) := by
  unfold zsA
  rw [zA_F, zsF_zsF]
theorem kp.f {G : List Int} {σ : ZS} {g : Int} {f : Nat} {h : Int → Int} (hg : g ∈ G) : kp G σ (zsF σ g f h) := fun g' q => ob_f (fun e => q (e ▸ hg))
theorem kp.tf {G : List Int} {σ τ : ZS} {g : Int} {f : Nat} {h : Int → Int} (k : kp G σ τ) (hg : g ∈ G) : kp G σ (zsF τ g f h) := k.tr (kp.f hg)
theorem c_fill15_3 {σ : ZS} {v : Int} {Q : ZS → Prop} (hQ : ∀ h : Int → Int, (∀ j : Int, 0 ≤ j → j < 60 → h j = v) → Q (zsF σ 15 3 h)) : wpJ7_fill_53178_15_3 v σ Q := by
  unfold wpJ7_fill_53178_15_3 wpJ7_fill_53178_15_3_5
  refine lfp1_ind (fun i _ => (60 - i).toNat) (fun i τ => ∃ h : Int → Int, τ = zsF σ 15 3 h ∧ (0 ≤ i ∧ i ≤ 60) ∧ ∀ j : Int, 0 ≤ j → j < i → h j = v) (fun K i τ hI ih => ?_) ⟨zA σ 15 3, zsF_self.symm, by decide, fun j j0 j1 => absurd j0 (by omega)⟩
  obtain ⟨h, e, hi, hv⟩ := hI
  rw [e]
  unfold wpbJ7_fill_53178_15_3_5
  refine ⟨by omega, by decide, fun q => hQ h (fun j j0 j1 => hv j j0 (by omega)), fun q => ⟨by omega, ih _ _ ⟨zu h i v, zsA_F, by omega, fun j j0 j1 => ?_⟩ (by omega)⟩⟩
  by_cases e' : j = i
  · rw [e', pu_eq]
  · rw [pu_ne e']; exact hv j j0 (by omega)
theorem c_fill17_2 {σ : ZS} {v : Int} {Q : ZS → Prop} (hQ : ∀ h : Int → Int, (∀ j : Int, 0 ≤ j → j < 1200 → h j = v) → Q (zsF σ 17 2 h)) : wpJ7_fill_53178_17_2 v σ Q := by
  unfold wpJ7_fill_53178_17_2 wpJ7_fill_53178_17_2_5
  refine lfp1_ind (fun i _ => (1200 - i).toNat) (fun i τ => ∃ h : Int → Int, τ = zsF σ 17 2 h ∧ (0 ≤ i ∧ i ≤ 1200) ∧ ∀ j : Int, 0 ≤ j → j < i → h j = v) (fun K i τ hI ih => ?_) ⟨zA σ 17 2, zsF_self.symm, by decide, fun j j0 j1 => absurd j0 (by omega)⟩
  obtain ⟨h, e, hi, hv⟩ := hI
  rw [e]
  unfold wpbJ7_fill_53178_17_2_5
  refine ⟨by omega, by decide, fun q => hQ h (fun j j0 j1 => hv j j0 (by omega)), fun q => ⟨by omega, ih _ _ ⟨zu h i v, zsA_F, by omega, fun j j0 j1 => ?_⟩ (by omega)⟩⟩
  by_cases e' : j = i
  · rw [e', pu_eq]
  · rw [pu_ne e']; exact hv j j0 (by omega)
theorem c_fill18_0 {σ : ZS} {v : Int} {Q : ZS → Prop} (hQ : ∀ h : Int → Int, (∀ j : Int, 0 ≤ j → j < 4096 → h j = v) → Q (zsF σ 18 0 h)) : wpJ7_fill_53178_18_0 v σ Q := by
  unfold wpJ7_fill_53178_18_0 wpJ7_fill_53178_18_0_5
  refine lfp1_ind (fun i _ => (4096 - i).toNat) (fun i τ => ∃ h : Int → Int, τ = zsF σ 18 0 h ∧ (0 ≤ i ∧ i ≤ 4096) ∧ ∀ j : Int, 0 ≤ j → j < i → h j = v) (fun K i τ hI ih => ?_) ⟨zA σ 18 0, zsF_self.symm, by decide, fun j j0 j1 => absurd j0 (by omega)⟩
  obtain ⟨h, e, hi, hv⟩ := hI
  rw [e]
  unfold wpbJ7_fill_53178_18_0_5
  refine ⟨by omega, by decide, fun q => hQ h (fun j j0 j1 => hv j j0 (by omega)), fun q => ⟨by omega, ih _ _ ⟨zu h i v, zsA_F, by omega, fun j j0 j1 => ?_⟩ (by omega)⟩⟩
  by_cases e' : j = i
  · rw [e', pu_eq]
  · rw [pu_ne e']; exact hv j j0 (by omega)
theorem c_fill18_1 {σ : ZS} {v : Int} {Q : ZS → Prop} (hQ : ∀ h : Int → Int, (∀ j : Int, 0 ≤ j → j < 8 → h j = v) → Q (zsF σ 18 1 h)) : wpJ7_fill_53178_18_1 v σ Q := by
  unfold wpJ7_fill_53178_18_1 wpJ7_fill_53178_18_1_5
  refine lfp1_ind (fun i _ => (8 - i).toNat) (fun i τ => ∃ h : Int → Int, τ = zsF σ 18 1 h ∧ (0 ≤ i ∧ i ≤ 8) ∧ ∀ j : Int, 0 ≤ j → j < i → h j = v) (fun K i τ hI ih => ?_) ⟨zA σ 18 1, zsF_self.symm, by decide, fun j j0 j1 => absurd j0 (by omega)⟩
  obtain ⟨h, e, hi, hv⟩ := hI
  rw [e]
  unfold wpbJ7_fill_53178_18_1_5
  refine ⟨by omega, by decide, fun q => hQ h (fun j j0 j1 => hv j j0 (by omega)), fun q => ⟨by omega, ih _ _ ⟨zu h i v, zsA_F, by omega, fun j j0 j1 => ?_⟩ (by omega)⟩⟩
  by_cases e' : j = i
  · rw [e', pu_eq]
  · rw [pu_ne e']; exact hv j j0 (by omega)
theorem c_fill18_2 {σ : ZS} {v : Int} {Q : ZS → Prop} (hQ : ∀ h : Int → Int, (∀ j : Int, 0 ≤ j → j < 4 → h j = v) → Q (zsF σ 18 2 h)) : wpJ7_fill_53178_18_2 v σ Q := by
  unfold wpJ7_fill_53178_18_2 wpJ7_fill_53178_18_2_5
  refine lfp1_ind (fun i _ => (4 - i).toNat) (fun i τ => ∃ h : Int → Int, τ = zsF σ 18 2 h ∧ (0 ≤ i ∧ i ≤ 4) ∧ ∀ j : Int, 0 ≤ j → j < i → h j = v) (fun K i τ hI ih => ?_) ⟨zA σ 18 2, zsF_self.symm, by decide, fun j j0 j1 => absurd j0 (by omega)⟩
  obtain ⟨h, e, hi, hv⟩ := hI
  rw [e]
  unfold wpbJ7_fill_53178_18_2_5
  refine ⟨by omega, by decide, fun q => hQ h (fun j j0 j1 => hv j j0 (by omega)), fun q => ⟨by omega, ih _ _ ⟨zu h i v, zsA_F, by omega, fun j j0 j1 => ?_⟩ (by omega)⟩⟩
  by_cases e' : j = i
  · rw [e', pu_eq]
  · rw [pu_ne e']; exact hv j j0 (by omega)
theorem c_fillM {g : Int} {σ : ZS} {v : Int} {Q : ZS → Prop} (hg : 0 ≤ g ∧ g ≤ 2) (hQ : ∀ h : Int → Int, (∀ j : Int, 0 ≤ j → j < 400 → h j = v) → Q (zsF σ g 6 h)) : wpJ7_fill_53178_M_6 g v σ Q := by
  unfold wpJ7_fill_53178_M_6 wpJ7_fill_53178_M_6_5
  refine ⟨hg, lfp1_ind (fun i _ => (400 - i).toNat) (fun i τ => ∃ h : Int → Int, τ = zsF σ g 6 h ∧ (0 ≤ i ∧ i ≤ 400) ∧ ∀ j : Int, 0 ≤ j → j < i → h j = v) (fun K i τ hI ih => ?_) ⟨zA σ g 6, zsF_self.symm, by decide, fun j j0 j1 => absurd j0 (by omega)⟩⟩
  obtain ⟨h, e, hi, hv⟩ := hI
  rw [e]
  unfold wpbJ7_fill_53178_M_6_5
  refine ⟨by omega, by decide, fun q => hQ h (fun j j0 j1 => hv j j0 (by omega)), fun q => ⟨by omega, by omega, ih _ _ ⟨zu h i v, zsA_F, by omega, fun j j0 j1 => ?_⟩ (by omega)⟩⟩
  by_cases e' : j = i
  · rw [e', pu_eq]
  · rw [pu_ne e']; exact hv j j0 (by omega)
/-! C: jumps are sized -/
def LZ (σ : ZS) : Prop := LY σ ∧ DS σ (zI σ 13 7) ∧ UR σ (zI σ 13 7) ∧ zI σ 15 5 < 0
theorem LY.s6 {σ : ZS} {i w : Int} (h : LY σ) (hw : 0 ≤ w ∧ w ≤ 20000) : LY (zsA σ 13 6 i w) := by
  obtain ⟨a1, a2, ⟨⟨d1, d2, d3⟩, d4⟩, a4, a5, a6, a7, a8, a9⟩ := h
  refine ⟨a1, a2, ⟨⟨d1, d2, fun j j0 j1 => ?_⟩, d4⟩, a4, a5, a6, a7, a8, a9⟩
  show 0 ≤ zu (zA σ 13 6) i w j ∧ zu (zA σ 13 6) i w j ≤ 20000
  by_cases e : j = i
  · rw [e, pu_eq]; exact hw
  · rw [pu_ne e]; exact d3 j j0 j1
theorem LZ.s6 {σ : ZS} {i w : Int} (h : LZ σ) (hw : 0 ≤ w ∧ w ≤ 20000) : LZ (zsA σ 13 6 i w) := ⟨h.1.s6 hw, h.2.1, h.2.2.1, h.2.2.2⟩
theorem LY.f3 {σ : ZS} {k : Int → Int} (h : LY σ) (hk : ∀ s : Int, 0 ≤ s → s < 60 → 0 ≤ k s ∧ k s ≤ 20000) : LY (zsF σ 15 3 k) := by
  obtain ⟨a1, a2, a3, a4, a5, a6, a7, a8, a9⟩ := h
  exact ⟨a1, a2, a3.k rfl (ob_f (by decide)), a4, a5, a6, fun s s0 s1 => ⟨(a7 s s0 s1).1, hk s s0 s1⟩, a8, a9⟩
theorem LZ.f3 {σ : ZS} {k : Int → Int} (h : LZ σ) (hk : ∀ s : Int, 0 ≤ s → s < 60 → 0 ≤ k s ∧ k s ≤ 20000) : LZ (zsF σ 15 3 k) := ⟨h.1.f3 hk, h.2.1, h.2.2.1, h.2.2.2⟩
theorem LY.n4 {σ : ZS} {i w : Int} (h : LY σ) (hw : 0 ≤ w ∧ w ≤ 20000) : LY (zsA σ 11 4 i w) := by
  obtain ⟨a1, a2, a3, a4, a5, a6, a7, a8, a9⟩ := h
  refine ⟨fun n n0 n1 => ?_, a2, a3.k rfl (ob_a (by decide)), a4, a5, a6, a7, a8, a9⟩
  obtain ⟨x0, x1, x2, x3, x4⟩ := a1 n n0 n1
  refine ⟨x0, x1, x2, x3, ?_⟩
  show 0 ≤ zu (zA σ 11 4) i w n ∧ zu (zA σ 11 4) i w n ≤ 20000
  by_cases e : n = i
  · rw [e, pu_eq]; exact hw
  · rw [pu_ne e]; exact x4
theorem LZ.n4 {σ : ZS} {i w : Int} (h : LZ σ) (hw : 0 ≤ w ∧ w ≤ 20000) : LZ (zsA σ 11 4 i w) := ⟨h.1.n4 hw, h.2.1, h.2.2.1, h.2.2.2⟩
theorem LY.v3 {σ : ZS} {i : Int} (h : LY σ) (hi : zA σ 13 0 i = 9) : LY (zsA σ 13 1 i 3) := by
  obtain ⟨a1, a2, ⟨⟨d1, d2, d3⟩, d4⟩, a4, a5, a6, a7, a8, a9⟩ := h
  refine ⟨a1, a2, ⟨⟨d1, fun j j0 j1 => ?_, d3⟩, d4⟩, a4, a5, a6, a7, a8, a9⟩
  obtain ⟨i1, i2, i3, i4, i5, i6, i7, i8, i9, i10⟩ := d2 j j0 j1
  show ITw (zI σ 11 5) (zA σ 13 0 j) (zu (zA σ 13 1) i 3 j) (zA σ 13 2 j) (zA σ 13 3 j) (zA σ 13 4 j)
  by_cases e : j = i
  · rw [e, pu_eq]
    rw [e] at i1 i3 i4 i5 i6 i7
    exact ⟨i1, by decide, i3, i4, i5, i6, i7, fun q => absurd q (by omega), fun _ => by decide, fun q => absurd q (by omega)⟩
  · rw [pu_ne e]; exact ⟨i1, i2, i3, i4, i5, i6, i7, i8, i9, i10⟩
theorem LZ.v3 {σ : ZS} {i : Int} (h : LZ σ) (hi : zA σ 13 0 i = 9) : LZ (zsA σ 13 1 i 3) := ⟨h.1.v3 hi, h.2.1, h.2.2.1, h.2.2.2⟩
theorem c_bytesOf {σ : ZS} {i : Int} {Q : Int → ZS → Prop} (h : LY σ) (hi : 0 ≤ i ∧ i < zI σ 13 7) (hQ : ∀ x : Int, (0 ≤ x ∧ x ≤ 64) → Q x σ) : wpX0_bytesOf i σ Q := by
  have hz := h.sz
  obtain ⟨i1, i2, i3, i4, i5, i6, i7, i8, i9, i10⟩ := h.it hi.1 hi.2
  unfold wpX0_bytesOf wpX0_bytesOf_58 wpX0_bytesOf_65
  exact ⟨by omega, by omega, fun _ => hQ _ (by decide), fun _ => ⟨fun e => ⟨by omega, hQ _ (by have := i8 e; omega)⟩, fun _ => ⟨fun _ => hQ _ (by decide), fun _ => ⟨fun _ => hQ _ (by decide), fun _ => ⟨fun _ => hQ _ (by decide), fun _ => ⟨fun e => ⟨by omega, hQ _ (by have := i9 e; omega)⟩, fun _ => ⟨fun _ => hQ _ (by decide), fun _ => ⟨fun _ => hQ _ (by decide), fun _ => ⟨fun _ => hQ _ (by decide), fun _ => hQ _ (by decide)⟩⟩⟩⟩⟩⟩⟩⟩⟩
theorem c_measure {σ : ZS} {Q : ZS → Prop} (h : LZ σ) (hQ : ∀ τ : ZS, LZ τ → kp [11, 13, 15] σ τ → Q τ) : wpX2_measure σ Q := by
  unfold wpX2_measure wpX2_measure_10
  refine c_fill15_3 (fun k hk => ?_)
  refine lfp1_ind (fun v _ => (248 - v).toNat) (fun v τ => LZ τ ∧ kp [11, 13, 15] σ τ ∧ (∀ s : Int, 0 ≤ s → s < 60 → 0 ≤ zA τ 15 3 s ∧ zA τ 15 3 s ≤ 64 * v) ∧ (0 ≤ v ∧ v ≤ zI τ 13 7)) (fun K v τ hI ih => ?_) ⟨h.f3 (fun s s0 s1 => by rw [hk s s0 s1]; decide), kp.f (by decide), fun s s0 s1 => ?_, by decide, h.1.sz.1⟩
  · obtain ⟨lz, kk, sz, v0, v1⟩ := hI
    have hz := lz.1.sz
    have a4 := lz.1.2.2.2.1
    have hN := lz.1.2.1.1
    unfold wpbX2_measure_10 wpX2_measure_106
    refine ⟨by omega, by omega, fun _ => hQ τ lz kk, fun lt => ?_⟩
    have hs := lz.2.1 v v0 (by omega)
    refine ⟨by omega, by omega, fun neg => ih _ _ ⟨lz, kk, fun s s0 s1 => by have := sz s s0 s1; omega, by omega, by omega⟩ (by omega), fun nn => ⟨by omega, ?_⟩⟩
    have hs3 := sz (zA τ 13 5 v) (by omega) (by omega)
    have lz1 : LZ (zsA τ 13 6 v (zA τ 15 3 (zA τ 13 5 v))) := lz.s6 (by omega)
    refine c_bytesOf lz1.1 ⟨v0, show v < zI τ 13 7 by omega⟩ (fun x hx => ?_)
    obtain ⟨i1, i2, i3, i4, i5, i6, i7, i8, i9, i10⟩ := lz.1.it v0 (show v < zI τ 13 7 by omega)
    have szn : ∀ s : Int, 0 ≤ s → s < 60 → 0 ≤ zu (zA τ 15 3) (zA τ 13 5 v) (zA τ 15 3 (zA τ 13 5 v) + x) s ∧ zu (zA τ 15 3) (zA τ 13 5 v) (zA τ 15 3 (zA τ 13 5 v) + x) s ≤ 64 * (v + 1) := by
      intro s s0 s1
      by_cases e : s = zA τ 13 5 v
      · rw [e, pu_eq]; omega
      · rw [pu_ne e]; have := sz s s0 s1; omega
    have lz2 : LZ (zsA (zsA τ 13 6 v (zA τ 15 3 (zA τ 13 5 v))) 15 3 (zA τ 13 5 v) (zA τ 15 3 (zA τ 13 5 v) + x)) := lz1.f3 (fun s s0 s1 => by
      have := szn s s0 s1
      show 0 ≤ zu (zA τ 15 3) (zA τ 13 5 v) (zA τ 15 3 (zA τ 13 5 v) + x) s ∧ zu (zA τ 15 3) (zA τ 13 5 v) (zA τ 15 3 (zA τ 13 5 v) + x) s ≤ 20000
      omega)
    have k2 : kp [11, 13, 15] σ (zsA (zsA τ 13 6 v (zA τ 15 3 (zA τ 13 5 v))) 15 3 (zA τ 13 5 v) (zA τ 15 3 (zA τ 13 5 v) + x)) := (kk.ta (by decide)).ta (by decide)
    have hsz : 0 ≤ v + 1 ∧ v + 1 ≤ zI τ 13 7 := by omega
    refine ⟨?_, fun _ => ih _ _ ⟨lz2, k2, szn, hsz⟩ (by omega), fun e1 => ⟨?_, ih _ _ ⟨lz2.n4 ?_, k2.ta (by decide), szn, hsz⟩ (by omega)⟩⟩
    · show -2147483648 ≤ zA τ 13 0 v ∧ zA τ 13 0 v ≤ 2147483647
      omega
    · have e1' : zA τ 13 0 v = 1 := e1
      have := i6 (by omega) (by omega) (by omega)
      show 0 ≤ zA τ 13 2 v ∧ zA τ 13 2 v < 240
      omega
    · show 0 ≤ zu (zA τ 13 6) v (zA τ 15 3 (zA τ 13 5 v)) v ∧ zu (zA τ 13 6) v (zA τ 15 3 (zA τ 13 5 v)) v ≤ 20000
      rw [pu_eq]; omega
  · show 0 ≤ k s ∧ k s ≤ 64 * 0
    rw [hk s s0 s1]; decide
theorem c_isExtern {σ : ZS} {i : Int} {Q : Int → ZS → Prop} (h : LY σ) (hi : 0 ≤ i ∧ i < zI σ 13 7) (hn : 0 ≤ zA σ 13 2 i) (hQ : ∀ x : Int, (0 ≤ x ∧ x ≤ 1) → Q x σ) : wpX2_isExtern i σ Q := by
  have hz := h.sz
  have hN := h.2.1.1
  obtain ⟨i1, i2, i3, i4, i5, i6, i7, i8, i9, i10⟩ := h.it hi.1 hi.2
  have hr := (h.1 (zA σ 13 2 i) hn (by omega)).2.1
  unfold wpX2_isExtern wpX2_isExtern_26
  exact ⟨by omega, by omega, by omega, fun _ => ⟨by decide, hQ _ (by decide)⟩, fun _ => ⟨by decide, hQ _ (by decide)⟩⟩
theorem c_distance {σ : ZS} {i : Int} {Q : Int → ZS → Prop} (h : LY σ) (hi : 0 ≤ i ∧ i < zI σ 13 7) (hn : 0 ≤ zA σ 13 2 i) (hQ : ∀ x : Int, (-30000 ≤ x ∧ x ≤ 30000) → Q x σ) : wpX2_distance i σ Q := by
  have hz := h.sz
  have hN := h.2.1.1
  obtain ⟨i1, i2, i3, i4, i5, i6, i7, i8, i9, i10⟩ := h.it hi.1 hi.2
  have ho := (h.1 (zA σ 13 2 i) hn (by omega)).2.2.2.2
  have h6 := h.2.2.1.1.2.2 i hi.1 hi.2
  unfold wpX2_distance
  exact ⟨by omega, by omega, c_bytesOf h hi (fun x hx => hQ _ (by omega))⟩
theorem c_growJumps {σ : ZS} {Q : Int → ZS → Prop} (h : LZ σ) (hQ : ∀ (x : Int) (τ : ZS), (0 ≤ x ∧ x ≤ 1) → LZ τ → kp [11, 13, 15] σ τ → Q x τ) : wpX2_growJumps σ Q := by
  unfold wpX2_growJumps wpX2_growJumps_4
  refine lfp2_ind (fun _ v _ => (248 - v).toNat) (fun f v τ => LZ τ ∧ kp [11, 13, 15] σ τ ∧ (0 ≤ f ∧ f ≤ 1) ∧ (0 ≤ v ∧ v ≤ zI τ 13 7)) (fun K f v τ hI ih => ?_) ⟨h, kp.rf, by decide, by decide, h.1.sz.1⟩
  obtain ⟨lz, kk, hf, v0, v1⟩ := hI
  have hz := lz.1.sz
  unfold wpbX2_growJumps_4 wpX2_growJumps_73 wpX2_growJumps_61
  refine ⟨by omega, by omega, fun _ => ⟨hf, hQ f τ hf lz kk⟩, fun lt => ?_⟩
  obtain ⟨i1, i2, i3, i4, i5, i6, i7, i8, i9, i10⟩ := lz.1.it v0 (show v < zI τ 13 7 by omega)
  have on : K f (v + 1) τ := ih _ _ _ ⟨lz, kk, hf, by omega, by omega⟩ (by omega)
  have gr : zA τ 13 0 v = 9 → (0 ≤ v ∧ v < 248) ∧ K 1 (v + 1) (zsA τ 13 1 v 3) := fun e => ⟨by omega, ih _ _ _ ⟨lz.v3 e, kk.ta (by decide), by decide, by omega, show v + 1 ≤ zI τ 13 7 by omega⟩ (by omega)⟩
  refine ⟨by omega, by omega, fun _ => on, fun e9 => ⟨by omega, fun _ => on, fun e2 => ?_⟩⟩
  have hn := i6 (by omega) (by omega) (by omega)
  exact c_isExtern lz.1 ⟨v0, by omega⟩ hn (fun x hx => ⟨by omega, fun _ => gr e9, fun _ => c_distance lz.1 ⟨v0, by omega⟩ hn (fun y hy => c_isShort (by omega) (fun _ _ => ⟨by decide, fun _ => on, fun q => absurd q (by decide)⟩) (fun _ => ⟨by decide, fun q => absurd rfl q, fun _ => gr e9⟩))⟩)
theorem c_sizeJumps {σ : ZS} {Q : Int → ZS → Prop} (h : LZ σ) (hQ : ∀ (x : Int) (τ : ZS), LZ τ → kp [11, 13, 15] σ τ → x = psum (zA τ 15 3) (zI τ 15 4).toNat → (0 ≤ x ∧ x ≤ 1200000) → Q x τ) : wpX2_sizeJumps σ Q := by
  have f33 : ∀ τ : ZS, LZ τ → kp [11, 13, 15] σ τ → wpX2_sizeJumps_33 τ Q := by
    intro τ lz kk
    have a4 := lz.1.2.2.2.1
    have a7 := lz.1.2.2.2.2.2.2.1
    unfold wpX2_sizeJumps_33 wpX2_sizeJumps_37
    refine lfp2_ind (fun _ v _ => (60 - v).toNat) (fun b v υ => υ = τ ∧ b = psum (zA τ 15 3) v.toNat ∧ (0 ≤ b ∧ b ≤ 20000 * v) ∧ (0 ≤ v ∧ v ≤ zI τ 15 4)) (fun K b v υ hI ih => ?_) ⟨rfl, rfl, by decide, by decide, a4.1⟩
    obtain ⟨e, hb, hb2, v0, v1⟩ := hI
    rw [e]
    unfold wpbX2_sizeJumps_37
    refine ⟨by omega, by omega, fun q => hQ b τ lz kk (by rw [show zI τ 15 4 = v by omega]; exact hb) (by omega), fun q => ⟨by omega, ih _ _ _ ⟨rfl, ?_, ?_, by omega, by omega⟩ (by omega)⟩⟩
    · rw [show (v + 1).toNat = v.toNat + 1 by omega]
      show b + zA τ 15 3 v = psum (zA τ 15 3) v.toNat + zA τ 15 3 ((v.toNat : Nat) : Int)
      rw [← hb, show ((v.toNat : Nat) : Int) = v by omega]
    · have := (a7 v v0 (by omega)).2
      omega
  unfold wpX2_sizeJumps wpX2_sizeJumps_2
  refine lfp1_ind (fun v _ => (249 - v).toNat) (fun v τ => LZ τ ∧ kp [11, 13, 15] σ τ ∧ (0 ≤ v ∧ v ≤ 249)) (fun K v τ hI ih => ?_) ⟨h, kp.rf, by decide⟩
  obtain ⟨lz, kk, hv⟩ := hI
  have hz := lz.1.sz
  unfold wpbX2_sizeJumps_2
  exact ⟨by omega, by omega, fun _ => f33 τ lz kk, fun q => c_measure lz (fun υ uz uk => c_growJumps uz (fun x ω hx wz wk => ⟨by omega, fun _ => ih _ _ ⟨wz, (kk.tr uk).tr wk, by omega⟩ (by omega), fun _ => f33 ω wz ((kk.tr uk).tr wk)⟩))⟩
theorem c_firstTooFar {σ : ZS} {Q : Int → ZS → Prop} (h : LZ σ) (hQ : ∀ x : Int, (-1 ≤ x ∧ x ≤ 480) → Q x σ) : wpX2_firstTooFar σ Q := by
  have hz := h.1.sz
  unfold wpX2_firstTooFar wpX2_firstTooFar_2
  refine lfp1_ind (fun v _ => (248 - v).toNat) (fun v τ => τ = σ ∧ (0 ≤ v ∧ v ≤ zI σ 13 7)) (fun K v τ hI ih => ?_) ⟨rfl, by decide, hz.1⟩
  obtain ⟨e, v0, v1⟩ := hI
  rw [e]
  unfold wpbX2_firstTooFar_2 wpX2_firstTooFar_48
  refine ⟨by omega, by omega, fun _ => hQ _ (by decide), fun lt => ?_⟩
  obtain ⟨i1, i2, i3, i4, i5, i6, i7, i8, i9, i10⟩ := h.1.it v0 (show v < zI σ 13 7 by omega)
  have on : K (v + 1) σ := ih _ _ ⟨rfl, by omega, by omega⟩ (by omega)
  refine ⟨by omega, by omega, fun _ => on, fun e10 => ?_⟩
  have hn := i6 (by omega) (by omega) (by omega)
  exact c_distance h.1 ⟨v0, by omega⟩ hn (fun y hy => c_isShort (by omega) (fun _ _ => ⟨by decide, fun _ => on, fun q => absurd q (by decide)⟩) (fun _ => ⟨by decide, fun q => absurd rfl q, fun _ => hQ _ i5⟩))
