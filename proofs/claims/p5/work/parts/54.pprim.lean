/-! P: the small steps of the parse -/
theorem GG_34 {σ : ZS} {a b : Int} (h : GG σ) : GG (zsI (zsI σ 0 3 a) 0 4 b) := h
theorem zsI_self {σ : ZS} {g : Int} {f : Nat} : zsI σ g f (zI σ g f) = σ := by
  obtain ⟨I, J⟩ := σ
  show (_, J) = (I, J)
  congr 1
  funext g' f'
  show (if g' = g then (if f' = f then I g f else I g' f') else I g' f') = I g' f'
  by_cases h : g' = g
  · rw [if_pos h]
    by_cases k : f' = f
    · rw [if_pos k, h, k]
    · rw [if_neg k]
  · rw [if_neg h]
theorem GG_37 {σ : ZS} {v : Int} (h : GG σ) (hv : 0 ≤ v ∧ v ≤ 5) : GG (zsI σ 0 37 v) := by
  obtain ⟨hT, ⟨l1, l2, l3, l4, l5, l6, l7, l8, l9, l10, l11, l12, l13, l14, l15, l16, l17, l18, l19⟩, hr⟩ := h
  exact ⟨hT, ⟨l1, l2, l3, l4, l5, l6, l7, l8, l9, l10, l11, l12, l13, hv, l15, l16, l17, l18, l19⟩, hr⟩
theorem GG_38 {σ : ZS} {v : Int} (h : GG σ) (hv : -100 ≤ v ∧ v ≤ 1000009) : GG (zsI σ 0 38 v) := by
  obtain ⟨hT, ⟨l1, l2, l3, l4, l5, l6, l7, l8, l9, l10, l11, l12, l13, l14, l15, l16, l17, l18, l19⟩, hr⟩ := h
  exact ⟨hT, ⟨l1, l2, l3, l4, l5, l6, l7, l8, l9, l10, l11, l12, l13, l14, hv, l16, l17, l18, l19⟩, hr⟩
theorem GG_39 {σ : ZS} {v : Int} (h : GG σ) (hv : -1 ≤ v ∧ v < 240) : GG (zsI σ 0 39 v) := by
  obtain ⟨hT, ⟨l1, l2, l3, l4, l5, l6, l7, l8, l9, l10, l11, l12, l13, l14, l15, l16, l17, l18, l19⟩, hr⟩ := h
  exact ⟨hT, ⟨l1, l2, l3, l4, l5, l6, l7, l8, l9, l10, l11, l12, l13, l14, l15, hv, l17, l18, l19⟩, hr⟩
theorem GG_40 {σ : ZS} {v : Int} (h : GG σ) : GG (zsI σ 0 40 v) := h
theorem GG_41 {σ : ZS} {v : Int} (h : GG σ) (hv : -1 ≤ v ∧ v ≤ 47) : GG (zsI σ 0 41 v) := by
  obtain ⟨hT, ⟨l1, l2, l3, l4, l5, l6, l7, l8, l9, l10, l11, l12, l13, l14, l15, l16, l17, l18, l19⟩, hr⟩ := h
  exact ⟨hT, ⟨l1, l2, l3, l4, l5, l6, l7, l8, l9, l10, l11, l12, l13, l14, l15, l16, hv, l18, l19⟩, hr⟩
theorem GG_42 {σ : ZS} {v : Int} (h : GG σ) (hv : -1 ≤ v ∧ v ≤ 47) : GG (zsI σ 0 42 v) := by
  obtain ⟨hT, ⟨l1, l2, l3, l4, l5, l6, l7, l8, l9, l10, l11, l12, l13, l14, l15, l16, l17, l18, l19⟩, hr⟩ := h
  exact ⟨hT, ⟨l1, l2, l3, l4, l5, l6, l7, l8, l9, l10, l11, l12, l13, l14, l15, l16, l17, hv, l19⟩, hr⟩
theorem GG_18 {σ : ZS} {v : Int} (h : GG σ) (hv : 0 ≤ v ∧ v ≤ 480) : GG (zsI σ 0 18 v) := by
  obtain ⟨hT, ⟨l1, l2, l3, l4, l5, l6, l7, l8, l9, l10, l11, l12, l13, l14, l15, l16, l17, l18, l19⟩, hk, hn, hw, h1, h2, h3, h4, h5, h6⟩ := h
  have nv : ¬ zI (zsI σ 0 18 v) 0 18 < 0 := by show ¬ v < 0; omega
  exact ⟨hT, ⟨l1, l2, l3, l4, l5, l6, l7, l8, l9, l10, l11, l12, (by show -1 ≤ v ∧ v ≤ 480; omega), l14, l15, l16, l17, l18, l19⟩, hk, hn, ⟨fun q => absurd q nv, fun q => absurd q nv⟩, h1, h2, h3, h4, h5, fun q => absurd q nv⟩
theorem PR_op {σ : ZS} {f : Nat} {v : Int} (hf : f ∈ ([3, 4, 37, 38, 39, 40, 41, 42] : List Nat)) : PR σ (zsI σ 0 f v) := by
  have e : ∀ k : Nat, k ∉ ([3, 4, 37, 38, 39, 40, 41, 42] : List Nat) → zI (zsI σ 0 f v) 0 k = zI σ 0 k := fun k hk => zI_nf (fun q => hk (q ▸ hf))
  have hm : ∀ f ∈ ([3, 4, 37, 38, 39, 40, 41, 42] : List Nat), f ∈ PF := by decide
  refine ⟨fr.i (hm f hf), ?_, ?_, ?_, fun _ _ _ => ⟨rfl, rfl⟩, ?_, ?_, ?_⟩
  · rw [e 6 (by decide)]; exact Int.le_refl _
  · rw [e 5 (by decide)]; exact Int.le_refl _
  · rw [e 23 (by decide)]; exact Int.le_refl _
  · rw [e 18 (by decide)]; exact fun h => h
  · rw [e 17 (by decide)]; exact Int.le_refl _
  · rw [e 33 (by decide)]; exact Int.le_refl _
theorem PR_18 {σ : ZS} {v : Int} (hv : 0 ≤ v) : PR σ (zsI σ 0 18 v) := ⟨fr.i (by decide), Int.le_refl _, Int.le_refl _, Int.le_refl _, fun _ _ _ => ⟨rfl, rfl⟩, fun _ => hv, Int.le_refl _, Int.le_refl _⟩
theorem s_fault {σ : ZS} {Q : Int → ZS → Prop} (h : Q 0 (zsI (zsI σ 0 3 1) 0 4 (zI σ 0 6))) : wpX11_fault σ Q := h
theorem PR_fault {σ : ZS} {a b : Int} : PR σ (zsI (zsI σ 0 3 a) 0 4 b) := PR.tr (PR_op (by decide)) (PR_op (by decide))
theorem s_isName {σ : ZS} {Q : Int → ZS → Prop} (hL : GL σ) (h1 : zI σ 0 7 = 1 → zI σ 0 9 = -1 → Q 1 σ) (h0 : Q 0 σ) : wpX11_isName σ Q := by
  obtain ⟨l1, l2, l3, l4, -⟩ := hL
  unfold wpX11_isName wpX11_isName_19 wpX11_isName_20
  exact ⟨by omega, fun _ => ⟨by omega, h0⟩, fun t => ⟨by omega, fun _ => ⟨by omega, h0⟩, fun c => ⟨by omega, h1 t (by omega)⟩⟩⟩
theorem s_isWord {σ : ZS} {a b : Int} {Q : Int → ZS → Prop} (hL : GL σ) (hab : -1000 ≤ a ∧ a ≤ 1000 ∧ -1000 ≤ b ∧ b ≤ 1000) (h1 : zI σ 0 7 = 1 → a ≤ zI σ 0 9 → zI σ 0 9 ≤ b → Q 1 σ) (h0 : Q 0 σ) : wpX11_isWord a b σ Q := by
  obtain ⟨l1, l2, l3, l4, -⟩ := hL
  unfold wpX11_isWord wpX11_isWord_28 wpX11_isWord_29
  exact ⟨by omega, fun _ => ⟨by omega, h0⟩, fun t => ⟨by omega, by omega, fun _ => ⟨by omega, h0⟩, fun c => ⟨by omega, fun _ => ⟨by omega, h0⟩, fun d => ⟨by omega, h1 t (by omega) (by omega)⟩⟩⟩⟩
theorem s_wrongAt {σ : ZS} {p : Int} {Q : ZS → Prop} (hL : GL σ) (hp : 0 ≤ p ∧ p ≤ 480) (hQ : ∀ w : Int, 0 ≤ w → w ≤ 480 → Q (zsI σ 0 18 w)) : wpX11_wrongAt p σ Q := by
  obtain ⟨-, -, -, -, -, -, -, -, -, -, -, -, l13, -⟩ := hL
  unfold wpX11_wrongAt wpX11_wrongAt_15 wpX11_wrongAt_20
  refine ⟨by omega, fun _ => hQ p hp.1 hp.2, fun h => ⟨by omega, fun _ => ?_, fun _ => hQ p hp.1 hp.2⟩⟩
  have := hQ (zI σ 0 18) (by omega) (by omega)
  rw [zsI_self] at this
  exact this
theorem s_take {σ : ZS} {a : Int} {Q : Int → ZS → Prop} (hG : GG σ) (ha : 1 ≤ a ∧ a ≤ 1000) (h1 : ∀ τ : ZS, GG τ → PR σ τ → fr [5, 6, 7, 8, 9, 10] [] σ τ → zI σ 0 5 ≤ zI τ 0 6 → zI σ 0 6 + 1 ≤ zI τ 0 6 → Fresh τ → Q 1 τ) (h0 : Q 0 (zsI (zsI σ 0 3 1) 0 4 (zI σ 0 6))) : wpX11_take a σ Q := by
  have hL := hG.2.1
  obtain ⟨l1, l2, l3, l4, -⟩ := hL
  unfold wpX11_take
  refine ⟨by omega, by omega, fun t => s_nextG hG (fun τ g r f _ s5 _ fs => h1 τ g r f s5 ?_ fs), fun _ => s_fault ⟨by omega, h0⟩⟩
  have := hG.2.2.1.2.1 (by omega)
  omega
theorem s_name {σ : ZS} {Q : Int → ZS → Prop} (hG : GG σ) (ht : zI σ 0 7 = 1) (hF : Fresh σ) (hQ : ∀ (n : Int) (τ : ZS), 0 ≤ n → n < 240 → n < zI τ 0 17 → GG τ → PR σ τ → fr [17, 18] [12, 13] σ τ → Q n τ) : wpX11_name σ Q := by
  have hG0 := hG
  obtain ⟨hT, hL, hk, hn, hw, h1, h2, h3, h4, h5, h6⟩ := hG
  have hL0 := hL
  obtain ⟨l1, l2, l3, l4, l5, l6, l7, l8, l9, l10, l11, l12, l13, l14, l15, l16, l17, l18, l19⟩ := hL
  have hf := hF ht
  have hst := hk.2.1 (by omega)
  unfold wpX11_name wpX11_name_2
  refine lfp1_ind (fun k _ => (240 - k).toNat) (fun k τ => τ = σ ∧ 0 ≤ k ∧ k ≤ zI σ 0 17) ?_ ⟨rfl, by omega, by omega⟩
  intro P k τ hI hP
  obtain ⟨rfl, hk0, hk1⟩ := hI
  have hfin : (k < zI τ 0 17 → wpX11_name_30 k τ Q) ∧ (k = zI τ 0 17 → wpX11_name_30 k τ Q) := by
    constructor
    · intro hlt
      unfold wpX11_name_30 wpX11_name_82
      exact ⟨by omega, by omega, fun _ => hQ k τ hk0 (by omega) hlt hG0 PR.rf fr.rf, fun q => by omega⟩
    · intro heq
      unfold wpX11_name_30 wpX11_name_82
      have hfr : fr [17, 18] [12, 13] τ (zsI (zsA (zsA τ 0 12 k (zI τ 0 8)) 0 13 k 0) 0 17 (zI τ 0 17 + 1)) := ((fr.rf.ta (by decide)).ta (by decide)).ti (by decide)
      have hPR : PR τ (zsI (zsA (zsA τ 0 12 k (zI τ 0 8)) 0 13 k 0) 0 17 (zI τ 0 17 + 1)) := ⟨hfr.up (by decide) (by decide), Int.le_refl _, Int.le_refl _, Int.le_refl _, fun _ _ _ => ⟨rfl, rfl⟩, fun h => h, (by show zI τ 0 17 ≤ zI τ 0 17 + 1; omega), Int.le_refl _⟩
      have a13 : ∀ n : Int, n ≠ k → zA (zsI (zsA (zsA τ 0 12 k (zI τ 0 8)) 0 13 k 0) 0 17 (zI τ 0 17 + 1)) 0 13 n = zA τ 0 13 n := fun n hne => pu_ne (h := zA τ 0 13) hne
      have a13k : zA (zsI (zsA (zsA τ 0 12 k (zI τ 0 8)) 0 13 k 0) 0 17 (zI τ 0 17 + 1)) 0 13 k = 0 := pu_eq (h := zA τ 0 13)
      have hGA1 : G1 (zsI (zsA (zsA τ 0 12 k (zI τ 0 8)) 0 13 k 0) 0 17 (zI τ 0 17 + 1)) := by
        intro n n0 n1
        obtain ⟨q1, q2, q3, q4⟩ := h1 n n0 n1
        refine ⟨?_, q2, q3, ?_⟩
        · by_cases e : n = k
          · rw [e, a13k]; omega
          · rw [a13 n e]; exact q1
        · show 0 ≤ zu (zA τ 0 12) k (zI τ 0 8) n ∧ zu (zA τ 0 12) k (zI τ 0 8) n ≤ 72057594037927936
          by_cases e : n = k
          · rw [e, pu_eq]; omega
          · rw [pu_ne e]; exact q4
      have hGA4 : G4 (zsI (zsA (zsA τ 0 12 k (zI τ 0 8)) 0 13 k 0) 0 17 (zI τ 0 17 + 1)) := by
        refine ⟨h4.1, fun s s0 s1 => ?_, fun n n0 n1 => ?_⟩
        · obtain ⟨q1, q2, q3, q4⟩ := h4.2.1 s s0 s1
          refine ⟨?_, ?_, q3, q4⟩
          · show zA τ 0 35 s < zI τ 0 17 + 1
            omega
          · show zA (zsI (zsA (zsA τ 0 12 k (zI τ 0 8)) 0 13 k 0) 0 17 (zI τ 0 17 + 1)) 0 13 (zA τ 0 35 s) = 1
            rw [a13 _ (by omega)]; exact q2
        · have n1' : n < zI τ 0 17 + 1 := n1
          by_cases e : n = k
          · rw [e, a13k]; exact ⟨fun q => absurd q (by decide), fun q => absurd q (by decide)⟩
          · rw [a13 n e]; exact h4.2.2 n n0 (by omega)
      have hGA5 : G5 (zsI (zsA (zsA τ 0 12 k (zI τ 0 8)) 0 13 k 0) 0 17 (zI τ 0 17 + 1)) := ⟨fun u u0 u1 => by
        have := h5.1 u u0 u1
        show zA τ 0 20 u < zI τ 0 17 + 1
        omega, h5.2⟩
      have hGA6 : G6 (zsI (zsA (zsA τ 0 12 k (zI τ 0 8)) 0 13 k 0) 0 17 (zI τ 0 17 + 1)) := fun hwr => ⟨(h6 hwr).1, fun n n0 n1 => by
        have n1' : n < zI τ 0 17 + 1 := n1
        by_cases e : n = k
        · rw [e, a13k]; exact fun q => absurd q (by decide)
        · rw [a13 n e]; exact (h6 hwr).2 n n0 (by omega)⟩
      have hLL : GL (zsI (zsA (zsA τ 0 12 k (zI τ 0 8)) 0 13 k 0) 0 17 (zI τ 0 17 + 1)) := ⟨l1, l2, l3, l4, l5, l6, (by show 0 ≤ zI τ 0 17 + 1 ∧ 2 * (zI τ 0 17 + 1) ≤ zI τ 0 5 + 1; omega), l8, l9, l10, l11, l12, l13, l14, l15, l16, l17, l18, l19⟩
      have hnn : Gn (zsI (zsA (zsA τ 0 12 k (zI τ 0 8)) 0 13 k 0) 0 17 (zI τ 0 17 + 1)) := fun _ t => absurd ht t
      refine ⟨by omega, by omega, fun q => absurd heq q, fun _ => ⟨by omega, by omega, fun h24 => ?_, fun h24 => ?_⟩⟩
      · refine hQ k _ hk0 (by omega) (by show k < zI τ 0 17 + 1; omega) ⟨hT, hLL, hk, hnn, ⟨fun _ => h24, hw.2⟩, hGA1, h2, h3, hGA4, hGA5, hGA6⟩ hPR hfr
      · refine s_wrongAt hLL (by omega) (fun w w0 w1 => ?_)
        have hLw : GL (zsI (zsI (zsA (zsA τ 0 12 k (zI τ 0 8)) 0 13 k 0) 0 17 (zI τ 0 17 + 1)) 0 18 w) := ⟨l1, l2, l3, l4, l5, l6, (by show 0 ≤ zI τ 0 17 + 1 ∧ 2 * (zI τ 0 17 + 1) ≤ zI τ 0 5 + 1; omega), l8, l9, l10, l11, l12, (by show -1 ≤ w ∧ w ≤ 480; omega), l14, l15, l16, l17, l18, l19⟩
        have nw : ¬ zI (zsI (zsI (zsA (zsA τ 0 12 k (zI τ 0 8)) 0 13 k 0) 0 17 (zI τ 0 17 + 1)) 0 18 w) 0 18 < 0 := by show ¬ w < 0; omega
        refine hQ k _ hk0 (by omega) (by show k < zI τ 0 17 + 1; omega) ⟨hT, hLw, hk, hnn, ⟨fun q => absurd q nw, fun q => absurd q nw⟩, hGA1, h2, h3, hGA4, hGA5, fun q => absurd q nw⟩ (hPR.tr (PR_18 w0)) (hfr.ti (by decide))
  unfold wpbX11_name_2
  have hkn : k < zI τ 0 17 → 0 ≤ zA τ 0 12 k ∧ zA τ 0 12 k ≤ 72057594037927936 := fun q => (h1 k hk0 (by omega)).2.2.2
  refine ⟨by omega, by omega, fun q => hfin.2 (by omega), fun q => ⟨by omega, ?_, by omega, fun _ => hfin.1 (by omega), fun _ => hP _ _ ⟨rfl, by omega, by omega⟩ (by omega)⟩⟩
  have := hkn (by omega)
  omega
