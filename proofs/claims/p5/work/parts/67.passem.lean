/-! P: the reference assembles -/
theorem psum_le {f g : Int → Int} : ∀ n : Nat, (∀ j : Int, 0 ≤ j → j < n → f j ≤ g j) → psum f n ≤ psum g n
  | 0, _ => Int.le_refl 0
  | n + 1, h => by
    have h1 := psum_le n (fun j a b => h j a (by omega))
    have h2 := h n (by omega) (by omega)
    show psum f n + f n ≤ psum g n + g n
    omega
theorem psum_add {f g : Int → Int} : ∀ n : Nat, psum (fun j => f j + g j) n = psum f n + psum g n
  | 0 => rfl
  | n + 1 => by
    show psum (fun j => f j + g j) n + (f n + g n) = psum f n + f n + (psum g n + g n)
    rw [psum_add n]; omega
theorem psum_one {a : Int} : ∀ n : Nat, psum (fun j => if j = a then 1 else 0) n ≤ if a < n then 1 else 0
  | 0 => by show (0 : Int) ≤ _; split <;> decide
  | n + 1 => by
    have h := psum_one (a := a) n
    show psum (fun j => if j = a then 1 else 0) n + (if (n : Int) = a then 1 else 0) ≤ _
    revert h
    split <;> split <;> split <;> intro h <;> omega
theorem psum_const : ∀ n : Nat, psum (fun _ => 1) n = n
  | 0 => rfl
  | n + 1 => by
    show psum (fun _ => 1) n + 1 = ((n + 1 : Nat) : Int)
    rw [psum_const n]; omega
theorem pig {f g : Int → Int} {n : Nat} : ∀ k : Nat, (∀ s : Int, 0 ≤ s → s < n → 0 ≤ f s ∧ g (f s) = s) → psum (fun s => if f s < k then 1 else 0) n ≤ k
  | 0, h => by
    rw [psum_ext (g := fun _ => 0) n (fun j a b => by show (if f j < ((0 : Nat) : Int) then (1 : Int) else 0) = 0; have := h j a b; rw [if_neg (by omega)])]
    have : ∀ m : Nat, psum (fun _ => 0) m = 0 := by
      intro m
      induction m with
      | zero => rfl
      | succ m ih => show psum (fun _ => 0) m + 0 = 0; rw [ih]; rfl
    rw [this]; omega
  | k + 1, h => by
    have h1 := pig k h
    have h2 := psum_one (a := g k) n
    have h3 : psum (fun s => if f s < ((k + 1 : Nat) : Int) then (1 : Int) else 0) n ≤ psum (fun j => (fun s => if f s < (k : Int) then (1 : Int) else 0) j + (fun j => if j = g k then (1 : Int) else 0) j) n := by
      refine psum_le n (fun j a b => ?_)
      show (if f j < ((k + 1 : Nat) : Int) then (1 : Int) else 0) ≤ (if f j < (k : Int) then (1 : Int) else 0) + (if j = g k then (1 : Int) else 0)
      by_cases e1 : f j < (k : Int)
      · rw [if_pos e1, if_pos (by omega)]; split <;> decide
      · by_cases e2 : f j = (k : Int)
        · have e3 : j = g k := by rw [← e2]; exact (h j a b).2.symm
          rw [if_neg e1, if_pos e3]; split <;> decide
        · rw [if_neg (by omega), if_neg e1]; split <;> decide
    rw [psum_add] at h3
    have h4 : (if g k < (n : Int) then (1 : Int) else 0) ≤ 1 := by split <;> decide
    omega
theorem pigeon {f g : Int → Int} {n k : Int} (hn : 0 ≤ n) (hk : 0 ≤ k) (h : ∀ s : Int, 0 ≤ s → s < n → (0 ≤ f s ∧ f s < k) ∧ g (f s) = s) : n ≤ k := by
  have h1 := pig (f := f) (g := g) (n := n.toNat) k.toNat (fun s a b => ⟨(h s a (by omega)).1.1, (h s a (by omega)).2⟩)
  rw [psum_ext (g := fun _ => 1) n.toNat (fun j a b => by show (if f j < ((k.toNat : Nat) : Int) then (1 : Int) else 0) = 1; have := h j a (by omega); rw [if_pos (by omega)]), psum_const] at h1
  omega
abbrev HA : List Nat := [16, 29, 30, 36, 43, 44, 45, 46, 47, 48, 49, 50, 51, 52, 53, 54, 55, 56, 57, 58, 59]
theorem PA0.up {σ τ : ZS} (h : PA0 σ) (i : ∀ f : Nat, f ∉ [0, 3, 4, 18] → zI τ 0 f = zI σ 0 f) (a : ∀ j : Nat, j ∉ HA → zA τ 0 j = zA σ 0 j) (g3 : G3 τ) : PA0 τ := by
  obtain ⟨hT, hL, h1, h2, h3, h4⟩ := h
  refine ⟨?_, ?_, ?_, ?_, g3, ?_⟩
  · unfold Tx; rw [i 2 (by decide), a 1 (by decide), a 11 (by decide)]; exact hT
  · rw [i 9 (by decide), i 10 (by decide), i 8 (by decide), i 37 (by decide), i 38 (by decide), i 39 (by decide), i 41 (by decide), i 42 (by decide)]; exact hL
  · unfold G1; rw [a 12 (by decide), a 13 (by decide), a 14 (by decide), a 15 (by decide)]; exact h1
  · unfold G2; rw [a 19 (by decide), a 20 (by decide), a 21 (by decide), a 22 (by decide)]; exact h2
  · rw [a 35 (by decide)]; exact h4
theorem GM.up {σ τ : ZS} (h : GM σ) (a : ∀ j : Nat, j ∈ WA → zA τ 0 j = zA σ 0 j) : GM τ := by
  unfold GM; rw [a 45 (by decide), a 55 (by decide), a 57 (by decide), a 49 (by decide), a 43 (by decide)]; exact h
theorem MI.up {σ τ : ZS} {n : Int} (h : MI σ n) (a : ∀ j : Nat, j ∈ WA → zA τ 0 j = zA σ 0 j) : MI τ n := by
  unfold MI; rw [a 44 (by decide), a 50 (by decide), a 56 (by decide), a 47 (by decide), a 48 (by decide), a 46 (by decide), a 51 (by decide), a 52 (by decide), a 53 (by decide), a 54 (by decide), a 58 (by decide), a 59 (by decide)]; exact h
theorem OFs.up {σ τ : ZS} (h : OFs σ) (a : zA τ 0 16 = zA σ 0 16) : OFs τ := by unfold OFs; rw [a]; exact h
/-- what stands between calls, assembler's side -/
def RA (σ : ZS) : Prop := PA0 σ ∧ OFs σ ∧ GM σ ∧ (∀ n : Int, 0 ≤ n → n ≤ 2 → MI σ n)
abbrev AF : List Nat := [0, 2, 3, 4, 5, 6, 7, 8, 9, 10, 17, 18, 23, 31, 32, 33, 34, 37, 38, 39, 40, 41, 42]
abbrev AA : List Nat := [12, 13, 14, 15, 16, 19, 20, 21, 22, 24, 25, 26, 27, 28, 29, 30, 35, 36, 43, 44, 45, 46, 47, 48, 49, 50, 51, 52, 53, 54, 55, 56, 57, 58, 59]
theorem s_assemble {σ : ZS} {a : Int} {Q : Int → ZS → Prop} (hR : RA σ) (ha : -2147483648 ≤ a ∧ a ≤ 2147483647) (hQ : ∀ (r : Int) (τ : ZS), RA τ → fr AF AA σ τ → (0 ≤ r ∧ r ≤ 400) → zI τ 0 2 = (if 0 ≤ a ∧ a ≤ 2 then 0 else zI σ 0 2) → Q r τ) : wpX11_assemble a σ Q := by
  have hQ0 : ¬ (0 ≤ a ∧ a ≤ 2) → wpX11_assemble_14 (zsI σ 0 0 0) Q := by
    intro hn
    refine hQ 0 _ hR (((fr.rf.ti (by decide)).ti (by decide))) (by decide) ?_
    rw [if_neg hn]; rfl
  unfold wpX11_assemble
  refine ⟨ha, fun n => hQ0 (by omega), fun nn => ⟨fun le => ?_, fun nle => hQ0 (by omega)⟩⟩
  have hA : 0 ≤ a ∧ a ≤ 2 := by omega
  obtain ⟨hP, hO, hG, hM⟩ := hR
  have hPz : PA0 (zsI σ 0 0 0) := hP
  refine s_parse hPz (fun r τ g hf hr => ?_)
  have hf1 : fr AF AA σ τ := (show fr AF AA σ (zsI σ 0 0 0) from fr.i (by decide)).tr (hf.up (by decide) (by decide))
  have hw1 : ∀ j : Nat, j ∈ WA → zA τ 0 j = zA σ 0 j := fun j hj => hf.2 j (fun q => absurd hj ((show ∀ k ∈ PA, k ∉ WA by decide) j q))
  have hO1 : OFs τ := hO.up (hf.2 16 (by decide))
  have hG1 : GM τ := hG.up hw1
  have hM1 : ∀ n : Int, 0 ≤ n → n ≤ 2 → MI τ n := fun n a b => (hM n a b).up hw1
  obtain ⟨pT, pL, p1, p2, p3, p4⟩ := g.pa0
  have hP1 : PA0 (zsI τ 0 2 0) := ⟨⟨(show (0 : Int) ≤ 0 ∧ (0 : Int) ≤ 480 from ⟨by decide, by decide⟩), fun j j0 j1 => absurd j1 (by show ¬ j < 0; omega), pT.2.2⟩, pL, p1, p2, p3, p4⟩
  have hAI := g.ai
  refine ⟨by omega, fun n0 => ?_, fun _ => hQ 0 _ ⟨hP1, hO1, hG1, hM1⟩ ((hf1.ti (by decide)).ti (by decide)) (by decide) (by rw [if_pos hA]; rfl)⟩
  obtain ⟨α, hα⟩ : ∃ α, α = zsI τ 0 2 0 := ⟨_, rfl⟩
  have hfα : fr AF AA σ α := by rw [hα]; exact hf1.ti (by decide)
  have hOα : OFs α := by rw [hα]; exact hO1
  have hGα : GM α := by rw [hα]; exact hG1
  have hMα : ∀ n : Int, 0 ≤ n → n ≤ 2 → MI α n := by rw [hα]; exact hM1
  have hzα : zI α 0 2 = 0 := by rw [hα]; rfl
  rw [← hα] at hP1 hAI
  rw [← hα]
  refine s_judge hAI (fun β hB hfβ hj => ?_)
  have iβ : ∀ f : Nat, f ≠ 18 → zI β 0 f = zI α 0 f := fun f hf' => hfβ.1 f (by simpa using hf')
  have aβ : ∀ j : Nat, zA β 0 j = zA α 0 j := fun j => hfβ.2 j (by simp)
  have hBf : fr AF AA σ β := hfα.tr (hfβ.up (by decide) (by decide))
  have h3β : G3 β := hB.2.2.2.2.1
  have hPβ : PA0 β := hP1.up (fun f hf' => iβ f (fun e => hf' (by rw [e]; decide))) (fun j _ => aβ j) h3β
  have hOβ : OFs β := hOα.up (aβ 16)
  have hGβ : GM β := hGα.up (fun j _ => aβ j)
  have hMβ : ∀ n : Int, 0 ≤ n → n ≤ 2 → MI β n := fun n x y => (hMα n x y).up (fun j _ => aβ j)
  have h2β : zI β 0 2 = 0 := by rw [iβ 2 (by decide)]; exact hzα
  obtain ⟨⟨c17, c23, c31, c34, c18, ccn⟩, cw, g1, g2, g3, g4, g5, g6⟩ := hB
  refine ⟨by omega, fun neg => ?_, fun _ => hQ 0 _ ⟨hPβ, hOβ, hGβ, hMβ⟩ (((hBf.ti (by decide)).ti (by decide)).ti (by decide)) (by decide) (by rw [if_pos hA]; exact h2β)⟩
  have hjd := (hj neg).2
  have hcw := cw neg
  have h6 := g6 neg
  refine s_settle g1 g3 hOβ ⟨c31, c34, h6.1⟩ (fun γ hfγ h3γ hOγ hLγ hne => ?_)
  have iγ : ∀ f : Nat, zI γ 0 f = zI β 0 f := fun f => hfγ.1 f (by simp)
  have aγ : ∀ j : Nat, j ∉ [16, 29, 30, 36] → zA γ 0 j = zA β 0 j := hfγ.2
  have hγf : fr AF AA σ γ := hBf.tr (hfγ.up (by decide) (by decide))
  have hPγ : PA0 γ := hPβ.up (fun f _ => iγ f) (fun j hj' => aγ j (fun q => hj' ((show ∀ k ∈ [16, 29, 30, 36], k ∈ HA by decide) j q))) h3γ
  have hwγ : ∀ j : Nat, j ∈ WA → zA γ 0 j = zA β 0 j := fun j hj' => aγ j (fun q => absurd hj' ((show ∀ k ∈ [16, 29, 30, 36], k ∉ WA by decide) j q))
  have hGγ : GM γ := hGβ.up hwγ
  have hMγ : ∀ n : Int, 0 ≤ n → n ≤ 2 → MI γ n := fun n x y => (hMβ n x y).up hwγ
  have h2γ : zI γ 0 2 = 0 := by rw [iγ]; exact h2β
  have h24 : zI β 0 34 ≤ 24 := by
    have := pigeon (f := zA β 0 35) (g := zA β 0 14) (n := zI β 0 34) (k := zI β 0 17) c34.1 c17.1 (fun s s0 s1 => ⟨⟨(g4.1 s s0 (by omega)).1, (g4.2.1 s s0 s1).1⟩, (g4.2.1 s s0 s1).2.2.1⟩)
    omega
  have hWC : psum (zA γ 0 36) (zI γ 0 34).toNat ≤ 400 → WC γ := by
    intro hs
    unfold WC G1 G2 Sg
    rw [iγ 31, iγ 34, iγ 23] at *
    rw [aγ 12 (by decide), aγ 13 (by decide), aγ 14 (by decide), aγ 15 (by decide), aγ 19 (by decide), aγ 20 (by decide), aγ 21 (by decide), aγ 22 (by decide), aγ 24 (by decide), aγ 25 (by decide), aγ 28 (by decide), aγ 35 (by decide)]
    refine ⟨g1, g2, h3γ, hOγ, hLγ, ⟨c31, c34, h6.1⟩, h24, fun s s0 s1 => ⟨g4.1 s s0 (by omega), (g4.2.1 s s0 s1).2.2.2⟩, hs, hne, fun p p0 p1 hk => ?_, fun u u0 u1 hz => ?_, c23, ccn⟩
    · obtain ⟨u, u0, u1, ue, uk⟩ := g5.2 p p0 p1 hk
      have hu := hjd u u0 u1
      have hn := (g2 u u0 (by omega)).2.1
      have hn17 := g5.1 u u0 u1
      rw [← ue]
      have hg := g1 _ hn.1 hn.2
      have hg4 := g4.2.2 _ hn.1 hn17
      refine ⟨hg.2.1.1, fun n3 => ?_⟩
      have hs0 : zA β 0 13 (zA β 0 20 u) = 1 ∨ zA β 0 13 (zA β 0 20 u) = 2 := by
        rcases uk with k | k
        · have := hu.2.1 k; omega
        · have := hu.2.2 k; omega
      rcases hs0 with k | k
      · exact (hg4.1 k).2
      · rcases hg4.2 k with e | e
        · omega
        · exact e
    · have hu := (hjd u u0 u1).1 hz
      have hn := (g2 u u0 (by omega)).2.1
      have hn17 := g5.1 u u0 u1
      have hg4 := (g4.2.2 _ hn.1 hn17).2 hu
      have hg6 := h6.2 _ hn.1 hn17 hu
      omega
  have i31 := iγ 31
  have i34 := iγ 34
  have hszn : ∀ j : Int, 0 ≤ j → j < ((zI γ 0 34).toNat : Int) → 0 ≤ zA γ 0 36 j := fun j x y => (hLγ.1 j x (by omega)).1
  have hps : ∀ s : Int, 0 ≤ s → psum (zA γ 0 36) (s + 1).toNat = psum (zA γ 0 36) s.toNat + zA γ 0 36 s := by
    intro s s0
    rw [show (s + 1).toNat = s.toNat + 1 by omega]
    show psum (zA γ 0 36) s.toNat + zA γ 0 36 ((s.toNat : Nat) : Int) = _
    rw [show ((s.toNat : Nat) : Int) = s by omega]
  have tell : ∀ (x y z : Int), Q 0 (zsI (zsI (zsI γ 0 3 x) 0 4 y) 0 0 z) := fun x y z => hQ 0 _ ⟨hPγ, hOγ, hGγ, hMγ⟩ (((hγf.ti (by decide)).ti (by decide)).ti (by decide)) (by decide) (by rw [if_pos hA]; exact h2γ)
  have f114 : ∀ v3 : Int, (0 ≤ v3 ∧ v3 ≤ 400) → psum (zA γ 0 36) (zI γ 0 34).toNat ≤ 400 → wpX11_assemble_114 a v3 0 γ Q := by
    intro v3 hv3 hs
    have hW := hWC hs
    unfold wpX11_assemble_114
    refine lfp1_ind (fun v _ => (zI γ 0 31 - v).toNat) (fun v τ => τ = γ ∧ (0 ≤ v ∧ v ≤ zI γ 0 31)) ?_ ⟨rfl, by omega⟩
    intro P v τ ⟨he, hv⟩ ih
    rw [he]
    show wpbX11_assemble_114 P a v3 v γ Q
    unfold wpbX11_assemble_114 wpX11_assemble_160
    have next : v < zI γ 0 31 → P (v + 1) γ := fun q => ih (v + 1) γ ⟨rfl, by omega⟩ (by show (zI γ 0 31 - (v + 1)).toNat < (zI γ 0 31 - v).toNat; omega)
    refine ⟨by omega, by omega, fun e => ?_, fun ne => ?_⟩
    · refine s_write hW hGγ hA (fun υ hfu hOu hGu hMu => ?_)
      have hPu : PA0 υ := by
        refine hPγ.up (fun f _ => hfu.1 f (by simp)) (fun j hj' => hfu.2 j (fun q => hj' ((show ∀ k ∈ WA, k ∈ HA by decide) j q))) ?_
        unfold G3; rw [hfu.2 24 (by decide), hfu.2 25 (by decide), hfu.2 26 (by decide), hfu.2 27 (by decide), hfu.2 28 (by decide), hfu.2 30 (by decide)]; exact h3γ
      have hOu' : OFs υ := hOγ.up (hfu.2 16 (by decide))
      refine hQ _ _ ⟨hPu, hOu', hGu, fun n n0 n1 => ?_⟩ (((hγf.tr (hfu.up (by decide) (by decide))).ti (by decide)).ti (by decide)) hv3 ?_
      · show MI υ n
        by_cases e : n = a
        · rw [e]; exact hMu
        · exact (hMγ n n0 n1).ou hOu hA ⟨n0, n1⟩ e
      · rw [if_pos hA]
        show zI υ 0 2 = 0
        rw [hfu.1 2 (by simp)]; exact h2γ
    · have hq := h3γ v hv.1 (by omega)
      refine ⟨by omega, by omega, fun _ => next (by omega), fun e5 => ?_⟩
      have hn := hq.2.1 (by omega) (by omega)
      have hof := hOγ _ hn.1 hn.2
      have hat := hLγ.2.1 v hv.1 (by omega)
      have hsz := szp_bd h3γ hv.1 (by omega)
      refine s_distance h3γ (by omega) hn ?_
      refine s_isShort (by omega) (fun _ _ => ⟨by decide, fun _ => next (by omega), fun q => absurd q (by decide)⟩) (fun _ => ⟨by decide, fun q => absurd rfl q, fun _ => tell _ _ _⟩)
  unfold wpX11_assemble_71
  refine lfp2_ind (fun _ v _ => (zI γ 0 34 - v).toNat) (fun x v τ => τ = γ ∧ (0 ≤ v ∧ v ≤ zI γ 0 34) ∧ x = psum (zA γ 0 36) v.toNat ∧ (0 ≤ x ∧ x ≤ 62000 * v)) ?_ ⟨rfl, by omega, rfl, by omega⟩
  intro P x v τ ⟨he, hv, hx, hxb⟩ ih
  rw [he]
  show wpbX11_assemble_71 P a x v γ Q
  unfold wpbX11_assemble_71
  refine ⟨by omega, by omega, fun e => ⟨by omega, fun le4 => ?_, fun _ => tell _ _ _⟩, fun ne => ⟨by omega, ih _ _ _ ⟨rfl, by omega, ?_, ?_⟩ (by show (zI γ 0 34 - (v + 1)).toNat < (zI γ 0 34 - v).toNat; omega)⟩⟩
  · have hev : v = zI γ 0 34 := by omega
    refine f114 x ⟨hxb.1, le4⟩ ?_
    rw [← hev, ← hx]; exact le4
  · rw [hps v hv.1, hx]
  · have := hLγ.1 v hv.1 (by omega)
    omega
