/-! Y: the reference links, its answer told -/
def APw (σ : ZS) (t : CbS) : Prop := ∀ m k m' k' : Int, (0 ≤ m ∧ m ≤ 2) → zA σ 0 43 m ≠ 0 → (0 ≤ k ∧ k < zA σ 0 50 m) → zA σ 0 51 (200 * m + k) = 2 → PPr σ (zA σ 0 55 (200 * m + k)) m' k' → t.wh (24 * m + zA σ 0 52 (200 * m + k)) = t.wh (24 * m' + zA σ 0 58 (80 * m' + k'))
def LE (t : CbS) : Int := pE t.sz t.n.toNat
def LO (σ : ZS) (t : CbS) (cd r : Int) : Prop := (cd = 1 ∧ ∀ m : Int, 0 ≤ m → m ≤ 2 → zA σ 0 43 m = 0) ∨ ((∃ m : Int, (0 ≤ m ∧ m ≤ 2) ∧ zA σ 0 43 m ≠ 0) ∧ ((cd = 2 ∧ ¬ NTr σ) ∨ (NTr σ ∧ ((cd = 3 ∧ ¬ NoMiss σ) ∨ (NoMiss σ ∧ ((cd = 3 ∧ ¬ Pub σ 1835100526) ∨ (Pub σ 1835100526 ∧ ((cd = 4 ∧ 1200 < LE t) ∨ (LE t ≤ 1200 ∧ ((cd = 5 ∧ ¬ APw σ t) ∨ (cd = 0 ∧ APw σ t ∧ r = LE t)))))))))))
theorem y_link {σ : ZS} {Q : Int → ZS → Prop} (hA : MA σ) (hI : IG σ) (hn : ∀ m k : Int, (0 ≤ m ∧ m ≤ 2) → zA σ 0 43 m ≠ 0 → (0 ≤ k ∧ k < zA σ 0 50 m) → zA σ 0 51 (200 * m + k) = 2 → zA σ 0 54 (200 * m + k) < 0) (hu : NTr σ → ∀ w m k m' k' : Int, PPr σ w m k → PPr σ w m' k' → 24 * m + zA σ 0 58 (80 * m + k) = 24 * m' + zA σ 0 58 (80 * m' + k')) (hQ : ∀ (cd r : Int) (τ : ZS), IG τ → fr KF KA σ τ → (0 ≤ r ∧ r ≤ 1200) → zI τ 0 0 = cd → LO σ (cAl (zA σ 0 45) (zA σ 0 46) (zA σ 0 48) (cR σ) 3) cd r → Q r τ) : wpX11_link σ Q := by
  -- behind the checks
  have f142 : ∀ (τ : ZS) (m0 k0 : Int), fr KF KA σ τ → LK τ → IG τ → (0 ≤ m0 ∧ m0 ≤ 2) → zA τ 0 43 m0 ≠ 0 → (0 ≤ k0 ∧ k0 < zA τ 0 56 m0) → zI τ 0 0 = 0 → LO σ (cAl (zA σ 0 45) (zA σ 0 46) (zA σ 0 48) (cR σ) 3) 0 (zA τ 0 67 0) → wpX11_link_142 (80 * m0 + k0) (zA τ 0 67 0) 0 τ Q := by
    intro τ m0 k0 hf hL hIt hm0 h43 hk0 hz0 hlo
    have hAt := hL.1
    have hC := hL.2.1
    have h73 := hC.1
    have h1200 := hL.2.2.2
    have hend := hC.2.2.2
    -- the end
    have f302 : ∀ υ : ZS, fr [60, 62, 64] [61, 63] τ υ → IM υ → zI υ 0 60 = 1 → zI υ 0 62 = zA τ 0 67 0 → zI υ 0 64 = 0 → wpX11_link_302 0 (80 * m0 + k0) (zA τ 0 67 0) υ Q := by
      intro υ0 hf0 hI0 h60 h62 h640
      unfold wpX11_link_302
      refine lfp1_ind (fun v _ => (3 - v).toNat) (fun v υ => (0 ≤ v ∧ v ≤ 3) ∧ fr [60, 62, 64] [61, 63] τ υ ∧ IM υ ∧ zI υ 0 60 = 1 ∧ zI υ 0 62 = zA τ 0 67 0 ∧ (0 ≤ zI υ 0 64 ∧ zI υ 0 64 ≤ 200 * v)) ?_ ⟨by omega, hf0, hI0, h60, h62, by omega⟩
      intro P m υ ⟨hm, hfu, hIu, u60, u62, u64⟩ ih
      show wpbX11_link_302 P (80 * m0 + k0) (zA τ 0 67 0) m υ Q
      unfold wpbX11_link_302
      have hLu : LK υ := hL.up hfu.2 (hfu.1 73 (by decide))
      refine ⟨by omega, fun _ => ?_, fun nq => ?_⟩
      · have hMI := hAt.2 m0 hm0.1 hm0.2
        have h56 := hMI.1.2.2
        have h44 := hMI.1.1
        have hp := hMI.2.2.2 k0 hk0.1 hk0.2
        have e : (80 * m0 + k0) / 80 = m0 := by omega
        have hc := hC.2.1 m0 _ hm0.1 hm0.2 hp.1.1 hp.1.2 h43
        have hd := hC.2.2.1 _ hc.1.1 hc.1.2
        have hs := hMI.2.1 _ hp.1.1 hp.1.2
        rw [e, hfu.2 58 (by decide), hfu.2 59 (by decide), hfu.2 70 (by decide), hfu.2 71 (by decide), hfu.2 72 (by decide)]
        refine ⟨by omega, by omega, by omega, by omega, by omega, hQ 0 _ _ ⟨hIu, ?_, ?_, ?_, ?_, ?_⟩ ((((hf.tr (hfu.up (by decide) (by decide))).ti (by decide)).ti (by decide)).ti (by decide) |>.ti (by decide)) (by omega) (by show zI υ 0 0 = 0; rw [hfu.1 0 (by decide)]; exact hz0) hlo⟩
        · show 0 ≤ zI υ 0 62 ∧ zI υ 0 62 ≤ 1200; omega
        · show 0 ≤ zI υ 0 64 ∧ zI υ 0 64 ≤ 600; omega
        · show 0 ≤ zI υ 0 60 ∧ zI υ 0 60 ≤ 1; omega
        · show 0 ≤ zA τ 0 70 (zA τ 0 71 (24 * m0 + zA τ 0 58 (80 * m0 + k0))) / 16 ∧ zA τ 0 70 (zA τ 0 71 (24 * m0 + zA τ 0 58 (80 * m0 + k0))) / 16 ≤ 100; omega
        · show 0 ≤ zA τ 0 72 (24 * m0 + zA τ 0 58 (80 * m0 + k0)) + zA τ 0 59 (80 * m0 + k0) ∧ zA τ 0 72 (24 * m0 + zA τ 0 58 (80 * m0 + k0)) + zA τ 0 59 (80 * m0 + k0) ≤ 65535; omega
      · have hMI := hAt.2 m hm.1 (by omega)
        have h50 := hMI.1.2.1
        have h43m := hAt.1.2.2.2.2 m (by omega) (by omega)
        unfold wpX11_link_310
        refine lfp1_ind (fun v _ => (200 - v).toNat) (fun v υ => (0 ≤ v ∧ v ≤ zA τ 0 50 m) ∧ fr [60, 62, 64] [61, 63] τ υ ∧ IM υ ∧ zI υ 0 60 = 1 ∧ zI υ 0 62 = zA τ 0 67 0 ∧ (0 ≤ zI υ 0 64 ∧ zI υ 0 64 ≤ 200 * m + v)) ?_ ⟨by omega, hfu, hIu, u60, u62, by omega⟩
        intro P9 k ω ⟨hk, hfw, hIw, w60, w62, w64⟩ ih9
        show wpbX11_link_310 P P9 m (80 * m0 + k0) (zA τ 0 67 0) k ω Q
        unfold wpbX11_link_310 wpX11_link_349
        have out : P (m + 1) ω := ih _ _ ⟨by omega, hfw, hIw, w60, w62, by omega⟩ (by show (3 - (m + 1)).toNat < (3 - m).toNat; omega)
        rw [hfw.2 50 (by decide), hfw.2 43 (by decide)]
        refine ⟨by omega, by omega, by omega, fun _ => out, fun ne9 => ⟨by omega, fun _ => out, fun nz => ?_⟩⟩
        refine s_solve (hL.up hfw.2 (hfw.1 73 (by decide))) hIw ⟨hm.1, by omega⟩ (by rw [hfw.2 43 (by decide)]; exact nz) (by rw [hfw.2 50 (by decide)]; omega) (by omega) (fun ψ hfp hIp h64p => ?_)
        exact ih9 _ _ ⟨by omega, hfw.tr (hfp.up (by decide) (by decide)), hIp, by rw [hfp.1 60 (by decide)]; exact w60, by rw [hfp.1 62 (by decide)]; exact w62, by omega⟩ (by show (200 - (k + 1)).toNat < (200 - k).toNat; omega)
    -- the bytes are copied
    have f181 : ∀ υ : ZS, fr [60, 62, 64] [61, 63] τ υ → IM υ → zI υ 0 60 = 1 → zI υ 0 62 = zA τ 0 67 0 → zI υ 0 64 = 0 → wpX11_link_181 0 (80 * m0 + k0) (zA τ 0 67 0) υ Q := by
      intro υ0 hf0 hI0 h60 h62 h640
      unfold wpX11_link_181
      refine lfp1_ind (fun v _ => (3 - v).toNat) (fun v υ => (0 ≤ v ∧ v ≤ 3) ∧ fr [60, 62, 64] [61, 63] τ υ ∧ IM υ ∧ zI υ 0 60 = 1 ∧ zI υ 0 62 = zA τ 0 67 0 ∧ zI υ 0 64 = 0) ?_ ⟨by omega, hf0, hI0, h60, h62, h640⟩
      intro P m υ ⟨hm, hfu, hIu, u60, u62, u64⟩ ih
      show wpbX11_link_181 P (80 * m0 + k0) (zA τ 0 67 0) m υ Q
      unfold wpbX11_link_181
      refine ⟨by omega, fun _ => f302 υ hfu hIu u60 u62 u64, fun nq => ?_⟩
      have hMI := hAt.2 m hm.1 (by omega)
      have h44 := hMI.1.1
      have h43m := hAt.1.2.2.2.2 m (by omega) (by omega)
      unfold wpX11_link_189
      refine lfp1_ind (fun v _ => (24 - v).toNat) (fun v υ => (0 ≤ v ∧ v ≤ zA τ 0 44 m) ∧ fr [60, 62, 64] [61, 63] τ υ ∧ IM υ ∧ zI υ 0 60 = 1 ∧ zI υ 0 62 = zA τ 0 67 0 ∧ zI υ 0 64 = 0) ?_ ⟨by omega, hfu, hIu, u60, u62, u64⟩
      intro P9 s ω ⟨hs, hfw, hIw, w60, w62, w64⟩ ih9
      show wpbX11_link_189 P P9 m (80 * m0 + k0) (zA τ 0 67 0) s ω Q
      unfold wpbX11_link_189 wpX11_link_294
      have out : P (m + 1) ω := ih _ _ ⟨by omega, hfw, hIw, w60, w62, w64⟩ (by show (3 - (m + 1)).toNat < (3 - m).toNat; omega)
      rw [hfw.2 44 (by decide), hfw.2 43 (by decide)]
      refine ⟨by omega, by omega, by omega, fun _ => out, fun ne9 => ⟨by omega, fun _ => out, fun nz => ?_⟩⟩
      have hsg := hMI.2.1 s hs.1 (by omega)
      have hc := hC.2.1 m s hm.1 (by omega) hs.1 (by omega) nz
      have hd := hC.2.2.1 _ hc.1.1 hc.1.2
      unfold wpX11_link_221
      refine lfp1_ind (fun v _ => (400 - v).toNat) (fun v υ => (0 ≤ v ∧ v ≤ zA τ 0 48 (24 * m + s)) ∧ fr [60, 62, 64] [61, 63] τ υ ∧ IM υ ∧ zI υ 0 60 = 1 ∧ zI υ 0 62 = zA τ 0 67 0 ∧ zI υ 0 64 = 0) ?_ ⟨by omega, hfw, hIw, w60, w62, w64⟩
      intro P21 i ψ ⟨hi, hfp, hIp, p60, p62, p64⟩ ih21
      show wpbX11_link_221 P P9 P21 m (80 * m0 + k0) (zA τ 0 67 0) s (24 * m + s) i ψ Q
      unfold wpbX11_link_221
      rw [hfp.2 48 (by decide), hfp.2 71 (by decide), hfp.2 47 (by decide), hfp.2 70 (by decide), hfp.2 72 (by decide), hfp.2 49 (by decide)]
      refine ⟨by omega, by omega, by omega, fun _ => ih9 _ _ ⟨by omega, hfp, hIp, p60, p62, p64⟩ (by show (24 - (s + 1)).toNat < (24 - s).toNat; omega), fun ni => ?_⟩
      have h49 := hAt.1.2.2.2.1 (400 * m + zA τ 0 47 (24 * m + s) + i) (by omega) (by omega)
      exact ⟨by omega, by omega, by omega, ih21 _ _ ⟨by omega, hfp.ta (by decide), hIp.u61 h49, p60, p62, p64⟩ (by show (400 - (i + 1)).toNat < (400 - i).toNat; omega)⟩
    unfold wpX11_link_142
    refine lfp1_ind (fun v _ => (1200 - v).toNat) (fun v υ => (0 ≤ v ∧ v ≤ 1200) ∧ fr [60, 62, 64] [61, 63] τ υ ∧ IM υ) ?_ ⟨by omega, fr.rf, hIt.1⟩
    intro P v υ ⟨hv, hfu, hIu⟩ ih
    show wpbX11_link_142 P (80 * m0 + k0) (zA τ 0 67 0) v υ Q
    unfold wpbX11_link_142
    refine ⟨by omega, fun _ => f181 _ (((hfu.ti (by decide)).ti (by decide)).ti (by decide)) hIu rfl rfl rfl, fun nv => ⟨by omega, ih _ _ ⟨by omega, hfu.ta (by decide), hIu.u61 (by decide)⟩ (by show (1200 - (v + 1)).toNat < (1200 - v).toNat; omega)⟩⟩
  have f38 : (∃ m : Int, (0 ≤ m ∧ m ≤ 2) ∧ zA σ 0 43 m ≠ 0) → wpX11_link_38 (zsI σ 0 0 0) Q := by
    intro hex
    obtain ⟨α, hα⟩ : ∃ α, α = zsI σ 0 0 0 := ⟨_, rfl⟩
    have hfα : fr KF KA σ α := by rw [hα]; exact fr.i (by decide)
    have hAα : MA α := by rw [hα]; exact hA
    have hIα : IG α := by rw [hα]; exact hI
    rw [← hα]
    have nte : NTr α ↔ NTr σ := by rw [hα]; exact Iff.rfl
    have nme : NoMiss α ↔ NoMiss σ := by rw [hα]; exact Iff.rfl
    have pue : Pub α 1835100526 ↔ Pub σ 1835100526 := by rw [hα]; exact Iff.rfl
    have a0 : zI α 0 0 = 0 := by rw [hα]; exact zI_s
    have aA : ∀ f : Nat, zA α 0 f = zA σ 0 f := by rw [hα]; exact fun _ => rfl
    have tell : ∀ x y z : Int, LO σ (cAl (zA σ 0 45) (zA σ 0 46) (zA σ 0 48) (cR σ) 3) z 0 → Q 0 (zsI (zsI (zsI α 0 3 x) 0 4 y) 0 0 z) := fun x y z lo => hQ z 0 _ hIα (((hfα.ti (by decide)).ti (by decide)).ti (by decide)) (by decide) zI_s lo
    unfold wpX11_link_38
    refine y_twice hAα (fun hT => ⟨by decide, fun _ => ?_, fun q => absurd (by decide) q⟩) (fun r hr nT => ⟨by omega, fun q => absurd q (by omega), fun _ => tell _ _ _ (Or.inr ⟨hex, Or.inl ⟨rfl, fun q => nT (nte.mpr q)⟩⟩)⟩)
    have hT' := nte.mp hT
    refine y_missing hAα (fun hN => ⟨by decide, fun _ => ?_, fun q => absurd (by decide) q⟩) (fun r hr nN => ⟨by omega, fun q => absurd q (by omega), fun _ => tell _ _ _ (Or.inr ⟨hex, Or.inr ⟨hT', Or.inl ⟨rfl, fun q => nN (nme.mpr q)⟩⟩⟩)⟩)
    have hN' := nme.mp hN
    refine s_publicOf hAα (by decide) (fun nP => ⟨by decide, fun q => absurd q (by decide), fun _ => tell _ _ _ (Or.inr ⟨hex, Or.inr ⟨hT', Or.inr ⟨hN', Or.inl ⟨rfl, fun q => nP (pue.mpr q)⟩⟩⟩⟩)⟩) (fun m0 k0 hm0 hk0 h43 h57 => ?_)
    have hP' : Pub σ 1835100526 := pue.mp ⟨m0, k0, hm0, h43, hk0, h57⟩
    have hMI := hAα.2 m0 hm0.1 hm0.2
    refine ⟨by have := hMI.1.2.2; omega, fun _ => ?_, fun q => absurd (by omega) q⟩
    refine y_combine hAα (fun β hfβ hCβ hrh _ hee => ?_)
    have eT : cAl (zA α 0 45) (zA α 0 46) (zA α 0 48) (cR α) 3 = (cAl (zA σ 0 45) (zA σ 0 46) (zA σ 0 48) (cR σ) 3) := by rw [hα]; rfl
    rw [eT] at hrh hee
    have haw : ∀ j : Nat, j ∈ WA → zA β 0 j = zA α 0 j := fun j hj => hfβ.2 j (fun q => absurd hj ((show ∀ k ∈ CA, k ∉ WA by decide) j q))
    have hfβ' : fr KF KA σ β := hfα.tr (hfβ.up (by decide) (by decide))
    have hIβ : IG β := by
      unfold IG IM
      rw [hfβ.2 61 (by decide), hfβ.2 63 (by decide), hfβ.1 62 (by decide), hfβ.1 64 (by decide), hfβ.1 60 (by decide), hfβ.1 65 (by decide), hfβ.1 66 (by decide)]
      exact hIα
    have tellβ : ∀ x y z : Int, LO σ (cAl (zA σ 0 45) (zA σ 0 46) (zA σ 0 48) (cR σ) 3) z 0 → Q 0 (zsI (zsI (zsI β 0 3 x) 0 4 y) 0 0 z) := fun x y z lo => hQ z 0 _ hIβ (((hfβ'.ti (by decide)).ti (by decide)).ti (by decide)) (by decide) zI_s lo
    have eE : zA β 0 67 0 = LE (cAl (zA σ 0 45) (zA σ 0 46) (zA σ 0 48) (cR σ) 3) := hee
    have up4 : ∀ cd r : Int, ((cd = 4 ∧ 1200 < LE (cAl (zA σ 0 45) (zA σ 0 46) (zA σ 0 48) (cR σ) 3)) ∨ (LE (cAl (zA σ 0 45) (zA σ 0 46) (zA σ 0 48) (cR σ) 3) ≤ 1200 ∧ ((cd = 5 ∧ ¬ APw σ (cAl (zA σ 0 45) (zA σ 0 46) (zA σ 0 48) (cR σ) 3)) ∨ (cd = 0 ∧ APw σ (cAl (zA σ 0 45) (zA σ 0 46) (zA σ 0 48) (cR σ) 3) ∧ r = LE (cAl (zA σ 0 45) (zA σ 0 46) (zA σ 0 48) (cR σ) 3))))) → LO σ (cAl (zA σ 0 45) (zA σ 0 46) (zA σ 0 48) (cR σ) 3) cd r := fun cd r h => Or.inr ⟨hex, Or.inr ⟨hT', Or.inr ⟨hN', Or.inr ⟨hP', h⟩⟩⟩⟩
    have hend := hCβ.2.2.2
    refine ⟨by omega, fun le => ?_, fun gt => tellβ _ _ _ (up4 4 0 (Or.inl ⟨rfl, by omega⟩))⟩
    have hLβ : LK β := ⟨hAα.up haw, hCβ, hN.up haw, le⟩
    have aw : ∀ j : Nat, j ∈ WA → zA β 0 j = zA σ 0 j := fun j hj => (haw j hj).trans (aA j)
    have ppe : ∀ w m k : Int, PPr β w m k ↔ PPr σ w m k := by
      intro w m k
      unfold PPr
      rw [aw 43 (by decide), aw 56 (by decide), aw 57 (by decide)]
    have ape : APr β ↔ APw σ (cAl (zA σ 0 45) (zA σ 0 46) (zA σ 0 48) (cR σ) 3) := by
      have key : ∀ m k m' k' : Int, (0 ≤ m ∧ m ≤ 2) → zA σ 0 43 m ≠ 0 → (0 ≤ k ∧ k < zA σ 0 50 m) → PPr σ (zA σ 0 55 (200 * m + k)) m' k' → zA β 0 71 (24 * m + zA σ 0 52 (200 * m + k)) = CbS.wh (cAl (zA σ 0 45) (zA σ 0 46) (zA σ 0 48) (cR σ) 3) (24 * m + zA σ 0 52 (200 * m + k)) ∧ zA β 0 71 (24 * m' + zA σ 0 58 (80 * m' + k')) = CbS.wh (cAl (zA σ 0 45) (zA σ 0 46) (zA σ 0 48) (cR σ) 3) (24 * m' + zA σ 0 58 (80 * m' + k')) := by
        intro m k m' k' mb mt kb ⟨pb, pt, pk, _⟩
        have fx := ((hA.2 m mb.1 mb.2).2.2.1 k kb.1 kb.2).2.1
        have px := ((hA.2 m' pb.1 pb.2).2.2.2 k' pk.1 pk.2).1
        exact ⟨(hrh.2 m _ mb.1 mb.2 fx.1 (by rw [aA]; exact fx.2) (by rw [aA]; exact mt) (Or.inl (by omega))).1, (hrh.2 m' _ pb.1 pb.2 px.1 (by rw [aA]; exact px.2) (by rw [aA]; exact pt) (Or.inl (by omega))).1⟩
      unfold APr APw
      rw [aw 43 (by decide), aw 50 (by decide), aw 51 (by decide), aw 52 (by decide), aw 55 (by decide), aw 58 (by decide)]
      constructor
      · intro h m k m' k' mb mt kb y pp
        have e := key m k m' k' mb mt kb pp
        rw [← e.1, ← e.2]; exact h m k m' k' mb mt kb y ((ppe _ _ _).mpr pp)
      · intro h m k m' k' mb mt kb y pp
        have pp' := (ppe _ _ _).mp pp
        have e := key m k m' k' mb mt kb pp'
        rw [e.1, e.2]; exact h m k m' k' mb mt kb y pp'
    refine y_far hLβ (fun m k mb mt kb y => ?_) (fun w m k m' k' p1 p2 => ?_) (fun ap => ⟨by decide, fun _ => ?_, fun q => absurd (by decide) q⟩) (fun r hr nap => ⟨by omega, fun q => absurd q (by omega), fun _ => tellβ _ _ _ (up4 5 0 (Or.inr ⟨by omega, Or.inl ⟨rfl, fun q => nap (ape.mpr q)⟩⟩))⟩)
    · rw [aw 43 (by decide)] at mt
      rw [aw 50 (by decide)] at kb
      rw [aw 51 (by decide)] at y
      rw [aw 54 (by decide)]; exact hn m k mb mt kb y
    · rw [aw 58 (by decide)]; exact hu hT' w m k m' k' ((ppe _ _ _).mp p1) ((ppe _ _ _).mp p2)
    exact f142 β m0 k0 hfβ' hLβ hIβ hm0 (by rw [haw 43 (by decide)]; exact h43) (by rw [haw 56 (by decide)]; exact hk0) ((hfβ.1 0 (by decide)).trans a0) (up4 0 _ (Or.inr ⟨by omega, Or.inr ⟨rfl, ape.mp ap, eE⟩⟩))
  have h0 := hA.1.2.2.2.2 0 (by decide) (by decide)
  have h1 := hA.1.2.2.2.2 1 (by decide) (by decide)
  have h2 := hA.1.2.2.2.2 2 (by decide) (by decide)
  unfold wpX11_link
  refine ⟨by omega, fun n => f38 ⟨0, by decide, n⟩, fun z0 => ⟨by omega, fun n => f38 ⟨1, by decide, n⟩, fun z1 => ⟨by omega, fun n => f38 ⟨2, by decide, n⟩, fun z2 => hQ 1 0 _ hI ((fr.rf.ti (by decide)).ti (by decide)) (by decide) zI_s (Or.inl ⟨rfl, fun m m0 m2 => ?_⟩)⟩⟩⟩
  rcases (by omega : m = 0 ∨ m = 1 ∨ m = 2) with h | h | h
  · rw [h]; exact z0
  · rw [h]; exact z1
  · rw [h]; exact z2
