/-! X: the reference's pieces and the class's items -/
/-- the bytes of segment s before piece k -/
def oP (pk pa ps nr : Int → Int) (s : Int) : Nat → Int
  | 0 => 0
  | k + 1 => oP pk pa ps nr s k + (if ps k = s then szf (pk k) (pa k) (nr k) else 0)
/-- the last label n before piece k -/
def lP (pk pa : Int → Int) (n : Int) : Nat → Int
  | 0 => -1
  | k + 1 => if pk k = 7 ∧ pa k = n then (k : Int) else lP pk pa n k
theorem oP_cg {pk pa ps nr pk' pa' ps' : Int → Int} {s : Int} : ∀ k : Nat, (∀ j : Nat, j < k → pk j = pk' j ∧ pa j = pa' j ∧ ps j = ps' j) → oP pk pa ps nr s k = oP pk' pa' ps' nr s k
  | 0, _ => rfl
  | k + 1, h => by
    obtain ⟨h1, h2, h3⟩ := h k (by omega)
    show oP pk pa ps nr s k + (if ps k = s then szf (pk k) (pa k) (nr k) else 0) = oP pk' pa' ps' nr s k + (if ps' k = s then szf (pk' k) (pa' k) (nr k) else 0)
    rw [oP_cg k (fun j hj => h j (by omega)), h1, h2, h3]
theorem lP_cg {pk pa pk' pa' : Int → Int} {n : Int} : ∀ k : Nat, (∀ j : Nat, j < k → pk j = pk' j ∧ pa j = pa' j) → lP pk pa n k = lP pk' pa' n k
  | 0, _ => rfl
  | k + 1, h => by
    obtain ⟨h1, h2⟩ := h k (by omega)
    show (if pk k = 7 ∧ pa k = n then (k : Int) else lP pk pa n k) = (if pk' k = 7 ∧ pa' k = n then (k : Int) else lP pk' pa' n k)
    rw [lP_cg k (fun j hj => h j (by omega)), h1, h2]
def oPd (d : YD) (nr : Int → Int) (s : Int) : Int := oP d.pk d.pa d.ps nr s d.np.toNat
def lPd (d : YD) (n : Int) : Int := lP d.pk d.pa n d.np.toNat
theorem oPd_p {d : YD} {nr : Int → Int} {s k a b : Int} (h : 0 ≤ d.np) : oPd (yP d k a b) nr s = oPd d nr s + (if d.cur = s then szf k a (nr d.np) else 0) := by
  show oP (zu d.pk d.np k) (zu d.pa d.np a) (zu d.ps d.np d.cur) nr s (d.np + 1).toNat = _
  rw [show (d.np + 1).toNat = d.np.toNat + 1 by omega]
  show oP (zu d.pk d.np k) (zu d.pa d.np a) (zu d.ps d.np d.cur) nr s d.np.toNat + (if zu d.ps d.np d.cur (d.np.toNat : Int) = s then szf (zu d.pk d.np k (d.np.toNat : Int)) (zu d.pa d.np a (d.np.toNat : Int)) (nr (d.np.toNat : Int)) else 0) = _
  rw [show ((d.np.toNat : Nat) : Int) = d.np by omega, pu_eq, pu_eq, pu_eq, oP_cg d.np.toNat (fun j hj => ⟨pu_ne (by omega), pu_ne (by omega), pu_ne (by omega)⟩)]
  rfl
theorem lPd_p {d : YD} {n k a b : Int} (h : 0 ≤ d.np) : lPd (yP d k a b) n = if k = 7 ∧ a = n then d.np else lPd d n := by
  show lP (zu d.pk d.np k) (zu d.pa d.np a) n (d.np + 1).toNat = _
  rw [show (d.np + 1).toNat = d.np.toNat + 1 by omega]
  show (if zu d.pk d.np k (d.np.toNat : Int) = 7 ∧ zu d.pa d.np a (d.np.toNat : Int) = n then (d.np.toNat : Int) else lP (zu d.pk d.np k) (zu d.pa d.np a) n d.np.toNat) = _
  rw [show ((d.np.toNat : Nat) : Int) = d.np by omega, pu_eq, pu_eq, lP_cg d.np.toNat (fun j hj => ⟨pu_ne (by omega), pu_ne (by omega)⟩)]
  rfl
/-- pieces that stand stay -/
def Pre (d e : YD) : Prop := d.np ≤ e.np ∧ ∀ q : Int, q < d.np → e.pk q = d.pk q ∧ e.pa q = d.pa q ∧ e.pb q = d.pb q ∧ e.ps q = d.ps q
theorem Pre.rf (d : YD) : Pre d d := ⟨Int.le_refl _, fun _ _ => ⟨rfl, rfl, rfl, rfl⟩⟩
theorem Pre.tr {d e f : YD} (h : Pre d e) (k : Pre e f) : Pre d f := ⟨by have := h.1; have := k.1; omega, fun q hq => by
  obtain ⟨a1, a2, a3, a4⟩ := h.2 q hq
  obtain ⟨b1, b2, b3, b4⟩ := k.2 q (by have := h.1; omega)
  exact ⟨b1.trans a1, b2.trans a2, b3.trans a3, b4.trans a4⟩⟩
theorem Pre.p (d : YD) (k a b : Int) : Pre d (yP d k a b) := ⟨by show d.np ≤ d.np + 1; omega, fun q hq => ⟨pu_ne (by omega), pu_ne (by omega), pu_ne (by omega), pu_ne (by omega)⟩⟩
theorem Pre.w {d e : YD} (k : e.2.2.2 = d.2.2.2) : Pre d e := by
  unfold Pre YD.np YD.pk YD.pa YD.pb YD.ps
  rw [k]; exact ⟨Int.le_refl _, fun _ _ => ⟨rfl, rfl, rfl, rfl⟩⟩
theorem Pre.u (d : YD) (k n : Int) : Pre d (yU d k n) := ⟨Int.le_refl _, fun _ _ => ⟨rfl, rfl, rfl, rfl⟩⟩
theorem yI_pre (d : YD) (t v n : Int) (h0 : 0 ≤ t) (h1 : t ≤ 12) : Pre d (yI d t v n) := by
  have hc : t = 0 ∨ t = 1 ∨ t = 3 ∨ t = 2 ∨ t = 4 ∨ t = 5 ∨ t = 6 ∨ t = 7 ∨ t = 8 ∨ t = 9 ∨ t = 10 ∨ t = 11 ∨ t = 12 := by omega
  rcases hc with rfl | rfl | rfl | rfl | rfl | rfl | rfl | rfl | rfl | rfl | rfl | rfl | rfl
  · exact Pre.w (ySeg_p d n v)
  · show Pre d (yLab d n)
    rw [yLab_eq]
    split
    · exact Pre.tr (e := yLn d n) (Pre.w rfl) (Pre.p _ _ _ _)
    · exact Pre.w rfl
  · exact Pre.w (yExt_p d n)
  · exact Pre.u d 0 n
  · exact Pre.p d _ _ _
  · exact Pre.p d _ _ _
  · exact Pre.p d _ _ _
  · exact (Pre.u d 1 n).tr (Pre.p _ _ _ _)
  · exact (Pre.u d 1 n).tr (Pre.p _ _ _ _)
  · exact (Pre.u d 3 n).tr (Pre.p _ _ _ _)
  · exact (Pre.u d 2 n).tr (Pre.p _ _ _ _)
  · exact (Pre.u d 3 n).tr (Pre.p _ _ _ _)
  · exact (Pre.u d 4 n).tr ((Pre.p _ _ _ _).tr ((Pre.p _ _ _ _).tr (Pre.p _ _ _ _)))
theorem yI_bad {d : YD} {t v n : Int} (h0 : 0 ≤ t) (h1 : t ≤ 12) (h : ¬ (yI d t v n).bad) : ¬ d.bad ∧ (t = 1 → d.so n = 0) ∧ (t = 3 → d.so n = 0) := by
  have hc : t = 0 ∨ t = 1 ∨ t = 3 ∨ (t ≠ 0 ∧ t ≠ 1 ∧ t ≠ 3) := by omega
  rcases hc with rfl | rfl | rfl | ⟨q0, q1, q3⟩
  · have h' : ¬ (ySeg d n v).bad := h
    refine ⟨?_, fun q => absurd q (by decide), fun q => absurd q (by decide)⟩
    rw [ySeg_eq] at h'
    split at h'
    · exact absurd trivial h'
    · split at h' <;> exact h'
  · have h' : ¬ (yLab d n).bad := h
    rw [yLab_eq] at h'
    split at h'
    · rename_i e
      exact ⟨h', fun _ => e, fun q => absurd q (by decide)⟩
    · exact absurd trivial h'
  · have h' : ¬ (yExt d n).bad := h
    rw [yExt_eq] at h'
    split at h'
    · rename_i e
      exact ⟨h', fun q => absurd q (by decide), fun _ => e⟩
    · exact absurd trivial h'
  · have y := (yI_o (d := d) (t := t) (v := v) (n := n) h0 h1 q0 q1 q3).2.2
    refine ⟨?_, fun q => absurd q q1, fun q => absurd q q3⟩
    unfold YD.bad at h ⊢
    rw [y] at h
    exact h
/-- where an item's piece stands -/
def PI (a b c : Int → Int) (i : Int) : Int := (yF a b c i.toNat).np
/-- the segment of an item -/
def gI (a b c : Int → Int) (i : Int) : Int := (yF a b c (i + 1).toNat).cur
theorem yF_pre {a b c : Int → Int} {m : Nat} : ∀ k : Nat, m ≤ k → (∀ j : Nat, j < k → 0 ≤ a j ∧ a j ≤ 12) → Pre (yF a b c m) (yF a b c k)
  | 0, hm, _ => by rw [Nat.le_zero.mp hm]; exact Pre.rf _
  | k + 1, hm, h => by
    by_cases e : m = k + 1
    · rw [e]; exact Pre.rf _
    · exact (yF_pre k (by omega) (fun j hj => h j (by omega))).tr (yI_pre _ _ _ _ (h k (by omega)).1 (h k (by omega)).2)
theorem yF_np {a b c : Int → Int} (k : Nat) (h : ∀ j : Nat, j < k → 0 ≤ a j ∧ a j ≤ 12) : 0 ≤ (yF a b c k).np := (yF_pre (a := a) (b := b) (c := c) (m := 0) k (by omega) h).1
/-- bytes before item k, told by its pieces -/
theorem yF_oP {a b c : Int → Int} (nr : Int → Int) (s : Int) : ∀ k : Nat, (∀ j : Nat, j < k → 0 ≤ a j ∧ a j ≤ 12) → ¬ (yF a b c k).bad → oPd (yF a b c k) nr s = oS a b (gI a b c) (fun i => nr (PI a b c i)) s k
  | 0, _, _ => rfl
  | k + 1, h, nb => by
    have hk := h k (by omega)
    have e : yF a b c (k + 1) = yI (yF a b c k) (a k) (b k) (c k) := rfl
    have yb := yI_bad (d := yF a b c k) (t := a k) (v := b k) (n := c k) hk.1 hk.2 (by rw [← e]; exact nb)
    have ih := yF_oP nr s k (fun j hj => h j (by omega)) yb.1
    have n0 := yF_np (a := a) (b := b) (c := c) k (fun j hj => h j (by omega))
    have eg : gI a b c k = (yI (yF a b c k) (a k) (b k) (c k)).cur := by
      unfold gI
      rw [show ((k : Int) + 1).toNat = k + 1 by omega]
      rfl
    have ep : PI a b c k = (yF a b c k).np := by unfold PI; rw [show ((k : Int)).toNat = k by omega]
    show oPd (yI (yF a b c k) (a k) (b k) (c k)) nr s = oS a b (gI a b c) (fun i => nr (PI a b c i)) s k + (if gI a b c k = s then sI a b (fun i => nr (PI a b c i)) k else 0)
    rw [← ih, eg]
    unfold sI
    show oPd (yI (yF a b c k) (a k) (b k) (c k)) nr s = oPd (yF a b c k) nr s + (if (yI (yF a b c k) (a k) (b k) (c k)).cur = s then (if a k = 4 then 1 else if a k = 5 then b k else if a k = 9 then (if nr (PI a b c k) = 0 then 2 else 3) else if a k = 6 ∨ a k = 7 ∨ a k = 8 ∨ a k = 10 then 2 else if a k = 11 then 3 else if a k = 12 then 5 else 0) else 0)
    rw [ep]
    generalize yF a b c k = d at *
    generalize a k = t at *
    generalize b k = v at *
    generalize c k = n at *
    have hc : t = 0 ∨ t = 1 ∨ t = 3 ∨ t = 2 ∨ t = 4 ∨ t = 5 ∨ t = 6 ∨ t = 7 ∨ t = 8 ∨ t = 9 ∨ t = 10 ∨ t = 11 ∨ t = 12 := by omega
    have sw : ∀ d' : YD, d'.2.2.2 = d.2.2.2 → oPd d' nr s = oPd d nr s := fun d' k => by
      unfold oPd YD.pk YD.pa YD.ps YD.np
      rw [k]
    have z : ∀ p : Prop, [Decidable p] → oPd d nr s = oPd d nr s + (if p then (0 : Int) else 0) := fun p _ => by split <;> omega
    rcases hc with rfl | rfl | rfl | rfl | rfl | rfl | rfl | rfl | rfl | rfl | rfl | rfl | rfl
    · rw [show yI d 0 v n = ySeg d n v from rfl, sw _ (ySeg_p d n v)]; exact z _
    · rw [show yI d 1 v n = yLab d n from rfl, yLab_eq, if_pos (yb.2.1 rfl), oPd_p (d := yLn d n) n0]
      show oPd d nr s + (if d.cur = s then szf 7 n (nr d.np) else 0) = oPd d nr s + (if d.cur = s then (0 : Int) else 0)
      rfl
    · rw [show yI d 3 v n = yExt d n from rfl, sw _ (yExt_p d n)]; exact z _
    · exact z _
    · rw [show yI d 4 v n = yP d 0 v 0 from rfl, oPd_p n0]; rfl
    · rw [show yI d 5 v n = yP d 8 v 0 from rfl, oPd_p n0]; rfl
    · rw [show yI d 6 v n = yP d 1 v 0 from rfl, oPd_p n0]; rfl
    · rw [show yI d 7 v n = yP (yU d 1 n) 2 n v from rfl, oPd_p (d := yU d 1 n) n0]; rfl
    · rw [show yI d 8 v n = yP (yU d 1 n) 3 n 0 from rfl, oPd_p (d := yU d 1 n) n0]; rfl
    · rw [show yI d 9 v n = yP (yU d 3 n) 4 n 0 from rfl, oPd_p (d := yU d 3 n) n0]; rfl
    · rw [show yI d 10 v n = yP (yU d 2 n) 5 n v from rfl, oPd_p (d := yU d 2 n) n0]; rfl
    · rw [show yI d 11 v n = yP (yU d 3 n) 6 n 0 from rfl, oPd_p (d := yU d 3 n) n0]; rfl
    · rw [show yI d 12 v n = yP (yP (yP (yU d 4 n) 0 154 0) 2 n 0) 3 n 0 from rfl, oPd_p (d := yP (yP (yU d 4 n) 0 154 0) 2 n 0) (show 0 ≤ d.np + 1 + 1 by omega), oPd_p (d := yP (yU d 4 n) 0 154 0) (show 0 ≤ d.np + 1 by omega), oPd_p (d := yU d 4 n) n0]
      show oPd d nr s + (if d.cur = s then (1 : Int) else 0) + (if d.cur = s then (2 : Int) else 0) + (if d.cur = s then (2 : Int) else 0) = oPd d nr s + (if d.cur = s then (5 : Int) else 0)
      split <;> omega
theorem yF_lP {a b c : Int → Int} (n : Int) : ∀ k : Nat, (∀ j : Nat, j < k → 0 ≤ a j ∧ a j ≤ 12) → ¬ (yF a b c k).bad → lPd (yF a b c k) n = if lI a c n k < 0 then -1 else PI a b c (lI a c n k)
  | 0, _, _ => rfl
  | k + 1, h, nb => by
    have hk := h k (by omega)
    have e : yF a b c (k + 1) = yI (yF a b c k) (a k) (b k) (c k) := rfl
    have yb := yI_bad (d := yF a b c k) (t := a k) (v := b k) (n := c k) hk.1 hk.2 (by rw [← e]; exact nb)
    have ih := yF_lP n k (fun j hj => h j (by omega)) yb.1
    have n0 := yF_np (a := a) (b := b) (c := c) k (fun j hj => h j (by omega))
    have ep : PI a b c k = (yF a b c k).np := by unfold PI; rw [show ((k : Int)).toNat = k by omega]
    have el : lI a c n (k + 1) = if a k = 1 ∧ c k = n then (k : Int) else lI a c n k := rfl
    rw [e]
    by_cases t1 : a k = 1
    · rw [el, t1, show yI (yF a b c k) 1 (b k) (c k) = yLab (yF a b c k) (c k) from rfl, yLab_eq, if_pos (yb.2.1 t1), lPd_p (d := yLn (yF a b c k) (c k)) n0]
      by_cases q : c k = n
      · have c1 : (7 : Int) = 7 ∧ c k = n := ⟨rfl, q⟩
        have c2 : (1 : Int) = 1 ∧ c k = n := ⟨rfl, q⟩
        rw [if_pos c1, if_pos c2, if_neg (by omega), ep]; rfl
      · have c1 : ¬ ((7 : Int) = 7 ∧ c k = n) := fun z => q z.2
        have c2 : ¬ ((1 : Int) = 1 ∧ c k = n) := fun z => q z.2
        rw [if_neg c1, if_neg c2]; exact ih
    · have c2 : ¬ (a k = 1 ∧ c k = n) := fun z => t1 z.1
      rw [el, if_neg c2, ← ih]
      clear c2
      clear ih el e ep
      generalize yF a b c k = d at *
      generalize a k = t at *
      generalize b k = v at *
      generalize c k = n' at *
      have hc : t = 0 ∨ t = 3 ∨ t = 2 ∨ t = 4 ∨ t = 5 ∨ t = 6 ∨ t = 7 ∨ t = 8 ∨ t = 9 ∨ t = 10 ∨ t = 11 ∨ t = 12 := by omega
      have sw : ∀ d' : YD, d'.2.2.2 = d.2.2.2 → lPd d' n = lPd d n := fun d' k => by
        unfold lPd YD.pk YD.pa YD.np
        rw [k]
      have nn : ∀ x y : Int, x ≠ 7 → ¬ (x = 7 ∧ y = n) := fun x y h z => h z.1
      rcases hc with rfl | rfl | rfl | rfl | rfl | rfl | rfl | rfl | rfl | rfl | rfl | rfl
      · exact sw _ (ySeg_p d n' v)
      · exact sw _ (yExt_p d n')
      · rfl
      · rw [show yI d 4 v n' = yP d 0 v 0 from rfl, lPd_p n0, if_neg (nn _ _ (by decide))]
      · rw [show yI d 5 v n' = yP d 8 v 0 from rfl, lPd_p n0, if_neg (nn _ _ (by decide))]
      · rw [show yI d 6 v n' = yP d 1 v 0 from rfl, lPd_p n0, if_neg (nn _ _ (by decide))]
      · rw [show yI d 7 v n' = yP (yU d 1 n') 2 n' v from rfl, lPd_p (d := yU d 1 n') n0, if_neg (nn _ _ (by decide))]; rfl
      · rw [show yI d 8 v n' = yP (yU d 1 n') 3 n' 0 from rfl, lPd_p (d := yU d 1 n') n0, if_neg (nn _ _ (by decide))]; rfl
      · rw [show yI d 9 v n' = yP (yU d 3 n') 4 n' 0 from rfl, lPd_p (d := yU d 3 n') n0, if_neg (nn _ _ (by decide))]; rfl
      · rw [show yI d 10 v n' = yP (yU d 2 n') 5 n' v from rfl, lPd_p (d := yU d 2 n') n0, if_neg (nn _ _ (by decide))]; rfl
      · rw [show yI d 11 v n' = yP (yU d 3 n') 6 n' 0 from rfl, lPd_p (d := yU d 3 n') n0, if_neg (nn _ _ (by decide))]; rfl
      · rw [show yI d 12 v n' = yP (yP (yP (yU d 4 n') 0 154 0) 2 n' 0) 3 n' 0 from rfl, lPd_p (d := yP (yP (yU d 4 n') 0 154 0) 2 n' 0) (show 0 ≤ d.np + 1 + 1 by omega), if_neg (nn _ _ (by decide)), lPd_p (d := yP (yU d 4 n') 0 154 0) (show 0 ≤ d.np + 1 by omega), if_neg (nn _ _ (by decide)), lPd_p (d := yU d 4 n') n0, if_neg (nn _ _ (by decide))]; rfl
