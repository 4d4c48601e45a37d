/-! L: both sides as they are made -/
def zc0 : ZS := (fun g f => if g = 10 then (if f = 2 then -1 else if f = 3 then -1 else 0) else if g = 11 then (if f = 6 then -1 else 0) else if g = 5 then (if f = 3 then -1 else if f = 4 then -1 else 0) else if g = 6 then (if f = 3 then -1 else if f = 4 then -1 else 0) else if g = 15 then (if f = 5 then -1 else 0) else if g = 18 then (if f = 7 then 1 else 0) else 0, fun _ _ _ => 0)
def zr0 : ZS := (fun _ f => if f = 3 then -1 else if f = 4 then -1 else if f = 76 then 1 else 0, fun _ f k => if f = 11 then zwords k else 0)
theorem zM0 : M3 zc0 := by
  intro m m0 m2
  obtain rfl | rfl | rfl : m = 0 ∨ m = 1 ∨ m = 2 := by omega
  · exact ⟨by decide, by decide, by decide, by decide, fun s s0 s1 => absurd (show s < 0 from s1) (by omega), fun i _ _ => (by decide : (0 : Int) ≤ 0 ∧ (0 : Int) ≤ 255), fun s s0 s1 => absurd (show s < 0 from s1) (by omega), fun s s0 s1 => absurd (show s < 0 from s1) (by omega)⟩
  · exact ⟨by decide, by decide, by decide, by decide, fun s s0 s1 => absurd (show s < 0 from s1) (by omega), fun i _ _ => (by decide : (0 : Int) ≤ 0 ∧ (0 : Int) ≤ 255), fun s s0 s1 => absurd (show s < 0 from s1) (by omega), fun s s0 s1 => absurd (show s < 0 from s1) (by omega)⟩
  · exact ⟨by decide, by decide, by decide, by decide, fun s s0 s1 => absurd (show s < 0 from s1) (by omega), fun i _ _ => (by decide : (0 : Int) ≤ 0 ∧ (0 : Int) ≤ 255), fun s s0 s1 => absurd (show s < 0 from s1) (by omega), fun s s0 s1 => absurd (show s < 0 from s1) (by omega)⟩
theorem zCI0 : CI zc0 0 := by
  refine ⟨⟨by decide, fun i _ _ => (by decide : (0 : Int) ≤ 0 ∧ (0 : Int) ≤ 126), fun i i0 i1 => absurd (show i < 0 from i1) (by omega)⟩, fun n _ _ => (by decide : ((0 : Int) ≤ 0 ∧ (0 : Int) ≤ 4398046511103) ∧ ((0 : Int) ≤ 0 ∧ (0 : Int) ≤ 3) ∧ ((-1 : Int) ≤ 0 ∧ (0 : Int) ≤ 59) ∧ ((0 : Int) ≤ 0 ∧ (0 : Int) ≤ 16) ∧ ((0 : Int) ≤ 0 ∧ (0 : Int) ≤ 20000)), fun s _ _ => (by decide : ((0 : Int) ≤ 0 ∧ (0 : Int) < 240) ∧ ((0 : Int) ≤ 0 ∧ (0 : Int) ≤ 20000)), zM0, ?_, ?_, ?_⟩
  · exact ⟨by decide, fun i _ _ => (by decide : (0 : Int) ≤ 0 ∧ (0 : Int) ≤ 4398046511103), fun i _ _ => (by decide : (0 : Int) ≤ 0 ∧ (0 : Int) ≤ 30000), fun i _ _ => (by decide : (0 : Int) ≤ 0 ∧ (0 : Int) ≤ 3000000), fun i _ _ => (by decide : (0 : Int) ≤ 0 ∧ (0 : Int) ≤ 71), fun i _ _ => (by decide : (0 : Int) ≤ 0 ∧ (0 : Int) ≤ 30000)⟩
  · exact ⟨by decide, by decide, fun i _ _ => (by decide : (0 : Int) ≤ 0 ∧ (0 : Int) ≤ 255), by decide, fun i _ _ => (by decide : (0 : Int) ≤ 0 ∧ (0 : Int) ≤ 4000000), by decide, by decide⟩
  · exact ⟨fun i _ _ => (by decide : (0 : Int) ≤ 0 ∧ (0 : Int) ≤ 255), fun i _ _ => (by decide : (0 : Int) ≤ 0 ∧ (0 : Int) ≤ 65535), fun i _ _ => (by decide : (0 : Int) ≤ 0 ∧ (0 : Int) ≤ 300000), by decide, by decide, by decide, by decide, by decide, by decide, by decide, by decide⟩
theorem zRI0 : RI zr0 0 := by
  refine ⟨⟨⟨by decide, fun i i0 i1 => absurd (show i < 0 from i1) (by omega), fun k _ _ => rfl⟩, by decide, fun n _ _ => (by decide : ((0 : Int) ≤ 0 ∧ (0 : Int) ≤ 3) ∧ ((-1 : Int) ≤ 0 ∧ (0 : Int) < 80) ∧ ((0 : Int) ≤ 0 ∧ (0 : Int) ≤ 16) ∧ ((0 : Int) ≤ 0 ∧ (0 : Int) ≤ 72057594037927936)), fun n _ _ => (by decide : ((0 : Int) ≤ 0 ∧ (0 : Int) ≤ 4) ∧ ((0 : Int) ≤ 0 ∧ (0 : Int) < 240) ∧ ((0 : Int) ≤ 0 ∧ (0 : Int) ≤ 480) ∧ ((-1 : Int) ≤ 0 ∧ (0 : Int) < 80)), fun n _ _ => (by decide : ((0 : Int) ≤ 0 ∧ (0 : Int) ≤ 8) ∧ ((2 : Int) ≤ 0 → (0 : Int) ≤ 7 → (0 : Int) ≤ 0 ∧ (0 : Int) < 240) ∧ ((0 : Int) = 8 → (0 : Int) ≤ 0 ∧ (0 : Int) ≤ 64) ∧ ((-20000000 : Int) ≤ 0 ∧ (0 : Int) ≤ 20000000) ∧ ((-20000000 : Int) ≤ 0 ∧ (0 : Int) ≤ 20000000) ∧ ((0 : Int) ≤ 0 ∧ (0 : Int) ≤ 480) ∧ ((-1 : Int) ≤ 0 ∧ (0 : Int) < 80) ∧ ((0 : Int) ≤ 0 ∧ (0 : Int) ≤ 1)), fun n _ _ => (by decide : (0 : Int) ≤ 0 ∧ (0 : Int) < 240)⟩, fun n _ _ => (by decide : (0 : Int) ≤ 0 ∧ (0 : Int) ≤ 62000), ⟨⟨fun i _ _ => (by decide : (0 : Int) ≤ 0 ∧ (0 : Int) ≤ 72057594037927936), fun i _ _ => (by decide : (0 : Int) ≤ 0 ∧ (0 : Int) ≤ 72057594037927936), fun i _ _ => (by decide : (0 : Int) ≤ 0 ∧ (0 : Int) ≤ 72057594037927936), fun i _ _ => (by decide : (0 : Int) ≤ 0 ∧ (0 : Int) ≤ 255), fun i _ _ => (by decide : (0 : Int) ≤ 0 ∧ (0 : Int) ≤ 1)⟩, fun m _ _ => ⟨(by decide : ((0 : Int) ≤ 0 ∧ (0 : Int) ≤ 24) ∧ ((0 : Int) ≤ 0 ∧ (0 : Int) ≤ 200) ∧ ((0 : Int) ≤ 0 ∧ (0 : Int) ≤ 80)), fun s s0 s1 => absurd (show s < 0 from s1) (by omega), fun s s0 s1 => absurd (show s < 0 from s1) (by omega), fun s s0 s1 => absurd (show s < 0 from s1) (by omega)⟩⟩, ⟨⟨fun i _ _ => (by decide : (0 : Int) ≤ 0 ∧ (0 : Int) ≤ 255), fun i _ _ => (by decide : (0 : Int) ≤ 0 ∧ (0 : Int) ≤ 1199)⟩, by decide, by decide, by decide, by decide, by decide⟩, ?_⟩
  exact ⟨fun i _ _ => (by decide : (0 : Int) ≤ 0 ∧ (0 : Int) ≤ 255), fun i _ _ => (by decide : (0 : Int) ≤ 0 ∧ (0 : Int) ≤ 65535), fun i _ _ => (by decide : (-2147483648 : Int) ≤ 0 ∧ (0 : Int) ≤ 2147483647), by decide, by decide, by decide, by decide, by decide, by decide, by decide⟩
theorem zIn0 : zIn zc0 zr0 (100 * 0) := by
  refine ⟨zCI0, zRI0, ⟨⟨rfl, fun j j0 j1 => absurd (show j < 0 from j1) (by omega)⟩, fun m m0 m2 => ?_, fun m m0 m2 => ?_⟩, fun m m0 m2 n0 => ?_, ⟨rfl, rfl, fun _ _ _ => rfl, rfl, fun i i0 i1 => absurd (show i < 0 from i1) (by omega), rfl, rfl⟩, (fun _ => 0, fun _ => 0, 0, fun _ => 0, 0), ⟨fun _ _ _ => rfl, fun _ _ _ => rfl, fun _ _ _ => rfl, rfl, rfl, rfl, rfl, rfl, fun _ _ _ => rfl⟩, ⟨fun _ _ _ => rfl, fun _ _ _ => rfl, rfl, fun _ _ _ => rfl⟩, rfl, rfl, rfl⟩
  · rcases (by omega : m = 0 ∨ m = 1 ∨ m = 2) with h | h | h <;> rw [h] <;> rfl
  · rcases (by omega : m = 0 ∨ m = 1 ∨ m = 2) with h | h | h <;> rw [h] <;> exact ⟨fun _ => ⟨rfl, rfl, rfl⟩, fun q => absurd rfl q⟩
  · rcases (by omega : m = 0 ∨ m = 1 ∨ m = 2) with h | h | h <;> rw [h] at n0 <;> exact absurd rfl n0
theorem gM_zM (ad : Int → Nat → Nat) : gM (ad 0 1000) (ad 1 1000) (ad 2 1000) = zM ad := by
  funext j
  unfold gM zM
  match j with
  | 0 => rfl
  | 1 => rfl
  | 2 => rfl
  | j + 3 => simp
