theorem dL_law_39 : decode cL_law 39 = .ok (.tableswitch 537 0 12 #[65, 137, 165, 193, 209, 237, 265, 317, 369, 397, 425, 453, 509], 65) := by decide +kernel
theorem dL_law_23 : decode cL_law 23 = .ok (.iload 4, 2) := by decide +kernel
theorem dL_law_25 : decode cL_law 25 = .ok (.aload_n 0, 1) := by decide +kernel
theorem dL_law_26 : decode cL_law 26 = .ok (.arraylength, 1) := by decide +kernel
theorem dL_law_27 : decode cL_law 27 = .ok (.iconst 4, 1) := by decide +kernel
theorem dL_law_28 : decode cL_law 28 = .ok (.isub, 1) := by decide +kernel
theorem dL_law_29 : decode cL_law 29 = .ok (.if_icmp .gt 553, 3) := by decide +kernel
theorem dL_law_582 : decode cL_law 582 = .ok (.iconst 1, 1) := by decide +kernel
theorem dL_law_583 : decode cL_law 583 = .ok (.ireturn, 1) := by decide +kernel
theorem dL_law_576 : decode cL_law 576 = .ok (.iinc 4 4, 3) := by decide +kernel
theorem dL_law_579 : decode cL_law 579 = .ok (.goto (-556), 3) := by decide +kernel
theorem dL_law_32 : decode cL_law 32 = .ok (.aload_n 0, 1) := by decide +kernel
theorem dL_law_33 : decode cL_law 33 = .ok (.iload 4, 2) := by decide +kernel
theorem dL_law_35 : decode cL_law 35 = .ok (.iaload, 1) := by decide +kernel
theorem dL_law_36 : decode cL_law 36 = .ok (.bipush 15, 2) := by decide +kernel
theorem dL_law_38 : decode cL_law 38 = .ok (.iand, 1) := by decide +kernel
set_option maxHeartbeats 4000000 in
set_option maxRecDepth 100000 in
theorem law_loop {p : Program} {e : Env} {s : State} {m : MethodId} {below : List Frame} {meth : Method} {c : Code} {l : Launch} (htr : l.stackTraces = false) {b L : Nat} {xs : Nat → Int32} (hL : L ≤ 256) (hx : p.tables.exec = Jvm.exec) (hb : c.code = code) (hr : meth.sig.returnType = ret) (hml : c.maxLocals = 7) (hown : s.vm.findClass RL = some m.cls) (hg : ∀ w ∈ gw, w.before #[Value.ref b] s = true) (hX : va_X b L xs s s.heap) (hbl : b < s.heap.size) (hlocks : meth.locks = false) {D : va_G} {dA : Nat → ClassId} {A : Nat → Prop} (hA : ∀ q : Nat, s.heap.size ≤ q → A q) (hAf : ∀ q : Nat, A q → s.heap.size ≤ q) (hbA : ¬ A b) {tf tc : Nat} {aK aV : Nat → Nat} (hE : zE tf tc aK aV A s) (hN : zNc s) (hK : gK D dA s) {ac am : Int → Nat → Nat} {o : Nat} : ∀ (k : Nat) (i : Int) (σc σr : ZS) (g : Nat → Int64) (H : Heap) (locs : List Loc) (ls : Array Slot), (L : Int) ≤ i + k → 0 ≤ i → i ≤ 256 → zIn σc σr (100 * i) → va_P D vwC (zR dA am σr ++ zO dA ac o (σc, g)) H → va_D A (zR dA am σr ++ zO dA ac o (σc, g)) → va_S A s.heap H locs → lv_has ls 7 [(4, .int (Int32.ofInt i)), (3, .ref o), (2, .ref (am 0 1000)), (1, .ref (ac 10 1000)), (0, .ref b)] → W p l e room_1 s m #[Value.ref b] below meth c H locs (133 + i.toNat) (41139 + 6 * i.toNat) (lw_Z below #[Value.ref b] s) (F0 m 23 ls []) := by
  have head : ∀ (i : Int) (H : Heap) (locs : List Loc) (ls : Array Slot), 0 ≤ i → i ≤ 256 → va_S A s.heap H locs → lv_has ls 7 [(4, .int (Int32.ofInt i)), (3, .ref o), (2, .ref (am 0 1000)), (1, .ref (ac 10 1000)), (0, .ref b)] → (i + 4 ≤ (L : Int) → W p l e room_1 s m #[Value.ref b] below meth c H locs (133 + i.toNat) (41139 + 6 * i.toNat) (lw_Z below #[Value.ref b] s) (F0 m 32 ls [])) → W p l e room_1 s m #[Value.ref b] below meth c H locs (133 + i.toNat) (41139 + 6 * i.toNat) (lw_Z below #[Value.ref b] s) (F0 m 23 ls []) := by
    intro i H locs ls i0 i1 hS hl body
    refine lv_iload hx hb dL_law_23 (lv_at hl 0 rfl) ?_
    refine lv_aload_n hx hb dL_law_25 rfl (lv_at hl 4 rfl) ?_
    refine va_slen hx hb hX hbl hbA hS dL_law_26 ?_
    refine lv_iconst (v := 4) hx hb dL_law_27 (by decide) ?_
    refine lv_isub hx hb dL_law_28 ?_
    have e4 : Int32.ofNat L - 4 = Int32.ofInt ((L : Int) - 4) := by
      have e0 : Int32.ofNat L = Int32.ofInt (L : Int) := by
        apply Int32.toInt_inj.mp
        rw [z_ti (by omega)]
        exact nI_toInt (by omega)
      rw [e0, Int32.ofInt_sub]; rfl
    refine g_nrm e4 ?_
    refine lv_icmp_gt (tgt := 582) hx hb dL_law_29 (by decide) (fun h => ?_) (fun h => body ?_)
    · refine lv_iconst (v := 1) hx hb dL_law_582 (by decide) ?_
      refine va_forget (fun q hq => hAf _ (hS.2.2 q hq)) ?_
      refine W.widen (k := 600384) (n := 7287786) (by omega) (by omega) ?_
      exact lw_ret hx hb hr hlocks dL_law_583
    · rw [Int32.lt_iff_toInt_lt, z_ti (by omega), z_ti (by omega)] at h
      omega
  intro k
  induction k with
  | zero =>
    intro i σc σr g H locs ls hk i0 i1 hI hP hD hS hl
    exact head i H locs ls i0 i1 hS hl (fun h => absurd h (by omega))
  | succ k ih =>
    intro i σc σr g H locs ls hk i0 i1 hI hP hD hS hl
    refine head i H locs ls i0 i1 hS hl (fun h => ?_)
    have next : ∀ (τc τr : ZS) (g1 : Nat → Int64) (H1 : Heap) (locs1 : List Loc) (ls1 : Array Slot), zIn τc τr (100 * i + 400) → va_P D vwC (zR dA am τr ++ zO dA ac o (τc, g1)) H1 → va_D A (zR dA am τr ++ zO dA ac o (τc, g1)) → va_S A s.heap H1 locs1 → lv_has ls1 7 [(4, .int (Int32.ofInt i)), (3, .ref o), (2, .ref (am 0 1000)), (1, .ref (ac 10 1000)), (0, .ref b)] → W p l e room_1 s m #[Value.ref b] below meth c H1 locs1 (133 + i.toNat + 1) (41139 + 6 * i.toNat + 6) (lw_Z below #[Value.ref b] s) (F0 m 576 ls1 []) := by
      intro τc τr g1 H1 locs1 ls1 hI1 hP1 hD1 hS1 hl1
      refine lv_iinc (v := Int32.ofInt (i + 4)) (lv' := [(4, .int (Int32.ofInt (i + 4))), (3, .ref o), (2, .ref (am 0 1000)), (1, .ref (ac 10 1000)), (0, .ref b)]) hx hb dL_law_576 hl1 (k := 0) rfl (Int32.ofInt_add i 4).symm (by decide) rfl (fun ls hl => ?_)
      refine lv_goto (tgt := 23) hx hb dL_law_579 (by decide) ?_
      refine W.widen (k := 133 + (i + 4).toNat) (n := 41139 + 6 * (i + 4).toNat) (by omega) (by omega) ?_
      exact ih (i + 4) τc τr g1 H1 locs1 ls (by omega) (by omega) (by omega) (by rw [show 100 * (i + 4) = 100 * i + 400 by omega]; exact hI1) hP1 hD1 hS1 hl
    refine lv_aload_n hx hb dL_law_32 rfl (lv_at hl 4 rfl) ?_
    refine lv_iload hx hb dL_law_33 (lv_at hl 0 rfl) ?_
    refine va_sld hx hb hX hbl hbA hS (z_in ⟨by omega, by omega⟩ (by omega)) dL_law_35 ?_
    refine lv_bipush (v := 15) hx hb dL_law_36 (by decide) ?_
    refine lv_iand hx hb dL_law_38 ?_
    obtain ⟨j, hj, ej⟩ := pk_andE (xs (Int32.ofInt i).toNatClampNeg) (m := 15) 4 (by decide)
    refine g_nrm ej ?_
    have hjs : j = 0 ∨ j = 1 ∨ j = 2 ∨ j = 3 ∨ j = 4 ∨ j = 5 ∨ j = 6 ∨ j = 7 ∨ j = 8 ∨ j = 9 ∨ j = 10 ∨ j = 11 ∨ j = 12 ∨ j = 13 ∨ j = 14 ∨ j = 15 := by omega
    have hi : 0 ≤ i ∧ i + 4 ≤ (L : Int) := ⟨i0, h⟩
    have hcs : 133 + i.toNat + 1 ≤ 600000 ∧ 41139 + 6 * i.toNat + 6 ≤ 7000000 := by omega
    rcases hjs with rfl | rfl | rfl | rfl | rfl | rfl | rfl | rfl | rfl | rfl | rfl | rfl | rfl | rfl | rfl | rfl
    · refine g_nrm (y := 0) (by decide) ?_
      refine lv_tableIn (tgt := 104) hx hb dL_law_39 (by decide) (by decide) rfl (by decide) ?_
      exact law_append htr hL hx hb hml hown hg hX hbl hA hbA hE hN hK hi hI hcs hP hD hS hl next
    · refine g_nrm (y := 1) (by decide) ?_
      refine lv_tableIn (tgt := 176) hx hb dL_law_39 (by decide) (by decide) rfl (by decide) ?_
      exact law_assemble htr hL hx hb hml hown hg hX hbl hA hbA hE hN hK hi hI hcs hP hD hS hl next
    · refine g_nrm (y := 2) (by decide) ?_
      refine lv_tableIn (tgt := 204) hx hb dL_law_39 (by decide) (by decide) rfl (by decide) ?_
      exact law_drop htr hL hx hb hml hown hg hX hbl hA hbA hE hN hK hi hI hcs hP hD hS hl next
    · refine g_nrm (y := 3) (by decide) ?_
      refine lv_tableIn (tgt := 232) hx hb dL_law_39 (by decide) (by decide) rfl (by decide) ?_
      exact law_link htr hL hx hb hml hown hg hX hbl hA hbA hE hN hK hi hI hcs hP hD hS hl next
    · refine g_nrm (y := 4) (by decide) ?_
      refine lv_tableIn (tgt := 248) hx hb dL_law_39 (by decide) (by decide) rfl (by decide) ?_
      exact law_load htr hL hx hb hml hown hg hX hbl hA hbA hE hN hK hi hI hcs hP hD hS hl next
    · refine g_nrm (y := 5) (by decide) ?_
      refine lv_tableIn (tgt := 276) hx hb dL_law_39 (by decide) (by decide) rfl (by decide) ?_
      exact law_run htr hL hx hb hml hown hg hX hbl hA hbA hE hN hK hi hI hcs hP hD hS hl next
    · refine g_nrm (y := 6) (by decide) ?_
      refine lv_tableIn (tgt := 304) hx hb dL_law_39 (by decide) (by decide) rfl (by decide) ?_
      exact law_code htr hL hx hb hml hown hg hX hbl hA hbA hE hN hK hi hI hcs hP hD hS hl next
    · refine g_nrm (y := 7) (by decide) ?_
      refine lv_tableIn (tgt := 356) hx hb dL_law_39 (by decide) (by decide) rfl (by decide) ?_
      exact law_fixup htr hL hx hb hml hown hg hX hbl hA hbA hE hN hK hi hI hcs hP hD hS hl next
    · refine g_nrm (y := 8) (by decide) ?_
      refine lv_tableIn (tgt := 408) hx hb dL_law_39 (by decide) (by decide) rfl (by decide) ?_
      exact law_image htr hL hx hb hml hown hg hX hbl hA hbA hE hN hK hi hI hcs hP hD hS hl next
    · refine g_nrm (y := 9) (by decide) ?_
      refine lv_tableIn (tgt := 436) hx hb dL_law_39 (by decide) (by decide) rfl (by decide) ?_
      exact law_memory htr hL hx hb hml hown hg hX hbl hA hbA hE hN hK hi hI hcs hP hD hS hl next
    · refine g_nrm (y := 10) (by decide) ?_
      refine lv_tableIn (tgt := 464) hx hb dL_law_39 (by decide) (by decide) rfl (by decide) ?_
      exact law_register htr hL hx hb hml hown hg hX hbl hA hbA hE hN hK hi hI hcs hP hD hS hl next
    · refine g_nrm (y := 11) (by decide) ?_
      refine lv_tableIn (tgt := 492) hx hb dL_law_39 (by decide) (by decide) rfl (by decide) ?_
      exact law_trace htr hL hx hb hml hown hg hX hbl hA hbA hE hN hK hi hI hcs hP hD hS hl next
    · refine g_nrm (y := 12) (by decide) ?_
      refine lv_tableIn (tgt := 548) hx hb dL_law_39 (by decide) (by decide) rfl (by decide) ?_
      exact law_count htr hL hx hb hml hown hg hX hbl hA hbA hE hN hK hi hI hcs hP hD hS hl next
    · refine g_nrm (y := 13) (by decide) ?_
      refine lv_tableOut (tgt := 576) hx hb dL_law_39 (by decide) (by decide) ?_
      refine W.widen (k := 133 + i.toNat + 1) (n := 41139 + 6 * i.toNat + 6) (by omega) (by omega) ?_
      exact next σc σr g H locs ls ⟨hI.1.mo (by omega), hI.2.1.mo (by omega), hI.2.2⟩ hP hD hS hl
    · refine g_nrm (y := 14) (by decide) ?_
      refine lv_tableOut (tgt := 576) hx hb dL_law_39 (by decide) (by decide) ?_
      refine W.widen (k := 133 + i.toNat + 1) (n := 41139 + 6 * i.toNat + 6) (by omega) (by omega) ?_
      exact next σc σr g H locs ls ⟨hI.1.mo (by omega), hI.2.1.mo (by omega), hI.2.2⟩ hP hD hS hl
    · refine g_nrm (y := 15) (by decide) ?_
      refine lv_tableOut (tgt := 576) hx hb dL_law_39 (by decide) (by decide) ?_
      refine W.widen (k := 133 + i.toNat + 1) (n := 41139 + 6 * i.toNat + 6) (by omega) (by omega) ?_
      exact next σc σr g H locs ls ⟨hI.1.mo (by omega), hI.2.1.mo (by omega), hI.2.2⟩ hP hD hS hl
