theorem q161 : Cond.initialized "java/lang/Throwable" ∈ gw := gw_in (i := 161) (by decide +kernel) rfl
theorem q181 : Cond.instantiable RX10 12 ∈ gw := gw_in (i := 181) (by decide +kernel) rfl
theorem q1562 : Cond.instantiable RX11 85 ∈ gw := gw_in (i := 1562) (by decide +kernel) rfl
theorem g_arr {args : Array Value} {s : State} {ty : FieldType} (h : (Cond.arrayClass ty).before args s = true) : ∃ cA : ClassId, ArrOfT s cA ty ∧ s.vm.findClass ("[" ++ ty.toString) = some cA := by
  obtain ⟨c, k, comp, h1, h2, h3⟩ := Cond.arrayClass_spec (args := args) (first := s) (o := none) (s := s) (idx := []) h
  exact ⟨c, fun n z => ⟨(fun k h => by cases h), k, h2, comp, h3⟩, h1⟩
theorem g_arrO {args : Array Value} {s : State} {C : String} (h : (Cond.arrayOver (.object C)).before args s = true) : ∃ cA : ClassId, ArrOfT s cA (.object C) ∧ va_RA s cA (.object C) := by
  obtain ⟨comp, c, k, h1, -, h3, h4, h5⟩ := Cond.arrayOver_spec (args := args) (first := s) (o := none) (s := s) (idx := []) h
  exact ⟨c, fun n z => ⟨(fun k h => by cases h), k, h3, comp, h4⟩, k, comp, h3, h4, h1, h5⟩
def zTm (i : Nat) : Term := .string RX9 (([48, 70, 76, 78] : List Nat).getD i 0)
set_option maxRecDepth 100000 in
theorem zs_ex : ∀ i : Nat, i < 4 → Cond.exactly (zTm i) "java/lang/String" ∈ flatC (Jvm.Cond.and given_1 narrow_1) := by decide +kernel
set_option maxRecDepth 100000 in
theorem zs_co : ∀ i : Nat, i < 4 → Cond.eq (.field (zTm i) "java/lang/String" "code\x72" "B") (.int 0) ∈ flatC (Jvm.Cond.and given_1 narrow_1) := by decide +kernel
set_option maxRecDepth 100000 in
theorem zs_ar : ∀ i : Nat, i < 4 → Cond.arrayOf (.field (zTm i) "java/lang/String" "value" "[B") .byte ∈ flatC (Jvm.Cond.and given_1 narrow_1) := by decide +kernel
set_option maxRecDepth 100000 in
theorem zs_le : ∀ i : Nat, i < 4 → Cond.eq (.length (.field (zTm i) "java/lang/String" "value" "[B")) (.int (Int32.ofNat (zLen.getD i 0))) ∈ flatC (Jvm.Cond.and given_1 narrow_1) := by decide +kernel
set_option maxRecDepth 100000 in
theorem zs_sl0 : ((flatC (Jvm.Cond.and given_1 narrow_1)).drop 491).take 8 = (List.range 8).map (fun j => Cond.eq (.elem (.field (.string RX9 48) "java/lang/String" "value" "[B") (.int (Int32.ofNat j))) (.int ((zByt.getD 0 []).getD j 0))) := by decide +kernel
set_option maxRecDepth 100000 in
theorem zs_sl1 : ((flatC (Jvm.Cond.and given_1 narrow_1)).drop 290).take 23 = (List.range 23).map (fun j => Cond.eq (.elem (.field (.string RX9 70) "java/lang/String" "value" "[B") (.int (Int32.ofNat j))) (.int ((zByt.getD 1 []).getD j 0))) := by decide +kernel
set_option maxRecDepth 100000 in
theorem zs_sl2 : ((flatC (Jvm.Cond.and given_1 narrow_1)).drop 317).take 11 = (List.range 11).map (fun j => Cond.eq (.elem (.field (.string RX9 76) "java/lang/String" "value" "[B") (.int (Int32.ofNat j))) (.int ((zByt.getD 2 []).getD j 0))) := by decide +kernel
set_option maxRecDepth 100000 in
theorem zs_sl3 : ((flatC (Jvm.Cond.and given_1 narrow_1)).drop 332).take 155 = (List.range 155).map (fun j => Cond.eq (.elem (.field (.string RX9 78) "java/lang/String" "value" "[B") (.int (Int32.ofNat j))) (.int ((zByt.getD 3 []).getD j 0))) := by decide +kernel
theorem zs_el : ∀ i : Nat, i < 4 → ∀ j : Nat, j < zLen.getD i 0 → Cond.eq (.elem (.field (zTm i) "java/lang/String" "value" "[B") (.int (Int32.ofNat j))) (.int ((zByt.getD i []).getD j 0)) ∈ flatC (Jvm.Cond.and given_1 narrow_1) := by
  intro i hi j hj
  match i, hi, hj with
  | 0, _, hj => exact List.mem_of_mem_drop (List.mem_of_mem_take (zs_sl0 ▸ List.mem_map.mpr ⟨j, List.mem_range.mpr hj, rfl⟩))
  | 1, _, hj => exact List.mem_of_mem_drop (List.mem_of_mem_take (zs_sl1 ▸ List.mem_map.mpr ⟨j, List.mem_range.mpr hj, rfl⟩))
  | 2, _, hj => exact List.mem_of_mem_drop (List.mem_of_mem_take (zs_sl2 ▸ List.mem_map.mpr ⟨j, List.mem_range.mpr hj, rfl⟩))
  | 3, _, hj => exact List.mem_of_mem_drop (List.mem_of_mem_take (zs_sl3 ▸ List.mem_map.mpr ⟨j, List.mem_range.mpr hj, rfl⟩))
  | i + 4, hi, _ => omega
theorem zs_ne {args : Array Value} {s : State} (hs : ∀ w ∈ flatC (Jvm.Cond.and given_1 narrow_1), w.before args s = true) : ∀ i j : Nat, i < 4 → j < 4 → i ≠ j → (Cond.not (Cond.eq (zTm i) (zTm j))).before args s = true ∨ (Cond.not (Cond.eq (zTm j) (zTm i))).before args s = true := by
  intro i j hi hj ne
  obtain ⟨a, -, -, -, ha, -⟩ := Cond.exactly_spec (args := args) (first := s) (o := none) (s := s) (idx := []) (hs _ (zs_ex i hi))
  obtain ⟨b, -, -, -, hb, -⟩ := Cond.exactly_spec (args := args) (first := s) (o := none) (s := s) (idx := []) (hs _ (zs_ex j hj))
  by_cases e : a = b
  · have h1 := va_eqt (hs _ (zs_le i hi))
    have h2 := va_eqt (hs _ (zs_le j hj))
    have h3 : (Term.length (.field (zTm i) "java/lang/String" "value" "[B")).eval args s none [] s = (Term.length (.field (zTm j) "java/lang/String" "value" "[B")).eval args s none [] s := by
      simp only [Term.eval, ha, hb, e]
    rw [h1, h2] at h3
    have h4 : Int32.ofNat (zLen.getD i 0) = Int32.ofNat (zLen.getD j 0) := by injection h3 with h3; injection h3
    have h5 : ∀ i : Nat, i < 4 → ∀ j : Nat, j < 4 → i ≠ j → Int32.ofNat (zLen.getD i 0) ≠ Int32.ofNat (zLen.getD j 0) := by decide
    exact absurd h4 (h5 i hi j hj ne)
  · left
    simp [Cond.before, Cond.holds, Cond.value, ha, hb, e]
set_option maxRecDepth 100000 in
theorem zFORM_ar : Cond.arrayOf (.static RX8 "FORM" "[I") .int ∈ flatC (Jvm.Cond.and given_1 narrow_1) := by decide +kernel
set_option maxRecDepth 100000 in
theorem zFORM_le : Cond.eq (.length (.static RX8 "FORM" "[I")) (.int (Int32.ofNat 36)) ∈ flatC (Jvm.Cond.and given_1 narrow_1) := by decide +kernel
set_option maxRecDepth 100000 in
theorem zFORM_sl : ((flatC (Jvm.Cond.and given_1 narrow_1)).drop 14).take 36 = (List.range 36).map (fun j => Cond.eq (.elem (.static RX8 "FORM" "[I") (.int (Int32.ofNat j))) (.int (Int32.ofInt (zFORM.getD j 0)))) := by decide +kernel
theorem zFORM_el : ∀ j : Nat, j < 36 → Cond.eq (.elem (.static RX8 "FORM" "[I") (.int (Int32.ofNat j))) (.int (Int32.ofInt (zFORM.getD j 0))) ∈ flatC (Jvm.Cond.and given_1 narrow_1) := fun j hj => List.mem_of_mem_drop (List.mem_of_mem_take (zFORM_sl ▸ List.mem_map.mpr ⟨j, List.mem_range.mpr hj, rfl⟩))
theorem zFORM_ls : Cond.laysStatic RX8 "FORM" "[I" ∈ lw_tbl := List.mem_of_getElem? (i := 972) (by decide +kernel)
set_option maxRecDepth 100000 in
theorem zCODE_ar : Cond.arrayOf (.static RX8 "CODE" "[I") .int ∈ flatC (Jvm.Cond.and given_1 narrow_1) := by decide +kernel
set_option maxRecDepth 100000 in
theorem zCODE_le : Cond.eq (.length (.static RX8 "CODE" "[I")) (.int (Int32.ofNat 36)) ∈ flatC (Jvm.Cond.and given_1 narrow_1) := by decide +kernel
set_option maxRecDepth 100000 in
theorem zCODE_sl : ((flatC (Jvm.Cond.and given_1 narrow_1)).drop 53).take 36 = (List.range 36).map (fun j => Cond.eq (.elem (.static RX8 "CODE" "[I") (.int (Int32.ofNat j))) (.int (Int32.ofInt (zCODE.getD j 0)))) := by decide +kernel
theorem zCODE_el : ∀ j : Nat, j < 36 → Cond.eq (.elem (.static RX8 "CODE" "[I") (.int (Int32.ofNat j))) (.int (Int32.ofInt (zCODE.getD j 0))) ∈ flatC (Jvm.Cond.and given_1 narrow_1) := fun j hj => List.mem_of_mem_drop (List.mem_of_mem_take (zCODE_sl ▸ List.mem_map.mpr ⟨j, List.mem_range.mpr hj, rfl⟩))
theorem zCODE_ls : Cond.laysStatic RX8 "CODE" "[I" ∈ lw_tbl := List.mem_of_getElem? (i := 1034) (by decide +kernel)
set_option maxRecDepth 100000 in
theorem zcs_g : Cond.eq (.static "java/lang/String" "COMPACT_STRINGS" "Z") (.int 1) ∈ flatC (Jvm.Cond.and given_1 narrow_1) := by decide +kernel
theorem zcs_t : Cond.laysStatic "java/lang/String" "COMPACT_STRINGS" "Z" ∈ lw_tbl := List.mem_of_getElem? (i := 827) (by decide +kernel)
set_option maxRecDepth 100000 in
theorem zsf_g : Cond.isRef (.static "jdk/internal/util/Preconditions" "SIOOBE_FORMATTER" "Ljava/util/function/BiFunction;") ∈ flatC (Jvm.Cond.and given_1 narrow_1) := by decide +kernel
theorem zsf_t : Cond.laysStatic "jdk/internal/util/Preconditions" "SIOOBE_FORMATTER" "Ljava/util/function/BiFunction;" ∈ lw_tbl := List.mem_of_getElem? (i := 843) (by decide +kernel)
set_option maxRecDepth 100000 in
theorem u_nar : Cond.isRef (.static Bundle.tN "UNASSIGNED_STACK" Bundle.steD) ∈ flatC (Jvm.Cond.and given_1 narrow_1) := by decide +kernel
set_option maxRecDepth 100000 in
theorem s_nar : Cond.isRef (.static Bundle.tN "SUPPRESSED_SENTINEL" Bundle.listD) ∈ flatC (Jvm.Cond.and given_1 narrow_1) := by decide +kernel
theorem u_tab : Cond.laysStatic Bundle.tN "UNASSIGNED_STACK" Bundle.steD ∈ lw_tbl := List.mem_of_getElem? (i := 665) (by decide +kernel)
theorem s_tab : Cond.laysStatic Bundle.tN "SUPPRESSED_SENTINEL" Bundle.listD ∈ lw_tbl := List.mem_of_getElem? (i := 667) (by decide +kernel)
set_option maxRecDepth 100000 in
theorem st_tab : ∀ q ∈ zMsg, Cond.stringRef RX10 q.1 q.2 ∈ lw_tbl := by decide +kernel
set_option maxRecDepth 100000 in
theorem st_nar : ∀ q ∈ zMsg, Cond.exactly (.string RX10 q.1) "java/lang/String" ∈ flatC (Jvm.Cond.and given_1 narrow_1) := by decide +kernel
set_option maxRecDepth 100000 in
theorem nc_nar : ∀ q ∈ zNcs, Cond.not (.castable q.1 q.2) ∈ flatC (Jvm.Cond.and given_1 narrow_1) := by decide +kernel
set_option maxRecDepth 100000 in
theorem sr_tab0 : Cond.stringRef RX9 48 ":;,[]+-@" ∈ lw_tbl := by decide +kernel
set_option maxRecDepth 100000 in
theorem sr_tab1 : Cond.stringRef RX9 70 "ax cx dx bx sp bp si di" ∈ lw_tbl := by decide +kernel
set_option maxRecDepth 100000 in
theorem sr_tab2 : Cond.stringRef RX9 76 "es cs ss ds" ∈ lw_tbl := by decide +kernel
set_option maxRecDepth 100000 in
theorem sr_tab3 : Cond.stringRef RX9 78 "seg public e\x78tern word byte space mov add or and sub xor cmp inc dec push pop shl shr neg mul div jmp jc jnc jz jnz js jns loop call callf ret retf int hlt" ∈ lw_tbl := by decide +kernel
theorem z_start {args : Array Value} {s : State} {A : Nat → Prop} (hts : ∀ w ∈ lw_tbl, w.before args s = true) (hg : ∀ w ∈ gw, w.before args s = true) (hgv : (Jvm.Cond.and given_1 narrow_1).before args s = true) (hAf : ∀ q : Nat, A q → s.heap.size ≤ q) : (∃ (tf tc : Nat) (aK aV : Nat → Nat), zE tf tc aK aV A s) ∧ zNc s := by
  have hs := flat_of_before _ hgv
  have hA : ∀ a : Nat, a < s.heap.size → ¬ A a := fun a h1 h2 => absurd (hAf a h2) (Nat.not_le.mpr h1)
  refine ⟨?_, fun q hq => va_Nc.of (hs _ (nc_nar q hq))⟩
  obtain ⟨tf, hf, hF⟩ := va_Tof (tm := .static RX8 "FORM" "[I") (f := fun j => .int (Int32.ofInt (zFORM.getD j 0))) (A := A) (N := 36) (by decide) (hs _ zFORM_ar) (va_eqt (hs _ zFORM_le)) (fun j hj => va_eqt (hs _ (zFORM_el j hj))) hA
  obtain ⟨tc, hc, hC⟩ := va_Tof (tm := .static RX8 "CODE" "[I") (f := fun j => .int (Int32.ofInt (zCODE.getD j 0))) (A := A) (N := 36) (by decide) (hs _ zCODE_ar) (va_eqt (hs _ zCODE_le)) (fun j hj => va_eqt (hs _ (zCODE_el j hj))) hA
  obtain ⟨aK, aV, hS, hT⟩ := vk_Sof (N := 4) (tm := zTm) (len := zLen) (byt := zByt) (A := A) (by decide) (fun i hi => hs _ (zs_ex i hi)) (fun i hi => hs _ (zs_co i hi)) (fun i hi => hs _ (zs_ar i hi)) (fun i hi => hs _ (zs_le i hi)) (fun i hi j hj => hs _ (zs_el i hi j hj)) (zs_ne hs) hA
  refine ⟨tf, tc, aK, aV, va_Zof (hts _ zFORM_ls) (hg _ q153) hf hA, va_Zof (hts _ zCODE_ls) (hg _ q153) hc hA, hF, hC, va_Zof (hts _ zcs_t) (hg _ q166) (va_eqi (hs _ zcs_g)) hA, va_Zqof (hts _ zsf_t) (hg _ q170) (hs _ zsf_g) hA, hS, vk_R.of (hts _ sr_tab0) (hT 0 (by decide)), vk_R.of (hts _ sr_tab1) (hT 1 (by decide)), vk_R.of (hts _ sr_tab2) (hT 2 (by decide)), vk_R.of (hts _ sr_tab3) (hT 3 (by decide)), vx_Zqof (hts _ u_tab) (hg _ q161) (hs _ u_nar) hA, vx_Zqof (hts _ s_tab) (hg _ q161) (hs _ s_nar) hA, fun q hq => ?_⟩
  obtain ⟨a, c, cell, k, h1, -⟩ := Cond.exactly_spec (args := args) (first := s) (o := none) (s := s) (idx := []) (hs _ (st_nar q hq))
  exact ⟨a, vk_R.of (hts _ (st_tab q hq)) h1⟩
set_option maxHeartbeats 4000000 in
set_option maxRecDepth 100000 in
theorem g_Kstart {args : Array Value} {s : State} (hg : ∀ w ∈ gw, w.before args s = true) : ∃ (D : va_G) (dA : Nat → ClassId), gK D dA s := by
  obtain ⟨c0, i0, k0⟩ := u_known (C := RX0) (T := TX0) (N := 8) (n := 8) hg inX0 (hg _ q252)
  obtain ⟨c1, i1, k1⟩ := u_known (C := RX1) (T := TX1) (N := 7) (n := 7) hg inX1 (hg _ q506)
  obtain ⟨c2, i2, k2⟩ := u_known (C := RX2) (T := TX2) (N := 6) (n := 6) hg inX2 (hg _ q366)
  obtain ⟨c3, i3, k3⟩ := u_known (C := RX3) (T := TX3) (N := 7) (n := 7) hg inX3 (hg _ q478)
  obtain ⟨c4, i4, k4⟩ := u_known (C := RX4) (T := TX4) (N := 14) (n := 14) hg inX4 (hg _ q547)
  obtain ⟨c5, i5, k5⟩ := u_known (C := RX5) (T := TX5) (N := 7) (n := 7) hg inX5 (hg _ q189)
  obtain ⟨c6, i6, k6⟩ := u_known (C := RX6) (T := TX6) (N := 17) (n := 17) hg inX6 (hg _ q392)
  obtain ⟨c7, i7, k7⟩ := u_known (C := RX7) (T := TX7) (N := 8) (n := 8) hg inX7 (hg _ q298)
  obtain ⟨c8, i8, k8⟩ := u_known (C := RX8) (T := TX8) (N := 6) (n := 6) hg inX8 (hg _ q292)
  obtain ⟨c9, i9, k9⟩ := u_known (C := RX9) (T := TX9) (N := 5) (n := 5) hg inX9 (hg _ q226)
  obtain ⟨c10, i10, k10⟩ := u_known (C := RX10) (T := TX10) (N := 12) (n := 12) hg inX10 (hg _ q181)
  obtain ⟨c11, i11, k11⟩ := u_known (C := RX11) (T := TX11) (N := 85) (n := 85) hg inX11 (hg _ q1562)
  obtain ⟨a0, x0, y0⟩ := g_arr (hg _ q224)
  obtain ⟨a1, x1, y1⟩ := g_arr (hg _ q223)
  obtain ⟨a2, x2, y2⟩ := g_arr (hg _ q222)
  obtain ⟨a3, x3, y3⟩ := g_arr (hg _ q1871)
  obtain ⟨a4, x4, y4⟩ := g_arrO (hg _ q391)
  refine ⟨(fun k => ([c0, c1, c2, c3, c4, c5, c6, c7, c8, c9, c10, c11] : List ClassId).getD k 0, fun k => ([i0, i1, i2, i3, i4, i5, i6, i7, i8, i9, i10, i11] : List (Nat → Nat)).getD k (fun _ => 0)), fun k => ([a0, a1, a2, a3, a4] : List ClassId).getD k 0, ⟨fun k q hq => ?_, fun k q hq => ?_⟩⟩
  · match k, hq with
    | 0, hq => cases hq; exact k0
    | 1, hq => cases hq; exact k1
    | 2, hq => cases hq; exact k2
    | 3, hq => cases hq; exact k3
    | 4, hq => cases hq; exact k4
    | 5, hq => cases hq; exact k5
    | 6, hq => cases hq; exact k6
    | 7, hq => cases hq; exact k7
    | 8, hq => cases hq; exact k8
    | 9, hq => cases hq; exact k9
    | 10, hq => cases hq; exact k10
    | 11, hq => cases hq; exact k11
    | k + 12, hq => simp [vwC] at hq
  · match k, hq with
    | 0, hq => cases hq; exact ⟨x0, y0⟩
    | 1, hq => cases hq; exact ⟨x1, y1⟩
    | 2, hq => cases hq; exact ⟨x2, y2⟩
    | 3, hq => cases hq; exact ⟨x3, y3⟩
    | 4, hq => cases hq; exact ⟨x4, y4⟩
    | k + 5, hq => simp [gT] at hq
