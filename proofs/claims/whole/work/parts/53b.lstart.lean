theorem lf_start {LP : List Nat} {tg rg : Nat → Option Nat} {pl : Nat → Nat} {pr : Nat → Nat → Int32} (h1 : gr_ok tg LP pl pr 8 8 (fun i j => if i = j then 1 else -1)) (h2 : gr_ok rg LP pl pr 151 301 (fun _ _ => 0)) (h3 : ∀ i j z, i < 8 → j < 151 → tg i = some z → rg j ≠ some z) :
    LF 0 0 0 0 0 0 (fun _ => 0) (fun _ => 0) (fun _ => 0) (fun _ => 0) (fun _ => 0) (fun _ => 0) (fun _ => 0) (fun _ => 0) (sc0 64) (-1) 2 1 LP tg rg pl pr (fun _ _ => 0) := by
  refine ⟨⟨Nat.zero_le _, Nat.zero_le _, Nat.zero_le _, Nat.zero_le _, Nat.zero_le _⟩, fun i hi => absurd hi (Nat.not_lt_zero i), fun i hi => absurd hi (Nat.not_lt_zero i), fun i hi => absurd hi (Nat.not_lt_zero i), fun i hi => absurd hi (Nat.not_lt_zero i), ⟨by decide, by decide⟩, ⟨by decide, by decide⟩, ?_, gr_c h1 ?_, h2, h3⟩
  · intro k hk
    unfold sc0
    rw [if_pos hk]
    split <;> exact ⟨by decide, by decide⟩
  · intro i j hi hj
    show (if i = j then (1 : Int32) else -1) = sc0 64 (8 * i + j)
    unfold sc0
    have e1 : (8 * i + j) / 8 = i := by omega
    have e2 : (8 * i + j) % 8 = j := by omega
    rw [if_pos (show 8 * i + j < 64 by omega), e1, e2]
theorem lw_xE {s : State} {b : Nat} (hts : ∀ w ∈ lw_tbl, w.before #[Value.ref b] s = true) (hgv : (Jvm.Cond.and given_1 narrow_1).before #[Value.ref b] s = true) : xE (fun q : Nat => s.heap.size ≤ q) s := by
  have hs := flat_of_before _ hgv
  have hA : ∀ a : Nat, a < s.heap.size → ¬ (fun q : Nat => s.heap.size ≤ q) a := fun a h => Nat.not_le.mpr h
  refine ⟨vx_Zqof (hts (.laysStatic Bundle.tN "UNASSIGNED_STACK" Bundle.steD) (by decide +kernel)) (hts (.initialized Bundle.tN) (by decide +kernel)) (hs (.isRef (.static Bundle.tN "UNASSIGNED_STACK" Bundle.steD)) (by decide +kernel)) hA,
    vx_Zqof (hts (.laysStatic Bundle.tN "SUPPRESSED_SENTINEL" Bundle.listD) (by decide +kernel)) (hts (.initialized Bundle.tN) (by decide +kernel)) (hs (.isRef (.static Bundle.tN "SUPPRESSED_SENTINEL" Bundle.listD)) (by decide +kernel)) hA, ?_,
    va_Nc.of (hs (.not (.castable ise nse)) (by decide +kernel)), va_Nc.of (hs (.not (.castable iae nse)) (by decide +kernel)), fun w hw => va_tabs (xB_ot w hw) rfl (hts w ((show ∀ w ∈ xB, w ∈ lw_tbl by decide +kernel) w hw))⟩
  have h1 : ∀ q ∈ xT, Cond.stringRef RX5 q.1 q.2 ∈ lw_tbl := by decide +kernel
  have h2 : ∀ q ∈ xT, Cond.exactly (.string RX5 q.1) "java/lang/String" ∈ flatC (Jvm.Cond.and given_1 narrow_1) := by decide +kernel
  intro q hq
  obtain ⟨a, c, cA, kA, q1, -⟩ := Cond.exactly_spec (args := #[Value.ref b]) (first := s) (o := none) (s := s) (idx := []) (t := .string RX5 q.1) (cls := "java/lang/String") (hs _ (h2 q hq))
  exact ⟨a, vk_R.of (hts _ (h1 q hq)) q1⟩
theorem lw_K {s : State} {b : Nat} (hts : ∀ w ∈ lw_tbl, w.before #[Value.ref b] s = true) : ∃ (D : va_G) (cI cJ cL : ClassId), va_K D vwCl [(cI, .int), (cJ, .array .int), (cL, .long)] s := by
  obtain ⟨c0, i0, k0⟩ := u_known (C := RX0) (T := TX0) (N := 8) (n := 8) hts inX0 (hts (.instantiable RX0 8) (by decide +kernel))
  obtain ⟨c1, i1, k1⟩ := u_known (C := RX1) (T := TX1) (N := 5) (n := 5) hts inX1 (hts (.instantiable RX1 5) (by decide +kernel))
  obtain ⟨c2, i2, k2⟩ := u_known (C := RX2) (T := TX2) (N := 3) (n := 3) hts inX2 (hts (.instantiable RX2 3) (by decide +kernel))
  obtain ⟨c3, i3, k3⟩ := u_known (C := RX3) (T := TX3) (N := 3) (n := 3) hts inX3 (hts (.instantiable RX3 3) (by decide +kernel))
  obtain ⟨c4, i4, k4⟩ := u_known (C := RX4) (T := TX4) (N := 2) (n := 2) hts inX4 (hts (.instantiable RX4 2) (by decide +kernel))
  obtain ⟨c5, i5, k5⟩ := u_known (C := RX5) (T := TX5) (N := 7) (n := 7) hts inX5 (hts (.instantiable RX5 7) (by decide +kernel))
  obtain ⟨c6, i6, k6⟩ := u_known (C := RX6) (T := TX6) (N := 28) (n := 28) hts inX6 (hts (.instantiable RX6 28) (by decide +kernel))
  obtain ⟨cI, kI, mI, fI, gI, qI⟩ := Cond.arrayClass_spec (hts (.arrayClass .int) (by decide +kernel))
  obtain ⟨cL, kL, mL, fL, gL, qL⟩ := Cond.arrayClass_spec (hts (.arrayClass .long) (by decide +kernel))
  obtain ⟨mJ, cJ, kJ, -, -, gJ, qJ, fJ⟩ := arrayOver_specB (hts (.arrayOver (.array .int)) (by decide +kernel))
  refine ⟨(fun k => match k with | 0 => c0 | 1 => c1 | 2 => c2 | 3 => c3 | 4 => c4 | 5 => c5 | _ => c6, fun k => match k with | 0 => i0 | 1 => i1 | 2 => i2 | 3 => i3 | 4 => i4 | 5 => i5 | _ => i6), cI, cJ, cL, ?_, ?_⟩
  · intro c q hq
    match c, hq with
    | 0, hq => cases hq; exact k0
    | 1, hq => cases hq; exact k1
    | 2, hq => cases hq; exact k2
    | 3, hq => cases hq; exact k3
    | 4, hq => cases hq; exact k4
    | 5, hq => cases hq; exact k5
    | 6, hq => cases hq; exact k6
    | k + 7, hq => simp [vwCl] at hq
  · intro k q hq
    match k, hq with
    | 0, hq => cases hq; exact ⟨fun n z => ⟨fun k h => (by cases h), kI, gI, mI, qI⟩, fI⟩
    | 1, hq => cases hq; exact ⟨fun n z => ⟨fun k h => (by cases h), kJ, gJ, mJ, qJ⟩, fJ⟩
    | 2, hq => cases hq; exact ⟨fun n z => ⟨fun k h => (by cases h), kL, gL, mL, qL⟩, fL⟩
    | k + 3, hq => simp at hq
