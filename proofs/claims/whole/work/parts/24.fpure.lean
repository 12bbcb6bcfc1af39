-- ===== rows for the walks of 'fitted' =====
def pf_kd (v : Int32) : Nat := v.toNatClampNeg % 8
theorem pf_kd_lt (v : Int32) : pf_kd v < 8 := Nat.mod_lt _ (by omega)
/-- a sign, as the rows hold it -/
def pf_sg (v : Int32) : Prop := ∃ c : Nat, c < 256 ∧ v = nI c
theorem pf_kd_r {v : Int32} (h : pf_sg v) : v - v / 8 * 8 = nI (pf_kd v) := by
  obtain ⟨c, hc, rfl⟩ := h
  unfold pf_kd
  rw [nI_clamp (by omega)]
  exact pk_rem (a := c) (d := 8) (by omega) (by omega) (by omega)
def pf_sc (vso pp tt : Nat → Int32) (i j : Nat) : Int32 := vso (8 * pf_kd (pp i) + pf_kd (tt j))
theorem pf_w0 {b : Bool} {xx fi : Int32} {bo ac dn : Nat → Int32} {j : Nat} (h : ∀ k, k ≤ j → (bo k, ac k, dn k) = pf_r0 b xx fi k) :
    ∀ k, k ≤ j + 1 → (upd bo (j + 1) (pf_bd b) k, upd ac (j + 1) (pf_gr (ac j - xx) (pf_top (upd bo (j + 1) (pf_bd b) j, ac j, dn j) - fi)) k, upd dn (j + 1) (-100000000) k) = pf_r0 b xx fi k := by
  intro k hk
  by_cases e : k = j + 1
  · subst e
    rw [pk_us, pk_us, pk_us, pk_un (by omega)]
    have e1 := h j (Nat.le_refl _)
    show _ = (pf_bd b, pf_gr ((pf_r0 b xx fi j).2.1 - xx) (pf_top (pf_r0 b xx fi j) - fi), pf_far)
    rw [← e1]
  · rw [pk_un e, pk_un e, pk_un e]; exact h k (by omega)
theorem pf_ws {b : Bool} {xx fi v : Int32} {sc : Nat → Int32} {R : Nat → pf_T} {bo ac dn : Nat → Int32} {j nn : Nat} (h1 : ∀ k, k ≤ j → (bo k, ac k, dn k) = pf_rs b xx fi sc R k) (h2 : ∀ k, j < k → k ≤ nn → (bo k, ac k, dn k) = R k) (hj : j + 1 ≤ nn)
    (hv : v = if b = true ∧ pf_top (R j) + sc j < 0 then 0 else pf_top (R j) + sc j) :
    (∀ k, k ≤ j + 1 → (upd bo (j + 1) v k, upd ac (j + 1) (pf_gr (ac j - xx) (pf_top (upd bo (j + 1) v j, ac j, dn j) - fi)) k, upd dn (j + 1) (pf_gr (dn (j + 1) - xx) (pf_top (bo (j + 1), ac (j + 1), dn (j + 1)) - fi)) k) = pf_rs b xx fi sc R k) ∧
    (∀ k, j + 1 < k → k ≤ nn → (upd bo (j + 1) v k, upd ac (j + 1) (pf_gr (ac j - xx) (pf_top (upd bo (j + 1) v j, ac j, dn j) - fi)) k, upd dn (j + 1) (pf_gr (dn (j + 1) - xx) (pf_top (bo (j + 1), ac (j + 1), dn (j + 1)) - fi)) k) = R k) := by
  refine ⟨fun k hk => ?_, fun k hk hk2 => ?_⟩
  · by_cases e : k = j + 1
    · subst e
      rw [pk_us, pk_us, pk_us, pk_un (by omega)]
      have e1 := h1 j (Nat.le_refl _)
      have e2 := h2 (j + 1) (by omega) hj
      have e3 : dn (j + 1) = (R (j + 1)).2.2 := congrArg (fun z => z.2.2) e2
      show _ = ((if b = true ∧ pf_top (R j) + sc j < 0 then 0 else pf_top (R j) + sc j), pf_gr ((pf_rs b xx fi sc R j).2.1 - xx) (pf_top (pf_rs b xx fi sc R j) - fi), pf_gr ((R (j + 1)).2.2 - xx) (pf_top (R (j + 1)) - fi))
      rw [← hv, ← e1, e2, e3]
    · rw [pk_un e, pk_un e, pk_un e]; exact h1 k (by omega)
  · have e : k ≠ j + 1 := by omega
    rw [pk_un e, pk_un e, pk_un e]; exact h2 k (by omega) hk2
theorem pf_w1 {b : Bool} {xx fi : Int32} {sc : Nat → Int32} {R : Nat → pf_T} {bo ac dn : Nat → Int32} {nn : Nat} (h : ∀ k, k ≤ nn → (bo k, ac k, dn k) = R k) :
    (∀ k, k ≤ 0 → (upd bo 0 (pf_bd b) k, upd ac 0 (-100000000) k, upd dn 0 (pf_gr (dn 0 - xx) (pf_top (bo 0, ac 0, dn 0) - fi)) k) = pf_rs b xx fi sc R k) ∧ ∀ k, 0 < k → k ≤ nn → (upd bo 0 (pf_bd b) k, upd ac 0 (-100000000) k, upd dn 0 (pf_gr (dn 0 - xx) (pf_top (bo 0, ac 0, dn 0) - fi)) k) = R k := by
  have e2 := h 0 (Nat.zero_le _)
  have e3 : dn 0 = (R 0).2.2 := congrArg (fun z => z.2.2) e2
  refine ⟨fun k hk => ?_, fun k h1 h2 => ?_⟩
  · have : k = 0 := by omega
    subst this
    rw [pk_us, pk_us, pk_us]
    show _ = (pf_bd b, pf_far, pf_gr ((R 0).2.2 - xx) (pf_top (R 0) - fi))
    rw [e2, e3]
  · have e : k ≠ 0 := by omega
    rw [pk_un e, pk_un e, pk_un e]; exact h k h2
def pf_bb (b : Bool) (v : Nat → Nat → Int32) (n i : Nat) : Int32 × Int32 × Int32 := if b then pf_best v n i else (0, 0, 0)
def pf_kk (b : Bool) (v : Nat → Nat → Int32) (n i j : Nat) : Int32 × Int32 × Int32 := if b then pf_kb (v (i + 1)) (i + 1) (pf_best v n i) j else (0, 0, 0)
theorem pf_kk_0 {b : Bool} {v : Nat → Nat → Int32} {n i : Nat} : pf_bb b v n i = pf_kk b v n i 0 := rfl
theorem pf_kk_n {b : Bool} {v : Nat → Nat → Int32} {n i : Nat} : pf_kk b v n i n = pf_bb b v n (i + 1) := rfl
theorem pf_kk_f {b : Bool} {v : Nat → Nat → Int32} {n i j : Nat} (hb : b = false) : pf_kk b v n i (j + 1) = pf_kk b v n i j := by subst hb; rfl
theorem pf_kk_y {b : Bool} {v : Nat → Nat → Int32} {n i j : Nat} (hb : b = true) (h : (pf_kk b v n i j).1 < v (i + 1) (j + 1)) : pf_kk b v n i (j + 1) = (v (i + 1) (j + 1), nI (i + 1), nI (j + 1)) := by subst hb; exact if_pos h
theorem pf_kk_z {b : Bool} {v : Nat → Nat → Int32} {n i j : Nat} (hb : b = true) (h : ¬ (pf_kk b v n i j).1 < v (i + 1) (j + 1)) : pf_kk b v n i (j + 1) = pf_kk b v n i j := by subst hb; exact if_neg h
theorem pf_bb_0 {b : Bool} {v : Nat → Nat → Int32} {n : Nat} : pf_bb b v n 0 = (0, 0, 0) := by cases b <;> rfl
