/-! what the law's loop needs of numbers -/
theorem lf_sg (w : Int32) (k : Nat) : pf_sg (px_sg w k) := by
  obtain ⟨j, hj, e⟩ := pk_andE ((w.toUInt32 >>> ((nI (8 * k)).toUInt32 &&& Int32.toUInt32 31)).toInt32) (m := 255) 8 (by decide)
  exact ⟨j, hj, e⟩
theorem lf_pw {w : Int32} {s : Nat × (Nat → Int32)} (h : ∀ i, i < s.1 → pf_sg (s.2 i)) : ∀ k i, i < (px_pw w s k).1 → pf_sg ((px_pw w s k).2 i)
  | 0, i, hi => h i hi
  | k + 1, i, hi => by
    unfold px_pw at hi ⊢
    split at hi
    · rename_i c; rw [if_pos c]; exact lf_pw h k i hi
    · rename_i c
      rw [if_neg c]
      by_cases e : i = (px_pw w s k).1
      · show pf_sg (upd (px_pw w s k).2 (px_pw w s k).1 (px_sg w k) i)
        rw [e, pk_us]; exact lf_sg w k
      · show pf_sg (upd (px_pw w s k).2 (px_pw w s k).1 (px_sg w k) i)
        rw [pk_un e]
        exact lf_pw h k i (by have : i < (px_pw w s k).1 + 1 := hi; omega)
theorem lf_f {wa wb wc wd : Int32} {s : Nat × (Nat → Int32)} (h : ∀ i, i < s.1 → pf_sg (s.2 i)) : ∀ i, i < (px_f wa wb wc wd s).1 → pf_sg ((px_f wa wb wc wd s).2 i) :=
  lf_pw (lf_pw (lf_pw (lf_pw h 4) 4) 4) 4
/-- the loop's invariant: what holds of class and reference together -/
def LF (mm nn om on cnt len : Nat) (pp tt op ot fe fd fs vs vso : Nat → Int32) (sof oo xx : Int32) (LP : List Nat) (tg rg : Nat → Option Nat) (pl : Nat → Nat) (pr rM : Nat → Nat → Int32) : Prop :=
  (mm ≤ 150 ∧ nn ≤ 300 ∧ om ≤ 150 ∧ on ≤ 300 ∧ cnt ≤ 301) ∧ (∀ i, i < mm → pf_sg (pp i)) ∧ (∀ j, j < nn → pf_sg (tt j)) ∧ px_ok (cnt, fe, fd, fs) on ∧
  (∀ i, i < cnt → sof = nI i → ∀ st en, fs i = nI st → fe i = nI en → st ≤ en → en ≤ on → px_sc op ot om st en len vs ∧ len ≤ 450) ∧
  (0 ≤ oo.toInt ∧ oo.toInt ≤ 1000) ∧ (0 ≤ xx.toInt ∧ xx.toInt ≤ 1000) ∧ (∀ k, k < 64 → -1000 ≤ (vso k).toInt ∧ (vso k).toInt ≤ 1000) ∧
  gr_ok tg LP pl pr 8 8 (fun i j => vso (8 * i + j)) ∧ gr_ok rg LP pl pr 151 301 rM ∧ (∀ i j z, i < 8 → j < 151 → tg i = some z → rg j ≠ some z)
section
variable {mm nn om on cnt len : Nat} {pp tt op ot fe fd fs vs vso : Nat → Int32} {sof oo xx : Int32} {LP : List Nat} {tg rg : Nat → Option Nat} {pl : Nat → Nat} {pr rM : Nat → Nat → Int32}
theorem lf_sc (h : ∀ k, k < 64 → -1000 ≤ (vso k).toInt ∧ (vso k).toInt ≤ 1000) : ∀ i j, -1000 ≤ (pf_sc vso pp tt i j).toInt ∧ (pf_sc vso pp tt i j).toInt ≤ 1000 := fun i j => h _ (by
  have := pf_kd_lt (pp i)
  have := pf_kd_lt (tt j)
  omega)
theorem lf_fit (hF : LF mm nn om on cnt len pp tt op ot fe fd fs vs vso sof oo xx LP tg rg pl pr rM) : (pf_cr false oo xx (fun i j => (fun i j => vso (8 * i + j)) (pf_kd (pp i)) (pf_kd (tt j))) mm).1 nn = pf_top (pf_rr false xx (oo + xx) (pf_sc vso pp tt) mm nn) := by
  obtain ⟨⟨h1, h2, -⟩, -, -, -, -, ho, hx, hv, -⟩ := hF
  exact (pf_same (b := false) (sc := pf_sc vso pp tt) ho hx (lf_sc hv) h1 h2).symm
theorem lf_best (hF : LF mm nn om on cnt len pp tt op ot fe fd fs vs vso sof oo xx LP tg rg pl pr rM) : pf_best (fun i j => (pf_cr true oo xx (fun i j => (fun i j => vso (8 * i + j)) (pf_kd (pp i)) (pf_kd (tt j))) i).1 j) nn mm = pf_bb true (fun i j => pf_top (pf_rr true xx (oo + xx) (pf_sc vso pp tt) i j)) nn mm := by
  obtain ⟨⟨h1, h2, -⟩, -, -, -, -, ho, hx, hv, -⟩ := hF
  show _ = pf_best _ nn mm
  exact pf_best_c mm (fun k j hk hj => (pf_same (b := true) (sc := pf_sc vso pp tt) ho hx (lf_sc hv) (by omega) (by omega)).symm)
theorem gr_frame {g : Nat → Option Nat} {pr' M : Nat → Nat → Int32} {n k : Nat} (h : gr_ok g LP pl pr n k M) (hp : ∀ i y, i < n → g i = some y → pr' y = pr y) : gr_ok g LP pl pr' n k M := by
  refine ⟨fun i hi => ?_, h.2⟩
  obtain ⟨y, h1, h2, h3, h4⟩ := h.1 i hi
  exact ⟨y, h1, h2, h3, fun j hj => by rw [hp i y hi h1]; exact h4 j hj⟩
end
section
variable {p : Program} {l : Launch} {e : Env} {R : Room} {s : State} {m : MethodId} {args : Array Value} {below : List Frame} {meth : Method} {c : Code} {H : Heap} {locs : List Loc} {cells slots : Nat} {Q : State → Prop}
variable {cc bytes : ByteArray} {pc index maxL nL mc ms n : Nat} {ls : Array Slot} {rest st0 As : List Value} {D : va_G} {A : Nat → Prop} {tys : List (ClassId × FieldType)} {H0 : Heap} {own : String} {y : MethodName} {ret : Option FieldType} {wsy Ts : List Cond} {rm : Room} {S : Type} {wc ws : va_W} {w1 J : S → va_W} {hh : List (Nat × Nat × Nat × Nat)}
/-- a static method with a table of its own -/
theorem csw_i {post : Int32 → S → Prop} (fx : CallFix p m c cc nL s args Ts own)
    (hM : Met l y wsy rm (va_Pc As (Wd D tys wc H.size)) (va_Qi post (fun u => Wa D tys (va_A wc H.size) (w1 u)) (va_A wc H.size)) mc ms (va_A wc H.size))
    (cw : vx_CSW R s args own index y bytes maxL ret hh wsy rm mc ms n) (hK : va_K D vwCl tys s) (hPc : va_P D vwCl wc H) (hDc : va_D A wc) (hF : ∀ q, va_A wc H.size q → A q)
    (hJ : ∀ (H1 : Heap) (u : S), (∀ q : Nat, q < H.size → ¬ va_A wc H.size q → H1[q]? = H[q]?) → va_P D vwCl (w1 u) H1 → va_D (va_A wc H.size) (w1 u) → va_P D vwCl (J u) H1 ∧ va_D A (J u))
    (hS : va_S A H0 H locs) (hn : As.length = n) (hsz : ls.size = nL) (hst : st0 = As.reverse ++ rest) (hW : (rest.map fun v => v.category).sum ≤ 8) (hdg : decode cc pc = .ok (.invokestatic index, 3)) (hf : cells + mc ≤ R.cells ∧ slots + ms ≤ R.slots)
    (kk : ∀ (r : Int32) (u : S) (H1 : Heap) (locs1 : List Loc), post r u → va_P D vwCl (J u) H1 → va_D A (J u) → va_S A H0 H1 locs1 → W p l e R s m args below meth c H1 locs1 (cells + mc) (slots + ms) Q (F0 m (pc + 3) ls (.int r :: rest))) : W p l e R s m args below meth c H locs cells slots Q (F0 m pc ls st0) := by
  refine va_calli (vx_runSW (As := As) (rest := rest) fx hM cw ⟨wd_blind, wd_pre hPc hK hDc⟩ rfl hn hsz hst (lv_room hW) hdg hf) hS (fun q _ h => hF q h) hF (fun r u t H1 locs1 ht hvm hw hB hz hk hS1 => ?_)
  obtain ⟨hP1, -, hD1⟩ := hB
  rw [ht] at hP1
  obtain ⟨a1, a2⟩ := hJ H1 u hk hP1 hD1
  exact kk r u H1 locs1 hw a1 a2 hS1
theorem csx_i {post : Int32 → S → Prop} (fx : CallFix p m c cc nL s args Ts own)
    (hM : Met l y wsy rm (va_Pc As (Wx D tys wc H.size)) (va_Qi post (fun u => Wa D tys (va_A wc H.size) (w1 u)) (va_A wc H.size)) mc ms (va_A wc H.size))
    (cw : vx_CSW R s args own index y bytes maxL ret hh wsy rm mc ms n) (hK : va_K D vwCl tys s) (hPc : va_P D vwCl wc H) (hDc : va_D A wc) (hF : ∀ q, va_A wc H.size q → A q)
    (hJ : ∀ (H1 : Heap) (u : S), (∀ q : Nat, q < H.size → ¬ va_A wc H.size q → H1[q]? = H[q]?) → va_P D vwCl (w1 u) H1 → va_D (va_A wc H.size) (w1 u) → va_P D vwCl (J u) H1 ∧ va_D A (J u))
    (hS : va_S A s.heap H locs) (hE : xE A s) (hn : As.length = n) (hsz : ls.size = nL) (hst : st0 = As.reverse ++ rest) (hW : (rest.map fun v => v.category).sum ≤ 8) (hdg : decode cc pc = .ok (.invokestatic index, 3)) (hf : cells + mc ≤ R.cells ∧ slots + ms ≤ R.slots)
    (kk : ∀ (r : Int32) (u : S) (H1 : Heap) (locs1 : List Loc), post r u → va_P D vwCl (J u) H1 → va_D A (J u) → va_S A s.heap H1 locs1 → W p l e R s m args below meth c H1 locs1 (cells + mc) (slots + ms) Q (F0 m (pc + 3) ls (.int r :: rest))) : W p l e R s m args below meth c H locs cells slots Q (F0 m pc ls st0) := by
  refine va_calli (vx_runSW (As := As) (rest := rest) fx hM cw ⟨wx_blind, wx_pre hPc hK hDc hF hS hE⟩ rfl hn hsz hst (lv_room hW) hdg hf) hS (fun q _ h => hF q h) hF (fun r u t H1 locs1 ht hvm hw hB hz hk hS1 => ?_)
  obtain ⟨hP1, -, hD1⟩ := hB
  rw [ht] at hP1
  obtain ⟨a1, a2⟩ := hJ H1 u hk hP1 hD1
  exact kk r u H1 locs1 hw a1 a2 hS1
end
