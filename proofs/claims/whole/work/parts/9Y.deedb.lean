/-! DEEDS on a board: go, place, feel, turnWall; the class. -/
section DEB
variable {X : Nat → Prop} {A A' : Nat → Int32} {g g' : G} {b p x y d q : Nat} {S : List Nat}
theorem pA_wb (h : BD X g b A) (hp : p < 3) (e : gL g' b 1 = gL g b 1) : ∀ c, c < 64 → bt (gL g' b 1) c = decide (c < 36 ∧ wl (pA A p x y d) c = 1) := fun c hc => by
  rw [e, h.2.2.1 c hc, decide_eq_decide]
  constructor
  · rintro ⟨u1, u2⟩
    exact ⟨u1, by rw [pA_wl hp u1]; exact u2⟩
  · rintro ⟨u1, u2⟩
    rw [pA_wl hp u1] at u2
    exact ⟨u1, u2⟩
theorem pA_bd (h : BD X g b A) (hA : Dm A) (hL : LW A) (hp : p < nv A 3) (hx : x < 36) (hy : y < 36) (d3 : d ≤ 3) (f : Fi S g g') (hX : ∀ a ∈ S, ¬ X a) (eL : gL g' b 1 = gL g b 1) (e1 : gI g' (b + 1) = upd (upd (gI g (b + 1)) (2 * p) (nI x)) (2 * p + 1) (nI y)) (e2 : gI g' (b + 2) p = nI (apS (nv A 2) x y)) (e2' : ∀ r, r ≠ p → gI g' (b + 2) r = gI g (b + 2) r) (e3 : gI g' (b + 3) = gI g (b + 3)) (e4 : gI g' (b + 4) p = nI (dnw A p x y d)) (e4' : ∀ r, r ≠ p → gI g' (b + 4) r = gI g (b + 4) r) : BD X g' b (pA A p x y d) := by
  have k3 := hA.2.2.2.2.2.2.2
  refine h.new hA hL (pA_pl (by omega)) f hX (pA_wb h (by omega) eL) (fun i hi => ?_) (fun r hr => ?_) (fun r hr => ?_) (fun r hr => ?_)
  · rw [e1, pA_tw (by omega) (by omega) (by omega) (by omega)]
    by_cases u : i = 2 * p + 1
    · rw [u, pk_us, if_neg (by omega), if_pos rfl]
    · rw [pk_un u]
      by_cases v : i = 2 * p
      · rw [v, pk_us, if_pos rfl]
      · rw [pk_un v, if_neg v, if_neg u]
        exact h.2.2.2.1 i hi
  · rw [pA_sp (by omega) (by omega) (by omega) (by omega)]
    by_cases u : r = p
    · rw [if_pos u, u]
      exact e2
    · rw [if_neg u, e2' r u]
      exact h.2.2.2.2.1 r hr
  · rw [pA_md (by omega) (by omega), e3]
    exact h.2.2.2.2.2.1 r hr
  · rw [pA_dn (by omega) d3 (by omega)]
    by_cases u : r = p
    · rw [if_pos u, u]
      exact e4
    · rw [if_neg u, e4' r u]
      exact h.2.2.2.2.2.2 r hr
theorem nX2 {T : List Nat} (hX : ∀ k, k ≤ 4 → ¬ X (b + k)) (hT : ∀ a ∈ T, ∃ k, k ≤ 4 ∧ a = b + k) : ∀ a ∈ T, ¬ X a := fun a ha => by
  obtain ⟨k, k1, k2⟩ := hT a ha
  rw [k2]
  exact hX k k1
theorem c_go (h : BD X g b A) (hX : ∀ k, k ≤ 4 → ¬ X (b + k)) (hA : Dm A) (hB : VB A (bo A)) (hL : LW A) (hp : p < nv A 3) (hx : x < cS A) (hy : y < cS A) (hs : apS (nv A 2) x y = sp A p) : ∃ g', f_X0_go b (nI p) (nI (64 * x + y)) g = some ((), g') ∧ Fi [b + 1, b + 4] g g' ∧ gL g' = gL g ∧ BD X g' b (pA A p x y (dn A p)) := by
  have cl := cS_le hA
  obtain ⟨q, q1, q2⟩ := h.2.1
  obtain ⟨o1, o2⟩ := hB.o hp
  obtain ⟨g2, e1, e2, e3, e4, e5, e6⟩ := c_go0 (x := x) (y := y) h.1 q1 q2 (hX 1 (by decide)) (hX 4 (by decide)) hA hp (by omega) (by omega) (h.2.2.2.2.2.2 p hp) o2
  refine ⟨g2, e1, e2, e3, pA_bd h hA hL hp (by omega) (by omega) o2 e2 (nX2 hX (by simp)) (by rw [e3]) e4 ?_ (fun r _ => ?_) ?_ e5 e6⟩
  · rw [e2.I (by simp), hs]
    exact h.2.2.2.2.1 p hp
  · rw [e2.I (by simp)]
  · rw [e2.I (by simp)]
theorem c_place (h : BD X g b A) (hX : ∀ k, k ≤ 4 → ¬ X (b + k)) (hA : Dm A) (hB : VB A (bo A)) (hL : LW A) (v one two : Int32) : ∃ r g', f_X0_place b v one two g = some (r, g') ∧ Fi [b + 1, b + 2, b + 4] g g' ∧ gL g' = gL g ∧ ((r = -1 ∧ g' = g ∧ (inR v (nv A 3) && (inR one (cS A) && inR two (cS A))) = false) ∨ (∃ p x y, p < nv A 3 ∧ x < cS A ∧ y < cS A ∧ v = nI p ∧ one = nI x ∧ two = nI y ∧ ((r = -2 ∧ g' = g ∧ (fre A p x && fre A p y) = false) ∨ (fre A p x = true ∧ fre A p y = true ∧ r = nI (apS (nv A 2) x y) ∧ BD X g' b (pA A p x y 0))))) := by
  have cl := cS_le hA
  have k3 := hA.2.2.2.2.2.2.2
  obtain ⟨q, q1, q2⟩ := h.2.1
  rw [f_X0_place, c_isPair h hA, bd_eq]
  cases hv : inR v (nv A 3) with
  | false => exact ⟨-1, g, by rw [ibF], Fi.rf, rfl, Or.inl ⟨rfl, rfl, rfl⟩⟩
  | true =>
    rw [ibT, q1, dr_eq, gdK_pos q2.2.1, c_isCell q2 hA, bd_eq]
    cases ho : inR one (cS A) with
    | false => exact ⟨-1, g, by rw [ibF], Fi.rf, rfl, Or.inl ⟨rfl, rfl, rfl⟩⟩
    | true =>
      rw [ibT, q1, dr_eq, gdK_pos q2.2.1, c_isCell q2 hA, bd_eq]
      cases hw : inR two (cS A) with
      | false => exact ⟨-1, g, by rw [ibF], Fi.rf, rfl, Or.inl ⟨rfl, rfl, rfl⟩⟩
      | true =>
        obtain ⟨p, hp, rfl⟩ := pr_t hA hv
        obtain ⟨x, hx, rfl⟩ := inR_true ho (by omega)
        obtain ⟨y, hy, rfl⟩ := inR_true hw (by omega)
        rw [ibT, c_isFreeFor h hA hB (by omega) hx, bd_eq]
        cases fx : fre A p x with
        | false => exact ⟨-2, g, by rw [ibF], Fi.rf, rfl, Or.inr ⟨p, x, y, hp, hx, hy, rfl, rfl, rfl, Or.inl ⟨rfl, rfl, by rw [fx]; rfl⟩⟩⟩
        | true =>
          rw [ibT, c_isFreeFor h hA hB (by omega) hy, bd_eq]
          cases fy : fre A p y with
          | false => exact ⟨-2, g, by rw [ibF], Fi.rf, rfl, Or.inr ⟨p, x, y, hp, hx, hy, rfl, rfl, rfl, Or.inl ⟨rfl, rfl, by rw [fy, Bool.and_false]⟩⟩⟩
          | true =>
            have x1 : Fi [b + 2, b + 4] g (sI (sI g (b + 2) p (nI (apS (nv A 2) x y))) (b + 4) p 0) := (Fi.rf.si (by simp)).si (by simp)
            have hS1 := h.1.fi x1
            have nX1 : ∀ a ∈ [b + 2, b + 4], ¬ X a := nX2 hX (by simp)
            obtain ⟨g2, e1, e2, e3, e4, e5, e6⟩ := c_go0 (x := x) (y := y) (d := 0) hS1 (by rw [x1.R]; exact q1) (q2.fa x1.a nX1) (hX 1 (by decide)) (hX 4 (by decide)) hA hp (by omega) (by omega) (by rw [gI_sIs, pk_us]; rfl) (by decide)
            have y2 : Fi [b + 1, b + 2, b + 4] g g2 := (x1.mono (by simp)).tr (e2.mono (by simp))
            have s2 : gI g2 (b + 2) p = nI (apS (nv A 2) x y) := by
              rw [e2.I (by simp), gI_sIn (by omega), gI_sIs, pk_us]
            have xS : Fi [b + 2] g (sI g (b + 2) p (nI (apS (nv A 2) x y))) := Fi.rf.si (by simp)
            have bS := h.1.fi xS
            have e1' : f_X0_go b (nI p) (nI x * 64 + nI y) (sI (sI g (b + 2) p (nI (apS (nv A 2) x y))) (b + 4) p 0) = some ((), g2) := by
              rw [lmu64, nI_add, Nat.mul_comm x 64]
              exact e1
            have bG : BS g2 b := hS1.fi e2
            refine ⟨nI (apS (nv A 2) x y), g2, ?_, y2, e3, Or.inr ⟨p, x, y, hp, hx, hy, rfl, rfl, rfl, Or.inr ⟨fx, fy, rfl, pA_bd h hA hL hp (by omega) (by omega) (by decide) y2 (nX2 hX (by simp)) (by rw [e3]; rfl) ?_ s2 (fun r hr => ?_) ?_ e5 (fun r hr => ?_)⟩⟩⟩
            · rw [ibT, h.1.2.2.1.1, dr_eq, q1, dr_eq, gdK_pos q2.2.1, c_apart q2 hA hx hy, bd_eq, gdK_pos h.1.2.2.1.2.1, h.1.2.2.1.2.2, gdI_nI (by omega) (by decide), nI_clamp (show p < 2 ^ 31 by omega), lg, bS.2.2.2.2.get (by omega) (by decide), lg, e1', bd_eq, bG.2.2.1.get (by omega) (by decide), s2]
            · rw [e4, gI_sIn (by omega), gI_sIn (by omega)]
            · rw [e2.I (by simp), gI_sIn (by omega), gI_sIs, pk_un hr]
            · rw [e2.I (by simp), gI_sIn (by omega), gI_sIn (by omega)]
            · rw [e6 r hr, gI_sIs, pk_un hr, gI_sIn (by omega)]
theorem mA_pl (hp : p < 3) : Pl A (mA A p x) := fun k hk => mA_n (by omega)
theorem mA_dn {r : Nat} (hp : p < 3) (hr : r < 3) : dn (mA A p x) r = dn A r := mA_v (by omega)
theorem mA_md' {r : Nat} (hx : x < 2 ^ 31) (hp : p < 3) (hr : r < 3) : md (mA A p x) r = if r = p then x else md A r := by
  by_cases e : r = p
  · rw [if_pos e, e]
    exact mA_md hx
  · rw [if_neg e]
    exact mA_v (by omega)
theorem mA_sp' {r : Nat} (hp : p < 3) (hr : r < 3) : sp (mA A p x) r = sp A r := by
  unfold sp
  rw [mA_tw (by omega), mA_tw (by omega), mA_v (by omega)]
theorem mA_wf (h : WF A) (hp : p < nv A 3) (hx : x ≤ 9) : WF (mA A p x) := by
  have k3 := h.1.2.2.2.2.2.2.2
  obtain ⟨o1, o2, o3⟩ := mA_ok h.1 h.2.1 h.2.2.1 hp hx
  refine ⟨o1, o2, o3, fun r hr => ?_⟩
  rw [mA_v (k := 3) (by omega)] at hr
  unfold VEp
  rw [mA_tw (by omega), mA_tw (by omega), mA_dn (by omega) (by omega), mA_n (k := 46 + 2 * r) (by omega), mA_n (k := 46 + 2 * r + 1) (by omega)]
  exact h.2.2.2 r hr
theorem c_feel (h : BD X g b A) (hX : ¬ X (b + 3)) (hA : Dm A) (hB : VB A (bo A)) (hL : LW A) (v w : Int32) : ∃ r g', f_X0_feel b v w g = some (r, g') ∧ Fi [b + 3] g g' ∧ gL g' = gL g ∧ ((r = -1 ∧ g' = g ∧ (inR v (nv A 3) && inR w 10) = false) ∨ (∃ p x, p < nv A 3 ∧ x ≤ 9 ∧ v = nI p ∧ w = nI x ∧ r = nI (md A p) ∧ BD X g' b (mA A p x))) := by
  have k3 := hA.2.2.2.2.2.2.2
  rw [f_X0_feel, c_isPair h hA, bd_eq]
  cases hv : inR v (nv A 3) with
  | false => exact ⟨-1, g, by rw [ibF], Fi.rf, rfl, Or.inl ⟨rfl, rfl, rfl⟩⟩
  | true =>
    obtain ⟨p, hp, rfl⟩ := pr_t hA hv
    rw [ibT]
    rcases inR_c w 10 with ⟨j, h1, h2, rfl, h4⟩ | ⟨h1, h2⟩ | ⟨j, h1, h2, rfl, h4⟩
    · have x1 : Fi [b + 3] g (sI g (b + 3) p (nI j)) := Fi.rf.si (by simp)
      refine ⟨nI (md A p), sI g (b + 3) p (nI j), ?_, x1, rfl, Or.inr ⟨p, j, hp, by omega, rfl, rfl, rfl, h.new hA hL (mA_pl (by omega)) x1 (fun a ha => by rw [List.mem_singleton.mp ha]; exact hX) (fun c hc => ?_) (fun i hi => ?_) (fun r hr => ?_) (fun r hr => ?_) (fun r hr => ?_)⟩⟩
      · rw [if_neg (nI_pos h2), if_pos (show nI j < 10 from nI_lt (b := 10) h1 (by decide)), h.1.2.2.2.1.get (by omega) (by decide), nI_clamp (by omega), li, lg, h.2.2.2.2.2.1 p hp]
      · rw [gL_sI, h.2.2.1 c hc, decide_eq_decide]
        constructor
        · rintro ⟨u1, u2⟩
          exact ⟨u1, by rw [mA_wl u1]; exact u2⟩
        · rintro ⟨u1, u2⟩
          rw [mA_wl u1] at u2
          exact ⟨u1, u2⟩
      · rw [x1.I (by simp), mA_tw (by omega)]
        exact h.2.2.2.1 i hi
      · rw [x1.I (by simp), mA_sp' (by omega) (by omega)]
        exact h.2.2.2.2.1 r hr
      · rw [mA_md' (by omega) (by omega) (by omega), gI_sIs]
        by_cases u : r = p
        · rw [if_pos u, u, pk_us]
        · rw [if_neg u, pk_un u]
          exact h.2.2.2.2.2.1 r hr
      · rw [x1.I (by simp), mA_dn (by omega) (by omega)]
        exact h.2.2.2.2.2.2 r hr
    · exact ⟨-1, g, by rw [if_pos h1], Fi.rf, rfl, Or.inl ⟨rfl, rfl, by rw [h2]; rfl⟩⟩
    · exact ⟨-1, g, by rw [if_neg (nI_pos h2), if_neg (show ¬ nI j < 10 from nI_nlt (b := 10) h1 (by omega))], Fi.rf, rfl, Or.inl ⟨rfl, rfl, by rw [h4]; rfl⟩⟩
end DEB
