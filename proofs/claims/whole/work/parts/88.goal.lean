/-! GOALS; how far they are; what is needed: the reference. -/
section GOA
variable {X : Nat → Prop} {A : Nat → Int32} {g g' : G} {p : Nat} {one two : Int32}
def clN (A : Nat → Int32) (v : Int32) : Bool := decide (v = -1) || inR v (cS A)
def goB (A : Nat → Int32) (v one two : Int32) : Bool := inR v (nv A 3) && (clN A one && clN A two)
theorem c_cellOrNone (h : BD X g 47 A) (hA : Dm A) (hs : Sh g) (v : Int32) : f_X11_isCellOrNone 0 v g = some (clN A v, g) := by
  obtain ⟨q, q1, q2⟩ := h.2.1
  rw [f_X11_isCellOrNone, f_X11_isCellOrNone_19]
  unfold clN
  by_cases e : v = -1
  · rw [if_pos e, decide_eq_true e, Bool.true_or]
  · rw [if_neg e, decide_eq_false e, Bool.false_or, md0_4 hs, gk47 hs, q1, dr_eq, gdK_pos q2.2.1, c_isCell q2 hA, bd_eq, f_X11_isCellOrNone_19]
    cases inR v (cS A) with
    | false => rw [ibF]
    | true => rw [ibT]
theorem c_isGoal (h : BD X g 47 A) (hA : Dm A) (hs : Sh g) (v one two : Int32) : f_X11_isGoal 0 v one two g = some (goB A v one two, g) := by
  rw [f_X11_isGoal, md0_4 hs, gk47 hs, c_isPair h hA, bd_eq]
  unfold goB
  cases inR v (nv A 3) with
  | false =>
    rw [ibF]
    rfl
  | true =>
    rw [ibT, c_cellOrNone h hA hs, bd_eq, c_cellOrNone h hA hs, bd_eq]
    cases clN A one with
    | false =>
      rw [ibF]
      rfl
    | true =>
      rw [ibT]
      cases clN A two with
      | false =>
        rw [ibF]
        rfl
      | true =>
        rw [ibT]
        rfl
theorem r_isGoalTold (h : RS A g) (v one two : Int32) : f_X12_isGoalTold 136 v one two g = some (goB A v one two, g) := by
  have f23 : f_X12_isGoalTold_23 136 two g = some (clN A two, g) := by
    rw [f_X12_isGoalTold_23, f_X12_isGoalTold_37]
    unfold clN
    by_cases e : two = -1
    · rw [if_pos e, decide_eq_true e, Bool.true_or]
    · rw [if_neg e, decide_eq_false e, Bool.false_or, R_isCell h, inL_I, bd_eq, f_X12_isGoalTold_37]
      cases inR two (cS A) with
      | false => rw [ibF]
      | true => rw [ibT]
  rw [f_X12_isGoalTold, R_isPair h, inL_I, bd_eq, f23]
  unfold goB
  cases inR v (nv A 3) with
  | false =>
    rw [ibF]
    rfl
  | true =>
    rw [ibT, Bool.true_and]
    by_cases e : one = -1
    · have c1 : clN A one = true := by
        unfold clN
        rw [decide_eq_true e, Bool.true_or]
      rw [if_pos e, c1, Bool.true_and]
    · have c1 : clN A one = inR one (cS A) := by
        unfold clN
        rw [decide_eq_false e, Bool.false_or]
      rw [if_neg e, R_isCell h, inL_I, bd_eq, c1, f23]
      cases inR one (cS A) with
      | false =>
        rw [ibF]
        rfl
      | true =>
        rw [ibT]
        rfl
/-- a distance that is told -/
def toF (L ch : Nat) : Int32 := if L = 1073741824 then -1 else if ch = 0 then nI L else nI (L / 10000)
def S7 : List Nat := [141, 142, 144, 145, 146, 147]
theorem r_comes (h : RS A g) (hp : p < nv A 3) {ch : Nat} (hch : ch < 2) (h1 : clN A one = true) (h2 : clN A two = true) : ∃ g', f_X12_comes 136 (nI p) one two (nI ch) g = some (toF (LSf A (fre A p) p (md A p) ch one two (36 * tw A (2 * p) + tw A (2 * p + 1))) ch, g') ∧ Fm [17, 18] S7 g g' ∧ TH A p 1296 g' ∧ SV g' (LSf A (fre A p) p (md A p) ch one two) := by
  have k3 := h.k3
  obtain ⟨g1, e1, e2, e3⟩ := r_laysStands h hp
  have hr1 := h.fm e2 (by decide)
  obtain ⟨g2, d1, d2, d3⟩ := r_laysStill hr1 hp hch e3 one two
  have x2 : Fm [17, 18] [147] g1 g2 := Fm.of d2 (by decide)
  have gt : goB A (nI p) one two = true := by
    unfold goB
    rw [h1, h2, inR_nI (by omega), decide_eq_true hp]
    rfl
  have ll := LS_le (A := A) (F := fre A p) (p := p) (m := md A p) (ch := ch) one two (36 * tw A (2 * p) + tw A (2 * p + 1))
  refine ⟨g2, ?_, (e2.mono (by decide) (by decide)).tr (x2.mono (by decide) (by decide)), e3.fm x2 (by decide) (by decide) (by decide), d3⟩
  rw [f_X12_comes, r_isGoalTold h, gt, bd_eq, ibT, e1, bd_eq, d1, bd_eq, f_X12_toldFar, lFA]
  generalize LSf A (fre A p) p (md A p) ch one two (36 * tw A (2 * p) + tw A (2 * p + 1)) = L at ll
  unfold toF
  by_cases z : L = 1073741824
  · rw [if_pos z, if_pos (by rw [z]), bd_eq]
  · rw [if_neg z, if_neg (fun u => z ((nI_eq (by omega) (by decide)).mp u))]
    by_cases y : ch = 0
    · rw [y, if_pos rfl, if_pos (show nI 0 = 0 from rfl), bd_eq]
    · rw [if_neg y, if_neg (nI_ne0 (by omega) (by omega)), show (10000 : Int32) = nI 10000 from rfl, pk_div (by omega) (by decide) (by decide), bd_eq]
theorem toF_m {L ch : Nat} (hL : L ≤ 1073741824) : toF L ch = -1 ↔ L = 1073741824 := by
  unfold toF
  by_cases z : L = 1073741824
  · rw [if_pos z]
    exact ⟨fun _ => z, fun _ => rfl⟩
  · rw [if_neg z]
    refine ⟨fun u => ?_, fun u => absurd u z⟩
    split at u
    · exact absurd u (nI_ne1 (by omega))
    · exact absurd u (nI_ne1 (by omega))
theorem Fm.rest {K S : List Nat} (x : Fm K (137 :: S) g g') (e : gI g' 137 = gI g 137) (e' : gL g' 137 = gL g 137) : Fm K S g g' := ⟨⟨x.1.1, fun a ha => by
  by_cases z : a = 137
  · rw [z]
    exact ⟨e, e'⟩
  · refine x.1.2 a (fun u => ?_)
    rcases List.mem_cons.mp u with u | u
    · exact ha (u ▸ List.mem_cons_self)
    · rcases List.mem_cons.mp u with u | u
      · exact z u
      · exact ha (List.mem_cons_of_mem _ u)⟩, x.2⟩
/-- a cell without which there is no way -/
def ndB (A : Nat → Int32) (p : Nat) (one two : Int32) (c : Nat) : Bool := fre A p c && decide (tw A (2 * p) ≠ c ∧ tw A (2 * p + 1) ≠ c ∧ LSf (wA A c) (fre (wA A c) p) p (md (wA A c) p) 0 one two (36 * tw (wA A c) (2 * p) + tw (wA A c) (2 * p + 1)) = 1073741824)
theorem adv1 {P : Nat → Bool} {k : Nat} {m : Int64} (h : P k = false) (hm : ∀ c, c < 64 → bt m c = (decide (c < k) && P c)) : ∀ c, c < 64 → bt m c = (decide (c < k + 1) && P c) := fun c hc => by
  rw [hm c hc]
  by_cases e : c = k
  · rw [e, h, Bool.and_false, Bool.and_false]
  · congr 1
    rw [decide_eq_decide]
    omega
theorem adv2 {P : Nat → Bool} {k : Nat} {m : Int64} (hk : k < 64) (h : P k = true) (hm : ∀ c, c < 64 → bt m c = (decide (c < k) && P c)) : ∀ c, c < 64 → bt (m ||| ((1 : Int64) <<< ((nI k).toInt64 &&& 63))) c = (decide (c < k + 1) && P c) := fun c hc => by
  rw [bt_or, hm c hc, bt_one hk]
  by_cases e : c = k
  · rw [e, h, decide_eq_true (show k < k + 1 by omega), decide_eq_true (show k = k from rfl), Bool.or_true]
    rfl
  · rw [decide_eq_false e, Bool.or_false]
    congr 1
    rw [decide_eq_decide]
    omega
theorem wA_back {c : Nat} (h : A (52 + c) = 0) : upd (wA A c) (52 + c) 0 = A := by
  funext j
  by_cases e : j = 52 + c
  · rw [e, pk_us, h]
  · rw [pk_un e, wA_n e]
theorem r_nd40 (hp : p < nv A 3) (h1 : clN A one = true) (h2 : clN A two = true) : ∀ fu k (m : Int64) g, RS A g → (∀ c, c < 64 → bt m c = (decide (c < k) && ndB A p one two c)) → k ≤ cS A → cS A < fu + k → ∃ m' g', f_X12_needed_40 fu 136 (nI p) one two m (nI k) g = some (m', g') ∧ Fm [17, 18] S7 g g' ∧ ∀ c, c < 64 → bt m' c = (decide (c < cS A) && ndB A p one two c) := by
  intro fu
  induction fu with
  | zero => intro k m g _ _ _ h; omega
  | succ fu ih =>
    intro k m g h hm hk hf
    have cl := h.cl
    have k3 := h.k3
    rw [f_X12_needed_40, R_cells h, bd_eq]
    rcases Nat.lt_or_ge k (cS A) with z | z
    · have skip : ndB A p one two k = false → ∃ m' g', f_X12_needed_131 (f_X12_needed_40 fu) 136 (nI p) one two m (nI k) g = some (m', g') ∧ Fm [17, 18] S7 g g' ∧ ∀ c, c < 64 → bt m' c = (decide (c < cS A) && ndB A p one two c) := fun u => by
        rw [f_X12_needed_131, lad1]
        exact ih (k + 1) m g h (adv1 u hm) (by omega) (by omega)
      rw [if_neg (nI_ge z (by omega)), R_isFree h (by omega) (by omega), bd_eq]
      cases hfr : fre A p k with
      | false =>
        rw [ibF]
        exact skip (by unfold ndB; rw [hfr, Bool.false_and])
      | true =>
        have t0 := (now_lt h hp).1
        have t1 := (now_lt h hp).2.1
        rw [ibT, show (0 : Int32) = nI 0 from rfl, R_twinOf h hp (by decide), bd_eq, Nat.add_zero]
        by_cases e0 : tw A (2 * p) = k
        · rw [if_pos (by rw [e0])]
          exact skip (by unfold ndB; rw [decide_eq_false (fun u => u.1 e0), Bool.and_false])
        · rw [if_neg (fun u => e0 ((nI_eq (by omega) (by omega)).mp u)), show f_X12_twinOf 136 (nI p) 1 g = _ from R_twinOf h hp (t := 1) (by decide), bd_eq]
          by_cases e1 : tw A (2 * p + 1) = k
          · rw [if_pos (by rw [e1])]
            exact skip (by unfold ndB; rw [decide_eq_false (fun u => u.2.1 e1), Bool.and_false])
          · rw [if_neg (fun u => e1 ((nI_eq (by omega) (by omega)).mp u))]
            have k36 : k < 36 := by omega
            have fr := of_decide_eq_true hfr
            have A0 : A (52 + k) = 0 := by
              have := (h.2.2.2.1.1 k k36).1
              have e : nv (bo A) k = 0 := fr.1
              rw [e] at this
              exact this
            obtain ⟨o1, o2, o3⟩ := wA_ok h.2.2.1 h.2.2.2.1 h.2.2.2.2 z (fun i hi => by
              by_cases ip : i / 2 = p
              · rcases Nat.mod_two_eq_zero_or_one i with u | u
                · rw [show i = 2 * p by omega]
                  exact e0
                · rw [show i = 2 * p + 1 by omega]
                  exact e1
              · exact fr.2 i hi ip)
            have x1 : Fm [17, 18] (137 :: S7) g (sI g 137 (52 + k) 1) := Fm.rf.si (by decide) (by decide)
            have g1 : gI (sI g 137 (52 + k) 1) 137 = wA A k := by
              rw [gI_sIs, h.2.1]
              rfl
            have hr1 : RS (wA A k) (sI g 137 (52 + k) 1) := ⟨h.1.fm x1, g1, o1, o2, o3⟩
            have cn : ∀ v, clN (wA A k) v = clN A v := fun v => by
              unfold clN
              rw [wA_cS k36]
            obtain ⟨g2, c1, c2, -, -⟩ := r_comes (p := p) (ch := 0) hr1 (by rw [wA_v (by omega)]; exact hp) (by decide) ((cn one).trans h1) ((cn two).trans h2)
            have ll' := LS_le (A := wA A k) (F := fre (wA A k) p) (p := p) (m := md (wA A k) p) (ch := 0) one two (36 * tw (wA A k) (2 * p) + tw (wA A k) (2 * p + 1))
            have g2' : gI (sI g2 137 (52 + k) 0) 137 = A := by
              rw [gI_sIs, c2.I (by decide), g1]
              exact wA_back A0
            have x3 : Fm [17, 18] S7 g (sI g2 137 (52 + k) 0) := Fm.rest ((x1.tr (c2.mono (by decide) (fun a ha => List.mem_cons_of_mem _ ha))).si (by decide) (by decide)) (g2'.trans h.2.1.symm) (by
              rw [gL_sI, c2.L (by decide), gL_sI])
            have hr3 : RS A (sI g2 137 (52 + k) 0) := ⟨h.1.fm x3, g2', h.2.2⟩
            have hs2 := hr1.1.fm c2
            have fin : ∀ m', (∀ c, c < 64 → bt m' c = (decide (c < k + 1) && ndB A p one two c)) → ∃ m'' g', f_X12_needed_131 (f_X12_needed_40 fu) 136 (nI p) one two m' (nI k) (sI g2 137 (52 + k) 0) = some (m'', g') ∧ Fm [17, 18] S7 g g' ∧ ∀ c, c < 64 → bt m'' c = (decide (c < cS A) && ndB A p one two c) := fun m' hm' => by
              rw [f_X12_needed_131, lad1]
              obtain ⟨m2, g4, q1, q2, q3⟩ := ih (k + 1) m' _ hr3 hm' (by omega) (by omega)
              exact ⟨m2, g4, q1, x3.tr q2, q3⟩
            rw [md136_1 h.1, gk137 h.1, sn137 h.1, show (52 : Int32) = nI 52 from rfl, nI_add, gdI_nI (by omega) (by decide), nI_clamp (by omega), lg, c1, bd_eq]
            by_cases w : LSf (wA A k) (fre (wA A k) p) p (md (wA A k) p) 0 one two (36 * tw (wA A k) (2 * p) + tw (wA A k) (2 * p + 1)) = 1073741824
            · rw [if_pos ((toF_m ll').mpr w), f_X12_needed_117, ll, md136_1 hs2, gk137 hs2, sn137 hs2, show (52 : Int32) = nI 52 from rfl, nI_add, gdI_nI (by omega) (by decide), nI_clamp (by omega), lg]
              exact fin _ (adv2 (by omega) (by unfold ndB; rw [hfr, decide_eq_true ⟨e0, e1, w⟩]; rfl) hm)
            · rw [if_neg (fun u => w ((toF_m ll').mp u)), f_X12_needed_117, ll, md136_1 hs2, gk137 hs2, sn137 hs2, show (52 : Int32) = nI 52 from rfl, nI_add, gdI_nI (by omega) (by decide), nI_clamp (by omega), lg]
              refine fin _ (fun c hc => ?_)
              rw [bt_or, bt_0, Bool.or_false]
              exact adv1 (by unfold ndB; rw [decide_eq_false (fun u => w u.2.2), Bool.and_false]) hm c hc
    · have e : k = cS A := by omega
      subst e
      rw [if_pos (nI_le z (by omega))]
      exact ⟨m, g, rfl, Fm.rf, hm⟩
end GOA
