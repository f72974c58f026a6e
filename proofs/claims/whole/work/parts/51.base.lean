/-! BASE ROWS of the pure part: ints as numbers, the heap's places, guards. -/
theorem lI (n : Nat) : (no_index (OfNat.ofNat n) : Int32) = nI (OfNat.ofNat n) := Eq.trans rfl rfl
theorem nI_z {a : Nat} (h : a < 2 ^ 31) : (nI a = 0) = (a = 0) := by
  rw [show (0 : Int32) = nI 0 from rfl, nI_eq h (by decide)]
theorem z_nI {a : Nat} (h : a < 2 ^ 31) : (0 = nI a) = (0 = a) := by
  rw [show (0 : Int32) = nI 0 from rfl, nI_eq (by decide) h]
theorem nI_sub0 (a b : Nat) : nI (a + b) - nI b = nI a := by
  have := @pk_sub (a + b) b (Nat.le_add_left _ _)
  rwa [Nat.add_sub_cancel] at this
theorem nI_mod (a b : Nat) : nI a - nI (a / b * b) = nI (a % b) := by
  rw [pk_sub (Nat.div_mul_le_self a b), Nat.mod_eq_sub_div_mul]
theorem nIm1 {a : Nat} (h : a < 2 ^ 31) : (nI a = -nI 1) = False := by
  refine eq_false (fun e => ?_)
  have := congrArg Int32.toInt e
  rw [nI_toInt h] at this
  have h2 : (-nI 1 : Int32).toInt = -1 := by decide
  omega
theorem m1nI {a : Nat} (h : a < 2 ^ 31) : (-nI 1 = nI a) = False := by
  refine eq_false (fun e => ?_)
  exact (nIm1 h).mp e.symm
theorem gdI_nI {α : Type} {j n : Nat} {x : Option α} (h : j < n) (hn : n < 2 ^ 31) : gdI (nI j) n x = x := gdI_pos (vp_in_nI h hn)
theorem gdZ_nI {α : Type} {j : Nat} {x : Option α} (h : 0 < j) (hn : j < 2 ^ 31) : gdZ (nI j) x = x := gdZ_pos (nI_ne0 h hn)
theorem b2i_z (b : Bool) : (b2i b = nI 0) = (b = false) := by
  cases b <;> simp [b2i, nI]
section IFN
variable {α : Type} {x y : α} {a b : Nat}
theorem ifLt (h : a < b) : (if a < b then x else y) = x := if_pos h
theorem ifNlt (h : b ≤ a) : (if a < b then x else y) = y := if_neg (Nat.not_lt.mpr h)
theorem ifLe (h : a ≤ b) : (if a ≤ b then x else y) = x := if_pos h
theorem ifNle (h : b < a) : (if a ≤ b then x else y) = y := if_neg (Nat.not_le.mpr h)
theorem ifEq (h : a = b) : (if a = b then x else y) = x := if_pos h
theorem ifNe (h : a ≠ b) : (if a = b then x else y) = y := if_neg h
theorem ifnLe (h : a ≤ b) : (if ¬ a ≤ b then x else y) = y := if_neg (fun q => q h)
theorem ifnNle (h : b < a) : (if ¬ a ≤ b then x else y) = x := if_pos (Nat.not_le.mpr h)
end IFN
theorem b2iT : b2i true = 1 := rfl
theorem b2iF : b2i false = 0 := rfl
theorem dr_eq {α : Type} (a : Nat) (f : Nat → Option α) : dr (some a) f = f a := rfl
section HEA
variable {g : G} {a b k n c : Nat} {v : Int32} {w : Int64}
theorem gR_sI : gR (sI g a k v) = gR g := rfl
theorem gN_sI : gN (sI g a k v) = gN g := rfl
theorem gK_sI : gK (sI g a k v) = gK g := rfl
theorem gn_sI : gn (sI g a k v) = gn g := rfl
theorem gs_sI : gs (sI g a k v) = gs g := rfl
theorem gL_sI : gL (sI g a k v) = gL g := rfl
theorem gdK_sI {α : Type} {x : Option α} : gdK (sI g a k v) b c x = gdK g b c x := rfl
theorem dr_sI {α : Type} {x y : Nat} {f : Nat → Option α} : dr (gR (sI g a k v) x y) f = dr (gR g x y) f := rfl
theorem dr_sL {α : Type} {x y : Nat} {f : Nat → Option α} : dr (gR (sL g a k w) x y) f = dr (gR g x y) f := rfl
theorem gI_sIs : gI (sI g a k v) a = upd (gI g a) k v := va_up_self _ _ _
theorem gI_sIn (h : b ≠ a) : gI (sI g a k v) b = gI g b := va_up_ne _ _ h
theorem gR_sL : gR (sL g a k w) = gR g := rfl
theorem gN_sL : gN (sL g a k w) = gN g := rfl
theorem gK_sL : gK (sL g a k w) = gK g := rfl
theorem gn_sL : gn (sL g a k w) = gn g := rfl
theorem gs_sL : gs (sL g a k w) = gs g := rfl
theorem gI_sL : gI (sL g a k w) = gI g := rfl
theorem gdK_sL {α : Type} {x : Option α} : gdK (sL g a k w) b c x = gdK g b c x := rfl
theorem gL_sLs : gL (sL g a k w) a = vp_updL (gL g a) k w := va_up_self _ _ _
theorem gL_sLn (h : b ≠ a) : gL (sL g a k w) b = gL g b := va_up_ne _ _ h
/-- A FRAME: but for the cells of S all is as it was -/
def Fq (S : List Nat) (g g' : G) : Prop := gn g' = gn g ∧ gs g' = gs g ∧ gK g' = gK g ∧ gN g' = gN g ∧ ∀ a, a ∉ S → gI g' a = gI g a ∧ gL g' a = gL g a ∧ gR g' a = gR g a
theorem Fq.rf {S : List Nat} {g : G} : Fq S g g := ⟨rfl, rfl, rfl, rfl, fun _ _ => ⟨rfl, rfl, rfl⟩⟩
theorem Fq.tr {S : List Nat} {g h k : G} (x : Fq S g h) (y : Fq S h k) : Fq S g k := ⟨y.1.trans x.1, y.2.1.trans x.2.1, y.2.2.1.trans x.2.2.1, y.2.2.2.1.trans x.2.2.2.1, fun a ha => ⟨(y.2.2.2.2 a ha).1.trans (x.2.2.2.2 a ha).1, (y.2.2.2.2 a ha).2.1.trans (x.2.2.2.2 a ha).2.1, (y.2.2.2.2 a ha).2.2.trans (x.2.2.2.2 a ha).2.2⟩⟩
theorem Fq.mono {S T : List Nat} {g h : G} (x : Fq S g h) (hs : ∀ a ∈ S, a ∈ T) : Fq T g h := ⟨x.1, x.2.1, x.2.2.1, x.2.2.2.1, fun a ha => x.2.2.2.2 a (fun q => ha (hs a q))⟩
theorem Fq.I {S : List Nat} {g h : G} (x : Fq S g h) {a : Nat} (ha : a ∉ S) : gI h a = gI g a := (x.2.2.2.2 a ha).1
theorem Fq.L {S : List Nat} {g h : G} (x : Fq S g h) {a : Nat} (ha : a ∉ S) : gL h a = gL g a := (x.2.2.2.2 a ha).2.1
theorem Fq.R {S : List Nat} {g h : G} (x : Fq S g h) {a : Nat} (ha : a ∉ S) : gR h a = gR g a := (x.2.2.2.2 a ha).2.2
theorem Fq.si {S : List Nat} {g h : G} (x : Fq S g h) {a k : Nat} {v : Int32} (ha : a ∈ S) : Fq S g (sI h a k v) := x.tr ⟨rfl, rfl, rfl, rfl, fun b hb => ⟨gI_sIn (fun e => hb (e ▸ ha)), rfl, rfl⟩⟩
theorem Fq.sl {S : List Nat} {g h : G} (x : Fq S g h) {a k : Nat} {v : Int64} (ha : a ∈ S) : Fq S g (sL h a k v) := x.tr ⟨rfl, rfl, rfl, rfl, fun b hb => ⟨rfl, gL_sLn (fun e => hb (e ▸ ha)), rfl⟩⟩
theorem KD.fq {S : List Nat} {g h : G} {a c : Nat} (k : KD g a c) (x : Fq S g h) : KD h a c := ⟨by rw [x.2.2.1]; exact k.1, by rw [x.1]; exact k.2⟩
/-- A FRAME of ints and longs: but for the cells of S all is as it was; no reference changes -/
def Fi (S : List Nat) (g g' : G) : Prop := (gn g' = gn g ∧ gs g' = gs g ∧ gK g' = gK g ∧ gN g' = gN g ∧ gR g' = gR g) ∧ ∀ a, a ∉ S → gI g' a = gI g a ∧ gL g' a = gL g a
theorem Fi.rf {S : List Nat} {g : G} : Fi S g g := ⟨⟨rfl, rfl, rfl, rfl, rfl⟩, fun _ _ => ⟨rfl, rfl⟩⟩
theorem Fi.tr {S : List Nat} {g h k : G} (x : Fi S g h) (y : Fi S h k) : Fi S g k := ⟨⟨y.1.1.trans x.1.1, y.1.2.1.trans x.1.2.1, y.1.2.2.1.trans x.1.2.2.1, y.1.2.2.2.1.trans x.1.2.2.2.1, y.1.2.2.2.2.trans x.1.2.2.2.2⟩, fun a ha => ⟨(y.2 a ha).1.trans (x.2 a ha).1, (y.2 a ha).2.trans (x.2 a ha).2⟩⟩
theorem Fi.mono {S T : List Nat} {g h : G} (x : Fi S g h) (hs : ∀ a ∈ S, a ∈ T) : Fi T g h := ⟨x.1, fun a ha => x.2 a (fun q => ha (hs a q))⟩
theorem Fi.I {S : List Nat} {g h : G} (x : Fi S g h) {a : Nat} (ha : a ∉ S) : gI h a = gI g a := (x.2 a ha).1
theorem Fi.L {S : List Nat} {g h : G} (x : Fi S g h) {a : Nat} (ha : a ∉ S) : gL h a = gL g a := (x.2 a ha).2
theorem Fi.R {S : List Nat} {g h : G} (x : Fi S g h) : gR h = gR g := x.1.2.2.2.2
theorem Fi.si {S : List Nat} {g h : G} (x : Fi S g h) {a k : Nat} {v : Int32} (ha : a ∈ S) : Fi S g (sI h a k v) := x.tr ⟨⟨rfl, rfl, rfl, rfl, rfl⟩, fun b hb => ⟨gI_sIn (fun e => hb (e ▸ ha)), rfl⟩⟩
theorem Fi.sl {S : List Nat} {g h : G} (x : Fi S g h) {a k : Nat} {v : Int64} (ha : a ∈ S) : Fi S g (sL h a k v) := x.tr ⟨⟨rfl, rfl, rfl, rfl, rfl⟩, fun b hb => ⟨rfl, gL_sLn (fun e => hb (e ▸ ha))⟩⟩
theorem Fi.q {S : List Nat} {g h : G} (x : Fi S g h) : Fq S g h := ⟨x.1.1, x.1.2.1, x.1.2.2.1, x.1.2.2.2.1, fun a ha => ⟨(x.2 a ha).1, (x.2 a ha).2, congrFun x.1.2.2.2.2 a⟩⟩
theorem KD.fi {S : List Nat} {g h : G} {a c : Nat} (k : KD g a c) (x : Fi S g h) : KD h a c := k.fq x.q
/-- what an answer has to be -/
def Wp {α : Type} (o : Option (α × G)) (Q : α → G → Prop) : Prop := ∃ a g', o = some (a, g') ∧ Q a g'
theorem Wp.ret {α : Type} {a : α} {g : G} {Q : α → G → Prop} (h : Q a g) : Wp (some (a, g)) Q := ⟨a, g, rfl, h⟩
theorem Wp.bnd {α β : Type} {o : Option (β × G)} {f : β → G → Option (α × G)} {Q : α → G → Prop} {P : β → G → Prop} (h : Wp o P) (k : ∀ b g, P b g → Wp (f b g) Q) : Wp (bd o f) Q := by
  obtain ⟨b, g, e, p⟩ := h
  rw [e]
  exact k b g p
theorem Wp.mono {α : Type} {o : Option (α × G)} {P Q : α → G → Prop} (h : Wp o P) (k : ∀ b g, P b g → Q b g) : Wp o Q := by
  obtain ⟨b, g, e, p⟩ := h
  exact ⟨b, g, e, k b g p⟩
theorem Wp.eq {α : Type} {o o' : Option (α × G)} {Q : α → G → Prop} (e : o = o') (h : Wp o' Q) : Wp o Q := e ▸ h
/-- a loop that counts up to N -/
theorem upto {σ : Type} (N : Nat) (F : Nat → Nat → σ → Prop) (I : Nat → σ → Prop) (he : ∀ n s, I N s → F (n + 1) N s) (hs : ∀ n k s, k < N → I k s → (∀ s', I (k + 1) s' → F n (k + 1) s') → F (n + 1) k s) : ∀ n k s, k ≤ N → N < n + k → I k s → F n k s := by
  intro n
  induction n with
  | zero => intro k s h1 h2; omega
  | succ n ih =>
    intro k s h1 h2 hI
    rcases Nat.lt_or_ge k N with h | h
    · exact hs n k s h hI (fun s' h' => ih (k + 1) s' h (by omega) h')
    · have e : k = N := Nat.le_antisymm h1 h
      subst e
      exact he n s hI
end HEA
section GKS
variable {g : G} {α : Type} {x : Option α}
theorem gk0 (h : Sh g) : gdK g 0 11 x = x := gdK_pos (sk0 h)
theorem gk1 (h : Sh g) : gdK g 1 13 x = x := gdK_pos (sk1 h)
theorem gk2 (h : Sh g) : gdK g 2 4 x = x := gdK_pos (sk2 h)
theorem gk3 (h : Sh g) : gdK g 3 14 x = x := gdK_pos (sk3 h)
theorem gk4 (h : Sh g) : gdK g 4 14 x = x := gdK_pos (sk4 h)
theorem gk5 (h : Sh g) : gdK g 5 14 x = x := gdK_pos (sk5 h)
theorem gk6 (h : Sh g) : gdK g 6 14 x = x := gdK_pos (sk6 h)
theorem gk7 (h : Sh g) : gdK g 7 14 x = x := gdK_pos (sk7 h)
theorem gk8 (h : Sh g) : gdK g 8 14 x = x := gdK_pos (sk8 h)
theorem gk9 (h : Sh g) : gdK g 9 4 x = x := gdK_pos (sk9 h)
theorem gk10 (h : Sh g) : gdK g 10 14 x = x := gdK_pos (sk10 h)
theorem gk11 (h : Sh g) : gdK g 11 14 x = x := gdK_pos (sk11 h)
theorem gk12 (h : Sh g) : gdK g 12 14 x = x := gdK_pos (sk12 h)
theorem gk13 (h : Sh g) : gdK g 13 14 x = x := gdK_pos (sk13 h)
theorem gk14 (h : Sh g) : gdK g 14 14 x = x := gdK_pos (sk14 h)
theorem gk15 (h : Sh g) : gdK g 15 14 x = x := gdK_pos (sk15 h)
theorem gk16 (h : Sh g) : gdK g 16 1 x = x := gdK_pos (sk16 h)
theorem gk17 (h : Sh g) : gdK g 17 14 x = x := gdK_pos (sk17 h)
theorem gk18 (h : Sh g) : gdK g 18 14 x = x := gdK_pos (sk18 h)
theorem gk19 (h : Sh g) : gdK g 19 14 x = x := gdK_pos (sk19 h)
theorem gk20 (h : Sh g) : gdK g 20 14 x = x := gdK_pos (sk20 h)
theorem gk21 (h : Sh g) : gdK g 21 14 x = x := gdK_pos (sk21 h)
theorem gk22 (h : Sh g) : gdK g 22 2 x = x := gdK_pos (sk22 h)
theorem gk23 (h : Sh g) : gdK g 23 14 x = x := gdK_pos (sk23 h)
theorem gk24 (h : Sh g) : gdK g 24 14 x = x := gdK_pos (sk24 h)
theorem gk25 (h : Sh g) : gdK g 25 14 x = x := gdK_pos (sk25 h)
theorem gk26 (h : Sh g) : gdK g 26 14 x = x := gdK_pos (sk26 h)
theorem gk27 (h : Sh g) : gdK g 27 3 x = x := gdK_pos (sk27 h)
theorem gk28 (h : Sh g) : gdK g 28 14 x = x := gdK_pos (sk28 h)
theorem gk29 (h : Sh g) : gdK g 29 14 x = x := gdK_pos (sk29 h)
theorem gk30 (h : Sh g) : gdK g 30 14 x = x := gdK_pos (sk30 h)
theorem gk31 (h : Sh g) : gdK g 31 14 x = x := gdK_pos (sk31 h)
theorem gk32 (h : Sh g) : gdK g 32 14 x = x := gdK_pos (sk32 h)
theorem gk33 (h : Sh g) : gdK g 33 14 x = x := gdK_pos (sk33 h)
theorem gk34 (h : Sh g) : gdK g 34 14 x = x := gdK_pos (sk34 h)
theorem gk35 (h : Sh g) : gdK g 35 6 x = x := gdK_pos (sk35 h)
theorem gk36 (h : Sh g) : gdK g 36 19 x = x := gdK_pos (sk36 h)
theorem gk37 (h : Sh g) : gdK g 37 15 x = x := gdK_pos (sk37 h)
theorem gk38 (h : Sh g) : gdK g 38 15 x = x := gdK_pos (sk38 h)
theorem gk39 (h : Sh g) : gdK g 39 15 x = x := gdK_pos (sk39 h)
theorem gk40 (h : Sh g) : gdK g 40 18 x = x := gdK_pos (sk40 h)
theorem gk41 (h : Sh g) : gdK g 41 17 x = x := gdK_pos (sk41 h)
theorem gk42 (h : Sh g) : gdK g 42 7 x = x := gdK_pos (sk42 h)
theorem gk43 (h : Sh g) : gdK g 43 14 x = x := gdK_pos (sk43 h)
theorem gk44 (h : Sh g) : gdK g 44 14 x = x := gdK_pos (sk44 h)
theorem gk45 (h : Sh g) : gdK g 45 14 x = x := gdK_pos (sk45 h)
theorem gk46 (h : Sh g) : gdK g 46 14 x = x := gdK_pos (sk46 h)
theorem gk47 (h : Sh g) : gdK g 47 0 x = x := gdK_pos (sk47 h)
theorem gk48 (h : Sh g) : gdK g 48 14 x = x := gdK_pos (sk48 h)
theorem gk49 (h : Sh g) : gdK g 49 14 x = x := gdK_pos (sk49 h)
theorem gk50 (h : Sh g) : gdK g 50 14 x = x := gdK_pos (sk50 h)
theorem gk51 (h : Sh g) : gdK g 51 14 x = x := gdK_pos (sk51 h)
theorem gk52 (h : Sh g) : gdK g 52 0 x = x := gdK_pos (sk52 h)
theorem gk53 (h : Sh g) : gdK g 53 14 x = x := gdK_pos (sk53 h)
theorem gk54 (h : Sh g) : gdK g 54 14 x = x := gdK_pos (sk54 h)
theorem gk55 (h : Sh g) : gdK g 55 14 x = x := gdK_pos (sk55 h)
theorem gk56 (h : Sh g) : gdK g 56 14 x = x := gdK_pos (sk56 h)
theorem gk57 (h : Sh g) : gdK g 57 8 x = x := gdK_pos (sk57 h)
theorem gk58 (h : Sh g) : gdK g 58 13 x = x := gdK_pos (sk58 h)
theorem gk59 (h : Sh g) : gdK g 59 14 x = x := gdK_pos (sk59 h)
theorem gk60 (h : Sh g) : gdK g 60 14 x = x := gdK_pos (sk60 h)
theorem gk61 (h : Sh g) : gdK g 61 14 x = x := gdK_pos (sk61 h)
theorem gk62 (h : Sh g) : gdK g 62 14 x = x := gdK_pos (sk62 h)
theorem gk63 (h : Sh g) : gdK g 63 0 x = x := gdK_pos (sk63 h)
theorem gk64 (h : Sh g) : gdK g 64 14 x = x := gdK_pos (sk64 h)
theorem gk65 (h : Sh g) : gdK g 65 14 x = x := gdK_pos (sk65 h)
theorem gk66 (h : Sh g) : gdK g 66 14 x = x := gdK_pos (sk66 h)
theorem gk67 (h : Sh g) : gdK g 67 14 x = x := gdK_pos (sk67 h)
theorem gk68 (h : Sh g) : gdK g 68 9 x = x := gdK_pos (sk68 h)
theorem gk69 (h : Sh g) : gdK g 69 14 x = x := gdK_pos (sk69 h)
theorem gk70 (h : Sh g) : gdK g 70 15 x = x := gdK_pos (sk70 h)
theorem gk71 (h : Sh g) : gdK g 71 14 x = x := gdK_pos (sk71 h)
theorem gk72 (h : Sh g) : gdK g 72 14 x = x := gdK_pos (sk72 h)
theorem gk73 (h : Sh g) : gdK g 73 14 x = x := gdK_pos (sk73 h)
theorem gk74 (h : Sh g) : gdK g 74 14 x = x := gdK_pos (sk74 h)
theorem gk75 (h : Sh g) : gdK g 75 15 x = x := gdK_pos (sk75 h)
theorem gk76 (h : Sh g) : gdK g 76 5 x = x := gdK_pos (sk76 h)
theorem gk77 (h : Sh g) : gdK g 77 17 x = x := gdK_pos (sk77 h)
theorem gk78 (h : Sh g) : gdK g 78 0 x = x := gdK_pos (sk78 h)
theorem gk79 (h : Sh g) : gdK g 79 14 x = x := gdK_pos (sk79 h)
theorem gk80 (h : Sh g) : gdK g 80 14 x = x := gdK_pos (sk80 h)
theorem gk81 (h : Sh g) : gdK g 81 14 x = x := gdK_pos (sk81 h)
theorem gk82 (h : Sh g) : gdK g 82 14 x = x := gdK_pos (sk82 h)
theorem gk83 (h : Sh g) : gdK g 83 0 x = x := gdK_pos (sk83 h)
theorem gk84 (h : Sh g) : gdK g 84 14 x = x := gdK_pos (sk84 h)
theorem gk85 (h : Sh g) : gdK g 85 14 x = x := gdK_pos (sk85 h)
theorem gk86 (h : Sh g) : gdK g 86 14 x = x := gdK_pos (sk86 h)
theorem gk87 (h : Sh g) : gdK g 87 14 x = x := gdK_pos (sk87 h)
theorem gk88 (h : Sh g) : gdK g 88 0 x = x := gdK_pos (sk88 h)
theorem gk89 (h : Sh g) : gdK g 89 14 x = x := gdK_pos (sk89 h)
theorem gk90 (h : Sh g) : gdK g 90 14 x = x := gdK_pos (sk90 h)
theorem gk91 (h : Sh g) : gdK g 91 14 x = x := gdK_pos (sk91 h)
theorem gk92 (h : Sh g) : gdK g 92 14 x = x := gdK_pos (sk92 h)
theorem gk93 (h : Sh g) : gdK g 93 0 x = x := gdK_pos (sk93 h)
theorem gk94 (h : Sh g) : gdK g 94 14 x = x := gdK_pos (sk94 h)
theorem gk95 (h : Sh g) : gdK g 95 14 x = x := gdK_pos (sk95 h)
theorem gk96 (h : Sh g) : gdK g 96 14 x = x := gdK_pos (sk96 h)
theorem gk97 (h : Sh g) : gdK g 97 14 x = x := gdK_pos (sk97 h)
theorem gk98 (h : Sh g) : gdK g 98 0 x = x := gdK_pos (sk98 h)
theorem gk99 (h : Sh g) : gdK g 99 14 x = x := gdK_pos (sk99 h)
theorem gk100 (h : Sh g) : gdK g 100 14 x = x := gdK_pos (sk100 h)
theorem gk101 (h : Sh g) : gdK g 101 14 x = x := gdK_pos (sk101 h)
theorem gk102 (h : Sh g) : gdK g 102 14 x = x := gdK_pos (sk102 h)
theorem gk103 (h : Sh g) : gdK g 103 0 x = x := gdK_pos (sk103 h)
theorem gk104 (h : Sh g) : gdK g 104 14 x = x := gdK_pos (sk104 h)
theorem gk105 (h : Sh g) : gdK g 105 14 x = x := gdK_pos (sk105 h)
theorem gk106 (h : Sh g) : gdK g 106 14 x = x := gdK_pos (sk106 h)
theorem gk107 (h : Sh g) : gdK g 107 14 x = x := gdK_pos (sk107 h)
theorem gk108 (h : Sh g) : gdK g 108 0 x = x := gdK_pos (sk108 h)
theorem gk109 (h : Sh g) : gdK g 109 14 x = x := gdK_pos (sk109 h)
theorem gk110 (h : Sh g) : gdK g 110 14 x = x := gdK_pos (sk110 h)
theorem gk111 (h : Sh g) : gdK g 111 14 x = x := gdK_pos (sk111 h)
theorem gk112 (h : Sh g) : gdK g 112 14 x = x := gdK_pos (sk112 h)
theorem gk113 (h : Sh g) : gdK g 113 0 x = x := gdK_pos (sk113 h)
theorem gk114 (h : Sh g) : gdK g 114 14 x = x := gdK_pos (sk114 h)
theorem gk115 (h : Sh g) : gdK g 115 14 x = x := gdK_pos (sk115 h)
theorem gk116 (h : Sh g) : gdK g 116 14 x = x := gdK_pos (sk116 h)
theorem gk117 (h : Sh g) : gdK g 117 14 x = x := gdK_pos (sk117 h)
theorem gk118 (h : Sh g) : gdK g 118 0 x = x := gdK_pos (sk118 h)
theorem gk119 (h : Sh g) : gdK g 119 14 x = x := gdK_pos (sk119 h)
theorem gk120 (h : Sh g) : gdK g 120 14 x = x := gdK_pos (sk120 h)
theorem gk121 (h : Sh g) : gdK g 121 14 x = x := gdK_pos (sk121 h)
theorem gk122 (h : Sh g) : gdK g 122 14 x = x := gdK_pos (sk122 h)
theorem gk123 (h : Sh g) : gdK g 123 0 x = x := gdK_pos (sk123 h)
theorem gk124 (h : Sh g) : gdK g 124 14 x = x := gdK_pos (sk124 h)
theorem gk125 (h : Sh g) : gdK g 125 14 x = x := gdK_pos (sk125 h)
theorem gk126 (h : Sh g) : gdK g 126 14 x = x := gdK_pos (sk126 h)
theorem gk127 (h : Sh g) : gdK g 127 14 x = x := gdK_pos (sk127 h)
theorem gk128 (h : Sh g) : gdK g 128 10 x = x := gdK_pos (sk128 h)
theorem gk129 (h : Sh g) : gdK g 129 15 x = x := gdK_pos (sk129 h)
theorem gk130 (h : Sh g) : gdK g 130 10 x = x := gdK_pos (sk130 h)
theorem gk131 (h : Sh g) : gdK g 131 15 x = x := gdK_pos (sk131 h)
theorem gk132 (h : Sh g) : gdK g 132 10 x = x := gdK_pos (sk132 h)
theorem gk133 (h : Sh g) : gdK g 133 15 x = x := gdK_pos (sk133 h)
theorem gk134 (h : Sh g) : gdK g 134 10 x = x := gdK_pos (sk134 h)
theorem gk135 (h : Sh g) : gdK g 135 15 x = x := gdK_pos (sk135 h)
theorem gk136 (h : Sh g) : gdK g 136 12 x = x := gdK_pos (sk136 h)
theorem gk137 (h : Sh g) : gdK g 137 14 x = x := gdK_pos (sk137 h)
theorem gk138 (h : Sh g) : gdK g 138 16 x = x := gdK_pos (sk138 h)
theorem gk139 (h : Sh g) : gdK g 139 14 x = x := gdK_pos (sk139 h)
theorem gk140 (h : Sh g) : gdK g 140 14 x = x := gdK_pos (sk140 h)
theorem gk141 (h : Sh g) : gdK g 141 14 x = x := gdK_pos (sk141 h)
theorem gk142 (h : Sh g) : gdK g 142 14 x = x := gdK_pos (sk142 h)
theorem gk143 (h : Sh g) : gdK g 143 14 x = x := gdK_pos (sk143 h)
theorem gk144 (h : Sh g) : gdK g 144 16 x = x := gdK_pos (sk144 h)
theorem gk145 (h : Sh g) : gdK g 145 14 x = x := gdK_pos (sk145 h)
theorem gk146 (h : Sh g) : gdK g 146 14 x = x := gdK_pos (sk146 h)
theorem gk147 (h : Sh g) : gdK g 147 14 x = x := gdK_pos (sk147 h)
theorem gk148 (h : Sh g) : gdK g 148 14 x = x := gdK_pos (sk148 h)
theorem gk149 (h : Sh g) : gdK g 149 15 x = x := gdK_pos (sk149 h)
theorem gk150 (h : Sh g) : gdK g 150 15 x = x := gdK_pos (sk150 h)
theorem gk151 (h : Sh g) : gdK g 151 14 x = x := gdK_pos (sk151 h)
theorem gk152 (h : Sh g) : gdK g 152 14 x = x := gdK_pos (sk152 h)
theorem gk153 (h : Sh g) : gdK g 153 14 x = x := gdK_pos (sk153 h)
theorem gk154 (h : Sh g) : gdK g 154 15 x = x := gdK_pos (sk154 h)
theorem md0_0 (h : Sh g) (f : Nat → Option α) : dr (gR g 0 0) f = f 1 := by rw [sr0_0 h]; rfl
theorem md0_4 (h : Sh g) (f : Nat → Option α) : dr (gR g 0 4) f = f 47 := by rw [sr0_4 h]; rfl
theorem md0_5 (h : Sh g) (f : Nat → Option α) : dr (gR g 0 5) f = f 52 := by rw [sr0_5 h]; rfl
theorem md0_6 (h : Sh g) (f : Nat → Option α) : dr (gR g 0 6) f = f 57 := by rw [sr0_6 h]; rfl
theorem md0_7 (h : Sh g) (f : Nat → Option α) : dr (gR g 0 7) f = f 68 := by rw [sr0_7 h]; rfl
theorem md0_8 (h : Sh g) (f : Nat → Option α) : dr (gR g 0 8) f = f 2 := by rw [sr0_8 h]; rfl
theorem md0_9 (h : Sh g) (f : Nat → Option α) : dr (gR g 0 9) f = f 9 := by rw [sr0_9 h]; rfl
theorem md0_11 (h : Sh g) (f : Nat → Option α) : dr (gR g 0 11) f = f 16 := by rw [sr0_11 h]; rfl
theorem md0_12 (h : Sh g) (f : Nat → Option α) : dr (gR g 0 12) f = f 22 := by rw [sr0_12 h]; rfl
theorem md0_13 (h : Sh g) (f : Nat → Option α) : dr (gR g 0 13) f = f 27 := by rw [sr0_13 h]; rfl
theorem md0_14 (h : Sh g) (f : Nat → Option α) : dr (gR g 0 14) f = f 35 := by rw [sr0_14 h]; rfl
theorem md0_15 (h : Sh g) (f : Nat → Option α) : dr (gR g 0 15) f = f 76 := by rw [sr0_15 h]; rfl
theorem md0_16 (h : Sh g) (f : Nat → Option α) : dr (gR g 0 16) f = f 40 := by rw [sr0_16 h]; rfl
theorem md0_17 (h : Sh g) (f : Nat → Option α) : dr (gR g 0 17) f = f 41 := by rw [sr0_17 h]; rfl
theorem md2_1 (h : Sh g) (f : Nat → Option α) : dr (gR g 2 1) f = f 3 := by rw [sr2_1 h]; rfl
theorem md2_2 (h : Sh g) (f : Nat → Option α) : dr (gR g 2 2) f = f 4 := by rw [sr2_2 h]; rfl
theorem md2_3 (h : Sh g) (f : Nat → Option α) : dr (gR g 2 3) f = f 5 := by rw [sr2_3 h]; rfl
theorem md2_4 (h : Sh g) (f : Nat → Option α) : dr (gR g 2 4) f = f 6 := by rw [sr2_4 h]; rfl
theorem md2_5 (h : Sh g) (f : Nat → Option α) : dr (gR g 2 5) f = f 7 := by rw [sr2_5 h]; rfl
theorem md2_6 (h : Sh g) (f : Nat → Option α) : dr (gR g 2 6) f = f 8 := by rw [sr2_6 h]; rfl
theorem md9_1 (h : Sh g) (f : Nat → Option α) : dr (gR g 9 1) f = f 10 := by rw [sr9_1 h]; rfl
theorem md9_2 (h : Sh g) (f : Nat → Option α) : dr (gR g 9 2) f = f 11 := by rw [sr9_2 h]; rfl
theorem md9_3 (h : Sh g) (f : Nat → Option α) : dr (gR g 9 3) f = f 12 := by rw [sr9_3 h]; rfl
theorem md9_4 (h : Sh g) (f : Nat → Option α) : dr (gR g 9 4) f = f 13 := by rw [sr9_4 h]; rfl
theorem md9_5 (h : Sh g) (f : Nat → Option α) : dr (gR g 9 5) f = f 14 := by rw [sr9_5 h]; rfl
theorem md9_6 (h : Sh g) (f : Nat → Option α) : dr (gR g 9 6) f = f 15 := by rw [sr9_6 h]; rfl
theorem md16_1 (h : Sh g) (f : Nat → Option α) : dr (gR g 16 1) f = f 17 := by rw [sr16_1 h]; rfl
theorem md16_2 (h : Sh g) (f : Nat → Option α) : dr (gR g 16 2) f = f 18 := by rw [sr16_2 h]; rfl
theorem md16_3 (h : Sh g) (f : Nat → Option α) : dr (gR g 16 3) f = f 19 := by rw [sr16_3 h]; rfl
theorem md16_5 (h : Sh g) (f : Nat → Option α) : dr (gR g 16 5) f = f 20 := by rw [sr16_5 h]; rfl
theorem md16_7 (h : Sh g) (f : Nat → Option α) : dr (gR g 16 7) f = f 21 := by rw [sr16_7 h]; rfl
theorem md22_0 (h : Sh g) (f : Nat → Option α) : dr (gR g 22 0) f = f 23 := by rw [sr22_0 h]; rfl
theorem md22_1 (h : Sh g) (f : Nat → Option α) : dr (gR g 22 1) f = f 24 := by rw [sr22_1 h]; rfl
theorem md22_2 (h : Sh g) (f : Nat → Option α) : dr (gR g 22 2) f = f 25 := by rw [sr22_2 h]; rfl
theorem md22_3 (h : Sh g) (f : Nat → Option α) : dr (gR g 22 3) f = f 26 := by rw [sr22_3 h]; rfl
theorem md27_1 (h : Sh g) (f : Nat → Option α) : dr (gR g 27 1) f = f 28 := by rw [sr27_1 h]; rfl
theorem md27_2 (h : Sh g) (f : Nat → Option α) : dr (gR g 27 2) f = f 29 := by rw [sr27_2 h]; rfl
theorem md27_3 (h : Sh g) (f : Nat → Option α) : dr (gR g 27 3) f = f 30 := by rw [sr27_3 h]; rfl
theorem md27_5 (h : Sh g) (f : Nat → Option α) : dr (gR g 27 5) f = f 31 := by rw [sr27_5 h]; rfl
theorem md27_6 (h : Sh g) (f : Nat → Option α) : dr (gR g 27 6) f = f 32 := by rw [sr27_6 h]; rfl
theorem md27_7 (h : Sh g) (f : Nat → Option α) : dr (gR g 27 7) f = f 33 := by rw [sr27_7 h]; rfl
theorem md27_8 (h : Sh g) (f : Nat → Option α) : dr (gR g 27 8) f = f 34 := by rw [sr27_8 h]; rfl
theorem md35_0 (h : Sh g) (f : Nat → Option α) : dr (gR g 35 0) f = f 36 := by rw [sr35_0 h]; rfl
theorem md35_2 (h : Sh g) (f : Nat → Option α) : dr (gR g 35 2) f = f 39 := by rw [sr35_2 h]; rfl
theorem md36_0 (h : Sh g) (f : Nat → Option α) : dr (gR g 36 0) f = f 37 := by rw [sr36_0 h]; rfl
theorem md36_1 (h : Sh g) (f : Nat → Option α) : dr (gR g 36 1) f = f 38 := by rw [sr36_1 h]; rfl
theorem md40_0 (h : Sh g) (f : Nat → Option α) : dr (gR g 40 0) f = f 128 := by rw [sr40_0 h]; rfl
theorem md40_1 (h : Sh g) (f : Nat → Option α) : dr (gR g 40 1) f = f 130 := by rw [sr40_1 h]; rfl
theorem md40_2 (h : Sh g) (f : Nat → Option α) : dr (gR g 40 2) f = f 132 := by rw [sr40_2 h]; rfl
theorem md40_3 (h : Sh g) (f : Nat → Option α) : dr (gR g 40 3) f = f 134 := by rw [sr40_3 h]; rfl
theorem md42_6 (h : Sh g) (f : Nat → Option α) : dr (gR g 42 6) f = f 43 := by rw [sr42_6 h]; rfl
theorem md42_7 (h : Sh g) (f : Nat → Option α) : dr (gR g 42 7) f = f 44 := by rw [sr42_7 h]; rfl
theorem md42_8 (h : Sh g) (f : Nat → Option α) : dr (gR g 42 8) f = f 45 := by rw [sr42_8 h]; rfl
theorem md42_9 (h : Sh g) (f : Nat → Option α) : dr (gR g 42 9) f = f 46 := by rw [sr42_9 h]; rfl
theorem md47_2 (h : Sh g) (f : Nat → Option α) : dr (gR g 47 2) f = f 48 := by rw [sr47_2 h]; rfl
theorem md47_3 (h : Sh g) (f : Nat → Option α) : dr (gR g 47 3) f = f 49 := by rw [sr47_3 h]; rfl
theorem md47_4 (h : Sh g) (f : Nat → Option α) : dr (gR g 47 4) f = f 50 := by rw [sr47_4 h]; rfl
theorem md47_5 (h : Sh g) (f : Nat → Option α) : dr (gR g 47 5) f = f 51 := by rw [sr47_5 h]; rfl
theorem md52_2 (h : Sh g) (f : Nat → Option α) : dr (gR g 52 2) f = f 53 := by rw [sr52_2 h]; rfl
theorem md52_3 (h : Sh g) (f : Nat → Option α) : dr (gR g 52 3) f = f 54 := by rw [sr52_3 h]; rfl
theorem md52_4 (h : Sh g) (f : Nat → Option α) : dr (gR g 52 4) f = f 55 := by rw [sr52_4 h]; rfl
theorem md52_5 (h : Sh g) (f : Nat → Option α) : dr (gR g 52 5) f = f 56 := by rw [sr52_5 h]; rfl
theorem md57_0 (h : Sh g) (f : Nat → Option α) : dr (gR g 57 0) f = f 63 := by rw [sr57_0 h]; rfl
theorem md57_7 (h : Sh g) (f : Nat → Option α) : dr (gR g 57 7) f = f 59 := by rw [sr57_7 h]; rfl
theorem md57_8 (h : Sh g) (f : Nat → Option α) : dr (gR g 57 8) f = f 60 := by rw [sr57_8 h]; rfl
theorem md57_9 (h : Sh g) (f : Nat → Option α) : dr (gR g 57 9) f = f 61 := by rw [sr57_9 h]; rfl
theorem md57_16 (h : Sh g) (f : Nat → Option α) : dr (gR g 57 16) f = f 62 := by rw [sr57_16 h]; rfl
theorem md63_2 (h : Sh g) (f : Nat → Option α) : dr (gR g 63 2) f = f 64 := by rw [sr63_2 h]; rfl
theorem md63_3 (h : Sh g) (f : Nat → Option α) : dr (gR g 63 3) f = f 65 := by rw [sr63_3 h]; rfl
theorem md63_4 (h : Sh g) (f : Nat → Option α) : dr (gR g 63 4) f = f 66 := by rw [sr63_4 h]; rfl
theorem md63_5 (h : Sh g) (f : Nat → Option α) : dr (gR g 63 5) f = f 67 := by rw [sr63_5 h]; rfl
theorem md68_3 (h : Sh g) (f : Nat → Option α) : dr (gR g 68 3) f = f 69 := by rw [sr68_3 h]; rfl
theorem md68_4 (h : Sh g) (f : Nat → Option α) : dr (gR g 68 4) f = f 70 := by rw [sr68_4 h]; rfl
theorem md68_7 (h : Sh g) (f : Nat → Option α) : dr (gR g 68 7) f = f 71 := by rw [sr68_7 h]; rfl
theorem md68_8 (h : Sh g) (f : Nat → Option α) : dr (gR g 68 8) f = f 72 := by rw [sr68_8 h]; rfl
theorem md68_9 (h : Sh g) (f : Nat → Option α) : dr (gR g 68 9) f = f 73 := by rw [sr68_9 h]; rfl
theorem md68_10 (h : Sh g) (f : Nat → Option α) : dr (gR g 68 10) f = f 74 := by rw [sr68_10 h]; rfl
theorem md68_12 (h : Sh g) (f : Nat → Option α) : dr (gR g 68 12) f = f 75 := by rw [sr68_12 h]; rfl
theorem md76_2 (h : Sh g) (f : Nat → Option α) : dr (gR g 76 2) f = f 77 := by rw [sr76_2 h]; rfl
theorem md77_0 (h : Sh g) (f : Nat → Option α) : dr (gR g 77 0) f = f 78 := by rw [sr77_0 h]; rfl
theorem md77_1 (h : Sh g) (f : Nat → Option α) : dr (gR g 77 1) f = f 83 := by rw [sr77_1 h]; rfl
theorem md77_2 (h : Sh g) (f : Nat → Option α) : dr (gR g 77 2) f = f 88 := by rw [sr77_2 h]; rfl
theorem md77_3 (h : Sh g) (f : Nat → Option α) : dr (gR g 77 3) f = f 93 := by rw [sr77_3 h]; rfl
theorem md77_4 (h : Sh g) (f : Nat → Option α) : dr (gR g 77 4) f = f 98 := by rw [sr77_4 h]; rfl
theorem md77_5 (h : Sh g) (f : Nat → Option α) : dr (gR g 77 5) f = f 103 := by rw [sr77_5 h]; rfl
theorem md77_6 (h : Sh g) (f : Nat → Option α) : dr (gR g 77 6) f = f 108 := by rw [sr77_6 h]; rfl
theorem md77_7 (h : Sh g) (f : Nat → Option α) : dr (gR g 77 7) f = f 113 := by rw [sr77_7 h]; rfl
theorem md77_8 (h : Sh g) (f : Nat → Option α) : dr (gR g 77 8) f = f 118 := by rw [sr77_8 h]; rfl
theorem md77_9 (h : Sh g) (f : Nat → Option α) : dr (gR g 77 9) f = f 123 := by rw [sr77_9 h]; rfl
theorem md78_2 (h : Sh g) (f : Nat → Option α) : dr (gR g 78 2) f = f 79 := by rw [sr78_2 h]; rfl
theorem md78_3 (h : Sh g) (f : Nat → Option α) : dr (gR g 78 3) f = f 80 := by rw [sr78_3 h]; rfl
theorem md78_4 (h : Sh g) (f : Nat → Option α) : dr (gR g 78 4) f = f 81 := by rw [sr78_4 h]; rfl
theorem md78_5 (h : Sh g) (f : Nat → Option α) : dr (gR g 78 5) f = f 82 := by rw [sr78_5 h]; rfl
theorem md83_2 (h : Sh g) (f : Nat → Option α) : dr (gR g 83 2) f = f 84 := by rw [sr83_2 h]; rfl
theorem md83_3 (h : Sh g) (f : Nat → Option α) : dr (gR g 83 3) f = f 85 := by rw [sr83_3 h]; rfl
theorem md83_4 (h : Sh g) (f : Nat → Option α) : dr (gR g 83 4) f = f 86 := by rw [sr83_4 h]; rfl
theorem md83_5 (h : Sh g) (f : Nat → Option α) : dr (gR g 83 5) f = f 87 := by rw [sr83_5 h]; rfl
theorem md88_2 (h : Sh g) (f : Nat → Option α) : dr (gR g 88 2) f = f 89 := by rw [sr88_2 h]; rfl
theorem md88_3 (h : Sh g) (f : Nat → Option α) : dr (gR g 88 3) f = f 90 := by rw [sr88_3 h]; rfl
theorem md88_4 (h : Sh g) (f : Nat → Option α) : dr (gR g 88 4) f = f 91 := by rw [sr88_4 h]; rfl
theorem md88_5 (h : Sh g) (f : Nat → Option α) : dr (gR g 88 5) f = f 92 := by rw [sr88_5 h]; rfl
theorem md93_2 (h : Sh g) (f : Nat → Option α) : dr (gR g 93 2) f = f 94 := by rw [sr93_2 h]; rfl
theorem md93_3 (h : Sh g) (f : Nat → Option α) : dr (gR g 93 3) f = f 95 := by rw [sr93_3 h]; rfl
theorem md93_4 (h : Sh g) (f : Nat → Option α) : dr (gR g 93 4) f = f 96 := by rw [sr93_4 h]; rfl
theorem md93_5 (h : Sh g) (f : Nat → Option α) : dr (gR g 93 5) f = f 97 := by rw [sr93_5 h]; rfl
theorem md98_2 (h : Sh g) (f : Nat → Option α) : dr (gR g 98 2) f = f 99 := by rw [sr98_2 h]; rfl
theorem md98_3 (h : Sh g) (f : Nat → Option α) : dr (gR g 98 3) f = f 100 := by rw [sr98_3 h]; rfl
theorem md98_4 (h : Sh g) (f : Nat → Option α) : dr (gR g 98 4) f = f 101 := by rw [sr98_4 h]; rfl
theorem md98_5 (h : Sh g) (f : Nat → Option α) : dr (gR g 98 5) f = f 102 := by rw [sr98_5 h]; rfl
theorem md103_2 (h : Sh g) (f : Nat → Option α) : dr (gR g 103 2) f = f 104 := by rw [sr103_2 h]; rfl
theorem md103_3 (h : Sh g) (f : Nat → Option α) : dr (gR g 103 3) f = f 105 := by rw [sr103_3 h]; rfl
theorem md103_4 (h : Sh g) (f : Nat → Option α) : dr (gR g 103 4) f = f 106 := by rw [sr103_4 h]; rfl
theorem md103_5 (h : Sh g) (f : Nat → Option α) : dr (gR g 103 5) f = f 107 := by rw [sr103_5 h]; rfl
theorem md108_2 (h : Sh g) (f : Nat → Option α) : dr (gR g 108 2) f = f 109 := by rw [sr108_2 h]; rfl
theorem md108_3 (h : Sh g) (f : Nat → Option α) : dr (gR g 108 3) f = f 110 := by rw [sr108_3 h]; rfl
theorem md108_4 (h : Sh g) (f : Nat → Option α) : dr (gR g 108 4) f = f 111 := by rw [sr108_4 h]; rfl
theorem md108_5 (h : Sh g) (f : Nat → Option α) : dr (gR g 108 5) f = f 112 := by rw [sr108_5 h]; rfl
theorem md113_2 (h : Sh g) (f : Nat → Option α) : dr (gR g 113 2) f = f 114 := by rw [sr113_2 h]; rfl
theorem md113_3 (h : Sh g) (f : Nat → Option α) : dr (gR g 113 3) f = f 115 := by rw [sr113_3 h]; rfl
theorem md113_4 (h : Sh g) (f : Nat → Option α) : dr (gR g 113 4) f = f 116 := by rw [sr113_4 h]; rfl
theorem md113_5 (h : Sh g) (f : Nat → Option α) : dr (gR g 113 5) f = f 117 := by rw [sr113_5 h]; rfl
theorem md118_2 (h : Sh g) (f : Nat → Option α) : dr (gR g 118 2) f = f 119 := by rw [sr118_2 h]; rfl
theorem md118_3 (h : Sh g) (f : Nat → Option α) : dr (gR g 118 3) f = f 120 := by rw [sr118_3 h]; rfl
theorem md118_4 (h : Sh g) (f : Nat → Option α) : dr (gR g 118 4) f = f 121 := by rw [sr118_4 h]; rfl
theorem md118_5 (h : Sh g) (f : Nat → Option α) : dr (gR g 118 5) f = f 122 := by rw [sr118_5 h]; rfl
theorem md123_2 (h : Sh g) (f : Nat → Option α) : dr (gR g 123 2) f = f 124 := by rw [sr123_2 h]; rfl
theorem md123_3 (h : Sh g) (f : Nat → Option α) : dr (gR g 123 3) f = f 125 := by rw [sr123_3 h]; rfl
theorem md123_4 (h : Sh g) (f : Nat → Option α) : dr (gR g 123 4) f = f 126 := by rw [sr123_4 h]; rfl
theorem md123_5 (h : Sh g) (f : Nat → Option α) : dr (gR g 123 5) f = f 127 := by rw [sr123_5 h]; rfl
theorem md128_2 (h : Sh g) (f : Nat → Option α) : dr (gR g 128 2) f = f 129 := by rw [sr128_2 h]; rfl
theorem md130_2 (h : Sh g) (f : Nat → Option α) : dr (gR g 130 2) f = f 131 := by rw [sr130_2 h]; rfl
theorem md132_2 (h : Sh g) (f : Nat → Option α) : dr (gR g 132 2) f = f 133 := by rw [sr132_2 h]; rfl
theorem md134_2 (h : Sh g) (f : Nat → Option α) : dr (gR g 134 2) f = f 135 := by rw [sr134_2 h]; rfl
theorem md136_1 (h : Sh g) (f : Nat → Option α) : dr (gR g 136 1) f = f 137 := by rw [sr136_1 h]; rfl
theorem md136_2 (h : Sh g) (f : Nat → Option α) : dr (gR g 136 2) f = f 138 := by rw [sr136_2 h]; rfl
theorem md136_3 (h : Sh g) (f : Nat → Option α) : dr (gR g 136 3) f = f 139 := by rw [sr136_3 h]; rfl
theorem md136_4 (h : Sh g) (f : Nat → Option α) : dr (gR g 136 4) f = f 140 := by rw [sr136_4 h]; rfl
theorem md136_15 (h : Sh g) (f : Nat → Option α) : dr (gR g 136 15) f = f 141 := by rw [sr136_15 h]; rfl
theorem md136_16 (h : Sh g) (f : Nat → Option α) : dr (gR g 136 16) f = f 142 := by rw [sr136_16 h]; rfl
theorem md136_19 (h : Sh g) (f : Nat → Option α) : dr (gR g 136 19) f = f 143 := by rw [sr136_19 h]; rfl
theorem md136_23 (h : Sh g) (f : Nat → Option α) : dr (gR g 136 23) f = f 144 := by rw [sr136_23 h]; rfl
theorem md136_24 (h : Sh g) (f : Nat → Option α) : dr (gR g 136 24) f = f 145 := by rw [sr136_24 h]; rfl
theorem md136_25 (h : Sh g) (f : Nat → Option α) : dr (gR g 136 25) f = f 146 := by rw [sr136_25 h]; rfl
theorem md136_26 (h : Sh g) (f : Nat → Option α) : dr (gR g 136 26) f = f 147 := by rw [sr136_26 h]; rfl
theorem md136_27 (h : Sh g) (f : Nat → Option α) : dr (gR g 136 27) f = f 148 := by rw [sr136_27 h]; rfl
theorem md136_28 (h : Sh g) (f : Nat → Option α) : dr (gR g 136 28) f = f 149 := by rw [sr136_28 h]; rfl
theorem md136_29 (h : Sh g) (f : Nat → Option α) : dr (gR g 136 29) f = f 150 := by rw [sr136_29 h]; rfl
theorem md136_30 (h : Sh g) (f : Nat → Option α) : dr (gR g 136 30) f = f 151 := by rw [sr136_30 h]; rfl
theorem md136_33 (h : Sh g) (f : Nat → Option α) : dr (gR g 136 33) f = f 152 := by rw [sr136_33 h]; rfl
theorem md136_34 (h : Sh g) (f : Nat → Option α) : dr (gR g 136 34) f = f 153 := by rw [sr136_34 h]; rfl
theorem md136_35 (h : Sh g) (f : Nat → Option α) : dr (gR g 136 35) f = f 154 := by rw [sr136_35 h]; rfl
theorem Sh.fq {S : List Nat} {g h : G} (x : Fq S g h) (hs : Sh g) (hS : ∀ q ∈ shF, q.1 ∈ S → gR h q.1 q.2.1 = some q.2.2) : Sh h := by
  refine ⟨by rw [x.1]; exact hs.1, fun q hq => ?_, fun q hq => ?_⟩
  · rw [x.2.2.1, x.2.2.2.1]
    exact hs.2.1 q hq
  · by_cases hm : q.1 ∈ S
    · exact hS q hq hm
    · rw [x.R hm]
      exact hs.2.2 q hq
theorem Sh.fi {S : List Nat} {g h : G} (x : Fi S g h) (hs : Sh g) : Sh h := Sh.fq x.q hs (fun q hq _ => by rw [x.R]; exact hs.2.2 q hq)
theorem Sh.si {g : G} {a k : Nat} {v : Int32} (h : Sh g) : Sh (sI g a k v) := h
theorem Sh.sl {g : G} {a k : Nat} {v : Int64} (h : Sh g) : Sh (sL g a k v) := h
end GKS
