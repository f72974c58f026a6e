/-! new long[2][k]: the outer array, and behind it its two rows. -/
def nwM (g : G) (k : Nat) : G := rR (nw (nw (nw g 19 2 2) 15 k k) 15 k k) (gn g) (fun j => if j = 0 then some (gn g + 1) else if j = 1 then some (gn g + 2) else none)
theorem Ext.nwM {g : G} {k : Nat} : Ext g (nwM g k) := by
  have h : Ext g (nw (nw (nw g 19 2 2) 15 k k) 15 k k) := Ext.nw'.tr (Ext.nw'.tr Ext.nw')
  exact ⟨h.1, h.2.1, h.2.2⟩
theorem KD.allocM {g g1 : G} {a c k : Nat} (e : g1 = nwM g k) (h : KD g a c) : KD g1 a c := by rw [e]; exact h.ext Ext.nwM
theorem KD.freshM {g g1 : G} {k : Nat} (e : g1 = nwM g k) : KD g1 (gn g) 19 := by
  rw [e]
  have h1 : KD (nw g 19 2 2) (gn g) 19 := KD.new g 19 2 2
  have h2 : KD (nw (nw (nw g 19 2 2) 15 k k) 15 k k) (gn g) 19 := h1.nwk.nwk
  exact h2
section RUM
variable {X : CX} {M : MD} {d pc : Nat} {lo : List (Nat × Value)} {st : List Value} {g g' : G} {r : Option Value}
theorem SF_mnew {ix : Nat} {k : Int32} (pc2 : Nat) (hd : decode M.2.1 pc = .ok (.multianewarray ix 2, 4)) (hw : Cond.classLink M.1.cls ix "[[J" ∈ wT) (hk : ¬ k < 0) (hb8 : k.toNatClampNeg * 8 ≤ 536870912) (hp : pc2 = pc + 4) (h : SemF X M d pc2 lo (.ref (ad X (gn g)) :: st) (nwM g k.toNatClampNeg) r g') : SemF X M d pc lo (.int k :: .int 2 :: st) g r g' := by
  sorry
end RUM
