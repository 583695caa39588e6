/-! THE REFERENCE lays a leg. -/
section Y9y
variable {sh : List Sh} {f m : Nat}
theorem r_puts {S : St} (h : sI S 94 25 = I m) (hm : m < 12) (k a : Int32) : ∃ S', F_X12_puts sh f S 94 k a = some S' ∧ sI S' 94 25 = I ((m + 1 : Nat) : Int) ∧ (∀ j, j ≠ 25 → sI S' 94 j = sI S 94 j) ∧ (∀ i, sA S' 132 i = up1 (sA S 132) m k i) ∧ (∀ i, sA S' 133 i = up1 (sA S 133) m a i) ∧ (∀ x, sR S' x = sR S x ∧ sJ S' x = sJ S x) ∧ ∀ x, x ≠ 94 → x ≠ 132 → x ≠ 133 → Sm S S' x := by
  have mcl : (I (m : Int)).toNatClampNeg = m := I_clN (by omega)
  unfold F_X12_puts
  simp only [sI_uA, h, mcl, if_neg (I_bnd hm (by omega)), bnd, I_suc, Nat.reduceAdd]
  refine ⟨_, rfl, sI_self _ _ _ _, fun j hj => by rw [sI_ne _ _ _ hj]; rfl, fun i => ?_, fun i => ?_, fun x => ⟨rfl, rfl⟩, fun x h1 h2 h3 => (by repeat' (first | exact Sm.rfl | (refine Sm.uI ?_ (by omega)) | (refine Sm.uA ?_ (by omega)) | (refine Sm.uJ ?_ (by omega)) | (refine Sm.uL ?_ (by omega)) | (refine Sm.uR ?_ (by omega))))⟩
  · show sA (uA (uA S 132 m k) 133 m a) 132 i = _
    rw [sA_row _ _ _ (by omega), sA_uA, if_pos rfl]
  · show sA (uA (uA S 132 m k) 133 m a) 133 i = _
    rw [sA_uA, if_pos rfl, sA_row _ _ _ (by omega)]
end Y9y
