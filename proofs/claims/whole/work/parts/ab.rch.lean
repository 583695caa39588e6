/-! THE REFERENCE reaches a row from another. -/
abbrev yEq (Y : Ly) (ρ ρ' : Nat → Nat) : Prop := Eqv (yF Y) (List.range (yL Y)) (yPP Y) (yG Y) ivp ρ ρ'
/-- the swaps that the reference does -/
def Gn (Y : Ly) (s : Nat → Nat) : Prop := (∃ x y, yN Y ≤ x ∧ x < y ∧ y < yL Y ∧ yF Y x = yF Y y ∧ s = sw x y) ∨ ∃ g, g ∈ gns Y ∧ s = yG Y g
def extV (V st V' st' : List Nat) : Prop := (∀ x, x ∈ V → x ∈ V') ∧ (∀ x, x ∈ V' → x ∈ V ∨ x ∈ st') ∧ ∀ x, x ∈ st → x ∈ st'
theorem extV.rfl {V st : List Nat} : extV V st V st := ⟨fun _ h => h, fun _ h => Or.inl h, fun _ h => h⟩
theorem extV.trans {V st V' st' V'' st'' : List Nat} (h : extV V st V' st') (g : extV V' st' V'' st'') : extV V st V'' st'' := ⟨fun x hx => g.1 x (h.1 x hx), fun x hx => by
  rcases g.2.1 x hx with q | q
  · rcases h.2.1 x q with r | r
    · exact Or.inl r
    · exact Or.inr (g.2.2 x r)
  · exact Or.inr q, fun x hx => g.2.2 x (h.2.2 x hx)⟩
/-- as far as the reference has come: V reached, st on the stack, c done -/
def dI (S T : St) (Y : Ly) (ρ0 : Nat → Nat) (D0 : Nat → Int32) (d : Nat) (V st : List Nat) (c : Nat) : Prop := fr [38] [134, 138, 139, 140, 141] S T ∧ V.Nodup ∧ c + st.length = V.length ∧ (∀ x, x ∈ V → ∃ ρ, (yHg Y)[x]? = some ρ ∧ yEq Y ρ0 ρ) ∧ (∀ x, x < (yHg Y).length → sA T 138 x = if x ∈ V then I d else D0 x) ∧ sI T 94 38 = I (st.length : Nat) ∧ (∀ i x : Nat, st[i]? = some x → sA T 139 i = I x) ∧ ∀ x, x ∈ st → x ∈ V
section ABa
variable {sh : List Sh} {f : Nat} {Y : Ly}
theorem gn_inv (ok : yOk Y) {s : Nat → Nat} (g : Gn Y s) : inv2 Y s := by
  rcases g with ⟨x, y, h1, h2, h3, h4, rfl⟩ | ⟨g, hg, rfl⟩
  · intro i
    have mx : x ∈ List.range (yL Y) := List.mem_range.mpr (by omega)
    have my : y ∈ List.range (yL Y) := List.mem_range.mpr h3
    refine ⟨sw_sw x y i, fun hi => List.mem_range.mp (sw_mem mx my (List.mem_range.mpr hi)), fun hi => sw_out mx my (by rw [List.mem_range]; exact hi)⟩
  · have gp := (y_Gen ok).1 g hg
    obtain ⟨g12, _⟩ := mem_gns.mp hg
    have iv : ivp g = g := by
      rcases g12 with rfl | rfl <;> rfl
    have q := ((y_Gp ok).2.2.2.1 g gp).2
    rw [iv] at q
    intro i
    exact ⟨(q i).1, fun hi => List.mem_range.mp ((q i).2.2.2.2 (List.mem_range.mpr hi)), fun hi => g_out (Or.inr (by omega))⟩
theorem gn_row (ok : yOk Y) {s ρ0 ρ : Nat → Nat} (g : Gn Y s) (h : ρ ∈ yHg Y) (e : yEq Y ρ0 ρ) : cj s s ρ ∈ yHg Y ∧ yEq Y ρ0 (cj s s ρ) := by
  have L12 := ok.2.2.2.2.2.2.1
  have i2 := gn_inv ok g
  obtain ⟨w, o, c⟩ := (yHg_mem ok).mp h
  have oo : ∀ i, ¬ i < yL Y → cj s s ρ i = 99 := by
    intro i hi
    show s (ρ (s i)) = 99
    rw [(i2 i).2.2 hi, o i hi, (i2 99).2.2 (by omega)]
  rcases g with ⟨x, y, h1, h2, h3, h4, rfl⟩ | ⟨g, hg, rfl⟩
  · have mx : x ∈ List.range (yL Y) := List.mem_range.mpr (by omega)
    have my : y ∈ List.range (yL Y) := List.mem_range.mpr h3
    refine ⟨(yHg_mem ok).mpr ⟨(Rch.step mx my h4).rw (y_hk ok) w, oo, cn_sw ok w c (by omega) h3 h4⟩, ?_⟩
    exact Eqv.trans List.nodup_range (y_Gp ok) e (Eqv_sw List.nodup_range (y_Gp ok) mx my h4)
  · have gp := (y_Gen ok).1 g hg
    obtain ⟨g12, _⟩ := mem_gns.mp hg
    have iv : ivp g = g := by
      rcases g12 with rfl | rfl <;> rfl
    have e2 : cj (yG Y g) (yG Y g) ρ = cg (yG Y) ivp g ρ := by
      unfold cg
      rw [iv]
    rw [e2] at oo ⊢
    refine ⟨(yHg_mem ok).mpr ⟨cg_rw (y_Gp ok) gp w, oo, cn_cg ok w c gp⟩, ?_⟩
    exact Eqv.trans List.nodup_range (y_Gp ok) e (Eqv_cg gp)
theorem nd_le {n : Nat} {V : List Nat} (nd : V.Nodup) (h : ∀ x, x ∈ V → x < n) : V.length ≤ n := by
  have p : V.Perm ((List.range n).filter (fun x => decide (x ∈ V))) := by
    apply nd_perm nd (List.nodup_range.sublist List.filter_sublist)
    intro x
    rw [List.mem_filter, List.mem_range, decide_eq_true_eq]
    exact ⟨fun hx => ⟨h x hx, hx⟩, fun hx => hx.2⟩
  have q := List.length_filter_le (fun x => decide (x ∈ V)) (List.range n)
  rw [List.length_range] at q
  rw [p.length_eq]
  exact q
theorem r_reach {S T : St} {ρ0 ρ s : Nat → Nat} {D0 : Nat → Int32} {d c k : Nat} {V st : List Nat} (hf : 1000 ≤ f) (ok : yOk Y) (h25 : sI S 94 25 = I (yL Y)) (rb : RB S (yHg Y)) (hD : ∀ (x : Nat) (ρ : Nat → Nat), (yHg Y)[x]? = some ρ → yEq Y ρ0 ρ → D0 x = -1) (hd : d < 200) (h : dI S T Y ρ0 D0 d V st c) (sc : swC T Y s) (gn : Gn Y s) (kV : k ∈ V) (hk : (yHg Y)[k]? = some ρ) : ∃ T' V' st', F_X12_reaches sh f T 94 (I k) (I d) = some T' ∧ dI S T' Y ρ0 D0 d V' st' c ∧ extV V st V' st' ∧ ∃ m, m ∈ V' ∧ (yHg Y)[m]? = some (cj s s ρ) := by
  obtain ⟨h1, h2, h3, h4, h5, h6, h7, h8⟩ := h
  have ll := yHg_len ok
  obtain ⟨ρk, e1, e2⟩ := h4 k kV
  rw [hk] at e1
  have e1 := Option.some.inj e1
  subst e1
  obtain ⟨g1, g2⟩ := gn_row ok gn (List.mem_of_getElem? hk) e2
  obtain ⟨m, hm⟩ := List.getElem?_of_mem g1
  have ml := (List.getElem?_eq_some_iff.mp hm).1
  obtain ⟨U, u0, u1⟩ := r_swapped (sh := sh) hf ok ((h1.I (by decide)).trans h25) (RB_fr h1 rb (by decide) (by decide)) sc (gn_inv ok gn) hk hm
  have nb : ∀ x : Nat, x < 10395 → ¬ (I (x : Int) < 0 ∨ 10395 ≤ x) := by
    intro x hx
    rw [show (0 : Int32) = I ((0 : Nat) : Int) from rfl, I_ltN (by omega) (by omega)]
    omega
  have fU : fr [38] [134, 138, 139, 140, 141] S U := h1.trans (u1.mono (by decide) (by decide))
  have U138 : ∀ x, sA U 138 x = sA T 138 x := fun x => u1.A (by decide) (by decide) x
  have U139 : ∀ x, sA U 139 x = sA T 139 x := fun x => u1.A (by decide) (by decide) x
  have U38 : sI U 94 38 = I (st.length : Nat) := (u1.I (by decide)).trans h6
  have um : sA U (94 + 44) m = if m ∈ V then I d else D0 m := (U138 m).trans (h5 m ml)
  unfold F_X12_reaches
  rw [u0, Option.bind_some]
  simp only [bnd]
  rw [I_clN (by omega), if_neg (nb m (by omega)), um]
  by_cases c1 : m ∈ V
  · rw [if_pos c1, if_neg (I_nn d (by omega))]
    refine ⟨U, V, st, rfl, ⟨fU, h2, h3, h4, fun x hx => (U138 x).trans (h5 x hx), U38, fun i x e => (U139 i).trans (h7 i x e), h8⟩, extV.rfl, m, c1, hm⟩
  · rw [if_neg c1, hD m _ hm g2, if_pos rfl, if_neg (nb m (by omega))]
    have nd' : (m :: V).Nodup := List.nodup_cons.mpr ⟨c1, h2⟩
    have vl := nd_le (n := (yHg Y).length) nd' (fun x hx => by
      rw [List.mem_cons] at hx
      rcases hx with rfl | hx
      · exact ml
      · obtain ⟨ρ', q, _⟩ := h4 x hx
        exact (List.getElem?_eq_some_iff.mp q).1)
    rw [List.length_cons] at vl
    simp only [sI_uA, U38]
    rw [I_clN (by omega), if_neg (nb _ (by omega)), I_suc]
    refine ⟨_, m :: V, st ++ [m], rfl, ⟨((fU.uA _ _ (by decide)).uA _ _ (by decide)).uI _ (by decide), nd', ?_, ?_, ?_, ?_, ?_, ?_⟩, ⟨fun x hx => by simp [hx], fun x hx => ?_, fun x hx => by simp [hx]⟩, m, by simp, hm⟩
    · simp only [List.length_append, List.length_cons, List.length_nil]
      omega
    · intro x hx
      rw [List.mem_cons] at hx
      rcases hx with rfl | hx
      · exact ⟨_, hm, g2⟩
      · exact h4 x hx
    · intro x hx
      show sA (uA (uA U (94 + 44) m (I d)) (94 + 45) st.length (I m)) 138 x = _
      rw [sA_row _ _ _ (by decide), sA_uA, if_pos rfl, up1_if]
      by_cases q : x = m
      · rw [if_pos q, if_pos (by simp [q])]
      · rw [if_neg q, U138, h5 x hx]
        by_cases r : x ∈ V
        · rw [if_pos r, if_pos (by simp [r])]
        · rw [if_neg r, if_neg (by rw [List.mem_cons]; rintro (z | z); exact q z; exact r z)]
    · rw [sI_self, List.length_append]
      rfl
    · intro i x e
      show sA (uA (uA U (94 + 44) m (I d)) (94 + 45) st.length (I m)) 139 i = _
      rw [sA_uA, if_pos rfl, up1_if]
      by_cases q : i = st.length
      · subst q
        rw [List.getElem?_append_right (Nat.le_refl _), Nat.sub_self] at e
        have : m = x := by simpa using e
        rw [if_pos rfl, this]
      · have lt : i < st.length := by
          have := (List.getElem?_eq_some_iff.mp e).1
          rw [List.length_append, List.length_singleton] at this
          omega
        rw [List.getElem?_append_left lt] at e
        rw [if_neg q, sA_row _ _ _ (by decide), U139]
        exact h7 i x e
    · intro x hx
      rw [List.mem_append, List.mem_singleton] at hx
      rcases hx with hx | rfl
      · simp [h8 x hx]
      · simp
    · rw [List.mem_cons] at hx
      rcases hx with rfl | hx
      · right; simp
      · left; exact hx
end ABa
