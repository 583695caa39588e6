/-! MATHEMATICS, its tools. Ok: a partial answer is there and has a property. I z: the int of a whole number. -/
def Ok {α : Type} (o : Option α) (P : α → Prop) : Prop := ∃ a, o = some a ∧ P a
theorem Ok.pure {α : Type} {a : α} {P : α → Prop} (h : P a) : Ok (some a) P := ⟨a, rfl, h⟩
theorem Ok.bind {α β : Type} {o : Option α} {f : α → Option β} {P : α → Prop} {Q : β → Prop} (h : Ok o P) (k : ∀ a, P a → Ok (f a) Q) : Ok (o.bind f) Q := by
  obtain ⟨a, rfl, ha⟩ := h
  exact k a ha
theorem Ok.mono {α : Type} {o : Option α} {P Q : α → Prop} (h : Ok o P) (k : ∀ a, P a → Q a) : Ok o Q := by
  obtain ⟨a, e, ha⟩ := h
  exact ⟨a, e, k a ha⟩
theorem Ok.ite {α : Type} {c : Prop} [Decidable c] {a b : Option α} {P : α → Prop} (h1 : c → Ok a P) (h2 : ¬ c → Ok b P) : Ok (if c then a else b) P := by
  by_cases h : c
  · rw [if_pos h]; exact h1 h
  · rw [if_neg h]; exact h2 h
theorem Ok.pos {α : Type} {c : Prop} [Decidable c] {a b : Option α} {P : α → Prop} (h : c) (h1 : Ok a P) : Ok (if c then a else b) P := by rw [if_pos h]; exact h1
theorem Ok.neg {α : Type} {c : Prop} [Decidable c] {a b : Option α} {P : α → Prop} (h : ¬ c) (h1 : Ok b P) : Ok (if c then a else b) P := by rw [if_neg h]; exact h1
theorem Ok.bnd {α β : Type} {a : α} {f : α → Option β} {P : β → Prop} (h : Ok (f a) P) : Ok (bnd a f) P := h
theorem Ok.eq {α : Type} {o : Option α} {a : α} (h : o = some a) : Ok o (fun x => x = a) := ⟨a, h, rfl⟩
theorem Ok.get {α : Type} {o : Option α} {a : α} (h : Ok o (fun x => x = a)) : o = some a := by
  obtain ⟨b, e, rfl⟩ := h
  exact e
def I (z : Int) : Int32 := Int32.ofInt z
def J (z : Int) : Int64 := Int64.ofInt z
theorem I_toInt {z : Int} (h : -2147483648 ≤ z ∧ z < 2147483648) : (I z).toInt = z := Int32.toInt_ofInt_of_le h.1 h.2
theorem I_of (x : Int32) : x = I x.toInt := (Int32.ofInt_toInt x).symm
theorem I_bd (x : Int32) : -2147483648 ≤ x.toInt ∧ x.toInt < 2147483648 := ⟨Int32.le_toInt x, Int32.toInt_lt x⟩
theorem I_ex (x : Int32) : ∃ z : Int, x = I z ∧ -2147483648 ≤ z ∧ z < 2147483648 := ⟨x.toInt, I_of x, I_bd x⟩
theorem I_le {a b : Int} (ha : -2147483648 ≤ a ∧ a < 2147483648) (hb : -2147483648 ≤ b ∧ b < 2147483648) : (I a ≤ I b) = (a ≤ b) := by rw [Int32.le_iff_toInt_le, I_toInt ha, I_toInt hb]
theorem I_lt {a b : Int} (ha : -2147483648 ≤ a ∧ a < 2147483648) (hb : -2147483648 ≤ b ∧ b < 2147483648) : (I a < I b) = (a < b) := by rw [Int32.lt_iff_toInt_lt, I_toInt ha, I_toInt hb]
theorem I_eq {a b : Int} (ha : -2147483648 ≤ a ∧ a < 2147483648) (hb : -2147483648 ≤ b ∧ b < 2147483648) : (I a = I b) = (a = b) := by rw [← Int32.toInt_inj, I_toInt ha, I_toInt hb]
theorem I_add (a b : Int) : I a + I b = I (a + b) := (Int32.ofInt_add a b).symm
theorem I_sub (a b : Int) : I a - I b = I (a - b) := (Int32.ofInt_sub a b).symm
theorem I_mul (a b : Int) : I a * I b = I (a * b) := (Int32.ofInt_mul a b).symm
theorem I_neg (a : Int) : - I a = I (-a) := (Int32.ofInt_neg a).symm
theorem I_cl {a : Int} (h : -2147483648 ≤ a ∧ a < 2147483648) : (I a).toNatClampNeg = a.toNat := by rw [← Int32.toNat_toInt, I_toInt h]
theorem I_0 : (0 : Int32) = I 0 := rfl
theorem I_n (n : Nat) : (OfNat.ofNat n : Int32) = I (n : Int) := by
  show Int32.ofNat n = Int32.ofInt n
  exact Int32.ofInt_eq_ofNat.symm
theorem J_toInt {z : Int} (h : -9223372036854775808 ≤ z ∧ z < 9223372036854775808) : (J z).toInt = z := Int64.toInt_ofInt_of_le h.1 h.2
theorem J_of (x : Int64) : x = J x.toInt := (Int64.ofInt_toInt x).symm
theorem J_bd (x : Int64) : -9223372036854775808 ≤ x.toInt ∧ x.toInt < 9223372036854775808 := ⟨Int64.le_toInt x, Int64.toInt_lt x⟩
theorem J_le {a b : Int} (ha : -9223372036854775808 ≤ a ∧ a < 9223372036854775808) (hb : -9223372036854775808 ≤ b ∧ b < 9223372036854775808) : (J a ≤ J b) = (a ≤ b) := by rw [Int64.le_iff_toInt_le, J_toInt ha, J_toInt hb]
theorem J_lt {a b : Int} (ha : -9223372036854775808 ≤ a ∧ a < 9223372036854775808) (hb : -9223372036854775808 ≤ b ∧ b < 9223372036854775808) : (J a < J b) = (a < b) := by rw [Int64.lt_iff_toInt_lt, J_toInt ha, J_toInt hb]
theorem J_eq {a b : Int} (ha : -9223372036854775808 ≤ a ∧ a < 9223372036854775808) (hb : -9223372036854775808 ≤ b ∧ b < 9223372036854775808) : (J a = J b) = (a = b) := by rw [← Int64.toInt_inj, J_toInt ha, J_toInt hb]
theorem J_add (a b : Int) : J a + J b = J (a + b) := (Int64.ofInt_add a b).symm
theorem J_sub (a b : Int) : J a - J b = J (a - b) := (Int64.ofInt_sub a b).symm
theorem J_mul (a b : Int) : J a * J b = J (a * b) := (Int64.ofInt_mul a b).symm
theorem J_neg (a : Int) : - J a = J (-a) := (Int64.ofInt_neg a).symm
theorem J_n (n : Nat) : (OfNat.ofNat n : Int64) = J (n : Int) := by
  show Int64.ofNat n = Int64.ofInt n
  exact Int64.ofInt_eq_ofNat.symm
theorem J_I {a : Int} (ha : -2147483648 ≤ a ∧ a < 2147483648) : (I a).toInt64 = J a := by
  rw [← Int64.toInt_inj, Int32.toInt_toInt64, I_toInt ha, J_toInt (by omega)]
def Sm (S S' : St) (k : Nat) : Prop := sA S' k = sA S k ∧ sL S' k = sL S k ∧ sI S' k = sI S k ∧ sJ S' k = sJ S k ∧ sR S' k = sR S k
theorem Sm.rfl {S : St} {k : Nat} : Sm S S k := ⟨Eq.refl _, Eq.refl _, Eq.refl _, Eq.refl _, Eq.refl _⟩
theorem Sm.trans {S S' S'' : St} {k : Nat} (h : Sm S S' k) (g : Sm S' S'' k) : Sm S S'' k := ⟨g.1.trans h.1, g.2.1.trans h.2.1, g.2.2.1.trans h.2.2.1, g.2.2.2.1.trans h.2.2.2.1, g.2.2.2.2.trans h.2.2.2.2⟩
theorem Sm.I {S S' : St} {k : Nat} (h : Sm S S' k) (j : Nat) : sI S' k j = sI S k j := congrFun h.2.2.1 j
theorem Sm.J {S S' : St} {k : Nat} (h : Sm S S' k) (j : Nat) : sJ S' k j = sJ S k j := congrFun h.2.2.2.1 j
theorem Sm.R {S S' : St} {k : Nat} (h : Sm S S' k) (j : Nat) : sR S' k j = sR S k j := congrFun h.2.2.2.2 j
theorem Sm.A {S S' : St} {k : Nat} (h : Sm S S' k) (j : Nat) : sA S' k j = sA S k j := congrFun h.1 j
theorem Sm.L {S S' : St} {k : Nat} (h : Sm S S' k) (j : Nat) : sL S' k j = sL S k j := congrFun h.2.1 j
theorem Sm.uI {S S' : St} {k i j : Nat} {x : Int32} (h : Sm S S' k) (g : k ≠ i) : Sm S (uI S' i j x) k := h.trans (uI_o g)
theorem Sm.uJ {S S' : St} {k i j : Nat} {x : Int64} (h : Sm S S' k) (g : k ≠ i) : Sm S (uJ S' i j x) k := h.trans (uJ_o g)
theorem Sm.uR {S S' : St} {k i j : Nat} {x : Option Nat} (h : Sm S S' k) (g : k ≠ i) : Sm S (uR S' i j x) k := h.trans (uR_o g)
theorem Sm.uA {S S' : St} {k i j : Nat} {x : Int32} (h : Sm S S' k) (g : k ≠ i) : Sm S (uA S' i j x) k := h.trans (uA_o g)
theorem Sm.uL {S S' : St} {k i j : Nat} {x : Int64} (h : Sm S S' k) (g : k ≠ i) : Sm S (uL S' i j x) k := h.trans (uL_o g)
theorem sI_uI (S : St) (k j a b : Nat) (x : Int32) : sI (uI S k j x) a b = if a = k then (if b = j then x else sI S a b) else sI S a b := by
  show up2 S.2.2.1 k j x a b = _
  by_cases h : a = k
  · subst h
    by_cases g : b = j
    · subst g; rw [up2_self, if_pos rfl, if_pos rfl]
    · rw [up2_ne _ _ _ g, if_pos rfl, if_neg g]; rfl
  · rw [up2_row _ _ _ h, if_neg h]; rfl
theorem sJ_uJ (S : St) (k j a b : Nat) (x : Int64) : sJ (uJ S k j x) a b = if a = k then (if b = j then x else sJ S a b) else sJ S a b := by
  show up2 S.2.2.2.1 k j x a b = _
  by_cases h : a = k
  · subst h
    by_cases g : b = j
    · subst g; rw [up2_self, if_pos rfl, if_pos rfl]
    · rw [up2_ne _ _ _ g, if_pos rfl, if_neg g]; rfl
  · rw [up2_row _ _ _ h, if_neg h]; rfl
theorem sR_uR (S : St) (k j a b : Nat) (x : Option Nat) : sR (uR S k j x) a b = if a = k then (if b = j then x else sR S a b) else sR S a b := by
  show up2 S.2.2.2.2 k j x a b = _
  by_cases h : a = k
  · subst h
    by_cases g : b = j
    · subst g; rw [up2_self, if_pos rfl, if_pos rfl]
    · rw [up2_ne _ _ _ g, if_pos rfl, if_neg g]; rfl
  · rw [up2_row _ _ _ h, if_neg h]; rfl
theorem sA_uA (S : St) (k j a : Nat) (x : Int32) : sA (uA S k j x) a = if a = k then up1 (sA S a) j x else sA S a := by
  show up2 S.1 k j x a = _
  by_cases h : a = k
  · subst h; rw [if_pos rfl]; exact up1_self _ _ _
  · rw [up2_row _ _ _ h, if_neg h]; rfl
theorem sL_uL (S : St) (k j a : Nat) (x : Int64) : sL (uL S k j x) a = if a = k then up1 (sL S a) j x else sL S a := by
  show up2 S.2.1 k j x a = _
  by_cases h : a = k
  · subst h; rw [if_pos rfl]; exact up1_self _ _ _
  · rw [up2_row _ _ _ h, if_neg h]; rfl
theorem up1_if {α : Type} (g : Nat → α) (k i : Nat) (x : α) : up1 g k x i = if i = k then x else g i := by
  by_cases h : i = k
  · subst h; rw [up1_self, if_pos rfl]
  · rw [up1_ne _ _ h, if_neg h]
section RW
variable (S : St) (k j : Nat) (x : Int32) (y : Int64) (z : Option Nat)
theorem sA_uI : sA (uI S k j x) = sA S := rfl
theorem sL_uI : sL (uI S k j x) = sL S := rfl
theorem sJ_uI : sJ (uI S k j x) = sJ S := rfl
theorem sR_uI : sR (uI S k j x) = sR S := rfl
theorem sA_uJ : sA (uJ S k j y) = sA S := rfl
theorem sL_uJ : sL (uJ S k j y) = sL S := rfl
theorem sI_uJ : sI (uJ S k j y) = sI S := rfl
theorem sR_uJ : sR (uJ S k j y) = sR S := rfl
theorem sA_uR : sA (uR S k j z) = sA S := rfl
theorem sL_uR : sL (uR S k j z) = sL S := rfl
theorem sI_uR : sI (uR S k j z) = sI S := rfl
theorem sJ_uR : sJ (uR S k j z) = sJ S := rfl
theorem sL_uA : sL (uA S k j x) = sL S := rfl
theorem sI_uA : sI (uA S k j x) = sI S := rfl
theorem sJ_uA : sJ (uA S k j x) = sJ S := rfl
theorem sR_uA : sR (uA S k j x) = sR S := rfl
theorem sA_uL : sA (uL S k j y) = sA S := rfl
theorem sI_uL : sI (uL S k j y) = sI S := rfl
theorem sJ_uL : sJ (uL S k j y) = sJ S := rfl
theorem sR_uL : sR (uL S k j y) = sR S := rfl
end RW
theorem I_k0 : (0 : Int32) = I 0 := rfl
theorem I_k1 : (1 : Int32) = I 1 := rfl
theorem I_k2 : (2 : Int32) = I 2 := rfl
theorem I_k3 : (3 : Int32) = I 3 := rfl
theorem I_k4 : (4 : Int32) = I 4 := rfl
theorem I_k5 : (5 : Int32) = I 5 := rfl
theorem I_k6 : (6 : Int32) = I 6 := rfl
theorem I_k7 : (7 : Int32) = I 7 := rfl
theorem I_k8 : (8 : Int32) = I 8 := rfl
theorem I_k9 : (9 : Int32) = I 9 := rfl
theorem I_k10 : (10 : Int32) = I 10 := rfl
theorem I_k11 : (11 : Int32) = I 11 := rfl
theorem I_k12 : (12 : Int32) = I 12 := rfl
theorem I_k13 : (13 : Int32) = I 13 := rfl
theorem I_k14 : (14 : Int32) = I 14 := rfl
theorem I_k15 : (15 : Int32) = I 15 := rfl
theorem I_k16 : (16 : Int32) = I 16 := rfl
theorem I_k17 : (17 : Int32) = I 17 := rfl
theorem I_k18 : (18 : Int32) = I 18 := rfl
theorem I_k19 : (19 : Int32) = I 19 := rfl
theorem I_k20 : (20 : Int32) = I 20 := rfl
theorem I_k21 : (21 : Int32) = I 21 := rfl
theorem I_k22 : (22 : Int32) = I 22 := rfl
theorem I_k23 : (23 : Int32) = I 23 := rfl
theorem I_k24 : (24 : Int32) = I 24 := rfl
theorem I_k25 : (25 : Int32) = I 25 := rfl
theorem I_k26 : (26 : Int32) = I 26 := rfl
theorem I_k27 : (27 : Int32) = I 27 := rfl
theorem I_k28 : (28 : Int32) = I 28 := rfl
theorem I_k29 : (29 : Int32) = I 29 := rfl
theorem I_k30 : (30 : Int32) = I 30 := rfl
theorem I_k31 : (31 : Int32) = I 31 := rfl
theorem I_k32 : (32 : Int32) = I 32 := rfl
theorem I_k40 : (40 : Int32) = I 40 := rfl
theorem I_k45 : (45 : Int32) = I 45 := rfl
theorem I_k48 : (48 : Int32) = I 48 := rfl
theorem I_k57 : (57 : Int32) = I 57 := rfl
theorem I_k59 : (59 : Int32) = I 59 := rfl
theorem I_k97 : (97 : Int32) = I 97 := rfl
theorem I_k99 : (99 : Int32) = I 99 := rfl
theorem I_k100 : (100 : Int32) = I 100 := rfl
theorem I_k122 : (122 : Int32) = I 122 := rfl
theorem I_k200 : (200 : Int32) = I 200 := rfl
theorem I_k255 : (255 : Int32) = I 255 := rfl
theorem I_k380 : (380 : Int32) = I 380 := rfl
theorem I_k400 : (400 : Int32) = I 400 := rfl
theorem I_k999 : (999 : Int32) = I 999 := rfl
theorem I_k500000000 : (500000000 : Int32) = I 500000000 := rfl
theorem J_k0 : (0 : Int64) = J 0 := rfl
theorem J_k1 : (1 : Int64) = J 1 := rfl
theorem J_k2 : (2 : Int64) = J 2 := rfl
theorem J_k4 : (4 : Int64) = J 4 := rfl
theorem J_k5 : (5 : Int64) = J 5 := rfl
theorem J_k15 : (15 : Int64) = J 15 := rfl
theorem J_k30 : (30 : Int64) = J 30 := rfl
theorem J_k32 : (32 : Int64) = J 32 := rfl
theorem J_k100 : (100 : Int64) = J 100 := rfl
theorem Ok_s {α : Type} {a : α} {P : α → Prop} : Ok (some a) P ↔ P a := ⟨fun ⟨b, e, h⟩ => by cases e; exact h, fun h => ⟨a, rfl, h⟩⟩
theorem I_nlt {a b : Int32} : (¬ a < b) = (b ≤ a) := propext Int32.not_lt
theorem I_nle {a b : Int32} : (¬ a ≤ b) = (b < a) := propext Int32.not_le
theorem ck_app {sh : List Sh} {t : Nat} (tl : List Sh) : ∀ {L : List (Nat × Sh)}, ck_all L sh t = true → ck_all L (sh ++ tl) t = true
  | [], _ => rfl
  | q :: L, h => by
    have h1 := Bool.and_eq_true_iff.mp (show (decide (sh[t + q.1]? = some q.2) && ck_all L sh t) = true from h)
    have h2 := of_decide_eq_true h1.1
    have hlt : t + q.1 < sh.length := (List.getElem?_eq_some_iff.mp h2).1
    show (decide ((sh ++ tl)[t + q.1]? = some q.2) && ck_all L (sh ++ tl) t) = true
    rw [Bool.and_eq_true_iff]
    exact ⟨decide_eq_true (by rw [List.getElem?_append_left hlt]; exact h2), ck_app tl h1.2⟩
theorem I_div {a b : Int} (ha : 0 ≤ a ∧ a < 2147483648) (hb : 0 < b ∧ b < 2147483648) : I a / I b = I (a / b) := by
  have h1 : a / b ≤ a := Int.ediv_le_self _ ha.1
  have h0 : 0 ≤ a / b := Int.ediv_nonneg ha.1 (by omega)
  rw [← Int32.toInt_inj, Int32.toInt_div, I_toInt (by omega), I_toInt (by omega), I_toInt (by omega), Int.tdiv_eq_ediv_of_nonneg ha.1]
  exact Int.bmod_eq_of_le (by omega) (by omega)
theorem I_mod {a b : Int} (ha : 0 ≤ a ∧ a < 2147483648) (hb : 0 < b ∧ b < 2147483648) : I a % I b = I (a % b) := by
  have h1 : a % b < b := Int.emod_lt_of_pos _ hb.1
  have h0 : 0 ≤ a % b := Int.emod_nonneg _ (by omega)
  rw [← Int32.toInt_inj, Int32.toInt_mod, I_toInt (by omega), I_toInt (by omega), I_toInt (by omega), Int.tmod_eq_emod_of_nonneg ha.1]
theorem sI_self (S : St) (k j : Nat) (x : Int32) : sI (uI S k j x) k j = x := up2_self S.2.2.1 k j x
theorem sI_ne (S : St) (k : Nat) {j i : Nat} (x : Int32) (h : i ≠ j) : sI (uI S k j x) k i = sI S k i := up2_ne S.2.2.1 k x h
theorem sI_row (S : St) {k i : Nat} (j : Nat) (x : Int32) (h : i ≠ k) : sI (uI S k j x) i = sI S i := up2_row S.2.2.1 j x h
theorem sJ_self (S : St) (k j : Nat) (x : Int64) : sJ (uJ S k j x) k j = x := up2_self S.2.2.2.1 k j x
theorem sJ_ne (S : St) (k : Nat) {j i : Nat} (x : Int64) (h : i ≠ j) : sJ (uJ S k j x) k i = sJ S k i := up2_ne S.2.2.2.1 k x h
theorem sA_row (S : St) {k i : Nat} (j : Nat) (x : Int32) (h : i ≠ k) : sA (uA S k j x) i = sA S i := up2_row S.1 j x h
