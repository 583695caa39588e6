section C3a
variable {sh : List Sh} {f : Nat} {S : St}
theorem bnd_e {α β : Type} (x : α) (k : α → Option β) : bnd x k = k x := rfl
theorem r_ifx {P0 P1 P2 r0 r1 r2 iv1 iv2 o t m l x1 x2 : Nat} {v td : Int} (b0 : 1 ≤ P0 ∧ P0 < 2147483648) (b1 : 1 ≤ P1 ∧ P1 < 2147483648) (b2 : 1 ≤ P2 ∧ P2 < 2147483648) (pr0 : F_X12_prime sh f S (0 : Int32) = some (I P0)) (pr1 : F_X12_prime sh f S (1 : Int32) = some (I P1)) (pr2 : F_X12_prime sh f S (2 : Int32) = some (I P2)) (q0 : sA S (94 + 61) (0 : Int32).toNatClampNeg = I r0) (q1 : sA S (94 + 61) (1 : Int32).toNatClampNeg = I r1) (q2 : sA S (94 + 61) (2 : Int32).toNatClampNeg = I r2) (rb : r0 < 2147483648 ∧ r1 < 2147483648 ∧ r2 < 2147483648) (m1 : F_X12_mod sh f S (J P0) (I P1) = some (I x1)) (i1 : F_X12_inverse sh f S (I x1) (I P1) = some (I iv1)) (ib : iv1 < 2147483648 ∧ iv2 < 2147483648 ∧ o < 2147483648 ∧ m < 2147483648) (tq : J ((r1 : Int) - r0) / J P1 = J td) (hv : (r1 : Int) - r0 - td * P1 = v) (fm1 : F_X12_mod sh f S (J (v * iv1)) (I P1) = some (I o)) (e2 : (r0 : Int) + P0 * o = t) (fm2 : F_X12_mod sh f S (J ((r2 : Int) - t)) (I P2) = some (I m)) (m2 : F_X12_mod sh f S (J ((P0 : Int) * P1)) (I P2) = some (I x2)) (i2 : F_X12_inverse sh f S (I x2) (I P2) = some (I iv2)) (mm : m * iv2 < 9223372036854775808) (lv : l = m * iv2 % P2) : F_X12_isFound sh f S 94 = F_X12_isFound_L144 sh f 94 f S (J ((P0 : Int) * P1 * P2)) (J ((t : Int) + P0 * P1 * l)) 0 1 := by
  have z1 : ¬ J (P1 : Int) = 0 := J_z (by omega)
  have z2 : ¬ J (P2 : Int) = 0 := J_z (by omega)
  have k0 : (I (P0 : Int)).toInt64 = J P0 := J_I (by omega)
  have k1 : (I (P1 : Int)).toInt64 = J P1 := J_I (by omega)
  have k2 : (I (P2 : Int)).toInt64 = J P2 := J_I (by omega)
  have kr0 : (I (r0 : Int)).toInt64 = J r0 := J_I (by omega)
  have kr1 : (I (r1 : Int)).toInt64 = J r1 := J_I (by omega)
  have kr2 : (I (r2 : Int)).toInt64 = J r2 := J_I (by omega)
  have kv1 : (I (iv1 : Int)).toInt64 = J iv1 := J_I (by omega)
  have kv2 : (I (iv2 : Int)).toInt64 = J iv2 := J_I (by omega)
  have ko : (I (o : Int)).toInt64 = J o := J_I (by omega)
  have km : (I (m : Int)).toInt64 = J m := J_I (by omega)
  have lr : J ((m : Int) * iv2) - J ((m : Int) * iv2) / J P2 * J P2 = J l := by
    rw [← Int.natCast_mul, J_rem (by omega) (by omega), lv]
    rfl
  have nb : ∀ k : Nat, k < 4 → ∀ c : Int32, c = I k → ¬ (c < 0 ∨ 4 ≤ c.toNatClampNeg) := fun k hk c hc => by
    rw [hc, I_clN (by omega)]
    exact I_bnd hk (by omega)
  have nb0 := nb 0 (by omega) 0 rfl
  have nb1 := nb 1 (by omega) 1 rfl
  have nb2 := nb 2 (by omega) 2 rfl
  unfold F_X12_isFound
  rw [pr0, pr1, pr2, Option.bind_some, k0, bnd_e, Option.bind_some, k1, bnd_e, if_neg nb0, bnd_e, if_neg nb1, if_neg z1, Option.bind_some, m1, Option.bind_some, Option.bind_some, i1, Option.bind_some, Option.bind_some, q0, kr0, q1, kr1, kv1, J_sub r1 r0, tq, J_mul td P1, J_sub, hv, J_mul v iv1, fm1, Option.bind_some, ko, bnd_e, bnd_e, if_neg nb2, Option.bind_some, q2, kr2, J_mul P0 o, J_add r0, e2, J_sub r2 t, fm2, Option.bind_some, km, bnd_e, Option.bind_some, J_mul P0 P1, m2, Option.bind_some, Option.bind_some, i2, Option.bind_some, Option.bind_some, k2, if_neg z2, kv2, J_mul m iv2, lr, J_mul, J_add, bnd_e, Option.bind_some, k2, bnd_e, J_mul]
end C3a
