def wdF (B : Nat) (S : St) : Nat → List Sh → AH
  | _, [] => []
  | k, c :: cs => v_ce B S k c :: wdF B S (k + 1) cs
theorem wdF_eq (B : Nat) (S : St) : ∀ (cs : List Sh) (k : Nat), cs.mapIdx (fun i c => v_ce B S (i + k) c) = wdF B S k cs
  | [], _ => rfl
  | c :: cs, k => by
    rw [List.mapIdx_cons, wdF, ← wdF_eq B S cs (k + 1)]
    congr 1
    · rw [Nat.zero_add]
    · congr 1
      funext i c
      rw [Nat.add_assoc, Nat.add_comm 1 k]
def fF (B : Nat) (S : St) (k : Nat) : Nat → List (Nat × Nat) → List Value
  | _, [] => []
  | j, q :: qs => v_fV B S k j q :: fF B S k (j + 1) qs
theorem fF_eq (B : Nat) (S : St) (k : Nat) : ∀ (cs : List (Nat × Nat)) (j : Nat), cs.mapIdx (fun i c => v_fV B S k (i + j) c) = fF B S k j cs
  | [], _ => rfl
  | c :: cs, j => by
    rw [List.mapIdx_cons, fF, ← fF_eq B S k cs (j + 1)]
    congr 1
    · rw [Nat.zero_add]
    · congr 1
      funext i c
      rw [Nat.add_assoc, Nat.add_comm 1 j]
theorem v_ceO (B : Nat) (S : St) (k o : Nat) (ks : List (Nat × Nat)) : v_ce B S k (.inr (o, ks)) = .inr (o, fF B S k 0 ks) := congrArg (fun z => Sum.inr (o, z)) (fF_eq B S k ks 0)
theorem wdF_cons {B : Nat} {S : St} {k : Nat} {c : Sh} {cs : List Sh} {x : AC} {xs : AH} (h : v_ce B S k c = x) (t : wdF B S (k + 1) cs = xs) : wdF B S k (c :: cs) = x :: xs := by rw [wdF, h, t]
theorem wdF_nil {B : Nat} {S : St} {k : Nat} : wdF B S k [] = [] := rfl
theorem wdF_app (B : Nat) (S : St) : ∀ (a b : List Sh) (k : Nat), wdF B S k (a ++ b) = wdF B S k a ++ wdF B S (k + a.length) b
  | [], b, k => rfl
  | c :: a, b, k => by
    show v_ce B S k c :: wdF B S (k + 1) (a ++ b) = v_ce B S k c :: (wdF B S (k + 1) a ++ _)
    rw [wdF_app B S a b (k + 1), List.length_cons]
    congr 3
    omega
theorem c0_0 (B : Nat) : v_ce B S0 0 (shX8) = .inr (8, [.ref (B + (0 + 1)), .ref (B + (0 + 13)), .ref (B + (0 + 40)), .ref (B + (0 + 44)), .ref (B + (0 + 47)), .ref (B + (0 + 50)), .ref (B + (0 + 53)), .ref (B + (0 + 56)), .ref (B + (0 + 59)), .ref (B + (0 + 60)), .ref (B + (0 + 61)), .ref (B + (0 + 71)), .ref (B + (0 + 88)), .ref (B + (0 + 91)), .int 0, .int 0, .int 0, .int 0]) := (v_ceO B S0 0 _ _).trans rfl
theorem c0_1 (B : Nat) : v_ce B S0 1 (shX6) = .inr (6, [.ref (B + (0 + 2)), .int 0, .int 0, .int 0, .int 0, .int 0, .long 0, .int 0, .int 0, .int 0, .ref (B + (0 + 3))]) := (v_ceO B S0 1 _ _).trans rfl
theorem c0_2 (B : Nat) : v_ce B S0 2 (.inl (.byte, 400)) = .inl (.byte, 400, .inl fun _ => 0) := rfl
theorem c0_3 (B : Nat) : v_ce B S0 3 (shX0) = .inr (0, [.ref (B + (0 + 4)), .ref (B + (0 + 5)), .ref (B + (0 + 6)), .ref (B + (0 + 7)), .ref (B + (0 + 8)), .ref (B + (0 + 9)), .ref (B + (0 + 10)), .ref (B + (0 + 11)), .ref (B + (0 + 12)), .int 0, .int 0]) := (v_ceO B S0 3 _ _).trans rfl
theorem c0_4 (B : Nat) : v_ce B S0 4 (.inl (.long, 8)) = .inl (.long, 8, .inr (.inl fun _ => 0)) := rfl
theorem c0_5 (B : Nat) : v_ce B S0 5 (.inl (.int, 8)) = .inl (.int, 8, .inl fun _ => 0) := rfl
theorem c0_6 (B : Nat) : v_ce B S0 6 (.inl (.int, 8)) = .inl (.int, 8, .inl fun _ => 0) := rfl
theorem c0_7 (B : Nat) : v_ce B S0 7 (.inl (.int, 8)) = .inl (.int, 8, .inl fun _ => 0) := rfl
theorem c0_8 (B : Nat) : v_ce B S0 8 (.inl (.int, 8)) = .inl (.int, 8, .inl fun _ => 0) := rfl
theorem c0_9 (B : Nat) : v_ce B S0 9 (.inl (.int, 4)) = .inl (.int, 4, .inl fun _ => 0) := rfl
theorem c0_10 (B : Nat) : v_ce B S0 10 (.inl (.int, 4)) = .inl (.int, 4, .inl fun _ => 0) := rfl
theorem c0_11 (B : Nat) : v_ce B S0 11 (.inl (.int, 4)) = .inl (.int, 4, .inl fun _ => 0) := rfl
theorem c0_12 (B : Nat) : v_ce B S0 12 (.inl (.int, 16)) = .inl (.int, 16, .inl fun _ => 0) := rfl
theorem c0_13 (B : Nat) : v_ce B S0 13 (shX5) = .inr (5, [.ref (B + (0 + 14)), .ref (B + (0 + 22)), .ref (B + (0 + 23))]) := (v_ceO B S0 13 _ _).trans rfl
theorem c0_14 (B : Nat) : v_ce B S0 14 (shX4) = .inr (4, [.ref (B + (0 + 15)), .ref (B + (0 + 16)), .ref (B + (0 + 17)), .ref (B + (0 + 18)), .ref (B + (0 + 19)), .ref (B + (0 + 20)), .ref (B + (0 + 21)), .int 0, .int 0, .int 0, .int 0, .int 0, .int 0]) := (v_ceO B S0 14 _ _).trans rfl
theorem c0_15 (B : Nat) : v_ce B S0 15 (.inl (.int, 12)) = .inl (.int, 12, .inl fun _ => 0) := rfl
theorem c0_16 (B : Nat) : v_ce B S0 16 (.inl (.int, 12)) = .inl (.int, 12, .inl fun _ => 0) := rfl
theorem c0_17 (B : Nat) : v_ce B S0 17 (.inl (.int, 12)) = .inl (.int, 12, .inl fun _ => 0) := rfl
theorem c0_18 (B : Nat) : v_ce B S0 18 (.inl (.int, 12)) = .inl (.int, 12, .inl fun _ => 0) := rfl
theorem c0_19 (B : Nat) : v_ce B S0 19 (.inl (.int, 12)) = .inl (.int, 12, .inl fun _ => 0) := rfl
theorem c0_20 (B : Nat) : v_ce B S0 20 (.inl (.int, 3)) = .inl (.int, 3, .inl fun _ => 0) := rfl
theorem c0_21 (B : Nat) : v_ce B S0 21 (.inl (.int, 3)) = .inl (.int, 3, .inl fun _ => 0) := rfl
theorem c0_22 (B : Nat) : v_ce B S0 22 (.inl (.int, 144)) = .inl (.int, 144, .inl fun _ => 0) := rfl
theorem c0_23 (B : Nat) : v_ce B S0 23 (shX3) = .inr (3, [.ref (B + (0 + 24)), .ref (B + (0 + 25)), .ref (B + (0 + 26)), .ref (B + (0 + 27)), .ref (B + (0 + 28)), .ref (B + (0 + 29)), .ref (B + (0 + 30)), .ref (B + (0 + 31)), .ref (B + (0 + 32)), .ref (B + (0 + 33)), .ref (B + (0 + 34)), .ref (B + (0 + 35)), .ref (B + (0 + 36)), .ref (B + (0 + 37)), .ref (B + (0 + 38)), .ref (B + (0 + 39)), .int 0, .int 0, .int 0, .int 0]) := (v_ceO B S0 23 _ _).trans rfl
theorem c0_24 (B : Nat) : v_ce B S0 24 (.inl (.long, 200)) = .inl (.long, 200, .inr (.inl fun _ => 0)) := rfl
theorem c0_25 (B : Nat) : v_ce B S0 25 (.inl (.int, 200)) = .inl (.int, 200, .inl fun _ => 0) := rfl
theorem c0_26 (B : Nat) : v_ce B S0 26 (.inl (.int, 200)) = .inl (.int, 200, .inl fun _ => 0) := rfl
theorem c0_27 (B : Nat) : v_ce B S0 27 (.inl (.int, 200)) = .inl (.int, 200, .inl fun _ => 0) := rfl
theorem c0_28 (B : Nat) : v_ce B S0 28 (.inl (.int, 200)) = .inl (.int, 200, .inl fun _ => 0) := rfl
theorem c0_29 (B : Nat) : v_ce B S0 29 (.inl (.int, 400)) = .inl (.int, 400, .inl fun _ => 0) := rfl
theorem c0_30 (B : Nat) : v_ce B S0 30 (.inl (.int, 400)) = .inl (.int, 400, .inl fun _ => 0) := rfl
theorem c0_31 (B : Nat) : v_ce B S0 31 (.inl (.int, 20)) = .inl (.int, 20, .inl fun _ => 0) := rfl
theorem c0_32 (B : Nat) : v_ce B S0 32 (.inl (.int, 20)) = .inl (.int, 20, .inl fun _ => 0) := rfl
theorem c0_33 (B : Nat) : v_ce B S0 33 (.inl (.int, 20)) = .inl (.int, 20, .inl fun _ => 0) := rfl
theorem c0_34 (B : Nat) : v_ce B S0 34 (.inl (.int, 20)) = .inl (.int, 20, .inl fun _ => 0) := rfl
theorem c0_35 (B : Nat) : v_ce B S0 35 (.inl (.int, 20)) = .inl (.int, 20, .inl fun _ => 0) := rfl
theorem c0_36 (B : Nat) : v_ce B S0 36 (.inl (.int, 20)) = .inl (.int, 20, .inl fun _ => 0) := rfl
theorem c0_37 (B : Nat) : v_ce B S0 37 (.inl (.int, 20)) = .inl (.int, 20, .inl fun _ => 0) := rfl
theorem c0_38 (B : Nat) : v_ce B S0 38 (.inl (.int, 20)) = .inl (.int, 20, .inl fun _ => 0) := rfl
theorem c0_39 (B : Nat) : v_ce B S0 39 (.inl (.boolean, 20)) = .inl (.boolean, 20, .inl fun _ => 0) := rfl
theorem c0_40 (B : Nat) : v_ce B S0 40 (shX2) = .inr (2, [.ref (B + (0 + 41)), .ref (B + (0 + 42)), .ref (B + (0 + 43)), .int 0, .long 0, .long 0]) := (v_ceO B S0 40 _ _).trans rfl
theorem c0_41 (B : Nat) : v_ce B S0 41 (.inl (.int, 25)) = .inl (.int, 25, .inl fun _ => 0) := rfl
theorem c0_42 (B : Nat) : v_ce B S0 42 (.inl (.long, 12)) = .inl (.long, 12, .inr (.inl fun _ => 0)) := rfl
theorem c0_43 (B : Nat) : v_ce B S0 43 (.inl (.long, 12)) = .inl (.long, 12, .inr (.inl fun _ => 0)) := rfl
theorem c0_44 (B : Nat) : v_ce B S0 44 (shX1) = .inr (1, [.ref (B + (0 + 45)), .ref (B + (0 + 46)), .int 0]) := (v_ceO B S0 44 _ _).trans rfl
theorem c0_45 (B : Nat) : v_ce B S0 45 (.inl (.int, 6)) = .inl (.int, 6, .inl fun _ => 0) := rfl
theorem c0_46 (B : Nat) : v_ce B S0 46 (.inl (.int, 6)) = .inl (.int, 6, .inl fun _ => 0) := rfl
theorem c0_47 (B : Nat) : v_ce B S0 47 (shX1) = .inr (1, [.ref (B + (0 + 48)), .ref (B + (0 + 49)), .int 0]) := (v_ceO B S0 47 _ _).trans rfl
theorem c0_48 (B : Nat) : v_ce B S0 48 (.inl (.int, 6)) = .inl (.int, 6, .inl fun _ => 0) := rfl
theorem c0_49 (B : Nat) : v_ce B S0 49 (.inl (.int, 6)) = .inl (.int, 6, .inl fun _ => 0) := rfl
theorem c0_50 (B : Nat) : v_ce B S0 50 (shX1) = .inr (1, [.ref (B + (0 + 51)), .ref (B + (0 + 52)), .int 0]) := (v_ceO B S0 50 _ _).trans rfl
theorem c0_51 (B : Nat) : v_ce B S0 51 (.inl (.int, 6)) = .inl (.int, 6, .inl fun _ => 0) := rfl
theorem c0_52 (B : Nat) : v_ce B S0 52 (.inl (.int, 6)) = .inl (.int, 6, .inl fun _ => 0) := rfl
theorem c0_53 (B : Nat) : v_ce B S0 53 (shX7) = .inr (7, [.ref (B + (0 + 54)), .ref (B + (0 + 55)), .int (-1), .int 0, .long 0, .long 0]) := (v_ceO B S0 53 _ _).trans rfl
theorem c0_54 (B : Nat) : v_ce B S0 54 (.inl (.long, 4)) = .inl (.long, 4, .inr (.inl fun _ => 0)) := rfl
theorem c0_55 (B : Nat) : v_ce B S0 55 (.inl (.long, 4)) = .inl (.long, 4, .inr (.inl fun _ => 0)) := rfl
theorem c0_56 (B : Nat) : v_ce B S0 56 (shX7) = .inr (7, [.ref (B + (0 + 57)), .ref (B + (0 + 58)), .int (-1), .int 0, .long 0, .long 0]) := (v_ceO B S0 56 _ _).trans rfl
theorem c0_57 (B : Nat) : v_ce B S0 57 (.inl (.long, 4)) = .inl (.long, 4, .inr (.inl fun _ => 0)) := rfl
theorem c0_58 (B : Nat) : v_ce B S0 58 (.inl (.long, 4)) = .inl (.long, 4, .inr (.inl fun _ => 0)) := rfl
theorem c0_59 (B : Nat) : v_ce B S0 59 (.inl (.int, 3)) = .inl (.int, 3, .inl (upd (upd (upd (fun _ => 0) 0 1) 1 1) 2 1)) := rfl
theorem c0_60 (B : Nat) : v_ce B S0 60 (.inl (.int, 6)) = .inl (.int, 6, .inl fun _ => 0) := rfl
theorem c0_61 (B : Nat) : v_ce B S0 61 (shX0) = .inr (0, [.ref (B + (0 + 62)), .ref (B + (0 + 63)), .ref (B + (0 + 64)), .ref (B + (0 + 65)), .ref (B + (0 + 66)), .ref (B + (0 + 67)), .ref (B + (0 + 68)), .ref (B + (0 + 69)), .ref (B + (0 + 70)), .int 0, .int 0]) := (v_ceO B S0 61 _ _).trans rfl
theorem c0_62 (B : Nat) : v_ce B S0 62 (.inl (.long, 8)) = .inl (.long, 8, .inr (.inl fun _ => 0)) := rfl
theorem c0_63 (B : Nat) : v_ce B S0 63 (.inl (.int, 8)) = .inl (.int, 8, .inl fun _ => 0) := rfl
theorem c0_64 (B : Nat) : v_ce B S0 64 (.inl (.int, 8)) = .inl (.int, 8, .inl fun _ => 0) := rfl
theorem c0_65 (B : Nat) : v_ce B S0 65 (.inl (.int, 8)) = .inl (.int, 8, .inl fun _ => 0) := rfl
theorem c0_66 (B : Nat) : v_ce B S0 66 (.inl (.int, 8)) = .inl (.int, 8, .inl fun _ => 0) := rfl
theorem c0_67 (B : Nat) : v_ce B S0 67 (.inl (.int, 4)) = .inl (.int, 4, .inl fun _ => 0) := rfl
theorem c0_68 (B : Nat) : v_ce B S0 68 (.inl (.int, 4)) = .inl (.int, 4, .inl fun _ => 0) := rfl
theorem c0_69 (B : Nat) : v_ce B S0 69 (.inl (.int, 4)) = .inl (.int, 4, .inl fun _ => 0) := rfl
theorem c0_70 (B : Nat) : v_ce B S0 70 (.inl (.int, 16)) = .inl (.int, 16, .inl fun _ => 0) := rfl
theorem c0_71 (B : Nat) : v_ce B S0 71 (shX3) = .inr (3, [.ref (B + (0 + 72)), .ref (B + (0 + 73)), .ref (B + (0 + 74)), .ref (B + (0 + 75)), .ref (B + (0 + 76)), .ref (B + (0 + 77)), .ref (B + (0 + 78)), .ref (B + (0 + 79)), .ref (B + (0 + 80)), .ref (B + (0 + 81)), .ref (B + (0 + 82)), .ref (B + (0 + 83)), .ref (B + (0 + 84)), .ref (B + (0 + 85)), .ref (B + (0 + 86)), .ref (B + (0 + 87)), .int 0, .int 0, .int 0, .int 0]) := (v_ceO B S0 71 _ _).trans rfl
theorem c0_72 (B : Nat) : v_ce B S0 72 (.inl (.long, 200)) = .inl (.long, 200, .inr (.inl fun _ => 0)) := rfl
theorem c0_73 (B : Nat) : v_ce B S0 73 (.inl (.int, 200)) = .inl (.int, 200, .inl fun _ => 0) := rfl
theorem c0_74 (B : Nat) : v_ce B S0 74 (.inl (.int, 200)) = .inl (.int, 200, .inl fun _ => 0) := rfl
theorem c0_75 (B : Nat) : v_ce B S0 75 (.inl (.int, 200)) = .inl (.int, 200, .inl fun _ => 0) := rfl
theorem c0_76 (B : Nat) : v_ce B S0 76 (.inl (.int, 200)) = .inl (.int, 200, .inl fun _ => 0) := rfl
theorem c0_77 (B : Nat) : v_ce B S0 77 (.inl (.int, 400)) = .inl (.int, 400, .inl fun _ => 0) := rfl
theorem c0_78 (B : Nat) : v_ce B S0 78 (.inl (.int, 400)) = .inl (.int, 400, .inl fun _ => 0) := rfl
theorem c0_79 (B : Nat) : v_ce B S0 79 (.inl (.int, 20)) = .inl (.int, 20, .inl fun _ => 0) := rfl
theorem c0_80 (B : Nat) : v_ce B S0 80 (.inl (.int, 20)) = .inl (.int, 20, .inl fun _ => 0) := rfl
theorem c0_81 (B : Nat) : v_ce B S0 81 (.inl (.int, 20)) = .inl (.int, 20, .inl fun _ => 0) := rfl
theorem c0_82 (B : Nat) : v_ce B S0 82 (.inl (.int, 20)) = .inl (.int, 20, .inl fun _ => 0) := rfl
theorem c0_83 (B : Nat) : v_ce B S0 83 (.inl (.int, 20)) = .inl (.int, 20, .inl fun _ => 0) := rfl
theorem c0_84 (B : Nat) : v_ce B S0 84 (.inl (.int, 20)) = .inl (.int, 20, .inl fun _ => 0) := rfl
theorem c0_85 (B : Nat) : v_ce B S0 85 (.inl (.int, 20)) = .inl (.int, 20, .inl fun _ => 0) := rfl
theorem c0_86 (B : Nat) : v_ce B S0 86 (.inl (.int, 20)) = .inl (.int, 20, .inl fun _ => 0) := rfl
theorem c0_87 (B : Nat) : v_ce B S0 87 (.inl (.boolean, 20)) = .inl (.boolean, 20, .inl fun _ => 0) := rfl
theorem c0_88 (B : Nat) : v_ce B S0 88 (shX7) = .inr (7, [.ref (B + (0 + 89)), .ref (B + (0 + 90)), .int (-1), .int 0, .long 0, .long 0]) := (v_ceO B S0 88 _ _).trans rfl
theorem c0_89 (B : Nat) : v_ce B S0 89 (.inl (.long, 4)) = .inl (.long, 4, .inr (.inl fun _ => 0)) := rfl
theorem c0_90 (B : Nat) : v_ce B S0 90 (.inl (.long, 4)) = .inl (.long, 4, .inr (.inl fun _ => 0)) := rfl
theorem c0_91 (B : Nat) : v_ce B S0 91 (shX7) = .inr (7, [.ref (B + (0 + 92)), .ref (B + (0 + 93)), .int (-1), .int 0, .long 0, .long 0]) := (v_ceO B S0 91 _ _).trans rfl
theorem c0_92 (B : Nat) : v_ce B S0 92 (.inl (.long, 4)) = .inl (.long, 4, .inr (.inl fun _ => 0)) := rfl
theorem c0_93 (B : Nat) : v_ce B S0 93 (.inl (.long, 4)) = .inl (.long, 4, .inr (.inl fun _ => 0)) := rfl
theorem c0_94 (B : Nat) : v_ce B S0 94 (shX12) = .inr (12, [.int 0, .int 0, .int (-1), .int 0, .int (-1), .null, .ref (B + (94 + 1)), .ref (B + (94 + 12)), .ref (B + (94 + 13)), .int 0, .int 0, .int 0, .int 0, .int 0, .int 0, .int 0, .long 0, .int 0, .int 0, .ref (B + (94 + 14)), .ref (B + (94 + 15)), .ref (B + (94 + 16)), .ref (B + (94 + 17)), .ref (B + (94 + 24)), .ref (B + (94 + 31)), .int 0, .int 0, .ref (B + (94 + 38)), .ref (B + (94 + 39)), .ref (B + (94 + 40)), .ref (B + (94 + 41)), .ref (B + (94 + 42)), .ref (B + (94 + 43)), .ref (B + (94 + 44)), .ref (B + (94 + 45)), .int 0, .ref (B + (94 + 46)), .ref (B + (94 + 47)), .int 0, .ref (B + (94 + 48)), .int 0, .ref (B + (94 + 49)), .ref (B + (94 + 50)), .ref (B + (94 + 51)), .ref (B + (94 + 52)), .ref (B + (94 + 53)), .ref (B + (94 + 54)), .ref (B + (94 + 55)), .ref (B + (94 + 56)), .ref (B + (94 + 57)), .ref (B + (94 + 58)), .ref (B + (94 + 59)), .ref (B + (94 + 60)), .long (-9223372036854775808), .long (-9223372036854775808), .ref (B + (94 + 61)), .ref (B + (94 + 62)), .int 0, .ref (B + (94 + 63))]) := (v_ceO B S0 94 _ _).trans rfl
theorem c0_95 (B : Nat) : v_ce B S0 95 (shX9) = .inr (9, [.int 0, .int 0, .ref (B + (94 + 2)), .ref (B + (94 + 3)), .ref (B + (94 + 4)), .ref (B + (94 + 5)), .ref (B + (94 + 6)), .ref (B + (94 + 7)), .ref (B + (94 + 8)), .ref (B + (94 + 9)), .ref (B + (94 + 10)), .ref (B + (94 + 11))]) := (v_ceO B S0 95 _ _).trans rfl
theorem c0_96 (B : Nat) : v_ce B S0 96 (.inl (.long, 8)) = .inl (.long, 8, .inr (.inl fun _ => 0)) := rfl
theorem c0_97 (B : Nat) : v_ce B S0 97 (.inl (.int, 8)) = .inl (.int, 8, .inl fun _ => 0) := rfl
theorem c0_98 (B : Nat) : v_ce B S0 98 (.inl (.int, 8)) = .inl (.int, 8, .inl fun _ => 0) := rfl
theorem c0_99 (B : Nat) : v_ce B S0 99 (.inl (.int, 8)) = .inl (.int, 8, .inl fun _ => 0) := rfl
theorem c0_100 (B : Nat) : v_ce B S0 100 (.inl (.int, 8)) = .inl (.int, 8, .inl fun _ => 0) := rfl
theorem c0_101 (B : Nat) : v_ce B S0 101 (.inl (.int, 4)) = .inl (.int, 4, .inl fun _ => 0) := rfl
theorem c0_102 (B : Nat) : v_ce B S0 102 (.inl (.int, 16)) = .inl (.int, 16, .inl fun _ => 0) := rfl
theorem c0_103 (B : Nat) : v_ce B S0 103 (.inl (.int, 4)) = .inl (.int, 4, .inl fun _ => 0) := rfl
theorem c0_104 (B : Nat) : v_ce B S0 104 (.inl (.int, 4)) = .inl (.int, 4, .inl fun _ => 0) := rfl
theorem c0_105 (B : Nat) : v_ce B S0 105 (.inl (.boolean, 8)) = .inl (.boolean, 8, .inl fun _ => 0) := rfl
theorem c0_106 (B : Nat) : v_ce B S0 106 (shX11) = .inr (11, [.null, .null, .null, .null, .null, .int 0, .int 0, .int 0]) := (v_ceO B S0 106 _ _).trans rfl
theorem c0_107 (B : Nat) : v_ce B S0 107 (.inl (.byte, 400)) = .inl (.byte, 400, .inl fun _ => 0) := rfl
theorem c0_108 (B : Nat) : v_ce B S0 108 (.inl (.int, 6)) = .inl (.int, 6, .inl fun _ => 0) := rfl
theorem c0_109 (B : Nat) : v_ce B S0 109 (.inl (.int, 6)) = .inl (.int, 6, .inl fun _ => 0) := rfl
theorem c0_110 (B : Nat) : v_ce B S0 110 (.inl (.int, 3)) = .inl (.int, 3, .inl (upd (upd (upd (fun _ => 0) 0 1) 1 1) 2 1)) := rfl
theorem c0_111 (B : Nat) : v_ce B S0 111 (shX10) = .inr (10, [.int 0, .int 0, .int 0, .int 0, .ref (B + (94 + 18)), .ref (B + (94 + 19)), .ref (B + (94 + 20)), .ref (B + (94 + 21)), .ref (B + (94 + 22)), .ref (B + (94 + 23))]) := (v_ceO B S0 111 _ _).trans rfl
theorem c0_112 (B : Nat) : v_ce B S0 112 (.inl (.int, 6)) = .inl (.int, 6, .inl fun _ => 0) := rfl
theorem c0_113 (B : Nat) : v_ce B S0 113 (.inl (.int, 6)) = .inl (.int, 6, .inl fun _ => 0) := rfl
theorem c0_114 (B : Nat) : v_ce B S0 114 (.inl (.int, 600)) = .inl (.int, 600, .inl fun _ => 0) := rfl
theorem c0_115 (B : Nat) : v_ce B S0 115 (.inl (.int, 200)) = .inl (.int, 200, .inl fun _ => 0) := rfl
theorem c0_116 (B : Nat) : v_ce B S0 116 (.inl (.int, 200)) = .inl (.int, 200, .inl fun _ => 0) := rfl
theorem c0_117 (B : Nat) : v_ce B S0 117 (.inl (.long, 200)) = .inl (.long, 200, .inr (.inl fun _ => 0)) := rfl
theorem c0_118 (B : Nat) : v_ce B S0 118 (shX10) = .inr (10, [.int 0, .int 0, .int 0, .int 0, .ref (B + (94 + 25)), .ref (B + (94 + 26)), .ref (B + (94 + 27)), .ref (B + (94 + 28)), .ref (B + (94 + 29)), .ref (B + (94 + 30))]) := (v_ceO B S0 118 _ _).trans rfl
theorem c0_119 (B : Nat) : v_ce B S0 119 (.inl (.int, 6)) = .inl (.int, 6, .inl fun _ => 0) := rfl
theorem c0_120 (B : Nat) : v_ce B S0 120 (.inl (.int, 6)) = .inl (.int, 6, .inl fun _ => 0) := rfl
theorem c0_121 (B : Nat) : v_ce B S0 121 (.inl (.int, 600)) = .inl (.int, 600, .inl fun _ => 0) := rfl
theorem c0_122 (B : Nat) : v_ce B S0 122 (.inl (.int, 200)) = .inl (.int, 200, .inl fun _ => 0) := rfl
theorem c0_123 (B : Nat) : v_ce B S0 123 (.inl (.int, 200)) = .inl (.int, 200, .inl fun _ => 0) := rfl
theorem c0_124 (B : Nat) : v_ce B S0 124 (.inl (.long, 200)) = .inl (.long, 200, .inr (.inl fun _ => 0)) := rfl
theorem c0_125 (B : Nat) : v_ce B S0 125 (shX10) = .inr (10, [.int 0, .int 0, .int 0, .int 0, .ref (B + (94 + 32)), .ref (B + (94 + 33)), .ref (B + (94 + 34)), .ref (B + (94 + 35)), .ref (B + (94 + 36)), .ref (B + (94 + 37))]) := (v_ceO B S0 125 _ _).trans rfl
theorem c0_126 (B : Nat) : v_ce B S0 126 (.inl (.int, 6)) = .inl (.int, 6, .inl fun _ => 0) := rfl
theorem c0_127 (B : Nat) : v_ce B S0 127 (.inl (.int, 6)) = .inl (.int, 6, .inl fun _ => 0) := rfl
theorem c0_128 (B : Nat) : v_ce B S0 128 (.inl (.int, 600)) = .inl (.int, 600, .inl fun _ => 0) := rfl
theorem c0_129 (B : Nat) : v_ce B S0 129 (.inl (.int, 200)) = .inl (.int, 200, .inl fun _ => 0) := rfl
theorem c0_130 (B : Nat) : v_ce B S0 130 (.inl (.int, 200)) = .inl (.int, 200, .inl fun _ => 0) := rfl
theorem c0_131 (B : Nat) : v_ce B S0 131 (.inl (.long, 200)) = .inl (.long, 200, .inr (.inl fun _ => 0)) := rfl
theorem c0_132 (B : Nat) : v_ce B S0 132 (.inl (.int, 12)) = .inl (.int, 12, .inl fun _ => 0) := rfl
theorem c0_133 (B : Nat) : v_ce B S0 133 (.inl (.int, 12)) = .inl (.int, 12, .inl fun _ => 0) := rfl
theorem c0_134 (B : Nat) : v_ce B S0 134 (.inl (.int, 12)) = .inl (.int, 12, .inl fun _ => 0) := rfl
theorem c0_135 (B : Nat) : v_ce B S0 135 (.inl (.int, 3)) = .inl (.int, 3, .inl fun _ => 0) := rfl
theorem c0_136 (B : Nat) : v_ce B S0 136 (.inl (.int, 9)) = .inl (.int, 9, .inl fun _ => 0) := rfl
theorem c0_137 (B : Nat) : v_ce B S0 137 (.inl (.long, 10395)) = .inl (.long, 10395, .inr (.inl fun _ => 0)) := rfl
theorem c0_138 (B : Nat) : v_ce B S0 138 (.inl (.int, 10395)) = .inl (.int, 10395, .inl fun _ => 0) := rfl
theorem c0_139 (B : Nat) : v_ce B S0 139 (.inl (.int, 10395)) = .inl (.int, 10395, .inl fun _ => 0) := rfl
theorem c0_140 (B : Nat) : v_ce B S0 140 (.inl (.int, 12)) = .inl (.int, 12, .inl fun _ => 0) := rfl
theorem c0_141 (B : Nat) : v_ce B S0 141 (.inl (.int, 12)) = .inl (.int, 12, .inl fun _ => 0) := rfl
theorem c0_142 (B : Nat) : v_ce B S0 142 (.inl (.int, 3)) = .inl (.int, 3, .inl fun _ => 0) := rfl
theorem c0_143 (B : Nat) : v_ce B S0 143 (.inl (.int, 6)) = .inl (.int, 6, .inl fun _ => 0) := rfl
theorem c0_144 (B : Nat) : v_ce B S0 144 (.inl (.int, 16)) = .inl (.int, 16, .inl fun _ => 0) := rfl
theorem c0_145 (B : Nat) : v_ce B S0 145 (.inl (.int, 16)) = .inl (.int, 16, .inl fun _ => 0) := rfl
theorem c0_146 (B : Nat) : v_ce B S0 146 (.inl (.int, 16)) = .inl (.int, 16, .inl fun _ => 0) := rfl
theorem c0_147 (B : Nat) : v_ce B S0 147 (.inl (.int, 16)) = .inl (.int, 16, .inl fun _ => 0) := rfl
theorem c0_148 (B : Nat) : v_ce B S0 148 (.inl (.int, 16)) = .inl (.int, 16, .inl fun _ => 0) := rfl
theorem c0_149 (B : Nat) : v_ce B S0 149 (.inl (.int, 16)) = .inl (.int, 16, .inl fun _ => 0) := rfl
theorem c0_150 (B : Nat) : v_ce B S0 150 (.inl (.int, 16)) = .inl (.int, 16, .inl fun _ => 0) := rfl
theorem c0_151 (B : Nat) : v_ce B S0 151 (.inl (.int, 3)) = .inl (.int, 3, .inl fun _ => 0) := rfl
theorem c0_152 (B : Nat) : v_ce B S0 152 (.inl (.long, 800)) = .inl (.long, 800, .inr (.inl fun _ => 0)) := rfl
theorem c0_153 (B : Nat) : v_ce B S0 153 (.inl (.long, 800)) = .inl (.long, 800, .inr (.inl fun _ => 0)) := rfl
theorem c0_154 (B : Nat) : v_ce B S0 154 (.inl (.int, 800)) = .inl (.int, 800, .inl fun _ => 0) := rfl
theorem c0_155 (B : Nat) : v_ce B S0 155 (.inl (.int, 4)) = .inl (.int, 4, .inl fun _ => 0) := rfl
theorem c0_156 (B : Nat) : v_ce B S0 156 (.inl (.int, 4)) = .inl (.int, 4, .inl (upd (upd (upd (upd (fun _ => 0) 0 (-1)) 1 (-1)) 2 (-1)) 3 (-1))) := rfl
theorem c0_157 (B : Nat) : v_ce B S0 157 (.inl (.long, 2)) = .inl (.long, 2, .inr (.inl fun _ => 0)) := rfl
set_option maxRecDepth 100000 in
set_option maxHeartbeats 8000000 in
theorem wd_a (B : Nat) : wdF B S0 0 SHa = at_X8_init B 0 := (wdF_cons (c0_0 B) (wdF_cons (c0_1 B) (wdF_cons (c0_2 B) (wdF_cons (c0_3 B) (wdF_cons (c0_4 B) (wdF_cons (c0_5 B) (wdF_cons (c0_6 B) (wdF_cons (c0_7 B) (wdF_cons (c0_8 B) (wdF_cons (c0_9 B) (wdF_cons (c0_10 B) (wdF_cons (c0_11 B) (wdF_cons (c0_12 B) (wdF_cons (c0_13 B) (wdF_cons (c0_14 B) (wdF_cons (c0_15 B) (wdF_cons (c0_16 B) (wdF_cons (c0_17 B) (wdF_cons (c0_18 B) (wdF_cons (c0_19 B) (wdF_cons (c0_20 B) (wdF_cons (c0_21 B) (wdF_cons (c0_22 B) (wdF_cons (c0_23 B) (wdF_cons (c0_24 B) (wdF_cons (c0_25 B) (wdF_cons (c0_26 B) (wdF_cons (c0_27 B) (wdF_cons (c0_28 B) (wdF_cons (c0_29 B) (wdF_cons (c0_30 B) (wdF_cons (c0_31 B) (wdF_cons (c0_32 B) (wdF_cons (c0_33 B) (wdF_cons (c0_34 B) (wdF_cons (c0_35 B) (wdF_cons (c0_36 B) (wdF_cons (c0_37 B) (wdF_cons (c0_38 B) (wdF_cons (c0_39 B) (wdF_cons (c0_40 B) (wdF_cons (c0_41 B) (wdF_cons (c0_42 B) (wdF_cons (c0_43 B) (wdF_cons (c0_44 B) (wdF_cons (c0_45 B) (wdF_cons (c0_46 B) (wdF_cons (c0_47 B) (wdF_cons (c0_48 B) (wdF_cons (c0_49 B) (wdF_cons (c0_50 B) (wdF_cons (c0_51 B) (wdF_cons (c0_52 B) (wdF_cons (c0_53 B) (wdF_cons (c0_54 B) (wdF_cons (c0_55 B) (wdF_cons (c0_56 B) (wdF_cons (c0_57 B) (wdF_cons (c0_58 B) (wdF_cons (c0_59 B) (wdF_cons (c0_60 B) (wdF_cons (c0_61 B) (wdF_cons (c0_62 B) (wdF_cons (c0_63 B) (wdF_cons (c0_64 B) (wdF_cons (c0_65 B) (wdF_cons (c0_66 B) (wdF_cons (c0_67 B) (wdF_cons (c0_68 B) (wdF_cons (c0_69 B) (wdF_cons (c0_70 B) (wdF_cons (c0_71 B) (wdF_cons (c0_72 B) (wdF_cons (c0_73 B) (wdF_cons (c0_74 B) (wdF_cons (c0_75 B) (wdF_cons (c0_76 B) (wdF_cons (c0_77 B) (wdF_cons (c0_78 B) (wdF_cons (c0_79 B) (wdF_cons (c0_80 B) (wdF_cons (c0_81 B) (wdF_cons (c0_82 B) (wdF_cons (c0_83 B) (wdF_cons (c0_84 B) (wdF_cons (c0_85 B) (wdF_cons (c0_86 B) (wdF_cons (c0_87 B) (wdF_cons (c0_88 B) (wdF_cons (c0_89 B) (wdF_cons (c0_90 B) (wdF_cons (c0_91 B) (wdF_cons (c0_92 B) (wdF_cons (c0_93 B) wdF_nil))))))))))))))))))))))))))))))))))))))))))))))))))))))))))))))))))))))))))))))))))))))))))))))
set_option maxRecDepth 100000 in
set_option maxHeartbeats 8000000 in
theorem wd_b (B : Nat) : wdF B S0 94 SHb = at_X12_init B 94 := (wdF_cons (c0_94 B) (wdF_cons (c0_95 B) (wdF_cons (c0_96 B) (wdF_cons (c0_97 B) (wdF_cons (c0_98 B) (wdF_cons (c0_99 B) (wdF_cons (c0_100 B) (wdF_cons (c0_101 B) (wdF_cons (c0_102 B) (wdF_cons (c0_103 B) (wdF_cons (c0_104 B) (wdF_cons (c0_105 B) (wdF_cons (c0_106 B) (wdF_cons (c0_107 B) (wdF_cons (c0_108 B) (wdF_cons (c0_109 B) (wdF_cons (c0_110 B) (wdF_cons (c0_111 B) (wdF_cons (c0_112 B) (wdF_cons (c0_113 B) (wdF_cons (c0_114 B) (wdF_cons (c0_115 B) (wdF_cons (c0_116 B) (wdF_cons (c0_117 B) (wdF_cons (c0_118 B) (wdF_cons (c0_119 B) (wdF_cons (c0_120 B) (wdF_cons (c0_121 B) (wdF_cons (c0_122 B) (wdF_cons (c0_123 B) (wdF_cons (c0_124 B) (wdF_cons (c0_125 B) (wdF_cons (c0_126 B) (wdF_cons (c0_127 B) (wdF_cons (c0_128 B) (wdF_cons (c0_129 B) (wdF_cons (c0_130 B) (wdF_cons (c0_131 B) (wdF_cons (c0_132 B) (wdF_cons (c0_133 B) (wdF_cons (c0_134 B) (wdF_cons (c0_135 B) (wdF_cons (c0_136 B) (wdF_cons (c0_137 B) (wdF_cons (c0_138 B) (wdF_cons (c0_139 B) (wdF_cons (c0_140 B) (wdF_cons (c0_141 B) (wdF_cons (c0_142 B) (wdF_cons (c0_143 B) (wdF_cons (c0_144 B) (wdF_cons (c0_145 B) (wdF_cons (c0_146 B) (wdF_cons (c0_147 B) (wdF_cons (c0_148 B) (wdF_cons (c0_149 B) (wdF_cons (c0_150 B) (wdF_cons (c0_151 B) (wdF_cons (c0_152 B) (wdF_cons (c0_153 B) (wdF_cons (c0_154 B) (wdF_cons (c0_155 B) (wdF_cons (c0_156 B) (wdF_cons (c0_157 B) wdF_nil))))))))))))))))))))))))))))))))))))))))))))))))))))))))))))))))
theorem SHa_len : SHa.length = 94 := rfl
theorem SHb_len : SHb.length = 64 := rfl
theorem wd_S0 (B : Nat) : wd B SH S0 = at_X8_init B 0 ++ (at_X12_init B 94 ++ [.inl (.long, 1, .inr (.inl fun _ => 0))]) := by
  have h := wdF_eq B S0 SH 0
  rw [show wd B SH S0 = wdF B S0 0 SH from h, SH, wdF_app, wdF_app, SHa_len, SHb_len, wd_a, wd_b]
  rfl
theorem at8_len (B : Nat) : (at_X8_init B 0).length = 94 := by rw [← wd_a]; rfl
theorem at12_len (B : Nat) : (at_X12_init B 94).length = 64 := by rw [← wd_b]; rfl
theorem SH8 : isX8 SH 0 := by
  repeat' (first | exact rfl | apply And.intro)
theorem SH12 : isX12 SH 94 := by
  repeat' (first | exact rfl | apply And.intro)
theorem SHo : SH[158]? = some (.inl (.long, 1)) := rfl

