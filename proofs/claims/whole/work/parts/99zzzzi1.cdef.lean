/-! the cases of the law's switch: how they are checked -/
def lc_arg (pc j : Nat) : Bool := decide (decode code pc = .ok (.aload_n 0, 1)) && decide (decode code (pc + 1) = .ok (.iload_n 3, 1)) && decide (decode code (pc + 2) = .ok (.iconst (j : Int), 1)) && decide (decode code (pc + 3) = .ok (.iadd, 1)) && decide (decode code (pc + 4) = .ok (.iaload, 1))
def lc_args : Nat → Nat → Nat → Bool
  | _, _, 0 => true
  | pc, j, n + 1 => lc_arg pc j && lc_args (pc + 5) (j + 1) n
/-- one case of the switch: where it stands, how many arguments, both links, how far to its end, both methods -/
def lc_case (pc n x y off kc km : Nat) : Bool := decide (decode code pc = .ok (.aload_n 1, 1)) && (lc_args (pc + 1) 1 n && (decide (decode code (pc + 1 + 5 * n) = .ok (.invokevirtual x, 3)) && (decide (decode code (pc + 1 + 5 * n + 3) = .ok (.aload_n 2, 1)) && (lc_args (pc + 1 + 5 * n + 3 + 1) 1 n &&
  (decide (decode code (pc + 1 + 5 * n + 3 + 1 + 5 * n) = .ok (.invokevirtual y, 3)) && (decide (decode code (pc + 1 + 5 * n + 3 + 1 + 5 * n + 3) = .ok (.if_icmp .eq (off : Int), 3)) && (decide (pc + 1 + 5 * n + 3 + 1 + 5 * n + 3 + off = 1075) &&
  (decide (e_MT 14 x = some (0, kc, n, 12)) && (decide (e_MT 14 y = some (0, km, n, 13)) && (l_rmk kc && (l_rmk km && decide (n ≤ 5))))))))))))
