def Sim (k : Nat) (M N : Mem) : Prop := True
theorem pure_i : ok_X6_init_125 65 M0R (0 : Int32) := sorry
theorem pure_0 : Sim 0 M0N M1R := trivial
theorem pure_PF : PF Sim := sorry
