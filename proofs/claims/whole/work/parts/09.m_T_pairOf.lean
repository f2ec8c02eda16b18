theorem dT_pairOf_0 : decode prog_7_method_7_code 0 = .ok (.iload_n 1, 1) := by decide +kernel
theorem dT_pairOf_1 : decode prog_7_method_7_code 1 = .ok (.ifCond .eq 7, 3) := by decide +kernel
theorem dT_pairOf_4 : decode prog_7_method_7_code 4 = .ok (.iload_n 2, 1) := by decide +kernel
theorem dT_pairOf_5 : decode prog_7_method_7_code 5 = .ok (.ifCond .ne 5, 3) := by decide +kernel
theorem dT_pairOf_8 : decode prog_7_method_7_code 8 = .ok (.iconst 0, 1) := by decide +kernel
theorem dT_pairOf_9 : decode prog_7_method_7_code 9 = .ok (.ireturn, 1) := by decide +kernel
theorem dT_pairOf_10 : decode prog_7_method_7_code 10 = .ok (.iconst 3, 1) := by decide +kernel
theorem dT_pairOf_11 : decode prog_7_method_7_code 11 = .ok (.istore_n 3, 1) := by decide +kernel
theorem dT_pairOf_12 : decode prog_7_method_7_code 12 = .ok (.iload_n 3, 1) := by decide +kernel
theorem dT_pairOf_13 : decode prog_7_method_7_code 13 = .ok (.aload_n 0, 1) := by decide +kernel
theorem dT_pairOf_14 : decode prog_7_method_7_code 14 = .ok (.getfield 27, 3) := by decide +kernel
theorem dT_pairOf_17 : decode prog_7_method_7_code 17 = .ok (.if_icmp .ge 31, 3) := by decide +kernel
theorem dT_pairOf_20 : decode prog_7_method_7_code 20 = .ok (.aload_n 0, 1) := by decide +kernel
theorem dT_pairOf_21 : decode prog_7_method_7_code 21 = .ok (.getfield 13, 3) := by decide +kernel
theorem dT_pairOf_24 : decode prog_7_method_7_code 24 = .ok (.iload_n 3, 1) := by decide +kernel
theorem dT_pairOf_25 : decode prog_7_method_7_code 25 = .ok (.iaload, 1) := by decide +kernel
theorem dT_pairOf_26 : decode prog_7_method_7_code 26 = .ok (.iload_n 1, 1) := by decide +kernel
theorem dT_pairOf_27 : decode prog_7_method_7_code 27 = .ok (.if_icmp .ne 15, 3) := by decide +kernel
theorem dT_pairOf_30 : decode prog_7_method_7_code 30 = .ok (.aload_n 0, 1) := by decide +kernel
theorem dT_pairOf_31 : decode prog_7_method_7_code 31 = .ok (.getfield 17, 3) := by decide +kernel
theorem dT_pairOf_34 : decode prog_7_method_7_code 34 = .ok (.iload_n 3, 1) := by decide +kernel
theorem dT_pairOf_35 : decode prog_7_method_7_code 35 = .ok (.iaload, 1) := by decide +kernel
theorem dT_pairOf_36 : decode prog_7_method_7_code 36 = .ok (.iload_n 2, 1) := by decide +kernel
theorem dT_pairOf_37 : decode prog_7_method_7_code 37 = .ok (.if_icmp .ne 5, 3) := by decide +kernel
theorem dT_pairOf_40 : decode prog_7_method_7_code 40 = .ok (.iload_n 3, 1) := by decide +kernel
theorem dT_pairOf_41 : decode prog_7_method_7_code 41 = .ok (.ireturn, 1) := by decide +kernel
theorem dT_pairOf_42 : decode prog_7_method_7_code 42 = .ok (.iinc 3 1, 3) := by decide +kernel
theorem dT_pairOf_45 : decode prog_7_method_7_code 45 = .ok (.goto (-33), 3) := by decide +kernel
theorem dT_pairOf_48 : decode prog_7_method_7_code 48 = .ok (.aload_n 0, 1) := by decide +kernel
theorem dT_pairOf_49 : decode prog_7_method_7_code 49 = .ok (.getfield 27, 3) := by decide +kernel
theorem dT_pairOf_52 : decode prog_7_method_7_code 52 = .ok (.sipush 243, 3) := by decide +kernel
theorem dT_pairOf_55 : decode prog_7_method_7_code 55 = .ok (.if_icmp .lt 5, 3) := by decide +kernel
theorem dT_pairOf_58 : decode prog_7_method_7_code 58 = .ok (.iconst 0, 1) := by decide +kernel
theorem dT_pairOf_59 : decode prog_7_method_7_code 59 = .ok (.ireturn, 1) := by decide +kernel
theorem dT_pairOf_60 : decode prog_7_method_7_code 60 = .ok (.aload_n 0, 1) := by decide +kernel
theorem dT_pairOf_61 : decode prog_7_method_7_code 61 = .ok (.getfield 13, 3) := by decide +kernel
theorem dT_pairOf_64 : decode prog_7_method_7_code 64 = .ok (.aload_n 0, 1) := by decide +kernel
theorem dT_pairOf_65 : decode prog_7_method_7_code 65 = .ok (.getfield 27, 3) := by decide +kernel
theorem dT_pairOf_68 : decode prog_7_method_7_code 68 = .ok (.iload_n 1, 1) := by decide +kernel
theorem dT_pairOf_69 : decode prog_7_method_7_code 69 = .ok (.iastore, 1) := by decide +kernel
theorem dT_pairOf_70 : decode prog_7_method_7_code 70 = .ok (.aload_n 0, 1) := by decide +kernel
theorem dT_pairOf_71 : decode prog_7_method_7_code 71 = .ok (.getfield 17, 3) := by decide +kernel
theorem dT_pairOf_74 : decode prog_7_method_7_code 74 = .ok (.aload_n 0, 1) := by decide +kernel
theorem dT_pairOf_75 : decode prog_7_method_7_code 75 = .ok (.getfield 27, 3) := by decide +kernel
theorem dT_pairOf_78 : decode prog_7_method_7_code 78 = .ok (.iload_n 2, 1) := by decide +kernel
theorem dT_pairOf_79 : decode prog_7_method_7_code 79 = .ok (.iastore, 1) := by decide +kernel
theorem dT_pairOf_80 : decode prog_7_method_7_code 80 = .ok (.aload_n 0, 1) := by decide +kernel
theorem dT_pairOf_81 : decode prog_7_method_7_code 81 = .ok (.getfield 20, 3) := by decide +kernel
theorem dT_pairOf_84 : decode prog_7_method_7_code 84 = .ok (.aload_n 0, 1) := by decide +kernel
theorem dT_pairOf_85 : decode prog_7_method_7_code 85 = .ok (.getfield 27, 3) := by decide +kernel
theorem dT_pairOf_88 : decode prog_7_method_7_code 88 = .ok (.bipush 8, 2) := by decide +kernel
theorem dT_pairOf_90 : decode prog_7_method_7_code 90 = .ok (.aload_n 0, 1) := by decide +kernel
theorem dT_pairOf_91 : decode prog_7_method_7_code 91 = .ok (.getfield 20, 3) := by decide +kernel
theorem dT_pairOf_94 : decode prog_7_method_7_code 94 = .ok (.iload_n 1, 1) := by decide +kernel
theorem dT_pairOf_95 : decode prog_7_method_7_code 95 = .ok (.iaload, 1) := by decide +kernel
theorem dT_pairOf_96 : decode prog_7_method_7_code 96 = .ok (.imul, 1) := by decide +kernel
theorem dT_pairOf_97 : decode prog_7_method_7_code 97 = .ok (.aload_n 0, 1) := by decide +kernel
theorem dT_pairOf_98 : decode prog_7_method_7_code 98 = .ok (.getfield 20, 3) := by decide +kernel
theorem dT_pairOf_101 : decode prog_7_method_7_code 101 = .ok (.iload_n 2, 1) := by decide +kernel
theorem dT_pairOf_102 : decode prog_7_method_7_code 102 = .ok (.iaload, 1) := by decide +kernel
theorem dT_pairOf_103 : decode prog_7_method_7_code 103 = .ok (.iadd, 1) := by decide +kernel
theorem dT_pairOf_104 : decode prog_7_method_7_code 104 = .ok (.iconst 3, 1) := by decide +kernel
theorem dT_pairOf_105 : decode prog_7_method_7_code 105 = .ok (.iadd, 1) := by decide +kernel
theorem dT_pairOf_106 : decode prog_7_method_7_code 106 = .ok (.iastore, 1) := by decide +kernel
theorem dT_pairOf_107 : decode prog_7_method_7_code 107 = .ok (.aload_n 0, 1) := by decide +kernel
theorem dT_pairOf_108 : decode prog_7_method_7_code 108 = .ok (.getfield 23, 3) := by decide +kernel
theorem dT_pairOf_111 : decode prog_7_method_7_code 111 = .ok (.aload_n 0, 1) := by decide +kernel
theorem dT_pairOf_112 : decode prog_7_method_7_code 112 = .ok (.getfield 27, 3) := by decide +kernel
theorem dT_pairOf_115 : decode prog_7_method_7_code 115 = .ok (.aload_n 0, 1) := by decide +kernel
theorem dT_pairOf_116 : decode prog_7_method_7_code 116 = .ok (.getfield 23, 3) := by decide +kernel
theorem dT_pairOf_119 : decode prog_7_method_7_code 119 = .ok (.iload_n 1, 1) := by decide +kernel
theorem dT_pairOf_120 : decode prog_7_method_7_code 120 = .ok (.baload, 1) := by decide +kernel
theorem dT_pairOf_121 : decode prog_7_method_7_code 121 = .ok (.ifCond .ne 12, 3) := by decide +kernel
theorem dT_pairOf_124 : decode prog_7_method_7_code 124 = .ok (.aload_n 0, 1) := by decide +kernel
theorem dT_pairOf_125 : decode prog_7_method_7_code 125 = .ok (.getfield 23, 3) := by decide +kernel
theorem dT_pairOf_128 : decode prog_7_method_7_code 128 = .ok (.iload_n 2, 1) := by decide +kernel
theorem dT_pairOf_129 : decode prog_7_method_7_code 129 = .ok (.baload, 1) := by decide +kernel
theorem dT_pairOf_130 : decode prog_7_method_7_code 130 = .ok (.ifCond .eq 7, 3) := by decide +kernel
theorem dT_pairOf_133 : decode prog_7_method_7_code 133 = .ok (.iconst 1, 1) := by decide +kernel
theorem dT_pairOf_134 : decode prog_7_method_7_code 134 = .ok (.goto 4, 3) := by decide +kernel
theorem dT_pairOf_137 : decode prog_7_method_7_code 137 = .ok (.iconst 0, 1) := by decide +kernel
theorem dT_pairOf_138 : decode prog_7_method_7_code 138 = .ok (.bastore, 1) := by decide +kernel
theorem dT_pairOf_139 : decode prog_7_method_7_code 139 = .ok (.aload_n 0, 1) := by decide +kernel
theorem dT_pairOf_140 : decode prog_7_method_7_code 140 = .ok (.dup, 1) := by decide +kernel
theorem dT_pairOf_141 : decode prog_7_method_7_code 141 = .ok (.getfield 27, 3) := by decide +kernel
theorem dT_pairOf_144 : decode prog_7_method_7_code 144 = .ok (.iconst 1, 1) := by decide +kernel
theorem dT_pairOf_145 : decode prog_7_method_7_code 145 = .ok (.iadd, 1) := by decide +kernel
theorem dT_pairOf_146 : decode prog_7_method_7_code 146 = .ok (.putfield 27, 3) := by decide +kernel
theorem dT_pairOf_149 : decode prog_7_method_7_code 149 = .ok (.aload_n 0, 1) := by decide +kernel
theorem dT_pairOf_150 : decode prog_7_method_7_code 150 = .ok (.getfield 27, 3) := by decide +kernel
theorem dT_pairOf_153 : decode prog_7_method_7_code 153 = .ok (.iconst 1, 1) := by decide +kernel
theorem dT_pairOf_154 : decode prog_7_method_7_code 154 = .ok (.isub, 1) := by decide +kernel
theorem dT_pairOf_155 : decode prog_7_method_7_code 155 = .ok (.ireturn, 1) := by decide +kernel
def fT_pairOf_8 (z : lc_S) : Option ((Int32) × lc_S) :=
  some (0, z)
def fT_pairOf_42 (k12 : Int32 → Int32 → Int32 → lc_S → Option ((Int32) × lc_S)) (x1 : Int32) (x2 : Int32) (x3 : Int32) (z : lc_S) : Option ((Int32) × lc_S) :=
  lc_let (x3 + 1) (fun x42 => k12 x1 x2 x42 z)
def fT_pairOf_138 (t1 : Int32) (t2 : Int32) (z : lc_S) : Option ((Int32) × lc_S) :=
  lc_chk (lc_in t1 243) (lc_chk (vp_nar .boolean t2 = t2) (some ((lcI (lcUI (lcUI z 13 t1.toNatClampNeg t2) 9 4 ((lcI (lcUI z 13 t1.toNatClampNeg t2) 9 4) + 1)) 9 4) - 1, lcUI (lcUI z 13 t1.toNatClampNeg t2) 9 4 ((lcI (lcUI z 13 t1.toNatClampNeg t2) 9 4) + 1))))
def fT_pairOf_133 (t1 : Int32) (z : lc_S) : Option ((Int32) × lc_S) :=
  fT_pairOf_138 t1 1 z
def fT_pairOf_12 : Nat → Int32 → Int32 → Int32 → lc_S → Option ((Int32) × lc_S)
  | 0, _, _, _, _ => none
  | n + 1, x1, x2, x3, z => if (lcI z 9 4) ≤ x3 then (if (lcI z 9 4) < 243 then (lc_chk (lc_in (lcI z 9 4) 243) (lc_chk (lc_in (lcI (lcUI z 10 (lcI z 9 4).toNatClampNeg x1) 9 4) 243) (lc_chk (lc_in x1 243) (lc_chk (lc_in x2 243) (lc_chk (lc_in (lcI (lcUI (lcUI z 10 (lcI z 9 4).toNatClampNeg x1) 11 (lcI (lcUI z 10 (lcI z 9 4).toNatClampNeg x1) 9 4).toNatClampNeg x2) 9 4) 243) (lc_chk (lc_in x1 243) (if (lcI (lcUI (lcUI (lcUI z 10 (lcI z 9 4).toNatClampNeg x1) 11 (lcI (lcUI z 10 (lcI z 9 4).toNatClampNeg x1) 9 4).toNatClampNeg x2) 12 (lcI (lcUI (lcUI z 10 (lcI z 9 4).toNatClampNeg x1) 11 (lcI (lcUI z 10 (lcI z 9 4).toNatClampNeg x1) 9 4).toNatClampNeg x2) 9 4).toNatClampNeg (((8 * (lcI (lcUI (lcUI z 10 (lcI z 9 4).toNatClampNeg x1) 11 (lcI (lcUI z 10 (lcI z 9 4).toNatClampNeg x1) 9 4).toNatClampNeg x2) 12 x1.toNatClampNeg)) + (lcI (lcUI (lcUI z 10 (lcI z 9 4).toNatClampNeg x1) 11 (lcI (lcUI z 10 (lcI z 9 4).toNatClampNeg x1) 9 4).toNatClampNeg x2) 12 x2.toNatClampNeg)) + 3)) 13 x1.toNatClampNeg) = 0 then (lc_chk (lc_in x2 243) (if (lcI (lcUI (lcUI (lcUI z 10 (lcI z 9 4).toNatClampNeg x1) 11 (lcI (lcUI z 10 (lcI z 9 4).toNatClampNeg x1) 9 4).toNatClampNeg x2) 12 (lcI (lcUI (lcUI z 10 (lcI z 9 4).toNatClampNeg x1) 11 (lcI (lcUI z 10 (lcI z 9 4).toNatClampNeg x1) 9 4).toNatClampNeg x2) 9 4).toNatClampNeg (((8 * (lcI (lcUI (lcUI z 10 (lcI z 9 4).toNatClampNeg x1) 11 (lcI (lcUI z 10 (lcI z 9 4).toNatClampNeg x1) 9 4).toNatClampNeg x2) 12 x1.toNatClampNeg)) + (lcI (lcUI (lcUI z 10 (lcI z 9 4).toNatClampNeg x1) 11 (lcI (lcUI z 10 (lcI z 9 4).toNatClampNeg x1) 9 4).toNatClampNeg x2) 12 x2.toNatClampNeg)) + 3)) 13 x2.toNatClampNeg) = 0 then (fT_pairOf_138 (lcI (lcUI (lcUI (lcUI z 10 (lcI z 9 4).toNatClampNeg x1) 11 (lcI (lcUI z 10 (lcI z 9 4).toNatClampNeg x1) 9 4).toNatClampNeg x2) 12 (lcI (lcUI (lcUI z 10 (lcI z 9 4).toNatClampNeg x1) 11 (lcI (lcUI z 10 (lcI z 9 4).toNatClampNeg x1) 9 4).toNatClampNeg x2) 9 4).toNatClampNeg (((8 * (lcI (lcUI (lcUI z 10 (lcI z 9 4).toNatClampNeg x1) 11 (lcI (lcUI z 10 (lcI z 9 4).toNatClampNeg x1) 9 4).toNatClampNeg x2) 12 x1.toNatClampNeg)) + (lcI (lcUI (lcUI z 10 (lcI z 9 4).toNatClampNeg x1) 11 (lcI (lcUI z 10 (lcI z 9 4).toNatClampNeg x1) 9 4).toNatClampNeg x2) 12 x2.toNatClampNeg)) + 3)) 9 4) 0 (lcUI (lcUI (lcUI z 10 (lcI z 9 4).toNatClampNeg x1) 11 (lcI (lcUI z 10 (lcI z 9 4).toNatClampNeg x1) 9 4).toNatClampNeg x2) 12 (lcI (lcUI (lcUI z 10 (lcI z 9 4).toNatClampNeg x1) 11 (lcI (lcUI z 10 (lcI z 9 4).toNatClampNeg x1) 9 4).toNatClampNeg x2) 9 4).toNatClampNeg (((8 * (lcI (lcUI (lcUI z 10 (lcI z 9 4).toNatClampNeg x1) 11 (lcI (lcUI z 10 (lcI z 9 4).toNatClampNeg x1) 9 4).toNatClampNeg x2) 12 x1.toNatClampNeg)) + (lcI (lcUI (lcUI z 10 (lcI z 9 4).toNatClampNeg x1) 11 (lcI (lcUI z 10 (lcI z 9 4).toNatClampNeg x1) 9 4).toNatClampNeg x2) 12 x2.toNatClampNeg)) + 3))) else (fT_pairOf_133 (lcI (lcUI (lcUI (lcUI z 10 (lcI z 9 4).toNatClampNeg x1) 11 (lcI (lcUI z 10 (lcI z 9 4).toNatClampNeg x1) 9 4).toNatClampNeg x2) 12 (lcI (lcUI (lcUI z 10 (lcI z 9 4).toNatClampNeg x1) 11 (lcI (lcUI z 10 (lcI z 9 4).toNatClampNeg x1) 9 4).toNatClampNeg x2) 9 4).toNatClampNeg (((8 * (lcI (lcUI (lcUI z 10 (lcI z 9 4).toNatClampNeg x1) 11 (lcI (lcUI z 10 (lcI z 9 4).toNatClampNeg x1) 9 4).toNatClampNeg x2) 12 x1.toNatClampNeg)) + (lcI (lcUI (lcUI z 10 (lcI z 9 4).toNatClampNeg x1) 11 (lcI (lcUI z 10 (lcI z 9 4).toNatClampNeg x1) 9 4).toNatClampNeg x2) 12 x2.toNatClampNeg)) + 3)) 9 4) (lcUI (lcUI (lcUI z 10 (lcI z 9 4).toNatClampNeg x1) 11 (lcI (lcUI z 10 (lcI z 9 4).toNatClampNeg x1) 9 4).toNatClampNeg x2) 12 (lcI (lcUI (lcUI z 10 (lcI z 9 4).toNatClampNeg x1) 11 (lcI (lcUI z 10 (lcI z 9 4).toNatClampNeg x1) 9 4).toNatClampNeg x2) 9 4).toNatClampNeg (((8 * (lcI (lcUI (lcUI z 10 (lcI z 9 4).toNatClampNeg x1) 11 (lcI (lcUI z 10 (lcI z 9 4).toNatClampNeg x1) 9 4).toNatClampNeg x2) 12 x1.toNatClampNeg)) + (lcI (lcUI (lcUI z 10 (lcI z 9 4).toNatClampNeg x1) 11 (lcI (lcUI z 10 (lcI z 9 4).toNatClampNeg x1) 9 4).toNatClampNeg x2) 12 x2.toNatClampNeg)) + 3))))) else (fT_pairOf_133 (lcI (lcUI (lcUI (lcUI z 10 (lcI z 9 4).toNatClampNeg x1) 11 (lcI (lcUI z 10 (lcI z 9 4).toNatClampNeg x1) 9 4).toNatClampNeg x2) 12 (lcI (lcUI (lcUI z 10 (lcI z 9 4).toNatClampNeg x1) 11 (lcI (lcUI z 10 (lcI z 9 4).toNatClampNeg x1) 9 4).toNatClampNeg x2) 9 4).toNatClampNeg (((8 * (lcI (lcUI (lcUI z 10 (lcI z 9 4).toNatClampNeg x1) 11 (lcI (lcUI z 10 (lcI z 9 4).toNatClampNeg x1) 9 4).toNatClampNeg x2) 12 x1.toNatClampNeg)) + (lcI (lcUI (lcUI z 10 (lcI z 9 4).toNatClampNeg x1) 11 (lcI (lcUI z 10 (lcI z 9 4).toNatClampNeg x1) 9 4).toNatClampNeg x2) 12 x2.toNatClampNeg)) + 3)) 9 4) (lcUI (lcUI (lcUI z 10 (lcI z 9 4).toNatClampNeg x1) 11 (lcI (lcUI z 10 (lcI z 9 4).toNatClampNeg x1) 9 4).toNatClampNeg x2) 12 (lcI (lcUI (lcUI z 10 (lcI z 9 4).toNatClampNeg x1) 11 (lcI (lcUI z 10 (lcI z 9 4).toNatClampNeg x1) 9 4).toNatClampNeg x2) 9 4).toNatClampNeg (((8 * (lcI (lcUI (lcUI z 10 (lcI z 9 4).toNatClampNeg x1) 11 (lcI (lcUI z 10 (lcI z 9 4).toNatClampNeg x1) 9 4).toNatClampNeg x2) 12 x1.toNatClampNeg)) + (lcI (lcUI (lcUI z 10 (lcI z 9 4).toNatClampNeg x1) 11 (lcI (lcUI z 10 (lcI z 9 4).toNatClampNeg x1) 9 4).toNatClampNeg x2) 12 x2.toNatClampNeg)) + 3)))))))))) else (some (0, z))) else (lc_chk (lc_in x3 243) (if (lcI z 10 x3.toNatClampNeg) = x1 then (lc_chk (lc_in x3 243) (if (lcI z 11 x3.toNatClampNeg) = x2 then (some (x3, z)) else (fT_pairOf_42 (fT_pairOf_12 n) x1 x2 x3 z))) else (fT_pairOf_42 (fT_pairOf_12 n) x1 x2 x3 z)))
def fT_pairOf (a1 : Int32) (a2 : Int32) (z : lc_S) : Option ((Int32) × lc_S) :=
  if a1 = 0 then (fT_pairOf_8 z) else (if a2 = 0 then (fT_pairOf_8 z) else (fT_pairOf_12 lc_FU a1 a2 3 z))
set_option maxHeartbeats 4000000 in
set_option maxRecDepth 100000 in
theorem bT_pairOf_8 {p : Program} {l : Launch} {e : Env} {s : State} {m : MethodId} {args : Array Value} {below : List Frame} {meth : Method} {c : Code} {G : lc_G} (hx : p.tables.exec = Jvm.exec) (hb : c.code = prog_7_method_7_code) (hml : c.maxLocals = 4) (hr : meth.sig.returnType = (some .int)) (hlocks : meth.locks = false) (hown : s.vm.findClass "LinearCells$Types" = some m.cls) (hts : ∀ w ∈ lc_ALL, w.before args s = true) (hE : lc_E G s) {r : Int32} {z' : lc_S} : ∀ {z : lc_S} {H : Heap} {locs : List Loc} {ls : Array Slot}, fT_pairOf_8 z = some (r, z') → lv_has ls 4 [] → lc_H G z s.heap H locs → W p l e (lc_rm 0) s m args below meth c H locs 0 0 (MQ below (lc_Q G (some (.int r)) z') args s 0 0 (lc_A G)) (F0 m 8 ls []) := by
  intro z H locs ls hf hl hH
  rw [fT_pairOf_8] at hf
  refine lv_iconst (v := 0) hx hb dT_pairOf_8 (by decide) ?_
  exact lc_iret hx hb hr hlocks hH hf dT_pairOf_9
set_option maxHeartbeats 4000000 in
set_option maxRecDepth 100000 in
theorem bT_pairOf_42 {p : Program} {l : Launch} {e : Env} {s : State} {m : MethodId} {args : Array Value} {below : List Frame} {meth : Method} {c : Code} {G : lc_G} (hx : p.tables.exec = Jvm.exec) (hb : c.code = prog_7_method_7_code) (hml : c.maxLocals = 4) (hr : meth.sig.returnType = (some .int)) (hlocks : meth.locks = false) (hown : s.vm.findClass "LinearCells$Types" = some m.cls) (hts : ∀ w ∈ lc_ALL, w.before args s = true) (hE : lc_E G s) {k12 : Int32 → Int32 → Int32 → lc_S → Option ((Int32) × lc_S)} {r : Int32} {z' : lc_S} (hk12 : ∀ {x1 : Int32} {x2 : Int32} {x3 : Int32} {z : lc_S} {H : Heap} {locs : List Loc} {ls : Array Slot}, k12 x1 x2 x3 z = some (r, z') → lv_has ls 4 [(0, .ref (lc_ad G 9)), (1, .int x1), (2, .int x2), (3, .int x3)] → lc_H G z s.heap H locs → W p l e (lc_rm 0) s m args below meth c H locs 0 0 (MQ below (lc_Q G (some (.int r)) z') args s 0 0 (lc_A G)) (F0 m 12 ls [])) : ∀ {x1 : Int32} {x2 : Int32} {x3 : Int32} {z : lc_S} {H : Heap} {locs : List Loc} {ls : Array Slot}, fT_pairOf_42 k12 x1 x2 x3 z = some (r, z') → lv_has ls 4 [(0, .ref (lc_ad G 9)), (1, .int x1), (2, .int x2), (3, .int x3)] → lc_H G z s.heap H locs → W p l e (lc_rm 0) s m args below meth c H locs 0 0 (MQ below (lc_Q G (some (.int r)) z') args s 0 0 (lc_A G)) (F0 m 42 ls []) := by
  intro x1 x2 x3 z H locs ls hf hl hH
  rw [fT_pairOf_42] at hf
  obtain ⟨x42, e42⟩ : ∃ x : Int32, x = x3 + 1 := ⟨_, rfl⟩
  replace hf := lc_let_of e42 hf
  refine lv_iinc (k := 3) (v := x42) hx hb dT_pairOf_42 hl rfl ((lc_incv _ (by decide)).trans e42.symm) (by decide) rfl (fun ls hl => ?_)
  replace hl : lv_has ls 4 [(3, .int x42), (0, .ref (lc_ad G 9)), (1, .int x1), (2, .int x2)] := hl
  refine lv_goto (tgt := 12) hx hb dT_pairOf_45 (by decide) ?_
  exact hk12 hf (lv_sub hl [1, 2, 3, 0] rfl) hH
set_option maxHeartbeats 4000000 in
set_option maxRecDepth 100000 in
theorem bT_pairOf_138 {p : Program} {l : Launch} {e : Env} {s : State} {m : MethodId} {args : Array Value} {below : List Frame} {meth : Method} {c : Code} {G : lc_G} (hx : p.tables.exec = Jvm.exec) (hb : c.code = prog_7_method_7_code) (hml : c.maxLocals = 4) (hr : meth.sig.returnType = (some .int)) (hlocks : meth.locks = false) (hown : s.vm.findClass "LinearCells$Types" = some m.cls) (hts : ∀ w ∈ lc_ALL, w.before args s = true) (hE : lc_E G s) {r : Int32} {z' : lc_S} : ∀ {t1 : Int32} {t2 : Int32} {z : lc_S} {H : Heap} {locs : List Loc} {ls : Array Slot}, fT_pairOf_138 t1 t2 z = some (r, z') → lv_has ls 4 [(0, .ref (lc_ad G 9))] → lc_H G z s.heap H locs → W p l e (lc_rm 0) s m args below meth c H locs 0 0 (MQ below (lc_Q G (some (.int r)) z') args s 0 0 (lc_A G)) (F0 m 138 ls [.int t2, .int t1, .ref (lc_ad G 13)]) := by
  intro t1 t2 z H locs ls hf hl hH
  rw [fT_pairOf_138] at hf
  obtain ⟨hi138, hf⟩ := lc_chk_some hf
  obtain ⟨hn138, hf⟩ := lc_chk_some hf
  refine lc_zast hx hb hE hH lc_h13 rfl hi138 hn138 dT_pairOf_138 (fun H locs hH => ?_)
  refine lv_aload_n hx hb dT_pairOf_139 rfl (lv_at hl 0 rfl) ?_
  refine lv_dup hx hb dT_pairOf_140 rfl ?_
  refine lc_geti hx hb hts hown hE hH flT_27 lc_h9 rfl dT_pairOf_141 ?_
  refine lv_iconst (v := 1) hx hb dT_pairOf_144 (by decide) ?_
  refine lv_iadd hx hb dT_pairOf_145 ?_
  refine lc_puti hx hb hts hown hE hH fpT_27 lc_h9 rfl rfl rfl dT_pairOf_146 (fun H locs hH => ?_)
  refine lv_aload_n hx hb dT_pairOf_149 rfl (lv_at hl 0 rfl) ?_
  refine lc_geti hx hb hts hown hE hH flT_27 lc_h9 rfl dT_pairOf_150 ?_
  refine lv_iconst (v := 1) hx hb dT_pairOf_153 (by decide) ?_
  refine lv_isub hx hb dT_pairOf_154 ?_
  exact lc_iret hx hb hr hlocks hH hf dT_pairOf_155
set_option maxHeartbeats 4000000 in
set_option maxRecDepth 100000 in
theorem bT_pairOf_133 {p : Program} {l : Launch} {e : Env} {s : State} {m : MethodId} {args : Array Value} {below : List Frame} {meth : Method} {c : Code} {G : lc_G} (hx : p.tables.exec = Jvm.exec) (hb : c.code = prog_7_method_7_code) (hml : c.maxLocals = 4) (hr : meth.sig.returnType = (some .int)) (hlocks : meth.locks = false) (hown : s.vm.findClass "LinearCells$Types" = some m.cls) (hts : ∀ w ∈ lc_ALL, w.before args s = true) (hE : lc_E G s) {r : Int32} {z' : lc_S} : ∀ {t1 : Int32} {z : lc_S} {H : Heap} {locs : List Loc} {ls : Array Slot}, fT_pairOf_133 t1 z = some (r, z') → lv_has ls 4 [(0, .ref (lc_ad G 9))] → lc_H G z s.heap H locs → W p l e (lc_rm 0) s m args below meth c H locs 0 0 (MQ below (lc_Q G (some (.int r)) z') args s 0 0 (lc_A G)) (F0 m 133 ls [.int t1, .ref (lc_ad G 13)]) := by
  intro t1 z H locs ls hf hl hH
  rw [fT_pairOf_133] at hf
  refine lv_iconst (v := 1) hx hb dT_pairOf_133 (by decide) ?_
  refine lv_goto (tgt := 138) hx hb dT_pairOf_134 (by decide) ?_
  exact bT_pairOf_138 hx hb hml hr hlocks hown hts hE hf (lv_sub hl [0] rfl) hH
set_option maxHeartbeats 4000000 in
set_option maxRecDepth 100000 in
theorem bT_pairOf_12 {p : Program} {l : Launch} {e : Env} {s : State} {m : MethodId} {args : Array Value} {below : List Frame} {meth : Method} {c : Code} {G : lc_G} (hx : p.tables.exec = Jvm.exec) (hb : c.code = prog_7_method_7_code) (hml : c.maxLocals = 4) (hr : meth.sig.returnType = (some .int)) (hlocks : meth.locks = false) (hown : s.vm.findClass "LinearCells$Types" = some m.cls) (hts : ∀ w ∈ lc_ALL, w.before args s = true) (hE : lc_E G s) {r : Int32} {z' : lc_S} : ∀ (n : Nat) {x1 : Int32} {x2 : Int32} {x3 : Int32} {z : lc_S} {H : Heap} {locs : List Loc} {ls : Array Slot}, fT_pairOf_12 n x1 x2 x3 z = some (r, z') → lv_has ls 4 [(0, .ref (lc_ad G 9)), (1, .int x1), (2, .int x2), (3, .int x3)] → lc_H G z s.heap H locs → W p l e (lc_rm 0) s m args below meth c H locs 0 0 (MQ below (lc_Q G (some (.int r)) z') args s 0 0 (lc_A G)) (F0 m 12 ls []) := by
  intro n
  induction n with
  | zero =>
    intro x1 x2 x3 z H locs ls hf hl hH
    exact absurd (show (none : Option ((Int32) × lc_S)) = some (r, z') from hf) (fun h => by cases h)
  | succ n ih =>
    intro x1 x2 x3 z H locs ls hf hl hH
    rw [fT_pairOf_12] at hf
    refine lv_iload_n hx hb dT_pairOf_12 rfl (lv_at hl 3 rfl) ?_
    refine lv_aload_n hx hb dT_pairOf_13 rfl (lv_at hl 0 rfl) ?_
    refine lc_geti hx hb hts hown hE hH flT_27 lc_h9 rfl dT_pairOf_14 ?_
    refine lv_icmp_ge (tgt := 48) hx hb dT_pairOf_17 (by decide) (fun hc => ?_) (fun hc => ?_)
    · replace hf := lc_ite_pos hc hf
      refine lv_aload_n hx hb dT_pairOf_48 rfl (lv_at hl 0 rfl) ?_
      refine lc_geti hx hb hts hown hE hH flT_27 lc_h9 rfl dT_pairOf_49 ?_
      refine lv_sipush (v := 243) hx hb dT_pairOf_52 (by decide) ?_
      refine lv_icmp_lt (tgt := 60) hx hb dT_pairOf_55 (by decide) (fun hc => ?_) (fun hc => ?_)
      · replace hf := lc_ite_pos hc hf
        refine lv_aload_n hx hb dT_pairOf_60 rfl (lv_at hl 0 rfl) ?_
        refine lc_getf (d := 1) (q := 10) hx hb hts hown hE hH flT_13 lc_h9 rfl rfl dT_pairOf_61 ?_
        refine lv_aload_n hx hb dT_pairOf_64 rfl (lv_at hl 0 rfl) ?_
        refine lc_geti hx hb hts hown hE hH flT_27 lc_h9 rfl dT_pairOf_65 ?_
        refine lv_iload_n hx hb dT_pairOf_68 rfl (lv_at hl 1 rfl) ?_
        obtain ⟨hi69, hf⟩ := lc_chk_some hf
        refine lc_iast hx hb hE hH lc_h10 rfl hi69 dT_pairOf_69 (fun H locs hH => ?_)
        refine lv_aload_n hx hb dT_pairOf_70 rfl (lv_at hl 0 rfl) ?_
        refine lc_getf (d := 2) (q := 11) hx hb hts hown hE hH flT_17 lc_h9 rfl rfl dT_pairOf_71 ?_
        refine lv_aload_n hx hb dT_pairOf_74 rfl (lv_at hl 0 rfl) ?_
        refine lc_geti hx hb hts hown hE hH flT_27 lc_h9 rfl dT_pairOf_75 ?_
        refine lv_iload_n hx hb dT_pairOf_78 rfl (lv_at hl 2 rfl) ?_
        obtain ⟨hi79, hf⟩ := lc_chk_some hf
        refine lc_iast hx hb hE hH lc_h11 rfl hi79 dT_pairOf_79 (fun H locs hH => ?_)
        refine lv_aload_n hx hb dT_pairOf_80 rfl (lv_at hl 0 rfl) ?_
        refine lc_getf (d := 3) (q := 12) hx hb hts hown hE hH flT_20 lc_h9 rfl rfl dT_pairOf_81 ?_
        refine lv_aload_n hx hb dT_pairOf_84 rfl (lv_at hl 0 rfl) ?_
        refine lc_geti hx hb hts hown hE hH flT_27 lc_h9 rfl dT_pairOf_85 ?_
        refine lv_bipush (v := 8) hx hb dT_pairOf_88 (by decide) ?_
        refine lv_aload_n hx hb dT_pairOf_90 rfl (lv_at hl 0 rfl) ?_
        refine lc_getf (d := 3) (q := 12) hx hb hts hown hE hH flT_20 lc_h9 rfl rfl dT_pairOf_91 ?_
        refine lv_iload_n hx hb dT_pairOf_94 rfl (lv_at hl 1 rfl) ?_
        obtain ⟨hi95, hf⟩ := lc_chk_some hf
        refine lc_iald hx hb hE hH lc_h12 rfl hi95 dT_pairOf_95 ?_
        refine lv_imul hx hb dT_pairOf_96 ?_
        refine lv_aload_n hx hb dT_pairOf_97 rfl (lv_at hl 0 rfl) ?_
        refine lc_getf (d := 3) (q := 12) hx hb hts hown hE hH flT_20 lc_h9 rfl rfl dT_pairOf_98 ?_
        refine lv_iload_n hx hb dT_pairOf_101 rfl (lv_at hl 2 rfl) ?_
        obtain ⟨hi102, hf⟩ := lc_chk_some hf
        refine lc_iald hx hb hE hH lc_h12 rfl hi102 dT_pairOf_102 ?_
        refine lv_iadd hx hb dT_pairOf_103 ?_
        refine lv_iconst (v := 3) hx hb dT_pairOf_104 (by decide) ?_
        refine lv_iadd hx hb dT_pairOf_105 ?_
        obtain ⟨hi106, hf⟩ := lc_chk_some hf
        refine lc_iast hx hb hE hH lc_h12 rfl hi106 dT_pairOf_106 (fun H locs hH => ?_)
        refine lv_aload_n hx hb dT_pairOf_107 rfl (lv_at hl 0 rfl) ?_
        refine lc_getf (d := 4) (q := 13) hx hb hts hown hE hH flT_23 lc_h9 rfl rfl dT_pairOf_108 ?_
        refine lv_aload_n hx hb dT_pairOf_111 rfl (lv_at hl 0 rfl) ?_
        refine lc_geti hx hb hts hown hE hH flT_27 lc_h9 rfl dT_pairOf_112 ?_
        refine lv_aload_n hx hb dT_pairOf_115 rfl (lv_at hl 0 rfl) ?_
        refine lc_getf (d := 4) (q := 13) hx hb hts hown hE hH flT_23 lc_h9 rfl rfl dT_pairOf_116 ?_
        refine lv_iload_n hx hb dT_pairOf_119 rfl (lv_at hl 1 rfl) ?_
        obtain ⟨hi120, hf⟩ := lc_chk_some hf
        refine lc_zald hx hb hE hH lc_h13 rfl hi120 dT_pairOf_120 ?_
        refine lv_if_ne (tgt := 133) hx hb dT_pairOf_121 (by decide) (fun hc => ?_) (fun hc => ?_)
        · replace hf := lc_ite_neg hc hf
          exact bT_pairOf_133 hx hb hml hr hlocks hown hts hE hf (lv_sub hl [0] rfl) hH
        · replace hf := lc_ite_pos hc hf
          refine lv_aload_n hx hb dT_pairOf_124 rfl (lv_at hl 0 rfl) ?_
          refine lc_getf (d := 4) (q := 13) hx hb hts hown hE hH flT_23 lc_h9 rfl rfl dT_pairOf_125 ?_
          refine lv_iload_n hx hb dT_pairOf_128 rfl (lv_at hl 2 rfl) ?_
          obtain ⟨hi129, hf⟩ := lc_chk_some hf
          refine lc_zald hx hb hE hH lc_h13 rfl hi129 dT_pairOf_129 ?_
          refine lv_if_eq (tgt := 137) hx hb dT_pairOf_130 (by decide) (fun hc => ?_) (fun hc => ?_)
          · replace hf := lc_ite_pos hc hf
            refine lv_iconst (v := 0) hx hb dT_pairOf_137 (by decide) ?_
            exact bT_pairOf_138 hx hb hml hr hlocks hown hts hE hf (lv_sub hl [0] rfl) hH
          · replace hf := lc_ite_neg hc hf
            exact bT_pairOf_133 hx hb hml hr hlocks hown hts hE hf (lv_sub hl [0] rfl) hH
      · replace hf := lc_ite_neg hc hf
        refine lv_iconst (v := 0) hx hb dT_pairOf_58 (by decide) ?_
        exact lc_iret hx hb hr hlocks hH hf dT_pairOf_59
    · replace hf := lc_ite_neg hc hf
      refine lv_aload_n hx hb dT_pairOf_20 rfl (lv_at hl 0 rfl) ?_
      refine lc_getf (d := 1) (q := 10) hx hb hts hown hE hH flT_13 lc_h9 rfl rfl dT_pairOf_21 ?_
      refine lv_iload_n hx hb dT_pairOf_24 rfl (lv_at hl 3 rfl) ?_
      obtain ⟨hi25, hf⟩ := lc_chk_some hf
      refine lc_iald hx hb hE hH lc_h10 rfl hi25 dT_pairOf_25 ?_
      refine lv_iload_n hx hb dT_pairOf_26 rfl (lv_at hl 1 rfl) ?_
      refine lv_icmp_ne (tgt := 42) hx hb dT_pairOf_27 (by decide) (fun hc => ?_) (fun hc => ?_)
      · replace hf := lc_ite_neg hc hf
        exact bT_pairOf_42 hx hb hml hr hlocks hown hts hE (fun hf hl hH => ih hf hl hH) hf (lv_sub hl [0, 1, 2, 3] rfl) hH
      · replace hf := lc_ite_pos hc hf
        refine lv_aload_n hx hb dT_pairOf_30 rfl (lv_at hl 0 rfl) ?_
        refine lc_getf (d := 2) (q := 11) hx hb hts hown hE hH flT_17 lc_h9 rfl rfl dT_pairOf_31 ?_
        refine lv_iload_n hx hb dT_pairOf_34 rfl (lv_at hl 3 rfl) ?_
        obtain ⟨hi35, hf⟩ := lc_chk_some hf
        refine lc_iald hx hb hE hH lc_h11 rfl hi35 dT_pairOf_35 ?_
        refine lv_iload_n hx hb dT_pairOf_36 rfl (lv_at hl 2 rfl) ?_
        refine lv_icmp_ne (tgt := 42) hx hb dT_pairOf_37 (by decide) (fun hc => ?_) (fun hc => ?_)
        · replace hf := lc_ite_neg hc hf
          exact bT_pairOf_42 hx hb hml hr hlocks hown hts hE (fun hf hl hH => ih hf hl hH) hf (lv_sub hl [0, 1, 2, 3] rfl) hH
        · replace hf := lc_ite_pos hc hf
          refine lv_iload_n hx hb dT_pairOf_40 rfl (lv_at hl 3 rfl) ?_
          exact lc_iret hx hb hr hlocks hH hf dT_pairOf_41
set_option maxHeartbeats 4000000 in
set_option maxRecDepth 100000 in
theorem cT_pairOf (l : Launch) (G : lc_G) {a1 : Int32} {a2 : Int32} {r : Int32} {z z' : lc_S} (hf : fT_pairOf a1 a2 z = some (r, z')) : lc_M l G yT_pairOf wT_pairOf 0 [.ref (lc_ad G 9), .int a1, .int a2] z (some (.int r)) z' := by
  refine lc_M_of (cc := prog_7_method_7_code) (maxL := 4) (ret := (some .int)) (own := "LinearCells$Types") (by decide) rfl (fun w h => List.mem_cons_of_mem _ h) (Nat.le_of_ble_eq_true rfl) rfl ?_
  intro p e s m below meth c hx hb hml hr hlocks hown hts hE ls hl hH
  replace hl : lv_has ls 4 [(0, .ref (lc_ad G 9)), (1, .int a1), (2, .int a2)] := hl
  rw [fT_pairOf] at hf
  refine lv_iload_n hx hb dT_pairOf_0 rfl (lv_at hl 1 rfl) ?_
  refine lv_if_eq (tgt := 8) hx hb dT_pairOf_1 (by decide) (fun hc => ?_) (fun hc => ?_)
  · replace hf := lc_ite_pos hc hf
    exact bT_pairOf_8 hx hb hml hr hlocks hown hts hE hf (lv_sub hl [] rfl) hH
  · replace hf := lc_ite_neg hc hf
    refine lv_iload_n hx hb dT_pairOf_4 rfl (lv_at hl 2 rfl) ?_
    refine lv_if_ne (tgt := 10) hx hb dT_pairOf_5 (by decide) (fun hc => ?_) (fun hc => ?_)
    · replace hf := lc_ite_neg hc hf
      refine lv_iconst (v := 3) hx hb dT_pairOf_10 (by decide) ?_
      refine lv_istore_n hx hb dT_pairOf_11 rfl hl (by decide) rfl (fun ls hl => ?_)
      replace hl : lv_has ls 4 [(3, .int 3), (0, .ref (lc_ad G 9)), (1, .int a1), (2, .int a2)] := hl
      exact bT_pairOf_12 hx hb hml hr hlocks hown hts hE _ hf (lv_sub hl [1, 2, 3, 0] rfl) hH
    · replace hf := lc_ite_pos hc hf
      exact bT_pairOf_8 hx hb hml hr hlocks hown hts hE hf (lv_sub hl [] rfl) hH
theorem dT_written_0 : decode prog_7_method_8_code 0 = .ok (.iconst 0, 1) := by decide +kernel
theorem dT_written_1 : decode prog_7_method_8_code 1 = .ok (.istore 4, 2) := by decide +kernel
theorem dT_written_3 : decode prog_7_method_8_code 3 = .ok (.iload_n 2, 1) := by decide +kernel
theorem dT_written_4 : decode prog_7_method_8_code 4 = .ok (.istore 5, 2) := by decide +kernel
theorem dT_written_6 : decode prog_7_method_8_code 6 = .ok (.iload 5, 2) := by decide +kernel
theorem dT_written_8 : decode prog_7_method_8_code 8 = .ok (.iload_n 3, 1) := by decide +kernel
theorem dT_written_9 : decode prog_7_method_8_code 9 = .ok (.if_icmp .ge 83, 3) := by decide +kernel
theorem dT_written_12 : decode prog_7_method_8_code 12 = .ok (.aload_n 1, 1) := by decide +kernel
theorem dT_written_13 : decode prog_7_method_8_code 13 = .ok (.getfield 34, 3) := by decide +kernel
theorem dT_written_16 : decode prog_7_method_8_code 16 = .ok (.iload 5, 2) := by decide +kernel
theorem dT_written_18 : decode prog_7_method_8_code 18 = .ok (.iaload, 1) := by decide +kernel
theorem dT_written_19 : decode prog_7_method_8_code 19 = .ok (.istore 6, 2) := by decide +kernel
theorem dT_written_21 : decode prog_7_method_8_code 21 = .ok (.iload 6, 2) := by decide +kernel
theorem dT_written_23 : decode prog_7_method_8_code 23 = .ok (.iconst 3, 1) := by decide +kernel
theorem dT_written_24 : decode prog_7_method_8_code 24 = .ok (.if_icmp .eq 24, 3) := by decide +kernel
theorem dT_written_27 : decode prog_7_method_8_code 27 = .ok (.iload 4, 2) := by decide +kernel
theorem dT_written_29 : decode prog_7_method_8_code 29 = .ok (.iconst 5, 1) := by decide +kernel
theorem dT_written_30 : decode prog_7_method_8_code 30 = .ok (.if_icmp .ge 18, 3) := by decide +kernel
theorem dT_written_33 : decode prog_7_method_8_code 33 = .ok (.aload_n 0, 1) := by decide +kernel
theorem dT_written_34 : decode prog_7_method_8_code 34 = .ok (.getfield 31, 3) := by decide +kernel
theorem dT_written_37 : decode prog_7_method_8_code 37 = .ok (.iload 4, 2) := by decide +kernel
theorem dT_written_39 : decode prog_7_method_8_code 39 = .ok (.iload 6, 2) := by decide +kernel
theorem dT_written_41 : decode prog_7_method_8_code 41 = .ok (.iastore, 1) := by decide +kernel
theorem dT_written_42 : decode prog_7_method_8_code 42 = .ok (.iinc 4 1, 3) := by decide +kernel
theorem dT_written_45 : decode prog_7_method_8_code 45 = .ok (.goto 41, 3) := by decide +kernel
theorem dT_written_48 : decode prog_7_method_8_code 48 = .ok (.iload 4, 2) := by decide +kernel
theorem dT_written_50 : decode prog_7_method_8_code 50 = .ok (.iconst 2, 1) := by decide +kernel
theorem dT_written_51 : decode prog_7_method_8_code 51 = .ok (.if_icmp .lt 35, 3) := by decide +kernel
theorem dT_written_54 : decode prog_7_method_8_code 54 = .ok (.iinc 4 (-1), 3) := by decide +kernel
theorem dT_written_57 : decode prog_7_method_8_code 57 = .ok (.aload_n 0, 1) := by decide +kernel
theorem dT_written_58 : decode prog_7_method_8_code 58 = .ok (.getfield 31, 3) := by decide +kernel
theorem dT_written_61 : decode prog_7_method_8_code 61 = .ok (.iload 4, 2) := by decide +kernel
theorem dT_written_63 : decode prog_7_method_8_code 63 = .ok (.iconst 1, 1) := by decide +kernel
theorem dT_written_64 : decode prog_7_method_8_code 64 = .ok (.isub, 1) := by decide +kernel
theorem dT_written_65 : decode prog_7_method_8_code 65 = .ok (.aload_n 0, 1) := by decide +kernel
theorem dT_written_66 : decode prog_7_method_8_code 66 = .ok (.aload_n 0, 1) := by decide +kernel
theorem dT_written_67 : decode prog_7_method_8_code 67 = .ok (.getfield 31, 3) := by decide +kernel
theorem dT_written_70 : decode prog_7_method_8_code 70 = .ok (.iload 4, 2) := by decide +kernel
theorem dT_written_72 : decode prog_7_method_8_code 72 = .ok (.iconst 1, 1) := by decide +kernel
theorem dT_written_73 : decode prog_7_method_8_code 73 = .ok (.isub, 1) := by decide +kernel
theorem dT_written_74 : decode prog_7_method_8_code 74 = .ok (.iaload, 1) := by decide +kernel
theorem dT_written_75 : decode prog_7_method_8_code 75 = .ok (.aload_n 0, 1) := by decide +kernel
theorem dT_written_76 : decode prog_7_method_8_code 76 = .ok (.getfield 31, 3) := by decide +kernel
theorem dT_written_79 : decode prog_7_method_8_code 79 = .ok (.iload 4, 2) := by decide +kernel
theorem dT_written_81 : decode prog_7_method_8_code 81 = .ok (.iaload, 1) := by decide +kernel
theorem dT_written_82 : decode prog_7_method_8_code 82 = .ok (.invokevirtual 37, 3) := by decide +kernel
theorem dT_written_85 : decode prog_7_method_8_code 85 = .ok (.iastore, 1) := by decide +kernel
theorem dT_written_86 : decode prog_7_method_8_code 86 = .ok (.iinc 5 1, 3) := by decide +kernel
theorem dT_written_89 : decode prog_7_method_8_code 89 = .ok (.goto (-83), 3) := by decide +kernel
theorem dT_written_92 : decode prog_7_method_8_code 92 = .ok (.iload 4, 2) := by decide +kernel
theorem dT_written_94 : decode prog_7_method_8_code 94 = .ok (.iconst 1, 1) := by decide +kernel
theorem dT_written_95 : decode prog_7_method_8_code 95 = .ok (.if_icmp .ne 12, 3) := by decide +kernel
theorem dT_written_98 : decode prog_7_method_8_code 98 = .ok (.aload_n 0, 1) := by decide +kernel
theorem dT_written_99 : decode prog_7_method_8_code 99 = .ok (.getfield 31, 3) := by decide +kernel
theorem dT_written_102 : decode prog_7_method_8_code 102 = .ok (.iconst 0, 1) := by decide +kernel
theorem dT_written_103 : decode prog_7_method_8_code 103 = .ok (.iaload, 1) := by decide +kernel
theorem dT_written_104 : decode prog_7_method_8_code 104 = .ok (.goto 4, 3) := by decide +kernel
theorem dT_written_107 : decode prog_7_method_8_code 107 = .ok (.iconst 0, 1) := by decide +kernel
theorem dT_written_108 : decode prog_7_method_8_code 108 = .ok (.ireturn, 1) := by decide +kernel
def fT_written_86 (k6 : Nat → Int32 → Int32 → Int32 → lc_S → Option ((Int32) × lc_S)) (p1 : Nat) (x3 : Int32) (x4 : Int32) (x5 : Int32) (z : lc_S) : Option ((Int32) × lc_S) :=
  lc_let (x5 + 1) (fun x86 => k6 p1 x3 x4 x86 z)
def fT_written_48 (k6 : Nat → Int32 → Int32 → Int32 → lc_S → Option ((Int32) × lc_S)) (p1 : Nat) (x3 : Int32) (x4 : Int32) (x5 : Int32) (z : lc_S) : Option ((Int32) × lc_S) :=
  if x4 < 2 then (fT_written_86 k6 p1 x3 x4 x5 z) else (lc_let (x4 + (-1)) (fun x54 => lc_chk (lc_in (x54 - 1) 5) (lc_chk (lc_in x54 5) (lc_bnd (fT_pairOf (lcI z 14 (x54 - 1).toNatClampNeg) (lcI z 14 x54.toNatClampNeg) z) (fun r82 z82 => lc_chk (lc_in (x54 - 1) 5) (fT_written_86 k6 p1 x3 x54 x5 (lcUI z82 14 (x54 - 1).toNatClampNeg r82)))))))
def fT_written_6 : Nat → Nat → Int32 → Int32 → Int32 → lc_S → Option ((Int32) × lc_S)
  | 0, _, _, _, _, _ => none
  | n + 1, p1, x3, x4, x5, z => if x3 ≤ x5 then (if x4 = 1 then (some (lcI z 14 (0 : Int32).toNatClampNeg, z)) else (some (0, z))) else (lc_chk (lc_sh p1 = (0, 1, 0)) (lc_chk (lc_in x5 62) (lc_let (lcI z (p1 + 1) x5.toNatClampNeg) (fun x19 => if x19 = 3 then (fT_written_48 (fT_written_6 n) p1 x3 x4 x5 z) else (if 5 ≤ x4 then (fT_written_48 (fT_written_6 n) p1 x3 x4 x5 z) else (lc_chk (lc_in x4 5) (lc_let (x4 + 1) (fun x42 => fT_written_86 (fT_written_6 n) p1 x3 x42 x5 (lcUI z 14 x4.toNatClampNeg x19)))))))))
def fT_written (a1 : Nat) (a2 : Int32) (a3 : Int32) (z : lc_S) : Option ((Int32) × lc_S) :=
  fT_written_6 lc_FU a1 a3 0 a2 z
set_option maxHeartbeats 4000000 in
set_option maxRecDepth 100000 in
theorem bT_written_86 {p : Program} {l : Launch} {e : Env} {s : State} {m : MethodId} {args : Array Value} {below : List Frame} {meth : Method} {c : Code} {G : lc_G} (hx : p.tables.exec = Jvm.exec) (hb : c.code = prog_7_method_8_code) (hml : c.maxLocals = 7) (hr : meth.sig.returnType = (some .int)) (hlocks : meth.locks = false) (hown : s.vm.findClass "LinearCells$Types" = some m.cls) (hts : ∀ w ∈ lc_ALL, w.before args s = true) (hE : lc_E G s) {k6 : Nat → Int32 → Int32 → Int32 → lc_S → Option ((Int32) × lc_S)} {r : Int32} {z' : lc_S} (hk6 : ∀ {p1 : Nat} {x3 : Int32} {x4 : Int32} {x5 : Int32} {z : lc_S} {H : Heap} {locs : List Loc} {ls : Array Slot}, k6 p1 x3 x4 x5 z = some (r, z') → lv_has ls 7 [(0, .ref (lc_ad G 9)), (1, .ref (lc_ad G p1)), (3, .int x3), (4, .int x4), (5, .int x5)] → lc_H G z s.heap H locs → W p l e (lc_rm 1) s m args below meth c H locs 0 0 (MQ below (lc_Q G (some (.int r)) z') args s 0 0 (lc_A G)) (F0 m 6 ls [])) : ∀ {p1 : Nat} {x3 : Int32} {x4 : Int32} {x5 : Int32} {z : lc_S} {H : Heap} {locs : List Loc} {ls : Array Slot}, fT_written_86 k6 p1 x3 x4 x5 z = some (r, z') → lv_has ls 7 [(0, .ref (lc_ad G 9)), (1, .ref (lc_ad G p1)), (3, .int x3), (4, .int x4), (5, .int x5)] → lc_H G z s.heap H locs → W p l e (lc_rm 1) s m args below meth c H locs 0 0 (MQ below (lc_Q G (some (.int r)) z') args s 0 0 (lc_A G)) (F0 m 86 ls []) := by
  intro p1 x3 x4 x5 z H locs ls hf hl hH
  rw [fT_written_86] at hf
  obtain ⟨x86, e86⟩ : ∃ x : Int32, x = x5 + 1 := ⟨_, rfl⟩
  replace hf := lc_let_of e86 hf
  refine lv_iinc (k := 4) (v := x86) hx hb dT_written_86 hl rfl ((lc_incv _ (by decide)).trans e86.symm) (by decide) rfl (fun ls hl => ?_)
  replace hl : lv_has ls 7 [(5, .int x86), (0, .ref (lc_ad G 9)), (1, .ref (lc_ad G p1)), (3, .int x3), (4, .int x4)] := hl
  refine lv_goto (tgt := 6) hx hb dT_written_89 (by decide) ?_
  exact hk6 hf (lv_sub hl [1, 2, 3, 4, 0] rfl) hH
set_option maxHeartbeats 4000000 in
set_option maxRecDepth 100000 in
theorem bT_written_48 {p : Program} {l : Launch} {e : Env} {s : State} {m : MethodId} {args : Array Value} {below : List Frame} {meth : Method} {c : Code} {G : lc_G} (hx : p.tables.exec = Jvm.exec) (hb : c.code = prog_7_method_8_code) (hml : c.maxLocals = 7) (hr : meth.sig.returnType = (some .int)) (hlocks : meth.locks = false) (hown : s.vm.findClass "LinearCells$Types" = some m.cls) (hts : ∀ w ∈ lc_ALL, w.before args s = true) (hE : lc_E G s) {k6 : Nat → Int32 → Int32 → Int32 → lc_S → Option ((Int32) × lc_S)} {r : Int32} {z' : lc_S} (hk6 : ∀ {p1 : Nat} {x3 : Int32} {x4 : Int32} {x5 : Int32} {z : lc_S} {H : Heap} {locs : List Loc} {ls : Array Slot}, k6 p1 x3 x4 x5 z = some (r, z') → lv_has ls 7 [(0, .ref (lc_ad G 9)), (1, .ref (lc_ad G p1)), (3, .int x3), (4, .int x4), (5, .int x5)] → lc_H G z s.heap H locs → W p l e (lc_rm 1) s m args below meth c H locs 0 0 (MQ below (lc_Q G (some (.int r)) z') args s 0 0 (lc_A G)) (F0 m 6 ls [])) : ∀ {p1 : Nat} {x3 : Int32} {x4 : Int32} {x5 : Int32} {z : lc_S} {H : Heap} {locs : List Loc} {ls : Array Slot}, fT_written_48 k6 p1 x3 x4 x5 z = some (r, z') → lv_has ls 7 [(0, .ref (lc_ad G 9)), (1, .ref (lc_ad G p1)), (3, .int x3), (4, .int x4), (5, .int x5)] → lc_H G z s.heap H locs → W p l e (lc_rm 1) s m args below meth c H locs 0 0 (MQ below (lc_Q G (some (.int r)) z') args s 0 0 (lc_A G)) (F0 m 48 ls []) := by
  intro p1 x3 x4 x5 z H locs ls hf hl hH
  rw [fT_written_48] at hf
  refine lv_iload hx hb dT_written_48 (lv_at hl 3 rfl) ?_
  refine lv_iconst (v := 2) hx hb dT_written_50 (by decide) ?_
  refine lv_icmp_lt (tgt := 86) hx hb dT_written_51 (by decide) (fun hc => ?_) (fun hc => ?_)
  · replace hf := lc_ite_pos hc hf
    exact bT_written_86 hx hb hml hr hlocks hown hts hE (fun hf hl hH => hk6 hf hl hH) hf (lv_sub hl [0, 1, 2, 3, 4] rfl) hH
  · replace hf := lc_ite_neg hc hf
    obtain ⟨x54, e54⟩ : ∃ x : Int32, x = x4 + (-1) := ⟨_, rfl⟩
    replace hf := lc_let_of e54 hf
    refine lv_iinc (k := 3) (v := x54) hx hb dT_written_54 hl rfl ((lc_incv _ (by decide)).trans e54.symm) (by decide) rfl (fun ls hl => ?_)
    replace hl : lv_has ls 7 [(4, .int x54), (0, .ref (lc_ad G 9)), (1, .ref (lc_ad G p1)), (3, .int x3), (5, .int x5)] := hl
    refine lv_aload_n hx hb dT_written_57 rfl (lv_at hl 1 rfl) ?_
    refine lc_getf (d := 5) (q := 14) hx hb hts hown hE hH flT_31 lc_h9 rfl rfl dT_written_58 ?_
    refine lv_iload hx hb dT_written_61 (lv_at hl 0 rfl) ?_
    refine lv_iconst (v := 1) hx hb dT_written_63 (by decide) ?_
    refine lv_isub hx hb dT_written_64 ?_
    refine lv_aload_n hx hb dT_written_65 rfl (lv_at hl 1 rfl) ?_
    refine lv_aload_n hx hb dT_written_66 rfl (lv_at hl 1 rfl) ?_
    refine lc_getf (d := 5) (q := 14) hx hb hts hown hE hH flT_31 lc_h9 rfl rfl dT_written_67 ?_
    refine lv_iload hx hb dT_written_70 (lv_at hl 0 rfl) ?_
    refine lv_iconst (v := 1) hx hb dT_written_72 (by decide) ?_
    refine lv_isub hx hb dT_written_73 ?_
    obtain ⟨hi74, hf⟩ := lc_chk_some hf
    refine lc_iald hx hb hE hH lc_h14 rfl hi74 dT_written_74 ?_
    refine lv_aload_n hx hb dT_written_75 rfl (lv_at hl 1 rfl) ?_
    refine lc_getf (d := 5) (q := 14) hx hb hts hown hE hH flT_31 lc_h9 rfl rfl dT_written_76 ?_
    refine lv_iload hx hb dT_written_79 (lv_at hl 0 rfl) ?_
    obtain ⟨hi81, hf⟩ := lc_chk_some hf
    refine lc_iald hx hb hE hH lc_h14 rfl hi81 dT_written_81 ?_
    obtain ⟨r82, z82, h82, hf⟩ := lc_bnd_some hf
    refine lc_calli (va_runV (As := [.int (lcI z 14 (x54 - 1).toNatClampNeg), .int (lcI z 14 x54.toNatClampNeg)]) (rest := [.int (x54 - 1), .ref (lc_ad G 14)]) ⟨hx, hb, hml, hown, hts⟩ (cT_pairOf l G h82) (lc_cwV hts kvT_37 (lc_room (by decide) (by decide))) (lc_preV hE hH lc_h9 rfl _) rfl rfl hl.1 rfl (lv_room (Nat.le_of_ble_eq_true rfl)) dT_written_82 ⟨Nat.zero_le _, Nat.zero_le _⟩) hH (fun H locs hH => ?_)
    obtain ⟨hi85, hf⟩ := lc_chk_some hf
    refine lc_iast hx hb hE hH lc_h14 rfl hi85 dT_written_85 (fun H locs hH => ?_)
    exact bT_written_86 hx hb hml hr hlocks hown hts hE (fun hf hl hH => hk6 hf hl hH) hf (lv_sub hl [1, 2, 3, 0, 4] rfl) hH
set_option maxHeartbeats 4000000 in
set_option maxRecDepth 100000 in
theorem bT_written_6 {p : Program} {l : Launch} {e : Env} {s : State} {m : MethodId} {args : Array Value} {below : List Frame} {meth : Method} {c : Code} {G : lc_G} (hx : p.tables.exec = Jvm.exec) (hb : c.code = prog_7_method_8_code) (hml : c.maxLocals = 7) (hr : meth.sig.returnType = (some .int)) (hlocks : meth.locks = false) (hown : s.vm.findClass "LinearCells$Types" = some m.cls) (hts : ∀ w ∈ lc_ALL, w.before args s = true) (hE : lc_E G s) {r : Int32} {z' : lc_S} : ∀ (n : Nat) {p1 : Nat} {x3 : Int32} {x4 : Int32} {x5 : Int32} {z : lc_S} {H : Heap} {locs : List Loc} {ls : Array Slot}, fT_written_6 n p1 x3 x4 x5 z = some (r, z') → lv_has ls 7 [(0, .ref (lc_ad G 9)), (1, .ref (lc_ad G p1)), (3, .int x3), (4, .int x4), (5, .int x5)] → lc_H G z s.heap H locs → W p l e (lc_rm 1) s m args below meth c H locs 0 0 (MQ below (lc_Q G (some (.int r)) z') args s 0 0 (lc_A G)) (F0 m 6 ls []) := by
  intro n
  induction n with
  | zero =>
    intro p1 x3 x4 x5 z H locs ls hf hl hH
    exact absurd (show (none : Option ((Int32) × lc_S)) = some (r, z') from hf) (fun h => by cases h)
  | succ n ih =>
    intro p1 x3 x4 x5 z H locs ls hf hl hH
    rw [fT_written_6] at hf
    refine lv_iload hx hb dT_written_6 (lv_at hl 4 rfl) ?_
    refine lv_iload_n hx hb dT_written_8 rfl (lv_at hl 2 rfl) ?_
    refine lv_icmp_ge (tgt := 92) hx hb dT_written_9 (by decide) (fun hc => ?_) (fun hc => ?_)
    · replace hf := lc_ite_pos hc hf
      refine lv_iload hx hb dT_written_92 (lv_at hl 3 rfl) ?_
      refine lv_iconst (v := 1) hx hb dT_written_94 (by decide) ?_
      refine lv_icmp_ne (tgt := 107) hx hb dT_written_95 (by decide) (fun hc => ?_) (fun hc => ?_)
      · replace hf := lc_ite_neg hc hf
        refine lv_iconst (v := 0) hx hb dT_written_107 (by decide) ?_
        exact lc_iret hx hb hr hlocks hH hf dT_written_108
      · replace hf := lc_ite_pos hc hf
        refine lv_aload_n hx hb dT_written_98 rfl (lv_at hl 0 rfl) ?_
        refine lc_getf (d := 5) (q := 14) hx hb hts hown hE hH flT_31 lc_h9 rfl rfl dT_written_99 ?_
        refine lv_iconst (v := 0) hx hb dT_written_102 (by decide) ?_
        refine lc_iald hx hb hE hH lc_h14 rfl (by decide) dT_written_103 ?_
        refine lv_goto (tgt := 108) hx hb dT_written_104 (by decide) ?_
        exact lc_iret hx hb hr hlocks hH hf dT_written_108
    · replace hf := lc_ite_neg hc hf
      refine lv_aload_n hx hb dT_written_12 rfl (lv_at hl 1 rfl) ?_
      obtain ⟨hs13_0, hf⟩ := lc_chk_some hf
      refine lc_getf (d := 1) (q := p1 + 1) hx hb hts hown hE hH flT_34 hs13_0 rfl rfl dT_written_13 ?_
      refine lv_iload hx hb dT_written_16 (lv_at hl 4 rfl) ?_
      obtain ⟨hi18, hf⟩ := lc_chk_some hf
      refine lc_iald hx hb hE hH (lc_pr1 hs13_0) rfl hi18 dT_written_18 ?_
      refine lv_topi (fun x19 e19 => ?_)
      replace hf := lc_let_of e19 hf
      refine lv_istore hx hb dT_written_19 hl (by decide) rfl (fun ls hl => ?_)
      replace hl : lv_has ls 7 [(6, .int x19), (0, .ref (lc_ad G 9)), (1, .ref (lc_ad G p1)), (3, .int x3), (4, .int x4), (5, .int x5)] := hl
      refine lv_iload hx hb dT_written_21 (lv_at hl 0 rfl) ?_
      refine lv_iconst (v := 3) hx hb dT_written_23 (by decide) ?_
      refine lv_icmp_eq (tgt := 48) hx hb dT_written_24 (by decide) (fun hc => ?_) (fun hc => ?_)
      · replace hf := lc_ite_pos hc hf
        exact bT_written_48 hx hb hml hr hlocks hown hts hE (fun hf hl hH => ih hf hl hH) hf (lv_sub hl [1, 2, 3, 4, 5] rfl) hH
      · replace hf := lc_ite_neg hc hf
        refine lv_iload hx hb dT_written_27 (lv_at hl 4 rfl) ?_
        refine lv_iconst (v := 5) hx hb dT_written_29 (by decide) ?_
        refine lv_icmp_ge (tgt := 48) hx hb dT_written_30 (by decide) (fun hc => ?_) (fun hc => ?_)
        · replace hf := lc_ite_pos hc hf
          exact bT_written_48 hx hb hml hr hlocks hown hts hE (fun hf hl hH => ih hf hl hH) hf (lv_sub hl [1, 2, 3, 4, 5] rfl) hH
        · replace hf := lc_ite_neg hc hf
          refine lv_aload_n hx hb dT_written_33 rfl (lv_at hl 1 rfl) ?_
          refine lc_getf (d := 5) (q := 14) hx hb hts hown hE hH flT_31 lc_h9 rfl rfl dT_written_34 ?_
          refine lv_iload hx hb dT_written_37 (lv_at hl 4 rfl) ?_
          refine lv_iload hx hb dT_written_39 (lv_at hl 0 rfl) ?_
          obtain ⟨hi41, hf⟩ := lc_chk_some hf
          refine lc_iast hx hb hE hH lc_h14 rfl hi41 dT_written_41 (fun H locs hH => ?_)
          obtain ⟨x42, e42⟩ : ∃ x : Int32, x = x4 + 1 := ⟨_, rfl⟩
          replace hf := lc_let_of e42 hf
          refine lv_iinc (k := 4) (v := x42) hx hb dT_written_42 hl rfl ((lc_incv _ (by decide)).trans e42.symm) (by decide) rfl (fun ls hl => ?_)
          replace hl : lv_has ls 7 [(4, .int x42), (6, .int x19), (0, .ref (lc_ad G 9)), (1, .ref (lc_ad G p1)), (3, .int x3), (5, .int x5)] := hl
          refine lv_goto (tgt := 86) hx hb dT_written_45 (by decide) ?_
          exact bT_written_86 hx hb hml hr hlocks hown hts hE (fun hf hl hH => ih hf hl hH) hf (lv_sub hl [2, 3, 4, 0, 5] rfl) hH
set_option maxHeartbeats 4000000 in
set_option maxRecDepth 100000 in
theorem cT_written (l : Launch) (G : lc_G) {a1 : Nat} {a2 : Int32} {a3 : Int32} {r : Int32} {z z' : lc_S} (hf : fT_written a1 a2 a3 z = some (r, z')) : lc_M l G yT_written wT_written 1 [.ref (lc_ad G 9), .ref (lc_ad G a1), .int a2, .int a3] z (some (.int r)) z' := by
  refine lc_M_of (cc := prog_7_method_8_code) (maxL := 7) (ret := (some .int)) (own := "LinearCells$Types") (by decide) rfl (fun w h => List.mem_cons_of_mem _ h) (Nat.le_of_ble_eq_true rfl) rfl ?_
  intro p e s m below meth c hx hb hml hr hlocks hown hts hE ls hl hH
  replace hl : lv_has ls 7 [(0, .ref (lc_ad G 9)), (1, .ref (lc_ad G a1)), (2, .int a2), (3, .int a3)] := hl
  rw [fT_written] at hf
  refine lv_iconst (v := 0) hx hb dT_written_0 (by decide) ?_
  refine lv_istore hx hb dT_written_1 hl (by decide) rfl (fun ls hl => ?_)
  replace hl : lv_has ls 7 [(4, .int 0), (0, .ref (lc_ad G 9)), (1, .ref (lc_ad G a1)), (2, .int a2), (3, .int a3)] := hl
  refine lv_iload_n hx hb dT_written_3 rfl (lv_at hl 3 rfl) ?_
  refine lv_istore hx hb dT_written_4 hl (by decide) rfl (fun ls hl => ?_)
  replace hl : lv_has ls 7 [(5, .int a2), (4, .int 0), (0, .ref (lc_ad G 9)), (1, .ref (lc_ad G a1)), (2, .int a2), (3, .int a3)] := hl
  exact bT_written_6 hx hb hml hr hlocks hown hts hE _ hf (lv_sub hl [2, 3, 5, 1, 0] rfl) hH
theorem dK_findWrittenTypes_0 : decode prog_2_method_5_code 0 = .ok (.aload_n 0, 1) := by decide +kernel
theorem dK_findWrittenTypes_1 : decode prog_2_method_5_code 1 = .ok (.getfield 12, 3) := by decide +kernel
theorem dK_findWrittenTypes_4 : decode prog_2_method_5_code 4 = .ok (.invokevirtual 74, 3) := by decide +kernel
theorem dK_findWrittenTypes_7 : decode prog_2_method_5_code 7 = .ok (.iconst 0, 1) := by decide +kernel
theorem dK_findWrittenTypes_8 : decode prog_2_method_5_code 8 = .ok (.istore_n 2, 1) := by decide +kernel
theorem dK_findWrittenTypes_9 : decode prog_2_method_5_code 9 = .ok (.iload_n 2, 1) := by decide +kernel
theorem dK_findWrittenTypes_10 : decode prog_2_method_5_code 10 = .ok (.iconst 4, 1) := by decide +kernel
theorem dK_findWrittenTypes_11 : decode prog_2_method_5_code 11 = .ok (.if_icmp .ge 75, 3) := by decide +kernel
theorem dK_findWrittenTypes_14 : decode prog_2_method_5_code 14 = .ok (.aload_n 1, 1) := by decide +kernel
theorem dK_findWrittenTypes_15 : decode prog_2_method_5_code 15 = .ok (.iload_n 2, 1) := by decide +kernel
theorem dK_findWrittenTypes_16 : decode prog_2_method_5_code 16 = .ok (.aaload, 1) := by decide +kernel
theorem dK_findWrittenTypes_17 : decode prog_2_method_5_code 17 = .ok (.astore_n 3, 1) := by decide +kernel
theorem dK_findWrittenTypes_18 : decode prog_2_method_5_code 18 = .ok (.aload_n 0, 1) := by decide +kernel
theorem dK_findWrittenTypes_19 : decode prog_2_method_5_code 19 = .ok (.getfield 18, 3) := by decide +kernel
theorem dK_findWrittenTypes_22 : decode prog_2_method_5_code 22 = .ok (.iload_n 2, 1) := by decide +kernel
theorem dK_findWrittenTypes_23 : decode prog_2_method_5_code 23 = .ok (.iconst 0, 1) := by decide +kernel
theorem dK_findWrittenTypes_24 : decode prog_2_method_5_code 24 = .ok (.iastore, 1) := by decide +kernel
theorem dK_findWrittenTypes_25 : decode prog_2_method_5_code 25 = .ok (.aload_n 0, 1) := by decide +kernel
theorem dK_findWrittenTypes_26 : decode prog_2_method_5_code 26 = .ok (.getfield 22, 3) := by decide +kernel
theorem dK_findWrittenTypes_29 : decode prog_2_method_5_code 29 = .ok (.iload_n 2, 1) := by decide +kernel
theorem dK_findWrittenTypes_30 : decode prog_2_method_5_code 30 = .ok (.iconst 0, 1) := by decide +kernel
theorem dK_findWrittenTypes_31 : decode prog_2_method_5_code 31 = .ok (.iastore, 1) := by decide +kernel
theorem dK_findWrittenTypes_32 : decode prog_2_method_5_code 32 = .ok (.aload_n 3, 1) := by decide +kernel
theorem dK_findWrittenTypes_33 : decode prog_2_method_5_code 33 = .ok (.getfield 41, 3) := by decide +kernel
theorem dK_findWrittenTypes_36 : decode prog_2_method_5_code 36 = .ok (.ifCond .eq 44, 3) := by decide +kernel
theorem dK_findWrittenTypes_39 : decode prog_2_method_5_code 39 = .ok (.aload_n 0, 1) := by decide +kernel
theorem dK_findWrittenTypes_40 : decode prog_2_method_5_code 40 = .ok (.getfield 18, 3) := by decide +kernel
theorem dK_findWrittenTypes_43 : decode prog_2_method_5_code 43 = .ok (.iload_n 2, 1) := by decide +kernel
theorem dK_findWrittenTypes_44 : decode prog_2_method_5_code 44 = .ok (.aload_n 0, 1) := by decide +kernel
theorem dK_findWrittenTypes_45 : decode prog_2_method_5_code 45 = .ok (.getfield 12, 3) := by decide +kernel
theorem dK_findWrittenTypes_48 : decode prog_2_method_5_code 48 = .ok (.aload_n 3, 1) := by decide +kernel
theorem dK_findWrittenTypes_49 : decode prog_2_method_5_code 49 = .ok (.iconst 0, 1) := by decide +kernel
theorem dK_findWrittenTypes_50 : decode prog_2_method_5_code 50 = .ok (.aload_n 3, 1) := by decide +kernel
theorem dK_findWrittenTypes_51 : decode prog_2_method_5_code 51 = .ok (.getfield 77, 3) := by decide +kernel
theorem dK_findWrittenTypes_54 : decode prog_2_method_5_code 54 = .ok (.invokevirtual 80, 3) := by decide +kernel
theorem dK_findWrittenTypes_57 : decode prog_2_method_5_code 57 = .ok (.iastore, 1) := by decide +kernel
theorem dK_findWrittenTypes_58 : decode prog_2_method_5_code 58 = .ok (.aload_n 0, 1) := by decide +kernel
theorem dK_findWrittenTypes_59 : decode prog_2_method_5_code 59 = .ok (.getfield 22, 3) := by decide +kernel
theorem dK_findWrittenTypes_62 : decode prog_2_method_5_code 62 = .ok (.iload_n 2, 1) := by decide +kernel
theorem dK_findWrittenTypes_63 : decode prog_2_method_5_code 63 = .ok (.aload_n 0, 1) := by decide +kernel
theorem dK_findWrittenTypes_64 : decode prog_2_method_5_code 64 = .ok (.getfield 12, 3) := by decide +kernel
theorem dK_findWrittenTypes_67 : decode prog_2_method_5_code 67 = .ok (.aload_n 3, 1) := by decide +kernel
theorem dK_findWrittenTypes_68 : decode prog_2_method_5_code 68 = .ok (.aload_n 3, 1) := by decide +kernel
theorem dK_findWrittenTypes_69 : decode prog_2_method_5_code 69 = .ok (.getfield 77, 3) := by decide +kernel
theorem dK_findWrittenTypes_72 : decode prog_2_method_5_code 72 = .ok (.aload_n 3, 1) := by decide +kernel
theorem dK_findWrittenTypes_73 : decode prog_2_method_5_code 73 = .ok (.getfield 84, 3) := by decide +kernel
theorem dK_findWrittenTypes_76 : decode prog_2_method_5_code 76 = .ok (.invokevirtual 80, 3) := by decide +kernel
theorem dK_findWrittenTypes_79 : decode prog_2_method_5_code 79 = .ok (.iastore, 1) := by decide +kernel
theorem dK_findWrittenTypes_80 : decode prog_2_method_5_code 80 = .ok (.iinc 2 1, 3) := by decide +kernel
theorem dK_findWrittenTypes_83 : decode prog_2_method_5_code 83 = .ok (.goto (-74), 3) := by decide +kernel
theorem dK_findWrittenTypes_86 : decode prog_2_method_5_code 86 = .ok (.return_, 1) := by decide +kernel
def fK_findWrittenTypes_80 (k9 : Nat → Int32 → lc_S → Option ((Unit) × lc_S)) (p1 : Nat) (x2 : Int32) (z : lc_S) : Option ((Unit) × lc_S) :=
  lc_let (x2 + 1) (fun x80 => k9 p1 x80 z)
def fK_findWrittenTypes_9 : Nat → Nat → Int32 → lc_S → Option ((Unit) × lc_S)
  | 0, _, _, _ => none
  | n + 1, p1, x2, z => if 4 ≤ x2 then (some ((), z)) else (lc_chk (lc_sh p1 = (3, 4, 4)) (lc_chk (lc_in x2 4) (lc_bnr (lcR z p1 x2.toNatClampNeg) (fun q16 => lc_chk (lc_in x2 4) (lc_chk (lc_in x2 4) (lc_chk (lc_sh q16 = (0, 1, 0)) (if (lcI (lcUI (lcUI z 15 x2.toNatClampNeg 0) 16 x2.toNatClampNeg 0) q16 0) = 0 then (fK_findWrittenTypes_80 (fK_findWrittenTypes_9 n) p1 x2 (lcUI (lcUI z 15 x2.toNatClampNeg 0) 16 x2.toNatClampNeg 0)) else (lc_bnd (fT_written q16 0 (lcI (lcUI (lcUI z 15 x2.toNatClampNeg 0) 16 x2.toNatClampNeg 0) q16 4) (lcUI (lcUI z 15 x2.toNatClampNeg 0) 16 x2.toNatClampNeg 0)) (fun r54 z54 => lc_chk (lc_in x2 4) (lc_bnd (fT_written q16 (lcI (lcUI z54 15 x2.toNatClampNeg r54) q16 4) (lcI (lcUI z54 15 x2.toNatClampNeg r54) q16 3) (lcUI z54 15 x2.toNatClampNeg r54)) (fun r76 z76 => lc_chk (lc_in x2 4) (fK_findWrittenTypes_80 (fK_findWrittenTypes_9 n) p1 x2 (lcUI z76 16 x2.toNatClampNeg r76)))))))))))))
def fK_findWrittenTypes (a1 : Nat) (z : lc_S) : Option ((Unit) × lc_S) :=
  lc_bnd (fT_forgetPairs z) (fun r4 z4 => fK_findWrittenTypes_9 lc_FU a1 0 z4)
set_option maxHeartbeats 4000000 in
set_option maxRecDepth 100000 in
theorem bK_findWrittenTypes_80 {p : Program} {l : Launch} {e : Env} {s : State} {m : MethodId} {args : Array Value} {below : List Frame} {meth : Method} {c : Code} {G : lc_G} (hx : p.tables.exec = Jvm.exec) (hb : c.code = prog_2_method_5_code) (hml : c.maxLocals = 4) (hr : meth.sig.returnType = none) (hlocks : meth.locks = false) (hown : s.vm.findClass "LinearCells$Checker" = some m.cls) (hts : ∀ w ∈ lc_ALL, w.before args s = true) (hE : lc_E G s) {k9 : Nat → Int32 → lc_S → Option ((Unit) × lc_S)} {r : Unit} {z' : lc_S} (hk9 : ∀ {p1 : Nat} {x2 : Int32} {z : lc_S} {H : Heap} {locs : List Loc} {ls : Array Slot}, k9 p1 x2 z = some (r, z') → lv_has ls 4 [(0, .ref (lc_ad G 8)), (1, .ref (lc_ad G p1)), (2, .int x2)] → lc_H G z s.heap H locs → W p l e (lc_rm 2) s m args below meth c H locs 0 0 (MQ below (lc_Q G none z') args s 0 0 (lc_A G)) (F0 m 9 ls [])) : ∀ {p1 : Nat} {x2 : Int32} {z : lc_S} {H : Heap} {locs : List Loc} {ls : Array Slot}, fK_findWrittenTypes_80 k9 p1 x2 z = some (r, z') → lv_has ls 4 [(0, .ref (lc_ad G 8)), (1, .ref (lc_ad G p1)), (2, .int x2)] → lc_H G z s.heap H locs → W p l e (lc_rm 2) s m args below meth c H locs 0 0 (MQ below (lc_Q G none z') args s 0 0 (lc_A G)) (F0 m 80 ls []) := by
  intro p1 x2 z H locs ls hf hl hH
  rw [fK_findWrittenTypes_80] at hf
  obtain ⟨x80, e80⟩ : ∃ x : Int32, x = x2 + 1 := ⟨_, rfl⟩
  replace hf := lc_let_of e80 hf
  refine lv_iinc (k := 2) (v := x80) hx hb dK_findWrittenTypes_80 hl rfl ((lc_incv _ (by decide)).trans e80.symm) (by decide) rfl (fun ls hl => ?_)
  replace hl : lv_has ls 4 [(2, .int x80), (0, .ref (lc_ad G 8)), (1, .ref (lc_ad G p1))] := hl
  refine lv_goto (tgt := 9) hx hb dK_findWrittenTypes_83 (by decide) ?_
  exact hk9 hf (lv_sub hl [1, 2, 0] rfl) hH
set_option maxHeartbeats 4000000 in
set_option maxRecDepth 100000 in
theorem bK_findWrittenTypes_9 {p : Program} {l : Launch} {e : Env} {s : State} {m : MethodId} {args : Array Value} {below : List Frame} {meth : Method} {c : Code} {G : lc_G} (hx : p.tables.exec = Jvm.exec) (hb : c.code = prog_2_method_5_code) (hml : c.maxLocals = 4) (hr : meth.sig.returnType = none) (hlocks : meth.locks = false) (hown : s.vm.findClass "LinearCells$Checker" = some m.cls) (hts : ∀ w ∈ lc_ALL, w.before args s = true) (hE : lc_E G s) {r : Unit} {z' : lc_S} : ∀ (n : Nat) {p1 : Nat} {x2 : Int32} {z : lc_S} {H : Heap} {locs : List Loc} {ls : Array Slot}, fK_findWrittenTypes_9 n p1 x2 z = some (r, z') → lv_has ls 4 [(0, .ref (lc_ad G 8)), (1, .ref (lc_ad G p1)), (2, .int x2)] → lc_H G z s.heap H locs → W p l e (lc_rm 2) s m args below meth c H locs 0 0 (MQ below (lc_Q G none z') args s 0 0 (lc_A G)) (F0 m 9 ls []) := by
  intro n
  induction n with
  | zero =>
    intro p1 x2 z H locs ls hf hl hH
    exact absurd (show (none : Option ((Unit) × lc_S)) = some (r, z') from hf) (fun h => by cases h)
  | succ n ih =>
    intro p1 x2 z H locs ls hf hl hH
    rw [fK_findWrittenTypes_9] at hf
    refine lv_iload_n hx hb dK_findWrittenTypes_9 rfl (lv_at hl 2 rfl) ?_
    refine lv_iconst (v := 4) hx hb dK_findWrittenTypes_10 (by decide) ?_
    refine lv_icmp_ge (tgt := 86) hx hb dK_findWrittenTypes_11 (by decide) (fun hc => ?_) (fun hc => ?_)
    · replace hf := lc_ite_pos hc hf
      exact lc_vret hx hb hr hlocks hH hf dK_findWrittenTypes_86
    · replace hf := lc_ite_neg hc hf
      refine lv_aload_n hx hb dK_findWrittenTypes_14 rfl (lv_at hl 1 rfl) ?_
      refine lv_iload_n hx hb dK_findWrittenTypes_15 rfl (lv_at hl 2 rfl) ?_
      obtain ⟨hs16_0, hf⟩ := lc_chk_some hf
      obtain ⟨hi16, hf⟩ := lc_chk_some hf
      obtain ⟨q16, hq16, hf⟩ := lc_bnr_some hf
      refine lc_aald hx hb hE hH hs16_0 rfl hi16 hq16 dK_findWrittenTypes_16 ?_
      refine lv_astore_n hx hb dK_findWrittenTypes_17 rfl hl (by decide) rfl (fun ls hl => ?_)
      replace hl : lv_has ls 4 [(3, .ref (lc_ad G q16)), (0, .ref (lc_ad G 8)), (1, .ref (lc_ad G p1)), (2, .int x2)] := hl
      refine lv_aload_n hx hb dK_findWrittenTypes_18 rfl (lv_at hl 1 rfl) ?_
      refine lc_getf (d := 7) (q := 15) hx hb hts hown hE hH flK_18 lc_h8 rfl rfl dK_findWrittenTypes_19 ?_
      refine lv_iload_n hx hb dK_findWrittenTypes_22 rfl (lv_at hl 3 rfl) ?_
      refine lv_iconst (v := 0) hx hb dK_findWrittenTypes_23 (by decide) ?_
      obtain ⟨hi24, hf⟩ := lc_chk_some hf
      refine lc_iast hx hb hE hH lc_h15 rfl hi24 dK_findWrittenTypes_24 (fun H locs hH => ?_)
      refine lv_aload_n hx hb dK_findWrittenTypes_25 rfl (lv_at hl 1 rfl) ?_
      refine lc_getf (d := 8) (q := 16) hx hb hts hown hE hH flK_22 lc_h8 rfl rfl dK_findWrittenTypes_26 ?_
      refine lv_iload_n hx hb dK_findWrittenTypes_29 rfl (lv_at hl 3 rfl) ?_
      refine lv_iconst (v := 0) hx hb dK_findWrittenTypes_30 (by decide) ?_
      obtain ⟨hi31, hf⟩ := lc_chk_some hf
      refine lc_iast hx hb hE hH lc_h16 rfl hi31 dK_findWrittenTypes_31 (fun H locs hH => ?_)
      refine lv_aload_n hx hb dK_findWrittenTypes_32 rfl (lv_at hl 0 rfl) ?_
      obtain ⟨hs33_0, hf⟩ := lc_chk_some hf
      refine lc_geti hx hb hts hown hE hH flK_41 hs33_0 rfl dK_findWrittenTypes_33 ?_
      refine lv_if_eq (tgt := 80) hx hb dK_findWrittenTypes_36 (by decide) (fun hc => ?_) (fun hc => ?_)
      · replace hf := lc_ite_pos hc hf
        exact bK_findWrittenTypes_80 hx hb hml hr hlocks hown hts hE (fun hf hl hH => ih hf hl hH) hf (lv_sub hl [1, 2, 3] rfl) hH
      · replace hf := lc_ite_neg hc hf
        refine lv_aload_n hx hb dK_findWrittenTypes_39 rfl (lv_at hl 1 rfl) ?_
        refine lc_getf (d := 7) (q := 15) hx hb hts hown hE hH flK_18 lc_h8 rfl rfl dK_findWrittenTypes_40 ?_
        refine lv_iload_n hx hb dK_findWrittenTypes_43 rfl (lv_at hl 3 rfl) ?_
        refine lv_aload_n hx hb dK_findWrittenTypes_44 rfl (lv_at hl 1 rfl) ?_
        refine lc_getf (d := 1) (q := 9) hx hb hts hown hE hH flK_12 lc_h8 rfl rfl dK_findWrittenTypes_45 ?_
        refine lv_aload_n hx hb dK_findWrittenTypes_48 rfl (lv_at hl 0 rfl) ?_
        refine lv_iconst (v := 0) hx hb dK_findWrittenTypes_49 (by decide) ?_
        refine lv_aload_n hx hb dK_findWrittenTypes_50 rfl (lv_at hl 0 rfl) ?_
        refine lc_geti hx hb hts hown hE hH flK_77 hs33_0 rfl dK_findWrittenTypes_51 ?_
        obtain ⟨r54, z54, h54, hf⟩ := lc_bnd_some hf
        refine lc_calli (va_runV (As := [.ref (lc_ad G q16), .int 0, .int (lcI (lcUI (lcUI z 15 x2.toNatClampNeg 0) 16 x2.toNatClampNeg 0) q16 4)]) (rest := [.int x2, .ref (lc_ad G 15)]) ⟨hx, hb, hml, hown, hts⟩ (cT_written l G h54) (lc_cwV hts kvK_80 (lc_room (by decide) (by decide))) (lc_preV hE hH lc_h9 rfl _) rfl rfl hl.1 rfl (lv_room (Nat.le_of_ble_eq_true rfl)) dK_findWrittenTypes_54 ⟨Nat.zero_le _, Nat.zero_le _⟩) hH (fun H locs hH => ?_)
        obtain ⟨hi57, hf⟩ := lc_chk_some hf
        refine lc_iast hx hb hE hH lc_h15 rfl hi57 dK_findWrittenTypes_57 (fun H locs hH => ?_)
        refine lv_aload_n hx hb dK_findWrittenTypes_58 rfl (lv_at hl 1 rfl) ?_
        refine lc_getf (d := 8) (q := 16) hx hb hts hown hE hH flK_22 lc_h8 rfl rfl dK_findWrittenTypes_59 ?_
        refine lv_iload_n hx hb dK_findWrittenTypes_62 rfl (lv_at hl 3 rfl) ?_
        refine lv_aload_n hx hb dK_findWrittenTypes_63 rfl (lv_at hl 1 rfl) ?_
        refine lc_getf (d := 1) (q := 9) hx hb hts hown hE hH flK_12 lc_h8 rfl rfl dK_findWrittenTypes_64 ?_
        refine lv_aload_n hx hb dK_findWrittenTypes_67 rfl (lv_at hl 0 rfl) ?_
        refine lv_aload_n hx hb dK_findWrittenTypes_68 rfl (lv_at hl 0 rfl) ?_
        refine lc_geti hx hb hts hown hE hH flK_77 hs33_0 rfl dK_findWrittenTypes_69 ?_
        refine lv_aload_n hx hb dK_findWrittenTypes_72 rfl (lv_at hl 0 rfl) ?_
        refine lc_geti hx hb hts hown hE hH flK_84 hs33_0 rfl dK_findWrittenTypes_73 ?_
        obtain ⟨r76, z76, h76, hf⟩ := lc_bnd_some hf
        refine lc_calli (va_runV (As := [.ref (lc_ad G q16), .int (lcI (lcUI z54 15 x2.toNatClampNeg r54) q16 4), .int (lcI (lcUI z54 15 x2.toNatClampNeg r54) q16 3)]) (rest := [.int x2, .ref (lc_ad G 16)]) ⟨hx, hb, hml, hown, hts⟩ (cT_written l G h76) (lc_cwV hts kvK_80 (lc_room (by decide) (by decide))) (lc_preV hE hH lc_h9 rfl _) rfl rfl hl.1 rfl (lv_room (Nat.le_of_ble_eq_true rfl)) dK_findWrittenTypes_76 ⟨Nat.zero_le _, Nat.zero_le _⟩) hH (fun H locs hH => ?_)
        obtain ⟨hi79, hf⟩ := lc_chk_some hf
        refine lc_iast hx hb hE hH lc_h16 rfl hi79 dK_findWrittenTypes_79 (fun H locs hH => ?_)
        exact bK_findWrittenTypes_80 hx hb hml hr hlocks hown hts hE (fun hf hl hH => ih hf hl hH) hf (lv_sub hl [1, 2, 3] rfl) hH
set_option maxHeartbeats 4000000 in
set_option maxRecDepth 100000 in
theorem cK_findWrittenTypes (l : Launch) (G : lc_G) {a1 : Nat} {r : Unit} {z z' : lc_S} (hf : fK_findWrittenTypes a1 z = some (r, z')) : lc_M l G yK_findWrittenTypes wK_findWrittenTypes 2 [.ref (lc_ad G 8), .ref (lc_ad G a1)] z none z' := by
  refine lc_M_of (cc := prog_2_method_5_code) (maxL := 4) (ret := none) (own := "LinearCells$Checker") (by decide) rfl (fun w h => List.mem_cons_of_mem _ h) (Nat.le_of_ble_eq_true rfl) rfl ?_
  intro p e s m below meth c hx hb hml hr hlocks hown hts hE ls hl hH
  replace hl : lv_has ls 4 [(0, .ref (lc_ad G 8)), (1, .ref (lc_ad G a1))] := hl
  rw [fK_findWrittenTypes] at hf
  refine lv_aload_n hx hb dK_findWrittenTypes_0 rfl (lv_at hl 0 rfl) ?_
  refine lc_getf (d := 1) (q := 9) hx hb hts hown hE hH flK_12 lc_h8 rfl rfl dK_findWrittenTypes_1 ?_
  obtain ⟨r4, z4, h4, hf⟩ := lc_bnd_some hf
  refine lc_callv (va_runV (As := []) (rest := []) ⟨hx, hb, hml, hown, hts⟩ (cT_forgetPairs l G h4) (lc_cwV hts kvK_74 (lc_room (by decide) (by decide))) (lc_preV hE hH lc_h9 rfl _) rfl rfl hl.1 rfl (lv_room (Nat.le_of_ble_eq_true rfl)) dK_findWrittenTypes_4 ⟨Nat.zero_le _, Nat.zero_le _⟩) hH (fun H locs hH => ?_)
  refine lv_iconst (v := 0) hx hb dK_findWrittenTypes_7 (by decide) ?_
  refine lv_istore_n hx hb dK_findWrittenTypes_8 rfl hl (by decide) rfl (fun ls hl => ?_)
  replace hl : lv_has ls 4 [(2, .int 0), (0, .ref (lc_ad G 8)), (1, .ref (lc_ad G a1))] := hl
  exact bK_findWrittenTypes_9 hx hb hml hr hlocks hown hts hE _ hf (lv_sub hl [1, 2, 0] rfl) hH
theorem dK_typeOfPart_0 : decode prog_2_method_6_code 0 = .ok (.iload_n 1, 1) := by decide +kernel
theorem dK_typeOfPart_1 : decode prog_2_method_6_code 1 = .ok (.ifCond .ge 7, 3) := by decide +kernel
theorem dK_typeOfPart_4 : decode prog_2_method_6_code 4 = .ok (.iconst 0, 1) := by decide +kernel
theorem dK_typeOfPart_5 : decode prog_2_method_6_code 5 = .ok (.goto 9, 3) := by decide +kernel
theorem dK_typeOfPart_8 : decode prog_2_method_6_code 8 = .ok (.aload_n 0, 1) := by decide +kernel
theorem dK_typeOfPart_9 : decode prog_2_method_6_code 9 = .ok (.getfield 27, 3) := by decide +kernel
theorem dK_typeOfPart_12 : decode prog_2_method_6_code 12 = .ok (.iload_n 1, 1) := by decide +kernel
theorem dK_typeOfPart_13 : decode prog_2_method_6_code 13 = .ok (.iaload, 1) := by decide +kernel
theorem dK_typeOfPart_14 : decode prog_2_method_6_code 14 = .ok (.ireturn, 1) := by decide +kernel
def fK_typeOfPart (a1 : Int32) (z : lc_S) : Option ((Int32) × lc_S) :=
  if 0 ≤ a1 then (lc_chk (lc_in a1 120) (some (lcI z 17 a1.toNatClampNeg, z))) else (some (0, z))
set_option maxHeartbeats 4000000 in
set_option maxRecDepth 100000 in
theorem cK_typeOfPart (l : Launch) (G : lc_G) {a1 : Int32} {r : Int32} {z z' : lc_S} (hf : fK_typeOfPart a1 z = some (r, z')) : lc_M l G yK_typeOfPart wK_typeOfPart 0 [.ref (lc_ad G 8), .int a1] z (some (.int r)) z' := by
  refine lc_M_of (cc := prog_2_method_6_code) (maxL := 2) (ret := (some .int)) (own := "LinearCells$Checker") (by decide) rfl (fun w h => List.mem_cons_of_mem _ h) (Nat.le_of_ble_eq_true rfl) rfl ?_
  intro p e s m below meth c hx hb hml hr hlocks hown hts hE ls hl hH
  replace hl : lv_has ls 2 [(0, .ref (lc_ad G 8)), (1, .int a1)] := hl
  rw [fK_typeOfPart] at hf
  refine lv_iload_n hx hb dK_typeOfPart_0 rfl (lv_at hl 1 rfl) ?_
  refine lv_if_ge (tgt := 8) hx hb dK_typeOfPart_1 (by decide) (fun hc => ?_) (fun hc => ?_)
  · replace hf := lc_ite_pos hc hf
    refine lv_aload_n hx hb dK_typeOfPart_8 rfl (lv_at hl 0 rfl) ?_
    refine lc_getf (d := 9) (q := 17) hx hb hts hown hE hH flK_27 lc_h8 rfl rfl dK_typeOfPart_9 ?_
    refine lv_iload_n hx hb dK_typeOfPart_12 rfl (lv_at hl 1 rfl) ?_
    obtain ⟨hi13, hf⟩ := lc_chk_some hf
    refine lc_iald hx hb hE hH lc_h17 rfl hi13 dK_typeOfPart_13 ?_
    exact lc_iret hx hb hr hlocks hH hf dK_typeOfPart_14
  · replace hf := lc_ite_neg hc hf
    refine lv_iconst (v := 0) hx hb dK_typeOfPart_4 (by decide) ?_
    refine lv_goto (tgt := 14) hx hb dK_typeOfPart_5 (by decide) ?_
    exact lc_iret hx hb hr hlocks hH hf dK_typeOfPart_14
theorem dK_typeOfBound_0 : decode prog_2_method_8_code 0 = .ok (.iload_n 1, 1) := by decide +kernel
theorem dK_typeOfBound_1 : decode prog_2_method_8_code 1 = .ok (.ifCond .ne 13, 3) := by decide +kernel
theorem dK_typeOfBound_4 : decode prog_2_method_8_code 4 = .ok (.aload_n 0, 1) := by decide +kernel
theorem dK_typeOfBound_5 : decode prog_2_method_8_code 5 = .ok (.getfield 18, 3) := by decide +kernel
theorem dK_typeOfBound_8 : decode prog_2_method_8_code 8 = .ok (.aload_n 0, 1) := by decide +kernel
theorem dK_typeOfBound_9 : decode prog_2_method_8_code 9 = .ok (.getfield 53, 3) := by decide +kernel
theorem dK_typeOfBound_12 : decode prog_2_method_8_code 12 = .ok (.iaload, 1) := by decide +kernel
theorem dK_typeOfBound_13 : decode prog_2_method_8_code 13 = .ok (.ireturn, 1) := by decide +kernel
theorem dK_typeOfBound_14 : decode prog_2_method_8_code 14 = .ok (.aload_n 0, 1) := by decide +kernel
theorem dK_typeOfBound_15 : decode prog_2_method_8_code 15 = .ok (.aload_n 0, 1) := by decide +kernel
theorem dK_typeOfBound_16 : decode prog_2_method_8_code 16 = .ok (.getfield 57, 3) := by decide +kernel
theorem dK_typeOfBound_19 : decode prog_2_method_8_code 19 = .ok (.getfield 119, 3) := by decide +kernel
theorem dK_typeOfBound_22 : decode prog_2_method_8_code 22 = .ok (.iload_n 1, 1) := by decide +kernel
theorem dK_typeOfBound_23 : decode prog_2_method_8_code 23 = .ok (.iaload, 1) := by decide +kernel
theorem dK_typeOfBound_24 : decode prog_2_method_8_code 24 = .ok (.invokevirtual 71, 3) := by decide +kernel
theorem dK_typeOfBound_27 : decode prog_2_method_8_code 27 = .ok (.ireturn, 1) := by decide +kernel
def fK_typeOfBound (a1 : Int32) (z : lc_S) : Option ((Int32) × lc_S) :=
  if a1 = 0 then (lc_chk (lc_in (lcI z 8 3) 4) (some (lcI z 15 (lcI z 8 3).toNatClampNeg, z))) else (lc_bnr (lcR z 8 4) (fun q16 => lc_chk (lc_sh q16 = (0, 1, 0)) (lc_chk (lc_in a1 24) (lc_bnd (fK_typeOfPart (lcI z (q16 + 8) a1.toNatClampNeg) z) (fun r24 z24 => some (r24, z24))))))
set_option maxHeartbeats 4000000 in
set_option maxRecDepth 100000 in
theorem cK_typeOfBound (l : Launch) (G : lc_G) {a1 : Int32} {r : Int32} {z z' : lc_S} (hf : fK_typeOfBound a1 z = some (r, z')) : lc_M l G yK_typeOfBound wK_typeOfBound 1 [.ref (lc_ad G 8), .int a1] z (some (.int r)) z' := by
  refine lc_M_of (cc := prog_2_method_8_code) (maxL := 2) (ret := (some .int)) (own := "LinearCells$Checker") (by decide) rfl (fun w h => List.mem_cons_of_mem _ h) (Nat.le_of_ble_eq_true rfl) rfl ?_
  intro p e s m below meth c hx hb hml hr hlocks hown hts hE ls hl hH
  replace hl : lv_has ls 2 [(0, .ref (lc_ad G 8)), (1, .int a1)] := hl
  rw [fK_typeOfBound] at hf
  refine lv_iload_n hx hb dK_typeOfBound_0 rfl (lv_at hl 1 rfl) ?_
  refine lv_if_ne (tgt := 14) hx hb dK_typeOfBound_1 (by decide) (fun hc => ?_) (fun hc => ?_)
  · replace hf := lc_ite_neg hc hf
    refine lv_aload_n hx hb dK_typeOfBound_14 rfl (lv_at hl 0 rfl) ?_
    refine lv_aload_n hx hb dK_typeOfBound_15 rfl (lv_at hl 0 rfl) ?_
    obtain ⟨q16, hq16, hf⟩ := lc_bnr_some hf
    refine lc_getr hx hb hts hown hE hH flK_57 lc_h8 rfl hq16 dK_typeOfBound_16 ?_
    obtain ⟨hs19_0, hf⟩ := lc_chk_some hf
    refine lc_getf (d := 8) (q := q16 + 8) hx hb hts hown hE hH flK_119 hs19_0 rfl rfl dK_typeOfBound_19 ?_
    refine lv_iload_n hx hb dK_typeOfBound_22 rfl (lv_at hl 1 rfl) ?_
    obtain ⟨hi23, hf⟩ := lc_chk_some hf
    refine lc_iald hx hb hE hH (lc_pr8 hs19_0) rfl hi23 dK_typeOfBound_23 ?_
    obtain ⟨r24, z24, h24, hf⟩ := lc_bnd_some hf
    refine lc_calli (va_runV (As := [.int (lcI z (q16 + 8) a1.toNatClampNeg)]) (rest := []) ⟨hx, hb, hml, hown, hts⟩ (cK_typeOfPart l G h24) (lc_cwV hts kvK_71 (lc_room (by decide) (by decide))) (lc_preV hE hH lc_h8 rfl _) rfl rfl hl.1 rfl (lv_room (Nat.le_of_ble_eq_true rfl)) dK_typeOfBound_24 ⟨Nat.zero_le _, Nat.zero_le _⟩) hH (fun H locs hH => ?_)
    exact lc_iret hx hb hr hlocks hH hf dK_typeOfBound_27
  · replace hf := lc_ite_pos hc hf
    refine lv_aload_n hx hb dK_typeOfBound_4 rfl (lv_at hl 0 rfl) ?_
    refine lc_getf (d := 7) (q := 15) hx hb hts hown hE hH flK_18 lc_h8 rfl rfl dK_typeOfBound_5 ?_
    refine lv_aload_n hx hb dK_typeOfBound_8 rfl (lv_at hl 0 rfl) ?_
    refine lc_geti hx hb hts hown hE hH flK_53 lc_h8 rfl dK_typeOfBound_9 ?_
    obtain ⟨hi12, hf⟩ := lc_chk_some hf
    refine lc_iald hx hb hE hH lc_h15 rfl hi12 dK_typeOfBound_12 ?_
    exact lc_iret hx hb hr hlocks hH hf dK_typeOfBound_13
theorem dT_partOf_0 : decode prog_7_method_6_code 0 = .ok (.iload_n 2, 1) := by decide +kernel
theorem dT_partOf_1 : decode prog_7_method_6_code 1 = .ok (.ifCond .ne 5, 3) := by decide +kernel
theorem dT_partOf_4 : decode prog_7_method_6_code 4 = .ok (.iload_n 1, 1) := by decide +kernel
theorem dT_partOf_5 : decode prog_7_method_6_code 5 = .ok (.ireturn, 1) := by decide +kernel
theorem dT_partOf_6 : decode prog_7_method_6_code 6 = .ok (.iload_n 2, 1) := by decide +kernel
theorem dT_partOf_7 : decode prog_7_method_6_code 7 = .ok (.iconst 1, 1) := by decide +kernel
theorem dT_partOf_8 : decode prog_7_method_6_code 8 = .ok (.if_icmp .ne 12, 3) := by decide +kernel
theorem dT_partOf_11 : decode prog_7_method_6_code 11 = .ok (.aload_n 0, 1) := by decide +kernel
theorem dT_partOf_12 : decode prog_7_method_6_code 12 = .ok (.getfield 13, 3) := by decide +kernel
theorem dT_partOf_15 : decode prog_7_method_6_code 15 = .ok (.iload_n 1, 1) := by decide +kernel
theorem dT_partOf_16 : decode prog_7_method_6_code 16 = .ok (.iaload, 1) := by decide +kernel
theorem dT_partOf_17 : decode prog_7_method_6_code 17 = .ok (.goto 9, 3) := by decide +kernel
theorem dT_partOf_20 : decode prog_7_method_6_code 20 = .ok (.aload_n 0, 1) := by decide +kernel
theorem dT_partOf_21 : decode prog_7_method_6_code 21 = .ok (.getfield 17, 3) := by decide +kernel
theorem dT_partOf_24 : decode prog_7_method_6_code 24 = .ok (.iload_n 1, 1) := by decide +kernel
theorem dT_partOf_25 : decode prog_7_method_6_code 25 = .ok (.iaload, 1) := by decide +kernel
theorem dT_partOf_26 : decode prog_7_method_6_code 26 = .ok (.ireturn, 1) := by decide +kernel
def fT_partOf (a1 : Int32) (a2 : Int32) (z : lc_S) : Option ((Int32) × lc_S) :=
  if a2 = 0 then (some (a1, z)) else (if a2 = 1 then (lc_chk (lc_in a1 243) (some (lcI z 10 a1.toNatClampNeg, z))) else (lc_chk (lc_in a1 243) (some (lcI z 11 a1.toNatClampNeg, z))))
set_option maxHeartbeats 4000000 in
set_option maxRecDepth 100000 in
theorem cT_partOf (l : Launch) (G : lc_G) {a1 : Int32} {a2 : Int32} {r : Int32} {z z' : lc_S} (hf : fT_partOf a1 a2 z = some (r, z')) : lc_M l G yT_partOf wT_partOf 0 [.ref (lc_ad G 9), .int a1, .int a2] z (some (.int r)) z' := by
  refine lc_M_of (cc := prog_7_method_6_code) (maxL := 3) (ret := (some .int)) (own := "LinearCells$Types") (by decide) rfl (fun w h => List.mem_cons_of_mem _ h) (Nat.le_of_ble_eq_true rfl) rfl ?_
  intro p e s m below meth c hx hb hml hr hlocks hown hts hE ls hl hH
  replace hl : lv_has ls 3 [(0, .ref (lc_ad G 9)), (1, .int a1), (2, .int a2)] := hl
  rw [fT_partOf] at hf
  refine lv_iload_n hx hb dT_partOf_0 rfl (lv_at hl 2 rfl) ?_
  refine lv_if_ne (tgt := 6) hx hb dT_partOf_1 (by decide) (fun hc => ?_) (fun hc => ?_)
  · replace hf := lc_ite_neg hc hf
    refine lv_iload_n hx hb dT_partOf_6 rfl (lv_at hl 2 rfl) ?_
    refine lv_iconst (v := 1) hx hb dT_partOf_7 (by decide) ?_
    refine lv_icmp_ne (tgt := 20) hx hb dT_partOf_8 (by decide) (fun hc => ?_) (fun hc => ?_)
    · replace hf := lc_ite_neg hc hf
      refine lv_aload_n hx hb dT_partOf_20 rfl (lv_at hl 0 rfl) ?_
      refine lc_getf (d := 2) (q := 11) hx hb hts hown hE hH flT_17 lc_h9 rfl rfl dT_partOf_21 ?_
      refine lv_iload_n hx hb dT_partOf_24 rfl (lv_at hl 1 rfl) ?_
      obtain ⟨hi25, hf⟩ := lc_chk_some hf
      refine lc_iald hx hb hE hH lc_h11 rfl hi25 dT_partOf_25 ?_
      exact lc_iret hx hb hr hlocks hH hf dT_partOf_26
    · replace hf := lc_ite_pos hc hf
      refine lv_aload_n hx hb dT_partOf_11 rfl (lv_at hl 0 rfl) ?_
      refine lc_getf (d := 1) (q := 10) hx hb hts hown hE hH flT_13 lc_h9 rfl rfl dT_partOf_12 ?_
      refine lv_iload_n hx hb dT_partOf_15 rfl (lv_at hl 1 rfl) ?_
      obtain ⟨hi16, hf⟩ := lc_chk_some hf
      refine lc_iald hx hb hE hH lc_h10 rfl hi16 dT_partOf_16 ?_
      refine lv_goto (tgt := 26) hx hb dT_partOf_17 (by decide) ?_
      exact lc_iret hx hb hr hlocks hH hf dT_partOf_26
  · replace hf := lc_ite_pos hc hf
    refine lv_iload_n hx hb dT_partOf_4 rfl (lv_at hl 1 rfl) ?_
    exact lc_iret hx hb hr hlocks hH hf dT_partOf_5
theorem dT_isPair_0 : decode prog_7_method_3_code 0 = .ok (.iload_n 1, 1) := by decide +kernel
theorem dT_isPair_1 : decode prog_7_method_3_code 1 = .ok (.iconst 3, 1) := by decide +kernel
theorem dT_isPair_2 : decode prog_7_method_3_code 2 = .ok (.if_icmp .lt 7, 3) := by decide +kernel
theorem dT_isPair_5 : decode prog_7_method_3_code 5 = .ok (.iconst 1, 1) := by decide +kernel
theorem dT_isPair_6 : decode prog_7_method_3_code 6 = .ok (.goto 4, 3) := by decide +kernel
theorem dT_isPair_9 : decode prog_7_method_3_code 9 = .ok (.iconst 0, 1) := by decide +kernel
theorem dT_isPair_10 : decode prog_7_method_3_code 10 = .ok (.ireturn, 1) := by decide +kernel
def fT_isPair (a1 : Int32) (z : lc_S) : Option ((Int32) × lc_S) :=
  if a1 < 3 then (some (0, z)) else (some (1, z))
set_option maxHeartbeats 4000000 in
set_option maxRecDepth 100000 in
theorem cT_isPair (l : Launch) (G : lc_G) {a1 : Int32} {r : Int32} {z z' : lc_S} (hf : fT_isPair a1 z = some (r, z')) : lc_M l G yT_isPair wT_isPair 0 [.ref (lc_ad G 9), .int a1] z (some (.int r)) z' := by
  refine lc_M_of (cc := prog_7_method_3_code) (maxL := 2) (ret := (some .boolean)) (own := "LinearCells$Types") (by decide) rfl (fun w h => List.mem_cons_of_mem _ h) (Nat.le_of_ble_eq_true rfl) rfl ?_
  intro p e s m below meth c hx hb hml hr hlocks hown hts hE ls hl hH
  replace hl : lv_has ls 2 [(0, .ref (lc_ad G 9)), (1, .int a1)] := hl
  rw [fT_isPair] at hf
  refine lv_iload_n hx hb dT_isPair_0 rfl (lv_at hl 1 rfl) ?_
  refine lv_iconst (v := 3) hx hb dT_isPair_1 (by decide) ?_
  refine lv_icmp_lt (tgt := 9) hx hb dT_isPair_2 (by decide) (fun hc => ?_) (fun hc => ?_)
  · replace hf := lc_ite_pos hc hf
    refine lv_iconst (v := 0) hx hb dT_isPair_9 (by decide) ?_
    exact lc_zret hx hb hr hlocks (by decide) hH hf dT_isPair_10
  · replace hf := lc_ite_neg hc hf
    refine lv_iconst (v := 1) hx hb dT_isPair_5 (by decide) ?_
    refine lv_goto (tgt := 10) hx hb dT_isPair_6 (by decide) ?_
    exact lc_zret hx hb hr hlocks (by decide) hH hf dT_isPair_10
