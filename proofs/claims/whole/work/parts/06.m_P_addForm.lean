theorem dP_addForm_0 : decode prog_5_method_7_code 0 = .ok (.aload_n 0, 1) := by decide +kernel
theorem dP_addForm_1 : decode prog_5_method_7_code 1 = .ok (.getfield 50, 3) := by decide +kernel
theorem dP_addForm_4 : decode prog_5_method_7_code 4 = .ok (.bipush 120, 2) := by decide +kernel
theorem dP_addForm_6 : decode prog_5_method_7_code 6 = .ok (.if_icmp .lt 5, 3) := by decide +kernel
theorem dP_addForm_9 : decode prog_5_method_7_code 9 = .ok (.iconst (-1), 1) := by decide +kernel
theorem dP_addForm_10 : decode prog_5_method_7_code 10 = .ok (.ireturn, 1) := by decide +kernel
theorem dP_addForm_11 : decode prog_5_method_7_code 11 = .ok (.aload_n 0, 1) := by decide +kernel
theorem dP_addForm_12 : decode prog_5_method_7_code 12 = .ok (.getfield 15, 3) := by decide +kernel
theorem dP_addForm_15 : decode prog_5_method_7_code 15 = .ok (.aload_n 0, 1) := by decide +kernel
theorem dP_addForm_16 : decode prog_5_method_7_code 16 = .ok (.getfield 50, 3) := by decide +kernel
theorem dP_addForm_19 : decode prog_5_method_7_code 19 = .ok (.iload_n 1, 1) := by decide +kernel
theorem dP_addForm_20 : decode prog_5_method_7_code 20 = .ok (.iastore, 1) := by decide +kernel
theorem dP_addForm_21 : decode prog_5_method_7_code 21 = .ok (.aload_n 0, 1) := by decide +kernel
theorem dP_addForm_22 : decode prog_5_method_7_code 22 = .ok (.getfield 18, 3) := by decide +kernel
theorem dP_addForm_25 : decode prog_5_method_7_code 25 = .ok (.aload_n 0, 1) := by decide +kernel
theorem dP_addForm_26 : decode prog_5_method_7_code 26 = .ok (.getfield 50, 3) := by decide +kernel
theorem dP_addForm_29 : decode prog_5_method_7_code 29 = .ok (.iload_n 2, 1) := by decide +kernel
theorem dP_addForm_30 : decode prog_5_method_7_code 30 = .ok (.iastore, 1) := by decide +kernel
theorem dP_addForm_31 : decode prog_5_method_7_code 31 = .ok (.aload_n 0, 1) := by decide +kernel
theorem dP_addForm_32 : decode prog_5_method_7_code 32 = .ok (.getfield 21, 3) := by decide +kernel
theorem dP_addForm_35 : decode prog_5_method_7_code 35 = .ok (.aload_n 0, 1) := by decide +kernel
theorem dP_addForm_36 : decode prog_5_method_7_code 36 = .ok (.getfield 50, 3) := by decide +kernel
theorem dP_addForm_39 : decode prog_5_method_7_code 39 = .ok (.iload_n 3, 1) := by decide +kernel
theorem dP_addForm_40 : decode prog_5_method_7_code 40 = .ok (.iastore, 1) := by decide +kernel
theorem dP_addForm_41 : decode prog_5_method_7_code 41 = .ok (.aload_n 0, 1) := by decide +kernel
theorem dP_addForm_42 : decode prog_5_method_7_code 42 = .ok (.getfield 24, 3) := by decide +kernel
theorem dP_addForm_45 : decode prog_5_method_7_code 45 = .ok (.aload_n 0, 1) := by decide +kernel
theorem dP_addForm_46 : decode prog_5_method_7_code 46 = .ok (.getfield 50, 3) := by decide +kernel
theorem dP_addForm_49 : decode prog_5_method_7_code 49 = .ok (.iload 4, 2) := by decide +kernel
theorem dP_addForm_51 : decode prog_5_method_7_code 51 = .ok (.iastore, 1) := by decide +kernel
theorem dP_addForm_52 : decode prog_5_method_7_code 52 = .ok (.aload_n 0, 1) := by decide +kernel
theorem dP_addForm_53 : decode prog_5_method_7_code 53 = .ok (.getfield 27, 3) := by decide +kernel
theorem dP_addForm_56 : decode prog_5_method_7_code 56 = .ok (.aload_n 0, 1) := by decide +kernel
theorem dP_addForm_57 : decode prog_5_method_7_code 57 = .ok (.getfield 50, 3) := by decide +kernel
theorem dP_addForm_60 : decode prog_5_method_7_code 60 = .ok (.iconst 0, 1) := by decide +kernel
theorem dP_addForm_61 : decode prog_5_method_7_code 61 = .ok (.iastore, 1) := by decide +kernel
theorem dP_addForm_62 : decode prog_5_method_7_code 62 = .ok (.aload_n 0, 1) := by decide +kernel
theorem dP_addForm_63 : decode prog_5_method_7_code 63 = .ok (.getfield 30, 3) := by decide +kernel
theorem dP_addForm_66 : decode prog_5_method_7_code 66 = .ok (.aload_n 0, 1) := by decide +kernel
theorem dP_addForm_67 : decode prog_5_method_7_code 67 = .ok (.getfield 50, 3) := by decide +kernel
theorem dP_addForm_70 : decode prog_5_method_7_code 70 = .ok (.iconst (-1), 1) := by decide +kernel
theorem dP_addForm_71 : decode prog_5_method_7_code 71 = .ok (.iastore, 1) := by decide +kernel
theorem dP_addForm_72 : decode prog_5_method_7_code 72 = .ok (.aload_n 0, 1) := by decide +kernel
theorem dP_addForm_73 : decode prog_5_method_7_code 73 = .ok (.dup, 1) := by decide +kernel
theorem dP_addForm_74 : decode prog_5_method_7_code 74 = .ok (.getfield 50, 3) := by decide +kernel
theorem dP_addForm_77 : decode prog_5_method_7_code 77 = .ok (.iconst 1, 1) := by decide +kernel
theorem dP_addForm_78 : decode prog_5_method_7_code 78 = .ok (.iadd, 1) := by decide +kernel
theorem dP_addForm_79 : decode prog_5_method_7_code 79 = .ok (.putfield 50, 3) := by decide +kernel
theorem dP_addForm_82 : decode prog_5_method_7_code 82 = .ok (.aload_n 0, 1) := by decide +kernel
theorem dP_addForm_83 : decode prog_5_method_7_code 83 = .ok (.getfield 50, 3) := by decide +kernel
theorem dP_addForm_86 : decode prog_5_method_7_code 86 = .ok (.iconst 1, 1) := by decide +kernel
theorem dP_addForm_87 : decode prog_5_method_7_code 87 = .ok (.isub, 1) := by decide +kernel
theorem dP_addForm_88 : decode prog_5_method_7_code 88 = .ok (.ireturn, 1) := by decide +kernel
def fP_addForm (o0 : Nat) (a1 : Int32) (a2 : Int32) (a3 : Int32) (a4 : Int32) (z : lc_S) : Option ((Int32) × lc_S) :=
  lc_chk (lc_sh o0 = (0, 1, 0)) (if (lcI z o0 11) < 120 then (lc_chk (lc_in (lcI z o0 11) 120) (lc_chk (lc_in (lcI (lcUI z (o0 + 2) (lcI z o0 11).toNatClampNeg a1) o0 11) 120) (lc_chk (lc_in (lcI (lcUI (lcUI z (o0 + 2) (lcI z o0 11).toNatClampNeg a1) (o0 + 3) (lcI (lcUI z (o0 + 2) (lcI z o0 11).toNatClampNeg a1) o0 11).toNatClampNeg a2) o0 11) 120) (lc_chk (lc_in (lcI (lcUI (lcUI (lcUI z (o0 + 2) (lcI z o0 11).toNatClampNeg a1) (o0 + 3) (lcI (lcUI z (o0 + 2) (lcI z o0 11).toNatClampNeg a1) o0 11).toNatClampNeg a2) (o0 + 4) (lcI (lcUI (lcUI z (o0 + 2) (lcI z o0 11).toNatClampNeg a1) (o0 + 3) (lcI (lcUI z (o0 + 2) (lcI z o0 11).toNatClampNeg a1) o0 11).toNatClampNeg a2) o0 11).toNatClampNeg a3) o0 11) 120) (lc_chk (lc_in (lcI (lcUI (lcUI (lcUI (lcUI z (o0 + 2) (lcI z o0 11).toNatClampNeg a1) (o0 + 3) (lcI (lcUI z (o0 + 2) (lcI z o0 11).toNatClampNeg a1) o0 11).toNatClampNeg a2) (o0 + 4) (lcI (lcUI (lcUI z (o0 + 2) (lcI z o0 11).toNatClampNeg a1) (o0 + 3) (lcI (lcUI z (o0 + 2) (lcI z o0 11).toNatClampNeg a1) o0 11).toNatClampNeg a2) o0 11).toNatClampNeg a3) (o0 + 5) (lcI (lcUI (lcUI (lcUI z (o0 + 2) (lcI z o0 11).toNatClampNeg a1) (o0 + 3) (lcI (lcUI z (o0 + 2) (lcI z o0 11).toNatClampNeg a1) o0 11).toNatClampNeg a2) (o0 + 4) (lcI (lcUI (lcUI z (o0 + 2) (lcI z o0 11).toNatClampNeg a1) (o0 + 3) (lcI (lcUI z (o0 + 2) (lcI z o0 11).toNatClampNeg a1) o0 11).toNatClampNeg a2) o0 11).toNatClampNeg a3) o0 11).toNatClampNeg a4) o0 11) 120) (lc_chk (lc_in (lcI (lcUI (lcUI (lcUI (lcUI (lcUI z (o0 + 2) (lcI z o0 11).toNatClampNeg a1) (o0 + 3) (lcI (lcUI z (o0 + 2) (lcI z o0 11).toNatClampNeg a1) o0 11).toNatClampNeg a2) (o0 + 4) (lcI (lcUI (lcUI z (o0 + 2) (lcI z o0 11).toNatClampNeg a1) (o0 + 3) (lcI (lcUI z (o0 + 2) (lcI z o0 11).toNatClampNeg a1) o0 11).toNatClampNeg a2) o0 11).toNatClampNeg a3) (o0 + 5) (lcI (lcUI (lcUI (lcUI z (o0 + 2) (lcI z o0 11).toNatClampNeg a1) (o0 + 3) (lcI (lcUI z (o0 + 2) (lcI z o0 11).toNatClampNeg a1) o0 11).toNatClampNeg a2) (o0 + 4) (lcI (lcUI (lcUI z (o0 + 2) (lcI z o0 11).toNatClampNeg a1) (o0 + 3) (lcI (lcUI z (o0 + 2) (lcI z o0 11).toNatClampNeg a1) o0 11).toNatClampNeg a2) o0 11).toNatClampNeg a3) o0 11).toNatClampNeg a4) (o0 + 6) (lcI (lcUI (lcUI (lcUI (lcUI z (o0 + 2) (lcI z o0 11).toNatClampNeg a1) (o0 + 3) (lcI (lcUI z (o0 + 2) (lcI z o0 11).toNatClampNeg a1) o0 11).toNatClampNeg a2) (o0 + 4) (lcI (lcUI (lcUI z (o0 + 2) (lcI z o0 11).toNatClampNeg a1) (o0 + 3) (lcI (lcUI z (o0 + 2) (lcI z o0 11).toNatClampNeg a1) o0 11).toNatClampNeg a2) o0 11).toNatClampNeg a3) (o0 + 5) (lcI (lcUI (lcUI (lcUI z (o0 + 2) (lcI z o0 11).toNatClampNeg a1) (o0 + 3) (lcI (lcUI z (o0 + 2) (lcI z o0 11).toNatClampNeg a1) o0 11).toNatClampNeg a2) (o0 + 4) (lcI (lcUI (lcUI z (o0 + 2) (lcI z o0 11).toNatClampNeg a1) (o0 + 3) (lcI (lcUI z (o0 + 2) (lcI z o0 11).toNatClampNeg a1) o0 11).toNatClampNeg a2) o0 11).toNatClampNeg a3) o0 11).toNatClampNeg a4) o0 11).toNatClampNeg 0) o0 11) 120) (some ((lcI (lcUI (lcUI (lcUI (lcUI (lcUI (lcUI (lcUI z (o0 + 2) (lcI z o0 11).toNatClampNeg a1) (o0 + 3) (lcI (lcUI z (o0 + 2) (lcI z o0 11).toNatClampNeg a1) o0 11).toNatClampNeg a2) (o0 + 4) (lcI (lcUI (lcUI z (o0 + 2) (lcI z o0 11).toNatClampNeg a1) (o0 + 3) (lcI (lcUI z (o0 + 2) (lcI z o0 11).toNatClampNeg a1) o0 11).toNatClampNeg a2) o0 11).toNatClampNeg a3) (o0 + 5) (lcI (lcUI (lcUI (lcUI z (o0 + 2) (lcI z o0 11).toNatClampNeg a1) (o0 + 3) (lcI (lcUI z (o0 + 2) (lcI z o0 11).toNatClampNeg a1) o0 11).toNatClampNeg a2) (o0 + 4) (lcI (lcUI (lcUI z (o0 + 2) (lcI z o0 11).toNatClampNeg a1) (o0 + 3) (lcI (lcUI z (o0 + 2) (lcI z o0 11).toNatClampNeg a1) o0 11).toNatClampNeg a2) o0 11).toNatClampNeg a3) o0 11).toNatClampNeg a4) (o0 + 6) (lcI (lcUI (lcUI (lcUI (lcUI z (o0 + 2) (lcI z o0 11).toNatClampNeg a1) (o0 + 3) (lcI (lcUI z (o0 + 2) (lcI z o0 11).toNatClampNeg a1) o0 11).toNatClampNeg a2) (o0 + 4) (lcI (lcUI (lcUI z (o0 + 2) (lcI z o0 11).toNatClampNeg a1) (o0 + 3) (lcI (lcUI z (o0 + 2) (lcI z o0 11).toNatClampNeg a1) o0 11).toNatClampNeg a2) o0 11).toNatClampNeg a3) (o0 + 5) (lcI (lcUI (lcUI (lcUI z (o0 + 2) (lcI z o0 11).toNatClampNeg a1) (o0 + 3) (lcI (lcUI z (o0 + 2) (lcI z o0 11).toNatClampNeg a1) o0 11).toNatClampNeg a2) (o0 + 4) (lcI (lcUI (lcUI z (o0 + 2) (lcI z o0 11).toNatClampNeg a1) (o0 + 3) (lcI (lcUI z (o0 + 2) (lcI z o0 11).toNatClampNeg a1) o0 11).toNatClampNeg a2) o0 11).toNatClampNeg a3) o0 11).toNatClampNeg a4) o0 11).toNatClampNeg 0) (o0 + 7) (lcI (lcUI (lcUI (lcUI (lcUI (lcUI z (o0 + 2) (lcI z o0 11).toNatClampNeg a1) (o0 + 3) (lcI (lcUI z (o0 + 2) (lcI z o0 11).toNatClampNeg a1) o0 11).toNatClampNeg a2) (o0 + 4) (lcI (lcUI (lcUI z (o0 + 2) (lcI z o0 11).toNatClampNeg a1) (o0 + 3) (lcI (lcUI z (o0 + 2) (lcI z o0 11).toNatClampNeg a1) o0 11).toNatClampNeg a2) o0 11).toNatClampNeg a3) (o0 + 5) (lcI (lcUI (lcUI (lcUI z (o0 + 2) (lcI z o0 11).toNatClampNeg a1) (o0 + 3) (lcI (lcUI z (o0 + 2) (lcI z o0 11).toNatClampNeg a1) o0 11).toNatClampNeg a2) (o0 + 4) (lcI (lcUI (lcUI z (o0 + 2) (lcI z o0 11).toNatClampNeg a1) (o0 + 3) (lcI (lcUI z (o0 + 2) (lcI z o0 11).toNatClampNeg a1) o0 11).toNatClampNeg a2) o0 11).toNatClampNeg a3) o0 11).toNatClampNeg a4) (o0 + 6) (lcI (lcUI (lcUI (lcUI (lcUI z (o0 + 2) (lcI z o0 11).toNatClampNeg a1) (o0 + 3) (lcI (lcUI z (o0 + 2) (lcI z o0 11).toNatClampNeg a1) o0 11).toNatClampNeg a2) (o0 + 4) (lcI (lcUI (lcUI z (o0 + 2) (lcI z o0 11).toNatClampNeg a1) (o0 + 3) (lcI (lcUI z (o0 + 2) (lcI z o0 11).toNatClampNeg a1) o0 11).toNatClampNeg a2) o0 11).toNatClampNeg a3) (o0 + 5) (lcI (lcUI (lcUI (lcUI z (o0 + 2) (lcI z o0 11).toNatClampNeg a1) (o0 + 3) (lcI (lcUI z (o0 + 2) (lcI z o0 11).toNatClampNeg a1) o0 11).toNatClampNeg a2) (o0 + 4) (lcI (lcUI (lcUI z (o0 + 2) (lcI z o0 11).toNatClampNeg a1) (o0 + 3) (lcI (lcUI z (o0 + 2) (lcI z o0 11).toNatClampNeg a1) o0 11).toNatClampNeg a2) o0 11).toNatClampNeg a3) o0 11).toNatClampNeg a4) o0 11).toNatClampNeg 0) o0 11).toNatClampNeg (-1)) o0 11 ((lcI (lcUI (lcUI (lcUI (lcUI (lcUI (lcUI z (o0 + 2) (lcI z o0 11).toNatClampNeg a1) (o0 + 3) (lcI (lcUI z (o0 + 2) (lcI z o0 11).toNatClampNeg a1) o0 11).toNatClampNeg a2) (o0 + 4) (lcI (lcUI (lcUI z (o0 + 2) (lcI z o0 11).toNatClampNeg a1) (o0 + 3) (lcI (lcUI z (o0 + 2) (lcI z o0 11).toNatClampNeg a1) o0 11).toNatClampNeg a2) o0 11).toNatClampNeg a3) (o0 + 5) (lcI (lcUI (lcUI (lcUI z (o0 + 2) (lcI z o0 11).toNatClampNeg a1) (o0 + 3) (lcI (lcUI z (o0 + 2) (lcI z o0 11).toNatClampNeg a1) o0 11).toNatClampNeg a2) (o0 + 4) (lcI (lcUI (lcUI z (o0 + 2) (lcI z o0 11).toNatClampNeg a1) (o0 + 3) (lcI (lcUI z (o0 + 2) (lcI z o0 11).toNatClampNeg a1) o0 11).toNatClampNeg a2) o0 11).toNatClampNeg a3) o0 11).toNatClampNeg a4) (o0 + 6) (lcI (lcUI (lcUI (lcUI (lcUI z (o0 + 2) (lcI z o0 11).toNatClampNeg a1) (o0 + 3) (lcI (lcUI z (o0 + 2) (lcI z o0 11).toNatClampNeg a1) o0 11).toNatClampNeg a2) (o0 + 4) (lcI (lcUI (lcUI z (o0 + 2) (lcI z o0 11).toNatClampNeg a1) (o0 + 3) (lcI (lcUI z (o0 + 2) (lcI z o0 11).toNatClampNeg a1) o0 11).toNatClampNeg a2) o0 11).toNatClampNeg a3) (o0 + 5) (lcI (lcUI (lcUI (lcUI z (o0 + 2) (lcI z o0 11).toNatClampNeg a1) (o0 + 3) (lcI (lcUI z (o0 + 2) (lcI z o0 11).toNatClampNeg a1) o0 11).toNatClampNeg a2) (o0 + 4) (lcI (lcUI (lcUI z (o0 + 2) (lcI z o0 11).toNatClampNeg a1) (o0 + 3) (lcI (lcUI z (o0 + 2) (lcI z o0 11).toNatClampNeg a1) o0 11).toNatClampNeg a2) o0 11).toNatClampNeg a3) o0 11).toNatClampNeg a4) o0 11).toNatClampNeg 0) (o0 + 7) (lcI (lcUI (lcUI (lcUI (lcUI (lcUI z (o0 + 2) (lcI z o0 11).toNatClampNeg a1) (o0 + 3) (lcI (lcUI z (o0 + 2) (lcI z o0 11).toNatClampNeg a1) o0 11).toNatClampNeg a2) (o0 + 4) (lcI (lcUI (lcUI z (o0 + 2) (lcI z o0 11).toNatClampNeg a1) (o0 + 3) (lcI (lcUI z (o0 + 2) (lcI z o0 11).toNatClampNeg a1) o0 11).toNatClampNeg a2) o0 11).toNatClampNeg a3) (o0 + 5) (lcI (lcUI (lcUI (lcUI z (o0 + 2) (lcI z o0 11).toNatClampNeg a1) (o0 + 3) (lcI (lcUI z (o0 + 2) (lcI z o0 11).toNatClampNeg a1) o0 11).toNatClampNeg a2) (o0 + 4) (lcI (lcUI (lcUI z (o0 + 2) (lcI z o0 11).toNatClampNeg a1) (o0 + 3) (lcI (lcUI z (o0 + 2) (lcI z o0 11).toNatClampNeg a1) o0 11).toNatClampNeg a2) o0 11).toNatClampNeg a3) o0 11).toNatClampNeg a4) (o0 + 6) (lcI (lcUI (lcUI (lcUI (lcUI z (o0 + 2) (lcI z o0 11).toNatClampNeg a1) (o0 + 3) (lcI (lcUI z (o0 + 2) (lcI z o0 11).toNatClampNeg a1) o0 11).toNatClampNeg a2) (o0 + 4) (lcI (lcUI (lcUI z (o0 + 2) (lcI z o0 11).toNatClampNeg a1) (o0 + 3) (lcI (lcUI z (o0 + 2) (lcI z o0 11).toNatClampNeg a1) o0 11).toNatClampNeg a2) o0 11).toNatClampNeg a3) (o0 + 5) (lcI (lcUI (lcUI (lcUI z (o0 + 2) (lcI z o0 11).toNatClampNeg a1) (o0 + 3) (lcI (lcUI z (o0 + 2) (lcI z o0 11).toNatClampNeg a1) o0 11).toNatClampNeg a2) (o0 + 4) (lcI (lcUI (lcUI z (o0 + 2) (lcI z o0 11).toNatClampNeg a1) (o0 + 3) (lcI (lcUI z (o0 + 2) (lcI z o0 11).toNatClampNeg a1) o0 11).toNatClampNeg a2) o0 11).toNatClampNeg a3) o0 11).toNatClampNeg a4) o0 11).toNatClampNeg 0) o0 11).toNatClampNeg (-1)) o0 11) + 1)) o0 11) - 1, lcUI (lcUI (lcUI (lcUI (lcUI (lcUI (lcUI z (o0 + 2) (lcI z o0 11).toNatClampNeg a1) (o0 + 3) (lcI (lcUI z (o0 + 2) (lcI z o0 11).toNatClampNeg a1) o0 11).toNatClampNeg a2) (o0 + 4) (lcI (lcUI (lcUI z (o0 + 2) (lcI z o0 11).toNatClampNeg a1) (o0 + 3) (lcI (lcUI z (o0 + 2) (lcI z o0 11).toNatClampNeg a1) o0 11).toNatClampNeg a2) o0 11).toNatClampNeg a3) (o0 + 5) (lcI (lcUI (lcUI (lcUI z (o0 + 2) (lcI z o0 11).toNatClampNeg a1) (o0 + 3) (lcI (lcUI z (o0 + 2) (lcI z o0 11).toNatClampNeg a1) o0 11).toNatClampNeg a2) (o0 + 4) (lcI (lcUI (lcUI z (o0 + 2) (lcI z o0 11).toNatClampNeg a1) (o0 + 3) (lcI (lcUI z (o0 + 2) (lcI z o0 11).toNatClampNeg a1) o0 11).toNatClampNeg a2) o0 11).toNatClampNeg a3) o0 11).toNatClampNeg a4) (o0 + 6) (lcI (lcUI (lcUI (lcUI (lcUI z (o0 + 2) (lcI z o0 11).toNatClampNeg a1) (o0 + 3) (lcI (lcUI z (o0 + 2) (lcI z o0 11).toNatClampNeg a1) o0 11).toNatClampNeg a2) (o0 + 4) (lcI (lcUI (lcUI z (o0 + 2) (lcI z o0 11).toNatClampNeg a1) (o0 + 3) (lcI (lcUI z (o0 + 2) (lcI z o0 11).toNatClampNeg a1) o0 11).toNatClampNeg a2) o0 11).toNatClampNeg a3) (o0 + 5) (lcI (lcUI (lcUI (lcUI z (o0 + 2) (lcI z o0 11).toNatClampNeg a1) (o0 + 3) (lcI (lcUI z (o0 + 2) (lcI z o0 11).toNatClampNeg a1) o0 11).toNatClampNeg a2) (o0 + 4) (lcI (lcUI (lcUI z (o0 + 2) (lcI z o0 11).toNatClampNeg a1) (o0 + 3) (lcI (lcUI z (o0 + 2) (lcI z o0 11).toNatClampNeg a1) o0 11).toNatClampNeg a2) o0 11).toNatClampNeg a3) o0 11).toNatClampNeg a4) o0 11).toNatClampNeg 0) (o0 + 7) (lcI (lcUI (lcUI (lcUI (lcUI (lcUI z (o0 + 2) (lcI z o0 11).toNatClampNeg a1) (o0 + 3) (lcI (lcUI z (o0 + 2) (lcI z o0 11).toNatClampNeg a1) o0 11).toNatClampNeg a2) (o0 + 4) (lcI (lcUI (lcUI z (o0 + 2) (lcI z o0 11).toNatClampNeg a1) (o0 + 3) (lcI (lcUI z (o0 + 2) (lcI z o0 11).toNatClampNeg a1) o0 11).toNatClampNeg a2) o0 11).toNatClampNeg a3) (o0 + 5) (lcI (lcUI (lcUI (lcUI z (o0 + 2) (lcI z o0 11).toNatClampNeg a1) (o0 + 3) (lcI (lcUI z (o0 + 2) (lcI z o0 11).toNatClampNeg a1) o0 11).toNatClampNeg a2) (o0 + 4) (lcI (lcUI (lcUI z (o0 + 2) (lcI z o0 11).toNatClampNeg a1) (o0 + 3) (lcI (lcUI z (o0 + 2) (lcI z o0 11).toNatClampNeg a1) o0 11).toNatClampNeg a2) o0 11).toNatClampNeg a3) o0 11).toNatClampNeg a4) (o0 + 6) (lcI (lcUI (lcUI (lcUI (lcUI z (o0 + 2) (lcI z o0 11).toNatClampNeg a1) (o0 + 3) (lcI (lcUI z (o0 + 2) (lcI z o0 11).toNatClampNeg a1) o0 11).toNatClampNeg a2) (o0 + 4) (lcI (lcUI (lcUI z (o0 + 2) (lcI z o0 11).toNatClampNeg a1) (o0 + 3) (lcI (lcUI z (o0 + 2) (lcI z o0 11).toNatClampNeg a1) o0 11).toNatClampNeg a2) o0 11).toNatClampNeg a3) (o0 + 5) (lcI (lcUI (lcUI (lcUI z (o0 + 2) (lcI z o0 11).toNatClampNeg a1) (o0 + 3) (lcI (lcUI z (o0 + 2) (lcI z o0 11).toNatClampNeg a1) o0 11).toNatClampNeg a2) (o0 + 4) (lcI (lcUI (lcUI z (o0 + 2) (lcI z o0 11).toNatClampNeg a1) (o0 + 3) (lcI (lcUI z (o0 + 2) (lcI z o0 11).toNatClampNeg a1) o0 11).toNatClampNeg a2) o0 11).toNatClampNeg a3) o0 11).toNatClampNeg a4) o0 11).toNatClampNeg 0) o0 11).toNatClampNeg (-1)) o0 11 ((lcI (lcUI (lcUI (lcUI (lcUI (lcUI (lcUI z (o0 + 2) (lcI z o0 11).toNatClampNeg a1) (o0 + 3) (lcI (lcUI z (o0 + 2) (lcI z o0 11).toNatClampNeg a1) o0 11).toNatClampNeg a2) (o0 + 4) (lcI (lcUI (lcUI z (o0 + 2) (lcI z o0 11).toNatClampNeg a1) (o0 + 3) (lcI (lcUI z (o0 + 2) (lcI z o0 11).toNatClampNeg a1) o0 11).toNatClampNeg a2) o0 11).toNatClampNeg a3) (o0 + 5) (lcI (lcUI (lcUI (lcUI z (o0 + 2) (lcI z o0 11).toNatClampNeg a1) (o0 + 3) (lcI (lcUI z (o0 + 2) (lcI z o0 11).toNatClampNeg a1) o0 11).toNatClampNeg a2) (o0 + 4) (lcI (lcUI (lcUI z (o0 + 2) (lcI z o0 11).toNatClampNeg a1) (o0 + 3) (lcI (lcUI z (o0 + 2) (lcI z o0 11).toNatClampNeg a1) o0 11).toNatClampNeg a2) o0 11).toNatClampNeg a3) o0 11).toNatClampNeg a4) (o0 + 6) (lcI (lcUI (lcUI (lcUI (lcUI z (o0 + 2) (lcI z o0 11).toNatClampNeg a1) (o0 + 3) (lcI (lcUI z (o0 + 2) (lcI z o0 11).toNatClampNeg a1) o0 11).toNatClampNeg a2) (o0 + 4) (lcI (lcUI (lcUI z (o0 + 2) (lcI z o0 11).toNatClampNeg a1) (o0 + 3) (lcI (lcUI z (o0 + 2) (lcI z o0 11).toNatClampNeg a1) o0 11).toNatClampNeg a2) o0 11).toNatClampNeg a3) (o0 + 5) (lcI (lcUI (lcUI (lcUI z (o0 + 2) (lcI z o0 11).toNatClampNeg a1) (o0 + 3) (lcI (lcUI z (o0 + 2) (lcI z o0 11).toNatClampNeg a1) o0 11).toNatClampNeg a2) (o0 + 4) (lcI (lcUI (lcUI z (o0 + 2) (lcI z o0 11).toNatClampNeg a1) (o0 + 3) (lcI (lcUI z (o0 + 2) (lcI z o0 11).toNatClampNeg a1) o0 11).toNatClampNeg a2) o0 11).toNatClampNeg a3) o0 11).toNatClampNeg a4) o0 11).toNatClampNeg 0) (o0 + 7) (lcI (lcUI (lcUI (lcUI (lcUI (lcUI z (o0 + 2) (lcI z o0 11).toNatClampNeg a1) (o0 + 3) (lcI (lcUI z (o0 + 2) (lcI z o0 11).toNatClampNeg a1) o0 11).toNatClampNeg a2) (o0 + 4) (lcI (lcUI (lcUI z (o0 + 2) (lcI z o0 11).toNatClampNeg a1) (o0 + 3) (lcI (lcUI z (o0 + 2) (lcI z o0 11).toNatClampNeg a1) o0 11).toNatClampNeg a2) o0 11).toNatClampNeg a3) (o0 + 5) (lcI (lcUI (lcUI (lcUI z (o0 + 2) (lcI z o0 11).toNatClampNeg a1) (o0 + 3) (lcI (lcUI z (o0 + 2) (lcI z o0 11).toNatClampNeg a1) o0 11).toNatClampNeg a2) (o0 + 4) (lcI (lcUI (lcUI z (o0 + 2) (lcI z o0 11).toNatClampNeg a1) (o0 + 3) (lcI (lcUI z (o0 + 2) (lcI z o0 11).toNatClampNeg a1) o0 11).toNatClampNeg a2) o0 11).toNatClampNeg a3) o0 11).toNatClampNeg a4) (o0 + 6) (lcI (lcUI (lcUI (lcUI (lcUI z (o0 + 2) (lcI z o0 11).toNatClampNeg a1) (o0 + 3) (lcI (lcUI z (o0 + 2) (lcI z o0 11).toNatClampNeg a1) o0 11).toNatClampNeg a2) (o0 + 4) (lcI (lcUI (lcUI z (o0 + 2) (lcI z o0 11).toNatClampNeg a1) (o0 + 3) (lcI (lcUI z (o0 + 2) (lcI z o0 11).toNatClampNeg a1) o0 11).toNatClampNeg a2) o0 11).toNatClampNeg a3) (o0 + 5) (lcI (lcUI (lcUI (lcUI z (o0 + 2) (lcI z o0 11).toNatClampNeg a1) (o0 + 3) (lcI (lcUI z (o0 + 2) (lcI z o0 11).toNatClampNeg a1) o0 11).toNatClampNeg a2) (o0 + 4) (lcI (lcUI (lcUI z (o0 + 2) (lcI z o0 11).toNatClampNeg a1) (o0 + 3) (lcI (lcUI z (o0 + 2) (lcI z o0 11).toNatClampNeg a1) o0 11).toNatClampNeg a2) o0 11).toNatClampNeg a3) o0 11).toNatClampNeg a4) o0 11).toNatClampNeg 0) o0 11).toNatClampNeg (-1)) o0 11) + 1))))))))) else (some ((-1), z)))
set_option maxHeartbeats 4000000 in
set_option maxRecDepth 100000 in
theorem cP_addForm (l : Launch) (G : lc_G) {o0 : Nat} {a1 : Int32} {a2 : Int32} {a3 : Int32} {a4 : Int32} {r : Int32} {z z' : lc_S} (hf : fP_addForm o0 a1 a2 a3 a4 z = some (r, z')) : lc_M l G yP_addForm wP_addForm 0 [.ref (lc_ad G o0), .int a1, .int a2, .int a3, .int a4] z (some (.int r)) z' := by
  refine lc_M_of (cc := prog_5_method_7_code) (maxL := 5) (ret := (some .int)) (own := "LinearCells$Procedure") (by decide) rfl (fun w h => List.mem_cons_of_mem _ h) (Nat.le_of_ble_eq_true rfl) rfl ?_
  intro p e s m below meth c hx hb hml hr hlocks hown hts hE ls hl hH
  replace hl : lv_has ls 5 [(0, .ref (lc_ad G o0)), (1, .int a1), (2, .int a2), (3, .int a3), (4, .int a4)] := hl
  rw [fP_addForm] at hf
  refine lv_aload_n hx hb dP_addForm_0 rfl (lv_at hl 0 rfl) ?_
  obtain ⟨hs1_0, hf⟩ := lc_chk_some hf
  refine lc_geti hx hb hts hown hE hH flP_50 hs1_0 rfl dP_addForm_1 ?_
  refine lv_bipush (v := 120) hx hb dP_addForm_4 (by decide) ?_
  refine lv_icmp_lt (tgt := 11) hx hb dP_addForm_6 (by decide) (fun hc => ?_) (fun hc => ?_)
  · replace hf := lc_ite_pos hc hf
    refine lv_aload_n hx hb dP_addForm_11 rfl (lv_at hl 0 rfl) ?_
    refine lc_getf (d := 2) (q := o0 + 2) hx hb hts hown hE hH flP_15 hs1_0 rfl rfl dP_addForm_12 ?_
    refine lv_aload_n hx hb dP_addForm_15 rfl (lv_at hl 0 rfl) ?_
    refine lc_geti hx hb hts hown hE hH flP_50 hs1_0 rfl dP_addForm_16 ?_
    refine lv_iload_n hx hb dP_addForm_19 rfl (lv_at hl 1 rfl) ?_
    obtain ⟨hi20, hf⟩ := lc_chk_some hf
    refine lc_iast hx hb hE hH (lc_pr2 hs1_0) rfl hi20 dP_addForm_20 (fun H locs hH => ?_)
    refine lv_aload_n hx hb dP_addForm_21 rfl (lv_at hl 0 rfl) ?_
    refine lc_getf (d := 3) (q := o0 + 3) hx hb hts hown hE hH flP_18 hs1_0 rfl rfl dP_addForm_22 ?_
    refine lv_aload_n hx hb dP_addForm_25 rfl (lv_at hl 0 rfl) ?_
    refine lc_geti hx hb hts hown hE hH flP_50 hs1_0 rfl dP_addForm_26 ?_
    refine lv_iload_n hx hb dP_addForm_29 rfl (lv_at hl 2 rfl) ?_
    obtain ⟨hi30, hf⟩ := lc_chk_some hf
    refine lc_iast hx hb hE hH (lc_pr3 hs1_0) rfl hi30 dP_addForm_30 (fun H locs hH => ?_)
    refine lv_aload_n hx hb dP_addForm_31 rfl (lv_at hl 0 rfl) ?_
    refine lc_getf (d := 4) (q := o0 + 4) hx hb hts hown hE hH flP_21 hs1_0 rfl rfl dP_addForm_32 ?_
    refine lv_aload_n hx hb dP_addForm_35 rfl (lv_at hl 0 rfl) ?_
    refine lc_geti hx hb hts hown hE hH flP_50 hs1_0 rfl dP_addForm_36 ?_
    refine lv_iload_n hx hb dP_addForm_39 rfl (lv_at hl 3 rfl) ?_
    obtain ⟨hi40, hf⟩ := lc_chk_some hf
    refine lc_iast hx hb hE hH (lc_pr4 hs1_0) rfl hi40 dP_addForm_40 (fun H locs hH => ?_)
    refine lv_aload_n hx hb dP_addForm_41 rfl (lv_at hl 0 rfl) ?_
    refine lc_getf (d := 5) (q := o0 + 5) hx hb hts hown hE hH flP_24 hs1_0 rfl rfl dP_addForm_42 ?_
    refine lv_aload_n hx hb dP_addForm_45 rfl (lv_at hl 0 rfl) ?_
    refine lc_geti hx hb hts hown hE hH flP_50 hs1_0 rfl dP_addForm_46 ?_
    refine lv_iload hx hb dP_addForm_49 (lv_at hl 4 rfl) ?_
    obtain ⟨hi51, hf⟩ := lc_chk_some hf
    refine lc_iast hx hb hE hH (lc_pr5 hs1_0) rfl hi51 dP_addForm_51 (fun H locs hH => ?_)
    refine lv_aload_n hx hb dP_addForm_52 rfl (lv_at hl 0 rfl) ?_
    refine lc_getf (d := 6) (q := o0 + 6) hx hb hts hown hE hH flP_27 hs1_0 rfl rfl dP_addForm_53 ?_
    refine lv_aload_n hx hb dP_addForm_56 rfl (lv_at hl 0 rfl) ?_
    refine lc_geti hx hb hts hown hE hH flP_50 hs1_0 rfl dP_addForm_57 ?_
    refine lv_iconst (v := 0) hx hb dP_addForm_60 (by decide) ?_
    obtain ⟨hi61, hf⟩ := lc_chk_some hf
    refine lc_iast hx hb hE hH (lc_pr6 hs1_0) rfl hi61 dP_addForm_61 (fun H locs hH => ?_)
    refine lv_aload_n hx hb dP_addForm_62 rfl (lv_at hl 0 rfl) ?_
    refine lc_getf (d := 7) (q := o0 + 7) hx hb hts hown hE hH flP_30 hs1_0 rfl rfl dP_addForm_63 ?_
    refine lv_aload_n hx hb dP_addForm_66 rfl (lv_at hl 0 rfl) ?_
    refine lc_geti hx hb hts hown hE hH flP_50 hs1_0 rfl dP_addForm_67 ?_
    refine lv_iconst (v := (-1)) hx hb dP_addForm_70 (by decide) ?_
    obtain ⟨hi71, hf⟩ := lc_chk_some hf
    refine lc_iast hx hb hE hH (lc_pr7 hs1_0) rfl hi71 dP_addForm_71 (fun H locs hH => ?_)
    refine lv_aload_n hx hb dP_addForm_72 rfl (lv_at hl 0 rfl) ?_
    refine lv_dup hx hb dP_addForm_73 rfl ?_
    refine lc_geti hx hb hts hown hE hH flP_50 hs1_0 rfl dP_addForm_74 ?_
    refine lv_iconst (v := 1) hx hb dP_addForm_77 (by decide) ?_
    refine lv_iadd hx hb dP_addForm_78 ?_
    refine lc_puti hx hb hts hown hE hH fpP_50 hs1_0 rfl rfl rfl dP_addForm_79 (fun H locs hH => ?_)
    refine lv_aload_n hx hb dP_addForm_82 rfl (lv_at hl 0 rfl) ?_
    refine lc_geti hx hb hts hown hE hH flP_50 hs1_0 rfl dP_addForm_83 ?_
    refine lv_iconst (v := 1) hx hb dP_addForm_86 (by decide) ?_
    refine lv_isub hx hb dP_addForm_87 ?_
    exact lc_iret hx hb hr hlocks hH hf dP_addForm_88
  · replace hf := lc_ite_neg hc hf
    refine lv_iconst (v := (-1)) hx hb dP_addForm_9 (by decide) ?_
    exact lc_iret hx hb hr hlocks hH hf dP_addForm_10
theorem dP_annotate_0 : decode prog_5_method_8_code 0 = .ok (.iload_n 1, 1) := by decide +kernel
theorem dP_annotate_1 : decode prog_5_method_8_code 1 = .ok (.iconst (-1), 1) := by decide +kernel
theorem dP_annotate_2 : decode prog_5_method_8_code 2 = .ok (.if_icmp .eq 17, 3) := by decide +kernel
theorem dP_annotate_5 : decode prog_5_method_8_code 5 = .ok (.aload_n 0, 1) := by decide +kernel
theorem dP_annotate_6 : decode prog_5_method_8_code 6 = .ok (.getfield 27, 3) := by decide +kernel
theorem dP_annotate_9 : decode prog_5_method_8_code 9 = .ok (.iload_n 1, 1) := by decide +kernel
theorem dP_annotate_10 : decode prog_5_method_8_code 10 = .ok (.iload_n 2, 1) := by decide +kernel
theorem dP_annotate_11 : decode prog_5_method_8_code 11 = .ok (.iastore, 1) := by decide +kernel
theorem dP_annotate_12 : decode prog_5_method_8_code 12 = .ok (.aload_n 0, 1) := by decide +kernel
theorem dP_annotate_13 : decode prog_5_method_8_code 13 = .ok (.getfield 30, 3) := by decide +kernel
theorem dP_annotate_16 : decode prog_5_method_8_code 16 = .ok (.iload_n 1, 1) := by decide +kernel
theorem dP_annotate_17 : decode prog_5_method_8_code 17 = .ok (.iload_n 3, 1) := by decide +kernel
theorem dP_annotate_18 : decode prog_5_method_8_code 18 = .ok (.iastore, 1) := by decide +kernel
theorem dP_annotate_19 : decode prog_5_method_8_code 19 = .ok (.iload_n 1, 1) := by decide +kernel
theorem dP_annotate_20 : decode prog_5_method_8_code 20 = .ok (.ireturn, 1) := by decide +kernel
def fP_annotate_19 (x1 : Int32) (z : lc_S) : Option ((Int32) × lc_S) :=
  some (x1, z)
def fP_annotate (o0 : Nat) (a1 : Int32) (a2 : Int32) (a3 : Int32) (z : lc_S) : Option ((Int32) × lc_S) :=
  if a1 = (-1) then (fP_annotate_19 a1 z) else (lc_chk (lc_sh o0 = (0, 1, 0)) (lc_chk (lc_in a1 120) (lc_chk (lc_in a1 120) (fP_annotate_19 a1 (lcUI (lcUI z (o0 + 6) a1.toNatClampNeg a2) (o0 + 7) a1.toNatClampNeg a3)))))
set_option maxHeartbeats 4000000 in
set_option maxRecDepth 100000 in
theorem bP_annotate_19 {p : Program} {l : Launch} {e : Env} {s : State} {m : MethodId} {args : Array Value} {below : List Frame} {meth : Method} {c : Code} {G : lc_G} (hx : p.tables.exec = Jvm.exec) (hb : c.code = prog_5_method_8_code) (hml : c.maxLocals = 4) (hr : meth.sig.returnType = (some .int)) (hlocks : meth.locks = false) (hown : s.vm.findClass "LinearCells$Procedure" = some m.cls) (hts : ∀ w ∈ lc_ALL, w.before args s = true) (hE : lc_E G s) {r : Int32} {z' : lc_S} : ∀ {x1 : Int32} {z : lc_S} {H : Heap} {locs : List Loc} {ls : Array Slot}, fP_annotate_19 x1 z = some (r, z') → lv_has ls 4 [(1, .int x1)] → lc_H G z s.heap H locs → W p l e (lc_rm 0) s m args below meth c H locs 0 0 (MQ below (lc_Q G (some (.int r)) z') args s 0 0 (lc_A G)) (F0 m 19 ls []) := by
  intro x1 z H locs ls hf hl hH
  rw [fP_annotate_19] at hf
  refine lv_iload_n hx hb dP_annotate_19 rfl (lv_at hl 0 rfl) ?_
  exact lc_iret hx hb hr hlocks hH hf dP_annotate_20
set_option maxHeartbeats 4000000 in
set_option maxRecDepth 100000 in
theorem cP_annotate (l : Launch) (G : lc_G) {o0 : Nat} {a1 : Int32} {a2 : Int32} {a3 : Int32} {r : Int32} {z z' : lc_S} (hf : fP_annotate o0 a1 a2 a3 z = some (r, z')) : lc_M l G yP_annotate wP_annotate 0 [.ref (lc_ad G o0), .int a1, .int a2, .int a3] z (some (.int r)) z' := by
  refine lc_M_of (cc := prog_5_method_8_code) (maxL := 4) (ret := (some .int)) (own := "LinearCells$Procedure") (by decide) rfl (fun w h => List.mem_cons_of_mem _ h) (Nat.le_of_ble_eq_true rfl) rfl ?_
  intro p e s m below meth c hx hb hml hr hlocks hown hts hE ls hl hH
  replace hl : lv_has ls 4 [(0, .ref (lc_ad G o0)), (1, .int a1), (2, .int a2), (3, .int a3)] := hl
  rw [fP_annotate] at hf
  refine lv_iload_n hx hb dP_annotate_0 rfl (lv_at hl 1 rfl) ?_
  refine lv_iconst (v := (-1)) hx hb dP_annotate_1 (by decide) ?_
  refine lv_icmp_eq (tgt := 19) hx hb dP_annotate_2 (by decide) (fun hc => ?_) (fun hc => ?_)
  · replace hf := lc_ite_pos hc hf
    exact bP_annotate_19 hx hb hml hr hlocks hown hts hE hf (lv_sub hl [1] rfl) hH
  · replace hf := lc_ite_neg hc hf
    refine lv_aload_n hx hb dP_annotate_5 rfl (lv_at hl 0 rfl) ?_
    obtain ⟨hs6_0, hf⟩ := lc_chk_some hf
    refine lc_getf (d := 6) (q := o0 + 6) hx hb hts hown hE hH flP_27 hs6_0 rfl rfl dP_annotate_6 ?_
    refine lv_iload_n hx hb dP_annotate_9 rfl (lv_at hl 1 rfl) ?_
    refine lv_iload_n hx hb dP_annotate_10 rfl (lv_at hl 2 rfl) ?_
    obtain ⟨hi11, hf⟩ := lc_chk_some hf
    refine lc_iast hx hb hE hH (lc_pr6 hs6_0) rfl hi11 dP_annotate_11 (fun H locs hH => ?_)
    refine lv_aload_n hx hb dP_annotate_12 rfl (lv_at hl 0 rfl) ?_
    refine lc_getf (d := 7) (q := o0 + 7) hx hb hts hown hE hH flP_30 hs6_0 rfl rfl dP_annotate_13 ?_
    refine lv_iload_n hx hb dP_annotate_16 rfl (lv_at hl 1 rfl) ?_
    refine lv_iload_n hx hb dP_annotate_17 rfl (lv_at hl 3 rfl) ?_
    obtain ⟨hi18, hf⟩ := lc_chk_some hf
    refine lc_iast hx hb hE hH (lc_pr7 hs6_0) rfl hi18 dP_annotate_18 (fun H locs hH => ?_)
    exact bP_annotate_19 hx hb hml hr hlocks hown hts hE hf (lv_sub hl [1] rfl) hH
theorem dP_addLeaf_0 : decode prog_5_method_6_code 0 = .ok (.aload_n 0, 1) := by decide +kernel
theorem dP_addLeaf_1 : decode prog_5_method_6_code 1 = .ok (.iload_n 1, 1) := by decide +kernel
theorem dP_addLeaf_2 : decode prog_5_method_6_code 2 = .ok (.iconst (-1), 1) := by decide +kernel
theorem dP_addLeaf_3 : decode prog_5_method_6_code 3 = .ok (.iconst (-1), 1) := by decide +kernel
theorem dP_addLeaf_4 : decode prog_5_method_6_code 4 = .ok (.iconst (-1), 1) := by decide +kernel
theorem dP_addLeaf_5 : decode prog_5_method_6_code 5 = .ok (.invokevirtual 56, 3) := by decide +kernel
theorem dP_addLeaf_8 : decode prog_5_method_6_code 8 = .ok (.istore 4, 2) := by decide +kernel
theorem dP_addLeaf_10 : decode prog_5_method_6_code 10 = .ok (.aload_n 0, 1) := by decide +kernel
theorem dP_addLeaf_11 : decode prog_5_method_6_code 11 = .ok (.iload 4, 2) := by decide +kernel
theorem dP_addLeaf_13 : decode prog_5_method_6_code 13 = .ok (.iload_n 2, 1) := by decide +kernel
theorem dP_addLeaf_14 : decode prog_5_method_6_code 14 = .ok (.iload_n 3, 1) := by decide +kernel
theorem dP_addLeaf_15 : decode prog_5_method_6_code 15 = .ok (.invokevirtual 60, 3) := by decide +kernel
theorem dP_addLeaf_18 : decode prog_5_method_6_code 18 = .ok (.ireturn, 1) := by decide +kernel
def fP_addLeaf (o0 : Nat) (a1 : Int32) (a2 : Int32) (a3 : Int32) (z : lc_S) : Option ((Int32) × lc_S) :=
  lc_chk (lc_sh o0 = (0, 1, 0)) (lc_bnd (fP_addForm o0 a1 (-1) (-1) (-1) z) (fun r5 z5 => lc_bnd (fP_annotate o0 r5 a2 a3 z5) (fun r15 z15 => some (r15, z15))))
set_option maxHeartbeats 4000000 in
set_option maxRecDepth 100000 in
theorem cP_addLeaf (l : Launch) (G : lc_G) {o0 : Nat} {a1 : Int32} {a2 : Int32} {a3 : Int32} {r : Int32} {z z' : lc_S} (hf : fP_addLeaf o0 a1 a2 a3 z = some (r, z')) : lc_M l G yP_addLeaf wP_addLeaf 1 [.ref (lc_ad G o0), .int a1, .int a2, .int a3] z (some (.int r)) z' := by
  refine lc_M_of (cc := prog_5_method_6_code) (maxL := 5) (ret := (some .int)) (own := "LinearCells$Procedure") (by decide) rfl (fun w h => List.mem_cons_of_mem _ h) (Nat.le_of_ble_eq_true rfl) rfl ?_
  intro p e s m below meth c hx hb hml hr hlocks hown hts hE ls hl hH
  replace hl : lv_has ls 5 [(0, .ref (lc_ad G o0)), (1, .int a1), (2, .int a2), (3, .int a3)] := hl
  rw [fP_addLeaf] at hf
  refine lv_aload_n hx hb dP_addLeaf_0 rfl (lv_at hl 0 rfl) ?_
  refine lv_iload_n hx hb dP_addLeaf_1 rfl (lv_at hl 1 rfl) ?_
  refine lv_iconst (v := (-1)) hx hb dP_addLeaf_2 (by decide) ?_
  refine lv_iconst (v := (-1)) hx hb dP_addLeaf_3 (by decide) ?_
  refine lv_iconst (v := (-1)) hx hb dP_addLeaf_4 (by decide) ?_
  obtain ⟨hs5_0, hf⟩ := lc_chk_some hf
  obtain ⟨r5, z5, h5, hf⟩ := lc_bnd_some hf
  refine lc_calli (va_runV (As := [.int a1, .int (-1), .int (-1), .int (-1)]) (rest := []) ⟨hx, hb, hml, hown, hts⟩ (cP_addForm l G h5) (lc_cwV hts kvP_56 (lc_room (by decide) (by decide))) (lc_preV hE hH hs5_0 rfl _) rfl rfl hl.1 rfl (lv_room (Nat.le_of_ble_eq_true rfl)) dP_addLeaf_5 ⟨Nat.zero_le _, Nat.zero_le _⟩) hH (fun H locs hH => ?_)
  refine lv_istore hx hb dP_addLeaf_8 hl (by decide) rfl (fun ls hl => ?_)
  replace hl : lv_has ls 5 [(4, .int r5), (0, .ref (lc_ad G o0)), (1, .int a1), (2, .int a2), (3, .int a3)] := hl
  refine lv_aload_n hx hb dP_addLeaf_10 rfl (lv_at hl 1 rfl) ?_
  refine lv_iload hx hb dP_addLeaf_11 (lv_at hl 0 rfl) ?_
  refine lv_iload_n hx hb dP_addLeaf_13 rfl (lv_at hl 3 rfl) ?_
  refine lv_iload_n hx hb dP_addLeaf_14 rfl (lv_at hl 4 rfl) ?_
  obtain ⟨r15, z15, h15, hf⟩ := lc_bnd_some hf
  refine lc_calli (va_runV (As := [.int r5, .int a2, .int a3]) (rest := []) ⟨hx, hb, hml, hown, hts⟩ (cP_annotate l G h15) (lc_cwV hts kvP_60 (lc_room (by decide) (by decide))) (lc_preV hE hH hs5_0 rfl _) rfl rfl hl.1 rfl (lv_room (Nat.le_of_ble_eq_true rfl)) dP_addLeaf_15 ⟨Nat.zero_le _, Nat.zero_le _⟩) hH (fun H locs hH => ?_)
  exact lc_iret hx hb hr hlocks hH hf dP_addLeaf_18
theorem dR_addVariable_0 : decode prog_6_method_20_code 0 = .ok (.aload_n 0, 1) := by decide +kernel
theorem dR_addVariable_1 : decode prog_6_method_20_code 1 = .ok (.getfield 45, 3) := by decide +kernel
theorem dR_addVariable_4 : decode prog_6_method_20_code 4 = .ok (.iconst 1, 1) := by decide +kernel
theorem dR_addVariable_5 : decode prog_6_method_20_code 5 = .ok (.isub, 1) := by decide +kernel
theorem dR_addVariable_6 : decode prog_6_method_20_code 6 = .ok (.istore_n 2, 1) := by decide +kernel
theorem dR_addVariable_7 : decode prog_6_method_20_code 7 = .ok (.iload_n 2, 1) := by decide +kernel
theorem dR_addVariable_8 : decode prog_6_method_20_code 8 = .ok (.ifCond .lt 41, 3) := by decide +kernel
theorem dR_addVariable_11 : decode prog_6_method_20_code 11 = .ok (.aload_n 0, 1) := by decide +kernel
theorem dR_addVariable_12 : decode prog_6_method_20_code 12 = .ok (.getfield 13, 3) := by decide +kernel
theorem dR_addVariable_15 : decode prog_6_method_20_code 15 = .ok (.iload_n 2, 1) := by decide +kernel
theorem dR_addVariable_16 : decode prog_6_method_20_code 16 = .ok (.iaload, 1) := by decide +kernel
theorem dR_addVariable_17 : decode prog_6_method_20_code 17 = .ok (.iload_n 1, 1) := by decide +kernel
theorem dR_addVariable_18 : decode prog_6_method_20_code 18 = .ok (.if_icmp .ne 25, 3) := by decide +kernel
theorem dR_addVariable_21 : decode prog_6_method_20_code 21 = .ok (.aload_n 0, 1) := by decide +kernel
theorem dR_addVariable_22 : decode prog_6_method_20_code 22 = .ok (.getfield 38, 3) := by decide +kernel
theorem dR_addVariable_25 : decode prog_6_method_20_code 25 = .ok (.bipush 118, 2) := by decide +kernel
theorem dR_addVariable_27 : decode prog_6_method_20_code 27 = .ok (.aload_n 0, 1) := by decide +kernel
theorem dR_addVariable_28 : decode prog_6_method_20_code 28 = .ok (.getfield 20, 3) := by decide +kernel
theorem dR_addVariable_31 : decode prog_6_method_20_code 31 = .ok (.iload_n 2, 1) := by decide +kernel
theorem dR_addVariable_32 : decode prog_6_method_20_code 32 = .ok (.iaload, 1) := by decide +kernel
theorem dR_addVariable_33 : decode prog_6_method_20_code 33 = .ok (.aload_n 0, 1) := by decide +kernel
theorem dR_addVariable_34 : decode prog_6_method_20_code 34 = .ok (.getfield 17, 3) := by decide +kernel
theorem dR_addVariable_37 : decode prog_6_method_20_code 37 = .ok (.iload_n 2, 1) := by decide +kernel
theorem dR_addVariable_38 : decode prog_6_method_20_code 38 = .ok (.iaload, 1) := by decide +kernel
theorem dR_addVariable_39 : decode prog_6_method_20_code 39 = .ok (.invokevirtual 85, 3) := by decide +kernel
theorem dR_addVariable_42 : decode prog_6_method_20_code 42 = .ok (.ireturn, 1) := by decide +kernel
theorem dR_addVariable_43 : decode prog_6_method_20_code 43 = .ok (.iinc 2 (-1), 3) := by decide +kernel
theorem dR_addVariable_46 : decode prog_6_method_20_code 46 = .ok (.goto (-39), 3) := by decide +kernel
theorem dR_addVariable_49 : decode prog_6_method_20_code 49 = .ok (.aload_n 0, 1) := by decide +kernel
theorem dR_addVariable_50 : decode prog_6_method_20_code 50 = .ok (.iconst 1, 1) := by decide +kernel
theorem dR_addVariable_51 : decode prog_6_method_20_code 51 = .ok (.putfield 23, 3) := by decide +kernel
theorem dR_addVariable_54 : decode prog_6_method_20_code 54 = .ok (.aload_n 0, 1) := by decide +kernel
theorem dR_addVariable_55 : decode prog_6_method_20_code 55 = .ok (.getfield 38, 3) := by decide +kernel
theorem dR_addVariable_58 : decode prog_6_method_20_code 58 = .ok (.bipush 118, 2) := by decide +kernel
theorem dR_addVariable_60 : decode prog_6_method_20_code 60 = .ok (.iconst 0, 1) := by decide +kernel
theorem dR_addVariable_61 : decode prog_6_method_20_code 61 = .ok (.iconst 0, 1) := by decide +kernel
theorem dR_addVariable_62 : decode prog_6_method_20_code 62 = .ok (.invokevirtual 85, 3) := by decide +kernel
theorem dR_addVariable_65 : decode prog_6_method_20_code 65 = .ok (.ireturn, 1) := by decide +kernel
def fR_addVariable_7 : Nat → Int32 → Int32 → lc_S → Option ((Int32) × lc_S)
  | 0, _, _, _ => none
  | n + 1, x1, x2, z => if x2 < 0 then (lc_bnr (lcR (lcUI z 4 4 1) 4 3) (fun q55 => lc_chk (lc_sh q55 = (0, 1, 0)) (lc_bnd (fP_addLeaf q55 118 0 0 (lcUI z 4 4 1)) (fun r62 z62 => some (r62, z62))))) else (lc_chk (lc_in x2 33) (if (lcI z 5 x2.toNatClampNeg) = x1 then (lc_bnr (lcR z 4 3) (fun q22 => lc_chk (lc_in x2 33) (lc_chk (lc_in x2 33) (lc_chk (lc_sh q22 = (0, 1, 0)) (lc_bnd (fP_addLeaf q22 118 (lcI z 7 x2.toNatClampNeg) (lcI z 6 x2.toNatClampNeg) z) (fun r39 z39 => some (r39, z39))))))) else (lc_let (x2 + (-1)) (fun x43 => fR_addVariable_7 n x1 x43 z))))
def fR_addVariable (a1 : Int32) (z : lc_S) : Option ((Int32) × lc_S) :=
  lc_let ((lcI z 4 8) - 1) (fun x6 => fR_addVariable_7 lc_FU a1 x6 z)
set_option maxHeartbeats 4000000 in
set_option maxRecDepth 100000 in
theorem bR_addVariable_7 {p : Program} {l : Launch} {e : Env} {s : State} {m : MethodId} {args : Array Value} {below : List Frame} {meth : Method} {c : Code} {G : lc_G} (hx : p.tables.exec = Jvm.exec) (hb : c.code = prog_6_method_20_code) (hml : c.maxLocals = 3) (hr : meth.sig.returnType = (some .int)) (hlocks : meth.locks = false) (hown : s.vm.findClass "LinearCells$Reader" = some m.cls) (hts : ∀ w ∈ lc_ALL, w.before args s = true) (hE : lc_E G s) {r : Int32} {z' : lc_S} : ∀ (n : Nat) {x1 : Int32} {x2 : Int32} {z : lc_S} {H : Heap} {locs : List Loc} {ls : Array Slot}, fR_addVariable_7 n x1 x2 z = some (r, z') → lv_has ls 3 [(0, .ref (lc_ad G 4)), (1, .int x1), (2, .int x2)] → lc_H G z s.heap H locs → W p l e (lc_rm 2) s m args below meth c H locs 0 0 (MQ below (lc_Q G (some (.int r)) z') args s 0 0 (lc_A G)) (F0 m 7 ls []) := by
  intro n
  induction n with
  | zero =>
    intro x1 x2 z H locs ls hf hl hH
    exact absurd (show (none : Option ((Int32) × lc_S)) = some (r, z') from hf) (fun h => by cases h)
  | succ n ih =>
    intro x1 x2 z H locs ls hf hl hH
    rw [fR_addVariable_7] at hf
    refine lv_iload_n hx hb dR_addVariable_7 rfl (lv_at hl 2 rfl) ?_
    refine lv_if_lt (tgt := 49) hx hb dR_addVariable_8 (by decide) (fun hc => ?_) (fun hc => ?_)
    · replace hf := lc_ite_pos hc hf
      refine lv_aload_n hx hb dR_addVariable_49 rfl (lv_at hl 0 rfl) ?_
      refine lv_iconst (v := 1) hx hb dR_addVariable_50 (by decide) ?_
      refine lc_puti hx hb hts hown hE hH fpR_23 lc_h4 rfl (by decide) (by decide) dR_addVariable_51 (fun H locs hH => ?_)
      refine lv_aload_n hx hb dR_addVariable_54 rfl (lv_at hl 0 rfl) ?_
      obtain ⟨q55, hq55, hf⟩ := lc_bnr_some hf
      refine lc_getr hx hb hts hown hE hH flR_38 lc_h4 rfl hq55 dR_addVariable_55 ?_
      refine lv_bipush (v := 118) hx hb dR_addVariable_58 (by decide) ?_
      refine lv_iconst (v := 0) hx hb dR_addVariable_60 (by decide) ?_
      refine lv_iconst (v := 0) hx hb dR_addVariable_61 (by decide) ?_
      obtain ⟨hs62_0, hf⟩ := lc_chk_some hf
      obtain ⟨r62, z62, h62, hf⟩ := lc_bnd_some hf
      refine lc_calli (va_runV (As := [.int 118, .int 0, .int 0]) (rest := []) ⟨hx, hb, hml, hown, hts⟩ (cP_addLeaf l G h62) (lc_cwV hts kvR_85 (lc_room (by decide) (by decide))) (lc_preV hE hH hs62_0 rfl _) rfl rfl hl.1 rfl (lv_room (Nat.le_of_ble_eq_true rfl)) dR_addVariable_62 ⟨Nat.zero_le _, Nat.zero_le _⟩) hH (fun H locs hH => ?_)
      exact lc_iret hx hb hr hlocks hH hf dR_addVariable_65
    · replace hf := lc_ite_neg hc hf
      refine lv_aload_n hx hb dR_addVariable_11 rfl (lv_at hl 0 rfl) ?_
      refine lc_getf (d := 1) (q := 5) hx hb hts hown hE hH flR_13 lc_h4 rfl rfl dR_addVariable_12 ?_
      refine lv_iload_n hx hb dR_addVariable_15 rfl (lv_at hl 2 rfl) ?_
      obtain ⟨hi16, hf⟩ := lc_chk_some hf
      refine lc_iald hx hb hE hH lc_h5 rfl hi16 dR_addVariable_16 ?_
      refine lv_iload_n hx hb dR_addVariable_17 rfl (lv_at hl 1 rfl) ?_
      refine lv_icmp_ne (tgt := 43) hx hb dR_addVariable_18 (by decide) (fun hc => ?_) (fun hc => ?_)
      · replace hf := lc_ite_neg hc hf
        obtain ⟨x43, e43⟩ : ∃ x : Int32, x = x2 + (-1) := ⟨_, rfl⟩
        replace hf := lc_let_of e43 hf
        refine lv_iinc (k := 2) (v := x43) hx hb dR_addVariable_43 hl rfl ((lc_incv _ (by decide)).trans e43.symm) (by decide) rfl (fun ls hl => ?_)
        replace hl : lv_has ls 3 [(2, .int x43), (0, .ref (lc_ad G 4)), (1, .int x1)] := hl
        refine lv_goto (tgt := 7) hx hb dR_addVariable_46 (by decide) ?_
        exact ih hf (lv_sub hl [1, 2, 0] rfl) hH
      · replace hf := lc_ite_pos hc hf
        refine lv_aload_n hx hb dR_addVariable_21 rfl (lv_at hl 0 rfl) ?_
        obtain ⟨q22, hq22, hf⟩ := lc_bnr_some hf
        refine lc_getr hx hb hts hown hE hH flR_38 lc_h4 rfl hq22 dR_addVariable_22 ?_
        refine lv_bipush (v := 118) hx hb dR_addVariable_25 (by decide) ?_
        refine lv_aload_n hx hb dR_addVariable_27 rfl (lv_at hl 0 rfl) ?_
        refine lc_getf (d := 3) (q := 7) hx hb hts hown hE hH flR_20 lc_h4 rfl rfl dR_addVariable_28 ?_
        refine lv_iload_n hx hb dR_addVariable_31 rfl (lv_at hl 2 rfl) ?_
        obtain ⟨hi32, hf⟩ := lc_chk_some hf
        refine lc_iald hx hb hE hH lc_h7 rfl hi32 dR_addVariable_32 ?_
        refine lv_aload_n hx hb dR_addVariable_33 rfl (lv_at hl 0 rfl) ?_
        refine lc_getf (d := 2) (q := 6) hx hb hts hown hE hH flR_17 lc_h4 rfl rfl dR_addVariable_34 ?_
        refine lv_iload_n hx hb dR_addVariable_37 rfl (lv_at hl 2 rfl) ?_
        obtain ⟨hi38, hf⟩ := lc_chk_some hf
        refine lc_iald hx hb hE hH lc_h6 rfl hi38 dR_addVariable_38 ?_
        obtain ⟨hs39_0, hf⟩ := lc_chk_some hf
        obtain ⟨r39, z39, h39, hf⟩ := lc_bnd_some hf
        refine lc_calli (va_runV (As := [.int 118, .int (lcI z 7 x2.toNatClampNeg), .int (lcI z 6 x2.toNatClampNeg)]) (rest := []) ⟨hx, hb, hml, hown, hts⟩ (cP_addLeaf l G h39) (lc_cwV hts kvR_85 (lc_room (by decide) (by decide))) (lc_preV hE hH hs39_0 rfl _) rfl rfl hl.1 rfl (lv_room (Nat.le_of_ble_eq_true rfl)) dR_addVariable_39 ⟨Nat.zero_le _, Nat.zero_le _⟩) hH (fun H locs hH => ?_)
        exact lc_iret hx hb hr hlocks hH hf dR_addVariable_42
set_option maxHeartbeats 4000000 in
set_option maxRecDepth 100000 in
theorem cR_addVariable (l : Launch) (G : lc_G) {a1 : Int32} {r : Int32} {z z' : lc_S} (hf : fR_addVariable a1 z = some (r, z')) : lc_M l G yR_addVariable wR_addVariable 2 [.ref (lc_ad G 4), .int a1] z (some (.int r)) z' := by
  refine lc_M_of (cc := prog_6_method_20_code) (maxL := 3) (ret := (some .int)) (own := "LinearCells$Reader") (by decide) rfl (fun w h => List.mem_cons_of_mem _ h) (Nat.le_of_ble_eq_true rfl) rfl ?_
  intro p e s m below meth c hx hb hml hr hlocks hown hts hE ls hl hH
  replace hl : lv_has ls 3 [(0, .ref (lc_ad G 4)), (1, .int a1)] := hl
  rw [fR_addVariable] at hf
  refine lv_aload_n hx hb dR_addVariable_0 rfl (lv_at hl 0 rfl) ?_
  refine lc_geti hx hb hts hown hE hH flR_45 lc_h4 rfl dR_addVariable_1 ?_
  refine lv_iconst (v := 1) hx hb dR_addVariable_4 (by decide) ?_
  refine lv_isub hx hb dR_addVariable_5 ?_
  refine lv_topi (fun x6 e6 => ?_)
  replace hf := lc_let_of e6 hf
  refine lv_istore_n hx hb dR_addVariable_6 rfl hl (by decide) rfl (fun ls hl => ?_)
  replace hl : lv_has ls 3 [(2, .int x6), (0, .ref (lc_ad G 4)), (1, .int a1)] := hl
  exact bR_addVariable_7 hx hb hml hr hlocks hown hts hE _ hf (lv_sub hl [1, 2, 0] rfl) hH
theorem dR_isDigit_0 : decode prog_6_method_6_code 0 = .ok (.iload_n 0, 1) := by decide +kernel
theorem dR_isDigit_1 : decode prog_6_method_6_code 1 = .ok (.bipush 48, 2) := by decide +kernel
theorem dR_isDigit_3 : decode prog_6_method_6_code 3 = .ok (.if_icmp .lt 13, 3) := by decide +kernel
theorem dR_isDigit_6 : decode prog_6_method_6_code 6 = .ok (.iload_n 0, 1) := by decide +kernel
theorem dR_isDigit_7 : decode prog_6_method_6_code 7 = .ok (.bipush 57, 2) := by decide +kernel
theorem dR_isDigit_9 : decode prog_6_method_6_code 9 = .ok (.if_icmp .gt 7, 3) := by decide +kernel
theorem dR_isDigit_12 : decode prog_6_method_6_code 12 = .ok (.iconst 1, 1) := by decide +kernel
theorem dR_isDigit_13 : decode prog_6_method_6_code 13 = .ok (.goto 4, 3) := by decide +kernel
theorem dR_isDigit_16 : decode prog_6_method_6_code 16 = .ok (.iconst 0, 1) := by decide +kernel
theorem dR_isDigit_17 : decode prog_6_method_6_code 17 = .ok (.ireturn, 1) := by decide +kernel
def fR_isDigit_16 (z : lc_S) : Option ((Int32) × lc_S) :=
  some (0, z)
def fR_isDigit (a0 : Int32) (z : lc_S) : Option ((Int32) × lc_S) :=
  if a0 < 48 then (fR_isDigit_16 z) else (if 57 < a0 then (fR_isDigit_16 z) else (some (1, z)))
set_option maxHeartbeats 4000000 in
set_option maxRecDepth 100000 in
theorem bR_isDigit_16 {p : Program} {l : Launch} {e : Env} {s : State} {m : MethodId} {args : Array Value} {below : List Frame} {meth : Method} {c : Code} {G : lc_G} (hx : p.tables.exec = Jvm.exec) (hb : c.code = prog_6_method_6_code) (hml : c.maxLocals = 1) (hr : meth.sig.returnType = (some .boolean)) (hlocks : meth.locks = false) (hown : s.vm.findClass "LinearCells$Reader" = some m.cls) (hts : ∀ w ∈ lc_ALL, w.before args s = true) (hE : lc_E G s) {r : Int32} {z' : lc_S} : ∀ {z : lc_S} {H : Heap} {locs : List Loc} {ls : Array Slot}, fR_isDigit_16 z = some (r, z') → lv_has ls 1 [] → lc_H G z s.heap H locs → W p l e (lc_rm 0) s m args below meth c H locs 0 0 (MQ below (lc_Q G (some (.int r)) z') args s 0 0 (lc_A G)) (F0 m 16 ls []) := by
  intro z H locs ls hf hl hH
  rw [fR_isDigit_16] at hf
  refine lv_iconst (v := 0) hx hb dR_isDigit_16 (by decide) ?_
  exact lc_zret hx hb hr hlocks (by decide) hH hf dR_isDigit_17
set_option maxHeartbeats 4000000 in
set_option maxRecDepth 100000 in
theorem cR_isDigit (l : Launch) (G : lc_G) {a0 : Int32} {r : Int32} {z z' : lc_S} (hf : fR_isDigit a0 z = some (r, z')) : lc_M l G yR_isDigit wR_isDigit 0 [.int a0] z (some (.int r)) z' := by
  refine lc_M_of (cc := prog_6_method_6_code) (maxL := 1) (ret := (some .boolean)) (own := "LinearCells$Reader") (by decide) rfl (fun w h => List.mem_cons_of_mem _ h) (Nat.le_of_ble_eq_true rfl) rfl ?_
  intro p e s m below meth c hx hb hml hr hlocks hown hts hE ls hl hH
  replace hl : lv_has ls 1 [(0, .int a0)] := hl
  rw [fR_isDigit] at hf
  refine lv_iload_n hx hb dR_isDigit_0 rfl (lv_at hl 0 rfl) ?_
  refine lv_bipush (v := 48) hx hb dR_isDigit_1 (by decide) ?_
  refine lv_icmp_lt (tgt := 16) hx hb dR_isDigit_3 (by decide) (fun hc => ?_) (fun hc => ?_)
  · replace hf := lc_ite_pos hc hf
    exact bR_isDigit_16 hx hb hml hr hlocks hown hts hE hf (lv_sub hl [] rfl) hH
  · replace hf := lc_ite_neg hc hf
    refine lv_iload_n hx hb dR_isDigit_6 rfl (lv_at hl 0 rfl) ?_
    refine lv_bipush (v := 57) hx hb dR_isDigit_7 (by decide) ?_
    refine lv_icmp_gt (tgt := 16) hx hb dR_isDigit_9 (by decide) (fun hc => ?_) (fun hc => ?_)
    · replace hf := lc_ite_pos hc hf
      exact bR_isDigit_16 hx hb hml hr hlocks hown hts hE hf (lv_sub hl [] rfl) hH
    · replace hf := lc_ite_neg hc hf
      refine lv_iconst (v := 1) hx hb dR_isDigit_12 (by decide) ?_
      refine lv_goto (tgt := 17) hx hb dR_isDigit_13 (by decide) ?_
      exact lc_zret hx hb hr hlocks (by decide) hH hf dR_isDigit_17
theorem dR_readNumber_0 : decode prog_6_method_9_code 0 = .ok (.iload_n 1, 1) := by decide +kernel
theorem dR_readNumber_1 : decode prog_6_method_9_code 1 = .ok (.bipush 48, 2) := by decide +kernel
theorem dR_readNumber_3 : decode prog_6_method_9_code 3 = .ok (.isub, 1) := by decide +kernel
theorem dR_readNumber_4 : decode prog_6_method_9_code 4 = .ok (.istore_n 2, 1) := by decide +kernel
theorem dR_readNumber_5 : decode prog_6_method_9_code 5 = .ok (.iconst 1, 1) := by decide +kernel
theorem dR_readNumber_6 : decode prog_6_method_9_code 6 = .ok (.istore_n 3, 1) := by decide +kernel
theorem dR_readNumber_7 : decode prog_6_method_9_code 7 = .ok (.aload_n 0, 1) := by decide +kernel
theorem dR_readNumber_8 : decode prog_6_method_9_code 8 = .ok (.getfield 35, 3) := by decide +kernel
theorem dR_readNumber_11 : decode prog_6_method_9_code 11 = .ok (.aload_n 0, 1) := by decide +kernel
theorem dR_readNumber_12 : decode prog_6_method_9_code 12 = .ok (.getfield 31, 3) := by decide +kernel
theorem dR_readNumber_15 : decode prog_6_method_9_code 15 = .ok (.if_icmp .ge 56, 3) := by decide +kernel
theorem dR_readNumber_18 : decode prog_6_method_9_code 18 = .ok (.aload_n 0, 1) := by decide +kernel
theorem dR_readNumber_19 : decode prog_6_method_9_code 19 = .ok (.getfield 27, 3) := by decide +kernel
theorem dR_readNumber_22 : decode prog_6_method_9_code 22 = .ok (.aload_n 0, 1) := by decide +kernel
theorem dR_readNumber_23 : decode prog_6_method_9_code 23 = .ok (.getfield 35, 3) := by decide +kernel
theorem dR_readNumber_26 : decode prog_6_method_9_code 26 = .ok (.caload, 1) := by decide +kernel
theorem dR_readNumber_27 : decode prog_6_method_9_code 27 = .ok (.invokestatic 79, 3) := by decide +kernel
theorem dR_readNumber_30 : decode prog_6_method_9_code 30 = .ok (.ifCond .eq 41, 3) := by decide +kernel
theorem dR_readNumber_33 : decode prog_6_method_9_code 33 = .ok (.bipush 10, 2) := by decide +kernel
theorem dR_readNumber_35 : decode prog_6_method_9_code 35 = .ok (.iload_n 2, 1) := by decide +kernel
theorem dR_readNumber_36 : decode prog_6_method_9_code 36 = .ok (.imul, 1) := by decide +kernel
theorem dR_readNumber_37 : decode prog_6_method_9_code 37 = .ok (.aload_n 0, 1) := by decide +kernel
theorem dR_readNumber_38 : decode prog_6_method_9_code 38 = .ok (.getfield 27, 3) := by decide +kernel
theorem dR_readNumber_41 : decode prog_6_method_9_code 41 = .ok (.aload_n 0, 1) := by decide +kernel
theorem dR_readNumber_42 : decode prog_6_method_9_code 42 = .ok (.getfield 35, 3) := by decide +kernel
theorem dR_readNumber_45 : decode prog_6_method_9_code 45 = .ok (.caload, 1) := by decide +kernel
theorem dR_readNumber_46 : decode prog_6_method_9_code 46 = .ok (.iadd, 1) := by decide +kernel
theorem dR_readNumber_47 : decode prog_6_method_9_code 47 = .ok (.bipush 48, 2) := by decide +kernel
theorem dR_readNumber_49 : decode prog_6_method_9_code 49 = .ok (.isub, 1) := by decide +kernel
theorem dR_readNumber_50 : decode prog_6_method_9_code 50 = .ok (.istore_n 2, 1) := by decide +kernel
theorem dR_readNumber_51 : decode prog_6_method_9_code 51 = .ok (.iinc 3 1, 3) := by decide +kernel
theorem dR_readNumber_54 : decode prog_6_method_9_code 54 = .ok (.aload_n 0, 1) := by decide +kernel
theorem dR_readNumber_55 : decode prog_6_method_9_code 55 = .ok (.dup, 1) := by decide +kernel
theorem dR_readNumber_56 : decode prog_6_method_9_code 56 = .ok (.getfield 35, 3) := by decide +kernel
theorem dR_readNumber_59 : decode prog_6_method_9_code 59 = .ok (.iconst 1, 1) := by decide +kernel
theorem dR_readNumber_60 : decode prog_6_method_9_code 60 = .ok (.iadd, 1) := by decide +kernel
theorem dR_readNumber_61 : decode prog_6_method_9_code 61 = .ok (.putfield 35, 3) := by decide +kernel
theorem dR_readNumber_64 : decode prog_6_method_9_code 64 = .ok (.iload_n 3, 1) := by decide +kernel
theorem dR_readNumber_65 : decode prog_6_method_9_code 65 = .ok (.iconst 4, 1) := by decide +kernel
theorem dR_readNumber_66 : decode prog_6_method_9_code 66 = .ok (.if_icmp .le (-59), 3) := by decide +kernel
theorem dR_readNumber_69 : decode prog_6_method_9_code 69 = .ok (.iconst (-1), 1) := by decide +kernel
theorem dR_readNumber_70 : decode prog_6_method_9_code 70 = .ok (.ireturn, 1) := by decide +kernel
theorem dR_readNumber_71 : decode prog_6_method_9_code 71 = .ok (.iload_n 2, 1) := by decide +kernel
theorem dR_readNumber_72 : decode prog_6_method_9_code 72 = .ok (.ireturn, 1) := by decide +kernel
def fR_readNumber_71 (x2 : Int32) (z : lc_S) : Option ((Int32) × lc_S) :=
  some (x2, z)
def fR_readNumber_7 : Nat → Int32 → Int32 → lc_S → Option ((Int32) × lc_S)
  | 0, _, _, _ => none
  | n + 1, x2, x3, z => if (lcI z 4 1) ≤ (lcI z 4 2) then (fR_readNumber_71 x2 z) else (lc_bnr (lcR z 4 0) (fun q19 => lc_chk (lc_sh q19 = (1, 2, 120)) (lc_chk (lc_in (lcI z 4 2) 120) (lc_bnd (fR_isDigit (lcI z q19 (lcI z 4 2).toNatClampNeg) z) (fun r27 z27 => if r27 = 0 then (fR_readNumber_71 x2 z27) else (lc_bnr (lcR z27 4 0) (fun q38 => lc_chk (lc_sh q38 = (1, 2, 120)) (lc_chk (lc_in (lcI z27 4 2) 120) (lc_let (((10 * x2) + (lcI z27 q38 (lcI z27 4 2).toNatClampNeg)) - 48) (fun x50 => lc_let (x3 + 1) (fun x51 => if x51 ≤ 4 then (fR_readNumber_7 n x50 x51 (lcUI z27 4 2 ((lcI z27 4 2) + 1))) else (some ((-1), lcUI z27 4 2 ((lcI z27 4 2) + 1))))))))))))))
def fR_readNumber (a1 : Int32) (z : lc_S) : Option ((Int32) × lc_S) :=
  lc_let (a1 - 48) (fun x4 => fR_readNumber_7 lc_FU x4 1 z)
set_option maxHeartbeats 4000000 in
set_option maxRecDepth 100000 in
theorem bR_readNumber_71 {p : Program} {l : Launch} {e : Env} {s : State} {m : MethodId} {args : Array Value} {below : List Frame} {meth : Method} {c : Code} {G : lc_G} (hx : p.tables.exec = Jvm.exec) (hb : c.code = prog_6_method_9_code) (hml : c.maxLocals = 4) (hr : meth.sig.returnType = (some .int)) (hlocks : meth.locks = false) (hown : s.vm.findClass "LinearCells$Reader" = some m.cls) (hts : ∀ w ∈ lc_ALL, w.before args s = true) (hE : lc_E G s) {r : Int32} {z' : lc_S} : ∀ {x2 : Int32} {z : lc_S} {H : Heap} {locs : List Loc} {ls : Array Slot}, fR_readNumber_71 x2 z = some (r, z') → lv_has ls 4 [(2, .int x2)] → lc_H G z s.heap H locs → W p l e (lc_rm 1) s m args below meth c H locs 0 0 (MQ below (lc_Q G (some (.int r)) z') args s 0 0 (lc_A G)) (F0 m 71 ls []) := by
  intro x2 z H locs ls hf hl hH
  rw [fR_readNumber_71] at hf
  refine lv_iload_n hx hb dR_readNumber_71 rfl (lv_at hl 0 rfl) ?_
  exact lc_iret hx hb hr hlocks hH hf dR_readNumber_72
set_option maxHeartbeats 4000000 in
set_option maxRecDepth 100000 in
theorem bR_readNumber_7 {p : Program} {l : Launch} {e : Env} {s : State} {m : MethodId} {args : Array Value} {below : List Frame} {meth : Method} {c : Code} {G : lc_G} (hx : p.tables.exec = Jvm.exec) (hb : c.code = prog_6_method_9_code) (hml : c.maxLocals = 4) (hr : meth.sig.returnType = (some .int)) (hlocks : meth.locks = false) (hown : s.vm.findClass "LinearCells$Reader" = some m.cls) (hts : ∀ w ∈ lc_ALL, w.before args s = true) (hE : lc_E G s) {r : Int32} {z' : lc_S} : ∀ (n : Nat) {x2 : Int32} {x3 : Int32} {z : lc_S} {H : Heap} {locs : List Loc} {ls : Array Slot}, fR_readNumber_7 n x2 x3 z = some (r, z') → lv_has ls 4 [(0, .ref (lc_ad G 4)), (2, .int x2), (3, .int x3)] → lc_H G z s.heap H locs → W p l e (lc_rm 1) s m args below meth c H locs 0 0 (MQ below (lc_Q G (some (.int r)) z') args s 0 0 (lc_A G)) (F0 m 7 ls []) := by
  intro n
  induction n with
  | zero =>
    intro x2 x3 z H locs ls hf hl hH
    exact absurd (show (none : Option ((Int32) × lc_S)) = some (r, z') from hf) (fun h => by cases h)
  | succ n ih =>
    intro x2 x3 z H locs ls hf hl hH
    rw [fR_readNumber_7] at hf
    refine lv_aload_n hx hb dR_readNumber_7 rfl (lv_at hl 0 rfl) ?_
    refine lc_geti hx hb hts hown hE hH flR_35 lc_h4 rfl dR_readNumber_8 ?_
    refine lv_aload_n hx hb dR_readNumber_11 rfl (lv_at hl 0 rfl) ?_
    refine lc_geti hx hb hts hown hE hH flR_31 lc_h4 rfl dR_readNumber_12 ?_
    refine lv_icmp_ge (tgt := 71) hx hb dR_readNumber_15 (by decide) (fun hc => ?_) (fun hc => ?_)
    · replace hf := lc_ite_pos hc hf
      exact bR_readNumber_71 hx hb hml hr hlocks hown hts hE hf (lv_sub hl [1] rfl) hH
    · replace hf := lc_ite_neg hc hf
      refine lv_aload_n hx hb dR_readNumber_18 rfl (lv_at hl 0 rfl) ?_
      obtain ⟨q19, hq19, hf⟩ := lc_bnr_some hf
      refine lc_getr hx hb hts hown hE hH flR_27 lc_h4 rfl hq19 dR_readNumber_19 ?_
      refine lv_aload_n hx hb dR_readNumber_22 rfl (lv_at hl 0 rfl) ?_
      refine lc_geti hx hb hts hown hE hH flR_35 lc_h4 rfl dR_readNumber_23 ?_
      obtain ⟨hs26_0, hf⟩ := lc_chk_some hf
      obtain ⟨hi26, hf⟩ := lc_chk_some hf
      refine lc_cald hx hb hE hH hs26_0 rfl hi26 dR_readNumber_26 ?_
      obtain ⟨r27, z27, h27, hf⟩ := lc_bnd_some hf
      refine lc_calli (va_runS (As := [.int (lcI z q19 (lcI z 4 2).toNatClampNeg)]) (rest := []) ⟨hx, hb, hml, hown, hts⟩ (cR_isDigit l G h27) (lc_cwS hts ksR_79 (lc_room (by decide) (by decide))) (lc_preS hE hH _) rfl rfl hl.1 rfl (lv_room (Nat.le_of_ble_eq_true rfl)) dR_readNumber_27 ⟨Nat.zero_le _, Nat.zero_le _⟩) hH (fun H locs hH => ?_)
      refine lv_if_eq (tgt := 71) hx hb dR_readNumber_30 (by decide) (fun hc => ?_) (fun hc => ?_)
      · replace hf := lc_ite_pos hc hf
        exact bR_readNumber_71 hx hb hml hr hlocks hown hts hE hf (lv_sub hl [1] rfl) hH
      · replace hf := lc_ite_neg hc hf
        refine lv_bipush (v := 10) hx hb dR_readNumber_33 (by decide) ?_
        refine lv_iload_n hx hb dR_readNumber_35 rfl (lv_at hl 1 rfl) ?_
        refine lv_imul hx hb dR_readNumber_36 ?_
        refine lv_aload_n hx hb dR_readNumber_37 rfl (lv_at hl 0 rfl) ?_
        obtain ⟨q38, hq38, hf⟩ := lc_bnr_some hf
        refine lc_getr hx hb hts hown hE hH flR_27 lc_h4 rfl hq38 dR_readNumber_38 ?_
        refine lv_aload_n hx hb dR_readNumber_41 rfl (lv_at hl 0 rfl) ?_
        refine lc_geti hx hb hts hown hE hH flR_35 lc_h4 rfl dR_readNumber_42 ?_
        obtain ⟨hs45_0, hf⟩ := lc_chk_some hf
        obtain ⟨hi45, hf⟩ := lc_chk_some hf
        refine lc_cald hx hb hE hH hs45_0 rfl hi45 dR_readNumber_45 ?_
        refine lv_iadd hx hb dR_readNumber_46 ?_
        refine lv_bipush (v := 48) hx hb dR_readNumber_47 (by decide) ?_
        refine lv_isub hx hb dR_readNumber_49 ?_
        refine lv_topi (fun x50 e50 => ?_)
        replace hf := lc_let_of e50 hf
        refine lv_istore_n hx hb dR_readNumber_50 rfl hl (by decide) rfl (fun ls hl => ?_)
        replace hl : lv_has ls 4 [(2, .int x50), (0, .ref (lc_ad G 4)), (3, .int x3)] := hl
        obtain ⟨x51, e51⟩ : ∃ x : Int32, x = x3 + 1 := ⟨_, rfl⟩
        replace hf := lc_let_of e51 hf
        refine lv_iinc (k := 2) (v := x51) hx hb dR_readNumber_51 hl rfl ((lc_incv _ (by decide)).trans e51.symm) (by decide) rfl (fun ls hl => ?_)
        replace hl : lv_has ls 4 [(3, .int x51), (2, .int x50), (0, .ref (lc_ad G 4))] := hl
        refine lv_aload_n hx hb dR_readNumber_54 rfl (lv_at hl 2 rfl) ?_
        refine lv_dup hx hb dR_readNumber_55 rfl ?_
        refine lc_geti hx hb hts hown hE hH flR_35 lc_h4 rfl dR_readNumber_56 ?_
        refine lv_iconst (v := 1) hx hb dR_readNumber_59 (by decide) ?_
        refine lv_iadd hx hb dR_readNumber_60 ?_
        refine lc_puti hx hb hts hown hE hH fpR_35 lc_h4 rfl rfl rfl dR_readNumber_61 (fun H locs hH => ?_)
        refine lv_iload_n hx hb dR_readNumber_64 rfl (lv_at hl 0 rfl) ?_
        refine lv_iconst (v := 4) hx hb dR_readNumber_65 (by decide) ?_
        refine lv_icmp_le (tgt := 7) hx hb dR_readNumber_66 (by decide) (fun hc => ?_) (fun hc => ?_)
        · replace hf := lc_ite_pos hc hf
          exact ih hf (lv_sub hl [2, 1, 0] rfl) hH
        · replace hf := lc_ite_neg hc hf
          refine lv_iconst (v := (-1)) hx hb dR_readNumber_69 (by decide) ?_
          exact lc_iret hx hb hr hlocks hH hf dR_readNumber_70
set_option maxHeartbeats 4000000 in
set_option maxRecDepth 100000 in
theorem cR_readNumber (l : Launch) (G : lc_G) {a1 : Int32} {r : Int32} {z z' : lc_S} (hf : fR_readNumber a1 z = some (r, z')) : lc_M l G yR_readNumber wR_readNumber 1 [.ref (lc_ad G 4), .int a1] z (some (.int r)) z' := by
  refine lc_M_of (cc := prog_6_method_9_code) (maxL := 4) (ret := (some .int)) (own := "LinearCells$Reader") (by decide) rfl (fun w h => List.mem_cons_of_mem _ h) (Nat.le_of_ble_eq_true rfl) rfl ?_
  intro p e s m below meth c hx hb hml hr hlocks hown hts hE ls hl hH
  replace hl : lv_has ls 4 [(0, .ref (lc_ad G 4)), (1, .int a1)] := hl
  rw [fR_readNumber] at hf
  refine lv_iload_n hx hb dR_readNumber_0 rfl (lv_at hl 1 rfl) ?_
  refine lv_bipush (v := 48) hx hb dR_readNumber_1 (by decide) ?_
  refine lv_isub hx hb dR_readNumber_3 ?_
  refine lv_topi (fun x4 e4 => ?_)
  replace hf := lc_let_of e4 hf
  refine lv_istore_n hx hb dR_readNumber_4 rfl hl (by decide) rfl (fun ls hl => ?_)
  replace hl : lv_has ls 4 [(2, .int x4), (0, .ref (lc_ad G 4)), (1, .int a1)] := hl
  refine lv_iconst (v := 1) hx hb dR_readNumber_5 (by decide) ?_
  refine lv_istore_n hx hb dR_readNumber_6 rfl hl (by decide) rfl (fun ls hl => ?_)
  replace hl : lv_has ls 4 [(3, .int 1), (2, .int x4), (0, .ref (lc_ad G 4)), (1, .int a1)] := hl
  exact bR_readNumber_7 hx hb hml hr hlocks hown hts hE _ hf (lv_sub hl [2, 1, 0] rfl) hH
theorem dR_readOne_0 : decode prog_6_method_11_code 0 = .ok (.aload_n 0, 1) := by decide +kernel
theorem dR_readOne_1 : decode prog_6_method_11_code 1 = .ok (.iload_n 2, 1) := by decide +kernel
theorem dR_readOne_2 : decode prog_6_method_11_code 2 = .ok (.invokevirtual 69, 3) := by decide +kernel
theorem dR_readOne_5 : decode prog_6_method_11_code 5 = .ok (.istore_n 3, 1) := by decide +kernel
theorem dR_readOne_6 : decode prog_6_method_11_code 6 = .ok (.iload_n 3, 1) := by decide +kernel
theorem dR_readOne_7 : decode prog_6_method_11_code 7 = .ok (.iconst (-1), 1) := by decide +kernel
theorem dR_readOne_8 : decode prog_6_method_11_code 8 = .ok (.if_icmp .ne 7, 3) := by decide +kernel
theorem dR_readOne_11 : decode prog_6_method_11_code 11 = .ok (.iconst (-1), 1) := by decide +kernel
theorem dR_readOne_12 : decode prog_6_method_11_code 12 = .ok (.goto 14, 3) := by decide +kernel
theorem dR_readOne_15 : decode prog_6_method_11_code 15 = .ok (.aload_n 0, 1) := by decide +kernel
theorem dR_readOne_16 : decode prog_6_method_11_code 16 = .ok (.getfield 38, 3) := by decide +kernel
theorem dR_readOne_19 : decode prog_6_method_11_code 19 = .ok (.iload_n 1, 1) := by decide +kernel
theorem dR_readOne_20 : decode prog_6_method_11_code 20 = .ok (.iload_n 3, 1) := by decide +kernel
theorem dR_readOne_21 : decode prog_6_method_11_code 21 = .ok (.iconst (-1), 1) := by decide +kernel
theorem dR_readOne_22 : decode prog_6_method_11_code 22 = .ok (.iconst (-1), 1) := by decide +kernel
theorem dR_readOne_23 : decode prog_6_method_11_code 23 = .ok (.invokevirtual 111, 3) := by decide +kernel
theorem dR_readOne_26 : decode prog_6_method_11_code 26 = .ok (.ireturn, 1) := by decide +kernel
def fR_readOne (rc : Int32 → lc_S → Option (Int32 × lc_S)) (a1 : Int32) (a2 : Int32) (z : lc_S) : Option ((Int32) × lc_S) :=
  lc_bnd (rc a2 z) (fun r2 z2 => if r2 = (-1) then (some ((-1), z2)) else (lc_bnr (lcR z2 4 3) (fun q16 => lc_chk (lc_sh q16 = (0, 1, 0)) (lc_bnd (fP_addForm q16 a1 r2 (-1) (-1) z2) (fun r23 z23 => some (r23, z23))))))
set_option maxHeartbeats 4000000 in
set_option maxRecDepth 100000 in
theorem cR_readOne {l : Launch} {G : lc_G} {rc : Int32 → lc_S → Option (Int32 × lc_S)} {h : Nat} (hrc : ∀ {d : Int32} {r : Int32} {z z' : lc_S}, rc d z = some (r, z') → lc_M l G yR_readExpression wR_readExpression h [.ref (lc_ad G 4), .int d] z (some (.int r)) z') {a1 : Int32} {a2 : Int32} {r : Int32} {z z' : lc_S} (hf : fR_readOne rc a1 a2 z = some (r, z')) : lc_M l G yR_readOne wR_readOne (h + 1) [.ref (lc_ad G 4), .int a1, .int a2] z (some (.int r)) z' := by
  refine lc_M_of (cc := prog_6_method_11_code) (maxL := 4) (ret := (some .int)) (own := "LinearCells$Reader") (by decide) rfl (fun w h => List.mem_cons_of_mem _ h) (Nat.le_of_ble_eq_true rfl) rfl ?_
  intro p e s m below meth c hx hb hml hr hlocks hown hts hE ls hl hH
  replace hl : lv_has ls 4 [(0, .ref (lc_ad G 4)), (1, .int a1), (2, .int a2)] := hl
  rw [fR_readOne] at hf
  refine lv_aload_n hx hb dR_readOne_0 rfl (lv_at hl 0 rfl) ?_
  refine lv_iload_n hx hb dR_readOne_1 rfl (lv_at hl 2 rfl) ?_
  obtain ⟨r2, z2, h2, hf⟩ := lc_bnd_some hf
  refine lc_calli (va_runV (As := [.int a2]) (rest := []) ⟨hx, hb, hml, hown, hts⟩ (hrc h2) (lc_cwV hts kvR_69 (lc_room (by omega) (by decide))) (lc_preV hE hH lc_h4 rfl _) rfl rfl hl.1 rfl (lv_room (Nat.le_of_ble_eq_true rfl)) dR_readOne_2 ⟨Nat.zero_le _, Nat.zero_le _⟩) hH (fun H locs hH => ?_)
  refine lv_istore_n hx hb dR_readOne_5 rfl hl (by decide) rfl (fun ls hl => ?_)
  replace hl : lv_has ls 4 [(3, .int r2), (0, .ref (lc_ad G 4)), (1, .int a1), (2, .int a2)] := hl
  refine lv_iload_n hx hb dR_readOne_6 rfl (lv_at hl 0 rfl) ?_
  refine lv_iconst (v := (-1)) hx hb dR_readOne_7 (by decide) ?_
  refine lv_icmp_ne (tgt := 15) hx hb dR_readOne_8 (by decide) (fun hc => ?_) (fun hc => ?_)
  · replace hf := lc_ite_neg hc hf
    refine lv_aload_n hx hb dR_readOne_15 rfl (lv_at hl 1 rfl) ?_
    obtain ⟨q16, hq16, hf⟩ := lc_bnr_some hf
    refine lc_getr hx hb hts hown hE hH flR_38 lc_h4 rfl hq16 dR_readOne_16 ?_
    refine lv_iload_n hx hb dR_readOne_19 rfl (lv_at hl 2 rfl) ?_
    refine lv_iload_n hx hb dR_readOne_20 rfl (lv_at hl 0 rfl) ?_
    refine lv_iconst (v := (-1)) hx hb dR_readOne_21 (by decide) ?_
    refine lv_iconst (v := (-1)) hx hb dR_readOne_22 (by decide) ?_
    obtain ⟨hs23_0, hf⟩ := lc_chk_some hf
    obtain ⟨r23, z23, h23, hf⟩ := lc_bnd_some hf
    refine lc_calli (va_runV (As := [.int a1, .int r2, .int (-1), .int (-1)]) (rest := []) ⟨hx, hb, hml, hown, hts⟩ (cP_addForm l G h23) (lc_cwV hts kvR_111 (lc_room (by omega) (by decide))) (lc_preV hE hH hs23_0 rfl _) rfl rfl hl.1 rfl (lv_room (Nat.le_of_ble_eq_true rfl)) dR_readOne_23 ⟨Nat.zero_le _, Nat.zero_le _⟩) hH (fun H locs hH => ?_)
    exact lc_iret hx hb hr hlocks hH hf dR_readOne_26
  · replace hf := lc_ite_pos hc hf
    refine lv_iconst (v := (-1)) hx hb dR_readOne_11 (by decide) ?_
    refine lv_goto (tgt := 26) hx hb dR_readOne_12 (by decide) ?_
    exact lc_iret hx hb hr hlocks hH hf dR_readOne_26
theorem dR_readTwo_0 : decode prog_6_method_12_code 0 = .ok (.aload_n 0, 1) := by decide +kernel
theorem dR_readTwo_1 : decode prog_6_method_12_code 1 = .ok (.iload_n 2, 1) := by decide +kernel
theorem dR_readTwo_2 : decode prog_6_method_12_code 2 = .ok (.invokevirtual 69, 3) := by decide +kernel
theorem dR_readTwo_5 : decode prog_6_method_12_code 5 = .ok (.istore_n 3, 1) := by decide +kernel
theorem dR_readTwo_6 : decode prog_6_method_12_code 6 = .ok (.iload_n 3, 1) := by decide +kernel
theorem dR_readTwo_7 : decode prog_6_method_12_code 7 = .ok (.iconst (-1), 1) := by decide +kernel
theorem dR_readTwo_8 : decode prog_6_method_12_code 8 = .ok (.if_icmp .ne 7, 3) := by decide +kernel
theorem dR_readTwo_11 : decode prog_6_method_12_code 11 = .ok (.iconst (-1), 1) := by decide +kernel
theorem dR_readTwo_12 : decode prog_6_method_12_code 12 = .ok (.goto 8, 3) := by decide +kernel
theorem dR_readTwo_15 : decode prog_6_method_12_code 15 = .ok (.aload_n 0, 1) := by decide +kernel
theorem dR_readTwo_16 : decode prog_6_method_12_code 16 = .ok (.iload_n 2, 1) := by decide +kernel
theorem dR_readTwo_17 : decode prog_6_method_12_code 17 = .ok (.invokevirtual 69, 3) := by decide +kernel
theorem dR_readTwo_20 : decode prog_6_method_12_code 20 = .ok (.istore 4, 2) := by decide +kernel
theorem dR_readTwo_22 : decode prog_6_method_12_code 22 = .ok (.iload 4, 2) := by decide +kernel
theorem dR_readTwo_24 : decode prog_6_method_12_code 24 = .ok (.iconst (-1), 1) := by decide +kernel
theorem dR_readTwo_25 : decode prog_6_method_12_code 25 = .ok (.if_icmp .ne 7, 3) := by decide +kernel
theorem dR_readTwo_28 : decode prog_6_method_12_code 28 = .ok (.iconst (-1), 1) := by decide +kernel
theorem dR_readTwo_29 : decode prog_6_method_12_code 29 = .ok (.goto 15, 3) := by decide +kernel
theorem dR_readTwo_32 : decode prog_6_method_12_code 32 = .ok (.aload_n 0, 1) := by decide +kernel
theorem dR_readTwo_33 : decode prog_6_method_12_code 33 = .ok (.getfield 38, 3) := by decide +kernel
theorem dR_readTwo_36 : decode prog_6_method_12_code 36 = .ok (.iload_n 1, 1) := by decide +kernel
theorem dR_readTwo_37 : decode prog_6_method_12_code 37 = .ok (.iload_n 3, 1) := by decide +kernel
theorem dR_readTwo_38 : decode prog_6_method_12_code 38 = .ok (.iload 4, 2) := by decide +kernel
theorem dR_readTwo_40 : decode prog_6_method_12_code 40 = .ok (.iconst (-1), 1) := by decide +kernel
theorem dR_readTwo_41 : decode prog_6_method_12_code 41 = .ok (.invokevirtual 111, 3) := by decide +kernel
theorem dR_readTwo_44 : decode prog_6_method_12_code 44 = .ok (.ireturn, 1) := by decide +kernel
def fR_readTwo_20 (rc : Int32 → lc_S → Option (Int32 × lc_S)) (x1 : Int32) (x3 : Int32) (t0 : Int32) (z : lc_S) : Option ((Int32) × lc_S) :=
  if t0 = (-1) then (some ((-1), z)) else (lc_bnr (lcR z 4 3) (fun q33 => lc_chk (lc_sh q33 = (0, 1, 0)) (lc_bnd (fP_addForm q33 x1 x3 t0 (-1) z) (fun r41 z41 => some (r41, z41)))))
def fR_readTwo (rc : Int32 → lc_S → Option (Int32 × lc_S)) (a1 : Int32) (a2 : Int32) (z : lc_S) : Option ((Int32) × lc_S) :=
  lc_bnd (rc a2 z) (fun r2 z2 => if r2 = (-1) then (fR_readTwo_20 rc a1 r2 (-1) z2) else (lc_bnd (rc a2 z2) (fun r17 z17 => fR_readTwo_20 rc a1 r2 r17 z17)))
set_option maxHeartbeats 4000000 in
set_option maxRecDepth 100000 in
theorem bR_readTwo_20 {p : Program} {l : Launch} {e : Env} {s : State} {m : MethodId} {args : Array Value} {below : List Frame} {meth : Method} {c : Code} {G : lc_G} {rc : Int32 → lc_S → Option (Int32 × lc_S)} {h : Nat} (hx : p.tables.exec = Jvm.exec) (hb : c.code = prog_6_method_12_code) (hml : c.maxLocals = 5) (hr : meth.sig.returnType = (some .int)) (hlocks : meth.locks = false) (hown : s.vm.findClass "LinearCells$Reader" = some m.cls) (hts : ∀ w ∈ lc_ALL, w.before args s = true) (hE : lc_E G s) (hrc : ∀ {d : Int32} {r : Int32} {z z' : lc_S}, rc d z = some (r, z') → lc_M l G yR_readExpression wR_readExpression h [.ref (lc_ad G 4), .int d] z (some (.int r)) z') {r : Int32} {z' : lc_S} : ∀ {x1 : Int32} {x3 : Int32} {t0 : Int32} {z : lc_S} {H : Heap} {locs : List Loc} {ls : Array Slot}, fR_readTwo_20 rc x1 x3 t0 z = some (r, z') → lv_has ls 5 [(0, .ref (lc_ad G 4)), (1, .int x1), (3, .int x3)] → lc_H G z s.heap H locs → W p l e (lc_rm (h + 1)) s m args below meth c H locs 0 0 (MQ below (lc_Q G (some (.int r)) z') args s 0 0 (lc_A G)) (F0 m 20 ls [.int t0]) := by
  intro x1 x3 t0 z H locs ls hf hl hH
  rw [fR_readTwo_20] at hf
  refine lv_istore hx hb dR_readTwo_20 hl (by decide) rfl (fun ls hl => ?_)
  replace hl : lv_has ls 5 [(4, .int t0), (0, .ref (lc_ad G 4)), (1, .int x1), (3, .int x3)] := hl
  refine lv_iload hx hb dR_readTwo_22 (lv_at hl 0 rfl) ?_
  refine lv_iconst (v := (-1)) hx hb dR_readTwo_24 (by decide) ?_
  refine lv_icmp_ne (tgt := 32) hx hb dR_readTwo_25 (by decide) (fun hc => ?_) (fun hc => ?_)
  · replace hf := lc_ite_neg hc hf
    refine lv_aload_n hx hb dR_readTwo_32 rfl (lv_at hl 1 rfl) ?_
    obtain ⟨q33, hq33, hf⟩ := lc_bnr_some hf
    refine lc_getr hx hb hts hown hE hH flR_38 lc_h4 rfl hq33 dR_readTwo_33 ?_
    refine lv_iload_n hx hb dR_readTwo_36 rfl (lv_at hl 2 rfl) ?_
    refine lv_iload_n hx hb dR_readTwo_37 rfl (lv_at hl 3 rfl) ?_
    refine lv_iload hx hb dR_readTwo_38 (lv_at hl 0 rfl) ?_
    refine lv_iconst (v := (-1)) hx hb dR_readTwo_40 (by decide) ?_
    obtain ⟨hs41_0, hf⟩ := lc_chk_some hf
    obtain ⟨r41, z41, h41, hf⟩ := lc_bnd_some hf
    refine lc_calli (va_runV (As := [.int x1, .int x3, .int t0, .int (-1)]) (rest := []) ⟨hx, hb, hml, hown, hts⟩ (cP_addForm l G h41) (lc_cwV hts kvR_111 (lc_room (by omega) (by decide))) (lc_preV hE hH hs41_0 rfl _) rfl rfl hl.1 rfl (lv_room (Nat.le_of_ble_eq_true rfl)) dR_readTwo_41 ⟨Nat.zero_le _, Nat.zero_le _⟩) hH (fun H locs hH => ?_)
    exact lc_iret hx hb hr hlocks hH hf dR_readTwo_44
  · replace hf := lc_ite_pos hc hf
    refine lv_iconst (v := (-1)) hx hb dR_readTwo_28 (by decide) ?_
    refine lv_goto (tgt := 44) hx hb dR_readTwo_29 (by decide) ?_
    exact lc_iret hx hb hr hlocks hH hf dR_readTwo_44
set_option maxHeartbeats 4000000 in
set_option maxRecDepth 100000 in
theorem cR_readTwo {l : Launch} {G : lc_G} {rc : Int32 → lc_S → Option (Int32 × lc_S)} {h : Nat} (hrc : ∀ {d : Int32} {r : Int32} {z z' : lc_S}, rc d z = some (r, z') → lc_M l G yR_readExpression wR_readExpression h [.ref (lc_ad G 4), .int d] z (some (.int r)) z') {a1 : Int32} {a2 : Int32} {r : Int32} {z z' : lc_S} (hf : fR_readTwo rc a1 a2 z = some (r, z')) : lc_M l G yR_readTwo wR_readTwo (h + 1) [.ref (lc_ad G 4), .int a1, .int a2] z (some (.int r)) z' := by
  refine lc_M_of (cc := prog_6_method_12_code) (maxL := 5) (ret := (some .int)) (own := "LinearCells$Reader") (by decide) rfl (fun w h => List.mem_cons_of_mem _ h) (Nat.le_of_ble_eq_true rfl) rfl ?_
  intro p e s m below meth c hx hb hml hr hlocks hown hts hE ls hl hH
  replace hl : lv_has ls 5 [(0, .ref (lc_ad G 4)), (1, .int a1), (2, .int a2)] := hl
  rw [fR_readTwo] at hf
  refine lv_aload_n hx hb dR_readTwo_0 rfl (lv_at hl 0 rfl) ?_
  refine lv_iload_n hx hb dR_readTwo_1 rfl (lv_at hl 2 rfl) ?_
  obtain ⟨r2, z2, h2, hf⟩ := lc_bnd_some hf
  refine lc_calli (va_runV (As := [.int a2]) (rest := []) ⟨hx, hb, hml, hown, hts⟩ (hrc h2) (lc_cwV hts kvR_69 (lc_room (by omega) (by decide))) (lc_preV hE hH lc_h4 rfl _) rfl rfl hl.1 rfl (lv_room (Nat.le_of_ble_eq_true rfl)) dR_readTwo_2 ⟨Nat.zero_le _, Nat.zero_le _⟩) hH (fun H locs hH => ?_)
  refine lv_istore_n hx hb dR_readTwo_5 rfl hl (by decide) rfl (fun ls hl => ?_)
  replace hl : lv_has ls 5 [(3, .int r2), (0, .ref (lc_ad G 4)), (1, .int a1), (2, .int a2)] := hl
  refine lv_iload_n hx hb dR_readTwo_6 rfl (lv_at hl 0 rfl) ?_
  refine lv_iconst (v := (-1)) hx hb dR_readTwo_7 (by decide) ?_
  refine lv_icmp_ne (tgt := 15) hx hb dR_readTwo_8 (by decide) (fun hc => ?_) (fun hc => ?_)
  · replace hf := lc_ite_neg hc hf
    refine lv_aload_n hx hb dR_readTwo_15 rfl (lv_at hl 1 rfl) ?_
    refine lv_iload_n hx hb dR_readTwo_16 rfl (lv_at hl 3 rfl) ?_
    obtain ⟨r17, z17, h17, hf⟩ := lc_bnd_some hf
    refine lc_calli (va_runV (As := [.int a2]) (rest := []) ⟨hx, hb, hml, hown, hts⟩ (hrc h17) (lc_cwV hts kvR_69 (lc_room (by omega) (by decide))) (lc_preV hE hH lc_h4 rfl _) rfl rfl hl.1 rfl (lv_room (Nat.le_of_ble_eq_true rfl)) dR_readTwo_17 ⟨Nat.zero_le _, Nat.zero_le _⟩) hH (fun H locs hH => ?_)
    exact bR_readTwo_20 hx hb hml hr hlocks hown hts hE hrc hf (lv_sub hl [1, 2, 0] rfl) hH
  · replace hf := lc_ite_pos hc hf
    refine lv_iconst (v := (-1)) hx hb dR_readTwo_11 (by decide) ?_
    refine lv_goto (tgt := 20) hx hb dR_readTwo_12 (by decide) ?_
    exact bR_readTwo_20 hx hb hml hr hlocks hown hts hE hrc hf (lv_sub hl [1, 2, 0] rfl) hH
theorem dR_readThree_0 : decode prog_6_method_13_code 0 = .ok (.aload_n 0, 1) := by decide +kernel
theorem dR_readThree_1 : decode prog_6_method_13_code 1 = .ok (.iload_n 2, 1) := by decide +kernel
theorem dR_readThree_2 : decode prog_6_method_13_code 2 = .ok (.invokevirtual 69, 3) := by decide +kernel
theorem dR_readThree_5 : decode prog_6_method_13_code 5 = .ok (.istore_n 3, 1) := by decide +kernel
theorem dR_readThree_6 : decode prog_6_method_13_code 6 = .ok (.iload_n 3, 1) := by decide +kernel
theorem dR_readThree_7 : decode prog_6_method_13_code 7 = .ok (.iconst (-1), 1) := by decide +kernel
theorem dR_readThree_8 : decode prog_6_method_13_code 8 = .ok (.if_icmp .ne 7, 3) := by decide +kernel
theorem dR_readThree_11 : decode prog_6_method_13_code 11 = .ok (.iconst (-1), 1) := by decide +kernel
theorem dR_readThree_12 : decode prog_6_method_13_code 12 = .ok (.goto 8, 3) := by decide +kernel
theorem dR_readThree_15 : decode prog_6_method_13_code 15 = .ok (.aload_n 0, 1) := by decide +kernel
theorem dR_readThree_16 : decode prog_6_method_13_code 16 = .ok (.iload_n 2, 1) := by decide +kernel
theorem dR_readThree_17 : decode prog_6_method_13_code 17 = .ok (.invokevirtual 69, 3) := by decide +kernel
theorem dR_readThree_20 : decode prog_6_method_13_code 20 = .ok (.istore 4, 2) := by decide +kernel
theorem dR_readThree_22 : decode prog_6_method_13_code 22 = .ok (.iload 4, 2) := by decide +kernel
theorem dR_readThree_24 : decode prog_6_method_13_code 24 = .ok (.iconst (-1), 1) := by decide +kernel
theorem dR_readThree_25 : decode prog_6_method_13_code 25 = .ok (.if_icmp .ne 7, 3) := by decide +kernel
theorem dR_readThree_28 : decode prog_6_method_13_code 28 = .ok (.iconst (-1), 1) := by decide +kernel
theorem dR_readThree_29 : decode prog_6_method_13_code 29 = .ok (.goto 8, 3) := by decide +kernel
theorem dR_readThree_32 : decode prog_6_method_13_code 32 = .ok (.aload_n 0, 1) := by decide +kernel
theorem dR_readThree_33 : decode prog_6_method_13_code 33 = .ok (.iload_n 2, 1) := by decide +kernel
theorem dR_readThree_34 : decode prog_6_method_13_code 34 = .ok (.invokevirtual 69, 3) := by decide +kernel
theorem dR_readThree_37 : decode prog_6_method_13_code 37 = .ok (.istore 5, 2) := by decide +kernel
theorem dR_readThree_39 : decode prog_6_method_13_code 39 = .ok (.iload 5, 2) := by decide +kernel
theorem dR_readThree_41 : decode prog_6_method_13_code 41 = .ok (.iconst (-1), 1) := by decide +kernel
theorem dR_readThree_42 : decode prog_6_method_13_code 42 = .ok (.if_icmp .ne 7, 3) := by decide +kernel
theorem dR_readThree_45 : decode prog_6_method_13_code 45 = .ok (.iconst (-1), 1) := by decide +kernel
theorem dR_readThree_46 : decode prog_6_method_13_code 46 = .ok (.goto 16, 3) := by decide +kernel
theorem dR_readThree_49 : decode prog_6_method_13_code 49 = .ok (.aload_n 0, 1) := by decide +kernel
theorem dR_readThree_50 : decode prog_6_method_13_code 50 = .ok (.getfield 38, 3) := by decide +kernel
theorem dR_readThree_53 : decode prog_6_method_13_code 53 = .ok (.iload_n 1, 1) := by decide +kernel
theorem dR_readThree_54 : decode prog_6_method_13_code 54 = .ok (.iload_n 3, 1) := by decide +kernel
theorem dR_readThree_55 : decode prog_6_method_13_code 55 = .ok (.iload 4, 2) := by decide +kernel
theorem dR_readThree_57 : decode prog_6_method_13_code 57 = .ok (.iload 5, 2) := by decide +kernel
theorem dR_readThree_59 : decode prog_6_method_13_code 59 = .ok (.invokevirtual 111, 3) := by decide +kernel
theorem dR_readThree_62 : decode prog_6_method_13_code 62 = .ok (.ireturn, 1) := by decide +kernel
def fR_readThree_37 (rc : Int32 → lc_S → Option (Int32 × lc_S)) (x1 : Int32) (x3 : Int32) (x4 : Int32) (t0 : Int32) (z : lc_S) : Option ((Int32) × lc_S) :=
  if t0 = (-1) then (some ((-1), z)) else (lc_bnr (lcR z 4 3) (fun q50 => lc_chk (lc_sh q50 = (0, 1, 0)) (lc_bnd (fP_addForm q50 x1 x3 x4 t0 z) (fun r59 z59 => some (r59, z59)))))
def fR_readThree_20 (rc : Int32 → lc_S → Option (Int32 × lc_S)) (x1 : Int32) (x2 : Int32) (x3 : Int32) (t0 : Int32) (z : lc_S) : Option ((Int32) × lc_S) :=
  if t0 = (-1) then (fR_readThree_37 rc x1 x3 t0 (-1) z) else (lc_bnd (rc x2 z) (fun r34 z34 => fR_readThree_37 rc x1 x3 t0 r34 z34))
def fR_readThree (rc : Int32 → lc_S → Option (Int32 × lc_S)) (a1 : Int32) (a2 : Int32) (z : lc_S) : Option ((Int32) × lc_S) :=
  lc_bnd (rc a2 z) (fun r2 z2 => if r2 = (-1) then (fR_readThree_20 rc a1 a2 r2 (-1) z2) else (lc_bnd (rc a2 z2) (fun r17 z17 => fR_readThree_20 rc a1 a2 r2 r17 z17)))
set_option maxHeartbeats 4000000 in
set_option maxRecDepth 100000 in
theorem bR_readThree_37 {p : Program} {l : Launch} {e : Env} {s : State} {m : MethodId} {args : Array Value} {below : List Frame} {meth : Method} {c : Code} {G : lc_G} {rc : Int32 → lc_S → Option (Int32 × lc_S)} {h : Nat} (hx : p.tables.exec = Jvm.exec) (hb : c.code = prog_6_method_13_code) (hml : c.maxLocals = 6) (hr : meth.sig.returnType = (some .int)) (hlocks : meth.locks = false) (hown : s.vm.findClass "LinearCells$Reader" = some m.cls) (hts : ∀ w ∈ lc_ALL, w.before args s = true) (hE : lc_E G s) (hrc : ∀ {d : Int32} {r : Int32} {z z' : lc_S}, rc d z = some (r, z') → lc_M l G yR_readExpression wR_readExpression h [.ref (lc_ad G 4), .int d] z (some (.int r)) z') {r : Int32} {z' : lc_S} : ∀ {x1 : Int32} {x3 : Int32} {x4 : Int32} {t0 : Int32} {z : lc_S} {H : Heap} {locs : List Loc} {ls : Array Slot}, fR_readThree_37 rc x1 x3 x4 t0 z = some (r, z') → lv_has ls 6 [(0, .ref (lc_ad G 4)), (1, .int x1), (3, .int x3), (4, .int x4)] → lc_H G z s.heap H locs → W p l e (lc_rm (h + 1)) s m args below meth c H locs 0 0 (MQ below (lc_Q G (some (.int r)) z') args s 0 0 (lc_A G)) (F0 m 37 ls [.int t0]) := by
  intro x1 x3 x4 t0 z H locs ls hf hl hH
  rw [fR_readThree_37] at hf
  refine lv_istore hx hb dR_readThree_37 hl (by decide) rfl (fun ls hl => ?_)
  replace hl : lv_has ls 6 [(5, .int t0), (0, .ref (lc_ad G 4)), (1, .int x1), (3, .int x3), (4, .int x4)] := hl
  refine lv_iload hx hb dR_readThree_39 (lv_at hl 0 rfl) ?_
  refine lv_iconst (v := (-1)) hx hb dR_readThree_41 (by decide) ?_
  refine lv_icmp_ne (tgt := 49) hx hb dR_readThree_42 (by decide) (fun hc => ?_) (fun hc => ?_)
  · replace hf := lc_ite_neg hc hf
    refine lv_aload_n hx hb dR_readThree_49 rfl (lv_at hl 1 rfl) ?_
    obtain ⟨q50, hq50, hf⟩ := lc_bnr_some hf
    refine lc_getr hx hb hts hown hE hH flR_38 lc_h4 rfl hq50 dR_readThree_50 ?_
    refine lv_iload_n hx hb dR_readThree_53 rfl (lv_at hl 2 rfl) ?_
    refine lv_iload_n hx hb dR_readThree_54 rfl (lv_at hl 3 rfl) ?_
    refine lv_iload hx hb dR_readThree_55 (lv_at hl 4 rfl) ?_
    refine lv_iload hx hb dR_readThree_57 (lv_at hl 0 rfl) ?_
    obtain ⟨hs59_0, hf⟩ := lc_chk_some hf
    obtain ⟨r59, z59, h59, hf⟩ := lc_bnd_some hf
    refine lc_calli (va_runV (As := [.int x1, .int x3, .int x4, .int t0]) (rest := []) ⟨hx, hb, hml, hown, hts⟩ (cP_addForm l G h59) (lc_cwV hts kvR_111 (lc_room (by omega) (by decide))) (lc_preV hE hH hs59_0 rfl _) rfl rfl hl.1 rfl (lv_room (Nat.le_of_ble_eq_true rfl)) dR_readThree_59 ⟨Nat.zero_le _, Nat.zero_le _⟩) hH (fun H locs hH => ?_)
    exact lc_iret hx hb hr hlocks hH hf dR_readThree_62
  · replace hf := lc_ite_pos hc hf
    refine lv_iconst (v := (-1)) hx hb dR_readThree_45 (by decide) ?_
    refine lv_goto (tgt := 62) hx hb dR_readThree_46 (by decide) ?_
    exact lc_iret hx hb hr hlocks hH hf dR_readThree_62
set_option maxHeartbeats 4000000 in
set_option maxRecDepth 100000 in
theorem bR_readThree_20 {p : Program} {l : Launch} {e : Env} {s : State} {m : MethodId} {args : Array Value} {below : List Frame} {meth : Method} {c : Code} {G : lc_G} {rc : Int32 → lc_S → Option (Int32 × lc_S)} {h : Nat} (hx : p.tables.exec = Jvm.exec) (hb : c.code = prog_6_method_13_code) (hml : c.maxLocals = 6) (hr : meth.sig.returnType = (some .int)) (hlocks : meth.locks = false) (hown : s.vm.findClass "LinearCells$Reader" = some m.cls) (hts : ∀ w ∈ lc_ALL, w.before args s = true) (hE : lc_E G s) (hrc : ∀ {d : Int32} {r : Int32} {z z' : lc_S}, rc d z = some (r, z') → lc_M l G yR_readExpression wR_readExpression h [.ref (lc_ad G 4), .int d] z (some (.int r)) z') {r : Int32} {z' : lc_S} : ∀ {x1 : Int32} {x2 : Int32} {x3 : Int32} {t0 : Int32} {z : lc_S} {H : Heap} {locs : List Loc} {ls : Array Slot}, fR_readThree_20 rc x1 x2 x3 t0 z = some (r, z') → lv_has ls 6 [(0, .ref (lc_ad G 4)), (1, .int x1), (2, .int x2), (3, .int x3)] → lc_H G z s.heap H locs → W p l e (lc_rm (h + 1)) s m args below meth c H locs 0 0 (MQ below (lc_Q G (some (.int r)) z') args s 0 0 (lc_A G)) (F0 m 20 ls [.int t0]) := by
  intro x1 x2 x3 t0 z H locs ls hf hl hH
  rw [fR_readThree_20] at hf
  refine lv_istore hx hb dR_readThree_20 hl (by decide) rfl (fun ls hl => ?_)
  replace hl : lv_has ls 6 [(4, .int t0), (0, .ref (lc_ad G 4)), (1, .int x1), (2, .int x2), (3, .int x3)] := hl
  refine lv_iload hx hb dR_readThree_22 (lv_at hl 0 rfl) ?_
  refine lv_iconst (v := (-1)) hx hb dR_readThree_24 (by decide) ?_
  refine lv_icmp_ne (tgt := 32) hx hb dR_readThree_25 (by decide) (fun hc => ?_) (fun hc => ?_)
  · replace hf := lc_ite_neg hc hf
    refine lv_aload_n hx hb dR_readThree_32 rfl (lv_at hl 1 rfl) ?_
    refine lv_iload_n hx hb dR_readThree_33 rfl (lv_at hl 3 rfl) ?_
    obtain ⟨r34, z34, h34, hf⟩ := lc_bnd_some hf
    refine lc_calli (va_runV (As := [.int x2]) (rest := []) ⟨hx, hb, hml, hown, hts⟩ (hrc h34) (lc_cwV hts kvR_69 (lc_room (by omega) (by decide))) (lc_preV hE hH lc_h4 rfl _) rfl rfl hl.1 rfl (lv_room (Nat.le_of_ble_eq_true rfl)) dR_readThree_34 ⟨Nat.zero_le _, Nat.zero_le _⟩) hH (fun H locs hH => ?_)
    exact bR_readThree_37 hx hb hml hr hlocks hown hts hE hrc hf (lv_sub hl [1, 2, 4, 0] rfl) hH
  · replace hf := lc_ite_pos hc hf
    refine lv_iconst (v := (-1)) hx hb dR_readThree_28 (by decide) ?_
    refine lv_goto (tgt := 37) hx hb dR_readThree_29 (by decide) ?_
    exact bR_readThree_37 hx hb hml hr hlocks hown hts hE hrc hf (lv_sub hl [1, 2, 4, 0] rfl) hH
set_option maxHeartbeats 4000000 in
set_option maxRecDepth 100000 in
theorem cR_readThree {l : Launch} {G : lc_G} {rc : Int32 → lc_S → Option (Int32 × lc_S)} {h : Nat} (hrc : ∀ {d : Int32} {r : Int32} {z z' : lc_S}, rc d z = some (r, z') → lc_M l G yR_readExpression wR_readExpression h [.ref (lc_ad G 4), .int d] z (some (.int r)) z') {a1 : Int32} {a2 : Int32} {r : Int32} {z z' : lc_S} (hf : fR_readThree rc a1 a2 z = some (r, z')) : lc_M l G yR_readThree wR_readThree (h + 1) [.ref (lc_ad G 4), .int a1, .int a2] z (some (.int r)) z' := by
  refine lc_M_of (cc := prog_6_method_13_code) (maxL := 6) (ret := (some .int)) (own := "LinearCells$Reader") (by decide) rfl (fun w h => List.mem_cons_of_mem _ h) (Nat.le_of_ble_eq_true rfl) rfl ?_
  intro p e s m below meth c hx hb hml hr hlocks hown hts hE ls hl hH
  replace hl : lv_has ls 6 [(0, .ref (lc_ad G 4)), (1, .int a1), (2, .int a2)] := hl
  rw [fR_readThree] at hf
  refine lv_aload_n hx hb dR_readThree_0 rfl (lv_at hl 0 rfl) ?_
  refine lv_iload_n hx hb dR_readThree_1 rfl (lv_at hl 2 rfl) ?_
  obtain ⟨r2, z2, h2, hf⟩ := lc_bnd_some hf
  refine lc_calli (va_runV (As := [.int a2]) (rest := []) ⟨hx, hb, hml, hown, hts⟩ (hrc h2) (lc_cwV hts kvR_69 (lc_room (by omega) (by decide))) (lc_preV hE hH lc_h4 rfl _) rfl rfl hl.1 rfl (lv_room (Nat.le_of_ble_eq_true rfl)) dR_readThree_2 ⟨Nat.zero_le _, Nat.zero_le _⟩) hH (fun H locs hH => ?_)
  refine lv_istore_n hx hb dR_readThree_5 rfl hl (by decide) rfl (fun ls hl => ?_)
  replace hl : lv_has ls 6 [(3, .int r2), (0, .ref (lc_ad G 4)), (1, .int a1), (2, .int a2)] := hl
  refine lv_iload_n hx hb dR_readThree_6 rfl (lv_at hl 0 rfl) ?_
  refine lv_iconst (v := (-1)) hx hb dR_readThree_7 (by decide) ?_
  refine lv_icmp_ne (tgt := 15) hx hb dR_readThree_8 (by decide) (fun hc => ?_) (fun hc => ?_)
  · replace hf := lc_ite_neg hc hf
    refine lv_aload_n hx hb dR_readThree_15 rfl (lv_at hl 1 rfl) ?_
    refine lv_iload_n hx hb dR_readThree_16 rfl (lv_at hl 3 rfl) ?_
    obtain ⟨r17, z17, h17, hf⟩ := lc_bnd_some hf
    refine lc_calli (va_runV (As := [.int a2]) (rest := []) ⟨hx, hb, hml, hown, hts⟩ (hrc h17) (lc_cwV hts kvR_69 (lc_room (by omega) (by decide))) (lc_preV hE hH lc_h4 rfl _) rfl rfl hl.1 rfl (lv_room (Nat.le_of_ble_eq_true rfl)) dR_readThree_17 ⟨Nat.zero_le _, Nat.zero_le _⟩) hH (fun H locs hH => ?_)
    exact bR_readThree_20 hx hb hml hr hlocks hown hts hE hrc hf (lv_sub hl [1, 2, 3, 0] rfl) hH
  · replace hf := lc_ite_pos hc hf
    refine lv_iconst (v := (-1)) hx hb dR_readThree_11 (by decide) ?_
    refine lv_goto (tgt := 20) hx hb dR_readThree_12 (by decide) ?_
    exact bR_readThree_20 hx hb hml hr hlocks hown hts hE hrc hf (lv_sub hl [1, 2, 3, 0] rfl) hH
