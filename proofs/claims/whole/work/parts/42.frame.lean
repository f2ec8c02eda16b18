set_option maxHeartbeats 1000000 in
theorem gQ_heap_15 {x1 : Int32} {t1 : Int32} {z : lc_S} {r} {z' : lc_S} (hf : fQ_heap_15 x1 t1 z = some (r, z')) : lc_hi z z' := by
  rw [fQ_heap_15] at hf
  by_cases hc1 : (lcI (lcUI z 80 0 t1) 80 0) ≤ 0
  · replace hf := lc_ite_pos hc1 hf
    exact (lc_hi.rf.ui (by decide)).tr (gQ_heap_31 hf)
  · replace hf := lc_ite_neg hc1 hf
    cases hf
    exact (lc_hi.rf.ui (by decide))
set_option maxHeartbeats 1000000 in
theorem gQ_heap_10 {x1 : Int32} {z : lc_S} {r} {z' : lc_S} (hf : fQ_heap_10 x1 z = some (r, z')) : lc_hi z z' := by
  rw [fQ_heap_10] at hf
  exact lc_hi.rf.tr (gQ_heap_15 hf)
set_option maxHeartbeats 1000000 in
theorem gQ_heap {a1 : Int32} {z : lc_S} {r} {z' : lc_S} (hf : fQ_heap a1 z = some (r, z')) : lc_hi z z' := by
  rw [fQ_heap] at hf
  by_cases hc1 : a1 < 0
  · replace hf := lc_ite_pos hc1 hf
    exact lc_hi.rf.tr (gQ_heap_10 hf)
  · replace hf := lc_ite_neg hc1 hf
    by_cases hc2 : a1 ≤ 4
    · replace hf := lc_ite_pos hc2 hf
      exact lc_hi.rf.tr (gQ_heap_15 hf)
    · replace hf := lc_ite_neg hc2 hf
      exact lc_hi.rf.tr (gQ_heap_10 hf)
set_option maxHeartbeats 1000000 in
theorem gQ_cell_25 {x1 : Int32} {t1 : Int32} {z : lc_S} {r} {z' : lc_S} (hf : fQ_cell_25 x1 t1 z = some (r, z')) : lc_hi z z' := by
  rw [fQ_cell_25] at hf
  by_cases hc1 : (lcI (lcUI z 80 0 t1) 80 0) ≤ 0
  · replace hf := lc_ite_pos hc1 hf
    obtain ⟨hw2, hf⟩ := lc_chk_some hf
    cases hf
    exact (lc_hi.rf.ui (by decide))
  · replace hf := lc_ite_neg hc1 hf
    cases hf
    exact (lc_hi.rf.ui (by decide))
set_option maxHeartbeats 1000000 in
theorem gQ_cell_20 {x1 : Int32} {z : lc_S} {r} {z' : lc_S} (hf : fQ_cell_20 x1 z = some (r, z')) : lc_hi z z' := by
  rw [fQ_cell_20] at hf
  exact lc_hi.rf.tr (gQ_cell_25 hf)
set_option maxHeartbeats 1000000 in
theorem gQ_cell {a1 : Int32} {z : lc_S} {r} {z' : lc_S} (hf : fQ_cell a1 z = some (r, z')) : lc_hi z z' := by
  rw [fQ_cell] at hf
  by_cases hc1 : a1 < 0
  · replace hf := lc_ite_pos hc1 hf
    exact lc_hi.rf.tr (gQ_cell_20 hf)
  · replace hf := lc_ite_neg hc1 hf
    by_cases hc2 : 11 < a1
    · replace hf := lc_ite_pos hc2 hf
      exact lc_hi.rf.tr (gQ_cell_20 hf)
    · replace hf := lc_ite_neg hc2 hf
      obtain ⟨hw3, hf⟩ := lc_chk_some hf
      by_cases hc4 : (lcI z 115 a1.toNatClampNeg) = 0
      · replace hf := lc_ite_pos hc4 hf
        exact lc_hi.rf.tr (gQ_cell_20 hf)
      · replace hf := lc_ite_neg hc4 hf
        exact lc_hi.rf.tr (gQ_cell_25 hf)
