/-! The words that a throw asks. -/
section Thw
def ab_nmz : List String := ["java/lang/RuntimeException", "java/lang/Exception"]
def ab_wok (w : Cond) : Bool := w.onTables && w.keepsFace
theorem th_0 : ∀ w ∈ vx_atS (ab_cs 5) 54 (ab_xs 0) ab_nmz, w ∈ lw_tbl ∧ ab_wok w = true := by decide +kernel
theorem th_1 : ∀ w ∈ vx_atS (ab_cs 5) 65 (ab_xs 1) ab_nmz, w ∈ lw_tbl ∧ ab_wok w = true := by decide +kernel
theorem th_2 : ∀ w ∈ vx_atS (ab_cs 5) 150 (ab_xs 2) ab_nmz, w ∈ lw_tbl ∧ ab_wok w = true := by decide +kernel
theorem th_3 : ∀ w ∈ vx_atS (ab_cs 5) 87 (ab_xs 3) ab_nmz, w ∈ lw_tbl ∧ ab_wok w = true := by decide +kernel
theorem th_c : ∀ q ∈ ab_TH, q.1 = 5 ∧ ((q.2.2.2.1 = 54 ∧ q.2.2.2.2 = 0) ∨ (q.2.2.2.1 = 65 ∧ q.2.2.2.2 = 1) ∨ (q.2.2.2.1 = 150 ∧ q.2.2.2.2 = 2) ∨ (q.2.2.2.1 = 87 ∧ q.2.2.2.2 = 3)) := by decide +kernel
theorem th_l : ∀ q ∈ ab_TH, Cond.classLink (ab_cs 5) q.2.1 (ab_xs q.2.2.2.2) ∈ lw_tbl := by decide +kernel
theorem th_i : ∀ x ∈ List.range 4, Cond.initialized (ab_xs x) ∈ lw_tbl ∧ Bundle.fit (ab_xs x) = true ∧ Cond.castable (ab_xs x) (ab_xs x) ∈ lw_tbl := by decide +kernel
end Thw
