/-! A throw of one's own; switches. -/
theorem zat_g0 : ∀ w ∈ (vx_atS RX12 86 "java/lang/IllegalArgumentException" ["java/lang/RuntimeException", "java/lang/Exception"]).filter goodWord, w ∈ lw_tbl := by decide +kernel
theorem zat_g1 : ∀ w ∈ (vx_atS RX12 107 "java/lang/IllegalStateException" ["java/lang/RuntimeException", "java/lang/Exception"]).filter goodWord, w ∈ lw_tbl := by decide +kernel
theorem zat_g2 : ∀ w ∈ (vx_atS RX12 201 "java/lang/IndexOutOfBoundsException" ["java/lang/RuntimeException", "java/lang/Exception"]).filter goodWord, w ∈ lw_tbl := by decide +kernel
def zbad (X : String) : List Cond := [Cond.castable X X, Cond.declares ⟨"java/lang/RuntimeException", "<init>", "(Ljava/lang/String;)V"⟩, Cond.declares ⟨"java/lang/Exception", "<init>", "(Ljava/lang/String;)V"⟩, Cond.declares ⟨"java/lang/Throwable", "<init>", "(Ljava/lang/String;)V"⟩]
theorem zat_b0 : ∀ w ∈ (vx_atS RX12 86 "java/lang/IllegalArgumentException" ["java/lang/RuntimeException", "java/lang/Exception"]).filter (fun w => !goodWord w), w ∈ zbad "java/lang/IllegalArgumentException" := by decide +kernel
theorem zat_b1 : ∀ w ∈ (vx_atS RX12 107 "java/lang/IllegalStateException" ["java/lang/RuntimeException", "java/lang/Exception"]).filter (fun w => !goodWord w), w ∈ zbad "java/lang/IllegalStateException" := by decide +kernel
theorem zat_b2 : ∀ w ∈ (vx_atS RX12 201 "java/lang/IndexOutOfBoundsException" ["java/lang/RuntimeException", "java/lang/Exception"]).filter (fun w => !goodWord w), w ∈ zbad "java/lang/IndexOutOfBoundsException" := by decide +kernel
theorem zat_o0 : ∀ w ∈ vx_atS RX12 86 "java/lang/IllegalArgumentException" ["java/lang/RuntimeException", "java/lang/Exception"], vx_ot w = true := by decide +kernel
theorem zat_o1 : ∀ w ∈ vx_atS RX12 107 "java/lang/IllegalStateException" ["java/lang/RuntimeException", "java/lang/Exception"], vx_ot w = true := by decide +kernel
theorem zat_o2 : ∀ w ∈ vx_atS RX12 201 "java/lang/IndexOutOfBoundsException" ["java/lang/RuntimeException", "java/lang/Exception"], vx_ot w = true := by decide +kernel
theorem zbad_in : ∀ x : Nat, x < 3 → ∀ w ∈ zbad (zX x), w ∈ lw_tbl := by decide +kernel
