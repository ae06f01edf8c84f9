set_option maxRecDepth 100000 in
theorem lay_all : (List.range 13).all (fun c => (List.range (clk c).2.2).all (fun k => decide (lw_tbl[(layP.getD c []).getD k 0]? = some (u_lay (clk c).1 (clk c).2.1 k)))) = true := by decide +kernel
set_option maxRecDepth 100000 in
theorem tyk_ok : ∀ c, c < 13 → ∀ k, k < (clk c).2.2 → parseFieldDescriptor ((clk c).2.1 k).2.2.1 = some (tyk c k) := by decide +kernel
set_option maxRecDepth 100000 in
theorem nmk_ok : ∀ c, c < 13 → ∀ a, a < (clk c).2.2 → ∀ b, b < (clk c).2.2 → a ≠ b → ((clk c).2.1 a).2.1 ≠ ((clk c).2.1 b).2.1 := by decide +kernel
