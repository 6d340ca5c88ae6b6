theorem op_plans : OpI Rel (fX8_plans 0) (fX9_plans 304) := sorry
theorem pure_all : ∃ Rel, INIT Rel ∧ OPS Rel := ⟨Rel, INIT_ok, fun σ h => q_k h.1 (by decide) rfl, op_feed, op_end, op_plans, op_fault, op_plan, op_name, op_octet, op_uses, op_use, op_change, op_cost, op_bill, op_best, op_had, op_bills, op_group, op_span, op_above, op_count⟩
