-- text 117
/-! THE LAW: pairs of queries, equal answers: letters, the plan -/
