/-! the pairs -/
theorem pa_feed : sx_lp k_feeda k_rfeed [(2, 0, 0), (0, 80, 0), (0, 81, 0), (0, 82, 0), (0, 83, 0), (0, 84, 0)] [(2, 9, 0), (0, 80, 0), (0, 81, 0), (0, 82, 0), (0, 83, 0), (0, 84, 0)] true La5 La = true := by decide +kernel
theorem pa_house : sx_lp k_housea k_rhouse2 [(2, 0, 0)] [(2, 9, 0)] false La La = true := by decide +kernel
theorem pa_has : sx_lp k_hasa k_rhas [(2, 0, 0), (0, 80, 0)] [(2, 9, 0), (0, 80, 0)] false La1 La = true := by decide +kernel
theorem pa_cost : sx_lp k_costa k_rcost [(2, 0, 0), (0, 80, 0), (0, 81, 0)] [(2, 9, 0), (0, 80, 0), (0, 81, 0)] true La2 La = true := by decide +kernel
theorem pa_goes : sx_lp k_goesa k_rgoes [(2, 0, 0), (0, 80, 0), (0, 81, 0)] [(2, 9, 0), (0, 80, 0), (0, 81, 0)] false La2 La = true := by decide +kernel
theorem pa_drop : sx_lp k_dropa k_rdrop [(2, 0, 0)] [(2, 9, 0)] true La La = true := by decide +kernel
theorem pa_begin : sx_lp k_begina k_rbegin [(2, 0, 0), (0, 80, 0)] [(2, 9, 0), (0, 80, 0)] true La1 La = true := by decide +kernel
theorem pa_letter : sx_lp k_lettera k_rletter [(2, 0, 0), (0, 80, 0)] [(2, 9, 0), (0, 80, 0)] false La1 La = true := by decide +kernel
theorem pa_row : sx_lp k_rowa k_rrow [(2, 0, 0), (0, 80, 0)] [(2, 9, 0), (0, 80, 0)] false La1 La = true := by decide +kernel
theorem pa_ticket : sx_lp k_ticketa k_rticket [(2, 0, 0), (0, 80, 0), (0, 81, 0)] [(2, 9, 0), (0, 80, 0), (0, 81, 0)] false La2 La = true := by decide +kernel
theorem la_rwalk : sx_lc k_rwalk [(2, 9, 0), (0, 80, 0), (0, 81, 0), (0, 82, 0)] La3 La = true := by decide +kernel
theorem pa_least : sx_lp k_leasta k_rleast [(2, 0, 0), (0, 80, 0)] [(2, 9, 0), (0, 80, 0)] false La1 La = true := by decide +kernel
theorem pa_walked : sx_lp k_walkeda k_rwalked [(2, 0, 0), (0, 80, 0)] [(2, 9, 0), (0, 80, 0)] false La1 La = true := by decide +kernel
theorem pb_feed : sx_lp k_feedb k_rfeed [(2, 0, 0), (0, 86, 0), (0, 87, 0), (0, 88, 0), (0, 89, 0), (0, 90, 0)] [(2, 9, 0), (0, 86, 0), (0, 87, 0), (0, 88, 0), (0, 89, 0), (0, 90, 0)] true Lb5 Lb = true := by decide +kernel
theorem pb_house : sx_lp k_houseb k_rhouse2 [(2, 0, 0)] [(2, 9, 0)] false Lb Lb = true := by decide +kernel
theorem pb_has : sx_lp k_hasb k_rhas [(2, 0, 0), (0, 86, 0)] [(2, 9, 0), (0, 86, 0)] false Lb1 Lb = true := by decide +kernel
theorem pb_cost : sx_lp k_costb k_rcost [(2, 0, 0), (0, 86, 0), (0, 87, 0)] [(2, 9, 0), (0, 86, 0), (0, 87, 0)] true Lb2 Lb = true := by decide +kernel
theorem pb_goes : sx_lp k_goesb k_rgoes [(2, 0, 0), (0, 86, 0), (0, 87, 0)] [(2, 9, 0), (0, 86, 0), (0, 87, 0)] false Lb2 Lb = true := by decide +kernel
theorem pb_drop : sx_lp k_dropb k_rdrop [(2, 0, 0)] [(2, 9, 0)] true Lb Lb = true := by decide +kernel
theorem pb_begin : sx_lp k_beginb k_rbegin [(2, 0, 0), (0, 86, 0)] [(2, 9, 0), (0, 86, 0)] true Lb1 Lb = true := by decide +kernel
theorem pb_letter : sx_lp k_letterb k_rletter [(2, 0, 0), (0, 86, 0)] [(2, 9, 0), (0, 86, 0)] false Lb1 Lb = true := by decide +kernel
theorem pb_row : sx_lp k_rowb k_rrow [(2, 0, 0), (0, 86, 0)] [(2, 9, 0), (0, 86, 0)] false Lb1 Lb = true := by decide +kernel
theorem pb_ticket : sx_lp k_ticketb k_rticket [(2, 0, 0), (0, 86, 0), (0, 87, 0)] [(2, 9, 0), (0, 86, 0), (0, 87, 0)] false Lb2 Lb = true := by decide +kernel
theorem lb_rwalk : sx_lc k_rwalk [(2, 9, 0), (0, 86, 0), (0, 87, 0), (0, 88, 0)] Lb3 Lb = true := by decide +kernel
theorem lb_walkb : sx_lc k_walkb [(2, 0, 0), (0, 86, 0), (0, 87, 0), (0, 88, 0)] Lb3 Lb = true := by decide +kernel
theorem pb_least : sx_lp k_leastb k_rleast [(2, 0, 0), (0, 86, 0)] [(2, 9, 0), (0, 86, 0)] false Lb1 Lb = true := by decide +kernel
theorem pb_walked : sx_lp k_walkedb k_rwalked [(2, 0, 0), (0, 86, 0)] [(2, 9, 0), (0, 86, 0)] false Lb1 Lb = true := by decide +kernel
theorem lb_mendb : sx_lc k_mendb [(2, 0, 0), (0, 86, 0), (0, 87, 0)] Lb2 Lb = true := by decide +kernel
