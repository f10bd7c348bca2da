theorem ck_rmb_1 : sx_ck1 T_rma miX5_mend (mxi_t miX5_mend) M_rmb 4000 s_rmb_1 = true := by decide +kernel
