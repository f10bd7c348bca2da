theorem ck_rmb_4 : sx_ck1 T_rma miX5_mend (mxi_t miX5_mend) M_rmb 4000 s_rmb_4 = true := by decide +kernel
